def S_X4_add (p1 : Int32) (t_length : Int32) (t_letters : Nat → Int32) : Option (Int32 × (Nat → Int32)) := if (200 : Int32) ≤ t_length then some (t_length, t_letters) else ck (inb t_length 200) (some (t_length + (1 : Int32), upd t_letters t_length.toNatClampNeg (vp_nar .char p1)))
theorem kd_X4_add : yX4_add.cls = RX4 ∧ yX4_add.cls ≠ "java/lang/invoke/MethodHandle" ∧ yX4_add.cls ≠ "java/lang/invoke/VarHandle" ∧ (parseMethodDescriptor yX4_add.desc).map (fun d => d.parameters.length) = some 1 := by decide +kernel
set_option maxHeartbeats 4000000 in
set_option maxRecDepth 100000 in
theorem c_X4_add {l : Launch} {G : kG} (sz : Nat) {p1 : Int32} {q_t : Nat} {q_t_letters : Nat} {t_length : Int32} {q_t_draft : Nat} {t_rowsEnded : Int32} {t_rowLength : Int32} {t_rowSum : Int32} {t_letters : Nat → Int32} {res : Int32 × (Nat → Int32)} (hE : S_X4_add p1 t_length t_letters = some res) : Met l yX4_add wsX4_add ({ frames := 0, cells := 0, slots := 0, locals := 0 }) (va_Pc [.ref q_t, .int p1] (fun U => U.heap.size = sz ∧ va_P G.1 vwCl [oX4 q_t q_t_letters t_length q_t_draft t_rowsEnded t_rowLength t_rowSum, aI (G.2 0) q_t_letters 200 t_letters] U.heap ∧ kw G U ∧ va_D (fun _ => True) [oX4 q_t q_t_letters t_length q_t_draft t_rowsEnded t_rowLength t_rowSum, aI (G.2 0) q_t_letters 200 t_letters])) (va_Qv (fun (_ : Unit) => True) (fun _ t => va_P G.1 vwCl [oX4 q_t q_t_letters res.1 q_t_draft t_rowsEnded t_rowLength t_rowSum, aI (G.2 0) q_t_letters 200 res.2] t.heap ∧ va_D (va_A [oX4 q_t q_t_letters t_length q_t_draft t_rowsEnded t_rowLength t_rowSum, aI (G.2 0) q_t_letters 200 t_letters] sz) [oX4 q_t q_t_letters res.1 q_t_draft t_rowsEnded t_rowLength t_rowSum, aI (G.2 0) q_t_letters 200 res.2]) (va_A [oX4 q_t q_t_letters t_length q_t_draft t_rowsEnded t_rowLength t_rowSum, aI (G.2 0) q_t_letters 200 t_letters] sz)) 0 0 (va_A [oX4 q_t q_t_letters t_length q_t_draft t_rowsEnded t_rowLength t_rowSum, aI (G.2 0) q_t_letters 200 t_letters] sz) := by
  refine Met.ofQ (cc := cX4_add) (maxL := 2) (ret := none) (by decide) rfl ?_
  intro p e s m args below meth c s₁ Q hQ B hml hv
  obtain ⟨rfl, hsz, hP, hKW, hD0⟩ := hv
  have hK := hKW.1
  have hx := B.exec
  have hb := B.bytes
  have hr := B.returns
  have hts := atoms_spec (ws := wsX4_add) B.pre
  have hown : s.vm.findClass RX4 = some m.cls := findClass_of_methodNamed B.named
  have hlocks := B.notSynchronized
  have iX4 : ∀ w ∈ u_ws RX4 TX4 6, w ∈ wsX4_add := by decide +kernel
  have fl_22 := hts (.fieldLink RX4 22 "AlternateSigns$Text" "length" "I") (by decide +kernel)
  have fl_9 := hts (.fieldLink RX4 9 "AlternateSigns$Text" "letters" "[C") (by decide +kernel)
  subst hsz
  have hD := hD0.self (sz := s.heap.size)
  generalize hAe : va_A [oX4 q_t q_t_letters t_length q_t_draft t_rowsEnded t_rowLength t_rowSum, aI (G.2 0) q_t_letters 200 t_letters] s.heap.size = A at hD hQ
  have hA : ∀ q : Nat, s.heap.size ≤ q → A q := fun q h => by rw [← hAe]; exact Or.inr h
  have hS : va_S A s.heap s.heap [] := va_S.rf
  have hl := lv_entry ([.ref q_t, .int p1]) (n := 2) (Nat.le_of_ble_eq_true rfl)
  rw [lg_entry_eq]
  generalize (lg_sl ([.ref q_t, .int p1]) ++ List.replicate (2 - (lg_sl ([.ref q_t, .int p1])).length) Slot.unset).toArray = ls at hl ⊢
  have hl : lv_has ls 2 [(0, .ref q_t), (1, .int p1)] := hl
  unfold S_X4_add at hE
  refine lv_aload_n hx hb dX4_add_0 rfl (lv_at hl 0 rfl) ?_
  refine va_get (D := G.1) (ci := 4) (v := .int t_length) (C := RX4) (T := TX4) (N := 6) hx hb hts iX4 hown hK hP 0 rfl rfl 1 (by decide) fl_22 (fun _ h9 => h9) rfl dX4_add_1 ?_
  refine lv_sipush (v := 200) hx hb dX4_add_4 (by decide) ?_
  refine lv_icmp_ge (tgt := 30) hx hb dX4_add_7 (by decide) (fun c_7 => ?_) (fun c_7 => ?_)
  · replace hE := (if_pos c_7).symm.trans hE
    have e_0 := Option.some.inj hE
    subst e_0
    rw [hQ]
    exact W.vret hx hb hr (fun t ht _ => ⟨⟨(), rfl, trivial, by rw [ht]; exact hP, hD⟩, hS.F ht⟩) hS.2.2 dX4_add_30
  · replace hE := (if_neg c_7).symm.trans hE
    refine lv_aload_n hx hb dX4_add_10 rfl (lv_at hl 0 rfl) ?_
    refine va_get (D := G.1) (ci := 4) (v := .ref q_t_letters) (C := RX4) (T := TX4) (N := 6) hx hb hts iX4 hown hK hP 0 rfl rfl 0 (by decide) fl_9 (fun _ h9 => h9) rfl dX4_add_11 ?_
    refine lv_aload_n hx hb dX4_add_14 rfl (lv_at hl 0 rfl) ?_
    refine va_get (D := G.1) (ci := 4) (v := .int t_length) (C := RX4) (T := TX4) (N := 6) hx hb hts iX4 hown hK hP 0 rfl rfl 1 (by decide) fl_22 (fun _ h9 => h9) rfl dX4_add_15 ?_
    refine lv_iload_n hx hb dX4_add_18 rfl (lv_at hl 1 rfl) ?_
    obtain ⟨hi_19, hE⟩ := ck_some hE
    refine va_cast hx hb hK hP hD hS 1 0 rfl rfl (inb_in hi_19) dX4_add_19 (fun H locs hP hD hS => ?_)
    have hP : va_P G.1 vwCl [oX4 q_t q_t_letters t_length q_t_draft t_rowsEnded t_rowLength t_rowSum, aI (G.2 0) q_t_letters 200 (upd t_letters t_length.toNatClampNeg (vp_nar .char p1))] H := hP
    have hD : va_D A [oX4 q_t q_t_letters t_length q_t_draft t_rowsEnded t_rowLength t_rowSum, aI (G.2 0) q_t_letters 200 (upd t_letters t_length.toNatClampNeg (vp_nar .char p1))] := hD
    refine lv_aload_n hx hb dX4_add_20 rfl (lv_at hl 0 rfl) ?_
    refine lv_dup hx hb dX4_add_21 rfl ?_
    refine va_get (D := G.1) (ci := 4) (v := .int t_length) (C := RX4) (T := TX4) (N := 6) hx hb hts iX4 hown hK hP 0 rfl rfl 1 (by decide) fl_22 (fun _ h9 => h9) rfl dX4_add_22 ?_
    refine lv_iconst (v := 1) hx hb dX4_add_25 (by decide) ?_
    refine lv_iadd hx hb dX4_add_26 ?_
    refine va_put (D := G.1) (ci := 4) (v := .int (t_length + (1 : Int32))) (ty := .int) (C := RX4) (T := TX4) (N := 6) hx hb hts iX4 tyX4 tyX4_ok nmX4 hown hK hP hD hS 0 rfl rfl 1 (by decide) fl_22 (fun _ h9 => h9) rfl (by decide +kernel) rfl rfl (Nat.le_of_ble_eq_true rfl) dX4_add_27 (fun H locs hP hD hS => ?_)
    have hP : va_P G.1 vwCl [oX4 q_t q_t_letters (t_length + (1 : Int32)) q_t_draft t_rowsEnded t_rowLength t_rowSum, aI (G.2 0) q_t_letters 200 (upd t_letters t_length.toNatClampNeg (vp_nar .char p1))] H := hP
    have hD : va_D A [oX4 q_t q_t_letters (t_length + (1 : Int32)) q_t_draft t_rowsEnded t_rowLength t_rowSum, aI (G.2 0) q_t_letters 200 (upd t_letters t_length.toNatClampNeg (vp_nar .char p1))] := hD
    have e_0 := Option.some.inj hE
    subst e_0
    rw [hQ]
    exact W.vret hx hb hr (fun t ht _ => ⟨⟨(), rfl, trivial, by rw [ht]; exact hP, hD⟩, hS.F ht⟩) hS.2.2 dX4_add_30
def S_X4_startRow : Option (Int32 × Int32) := some ((0 : Int32), (0 : Int32))
theorem kd_X4_startRow : yX4_startRow.cls = RX4 ∧ yX4_startRow.cls ≠ "java/lang/invoke/MethodHandle" ∧ yX4_startRow.cls ≠ "java/lang/invoke/VarHandle" ∧ (parseMethodDescriptor yX4_startRow.desc).map (fun d => d.parameters.length) = some 0 := by decide +kernel
set_option maxHeartbeats 4000000 in
set_option maxRecDepth 100000 in
theorem c_X4_startRow {l : Launch} {G : kG} (sz : Nat) {q_t : Nat} {q_t_letters : Nat} {t_length : Int32} {q_t_draft : Nat} {t_rowsEnded : Int32} {t_rowLength : Int32} {t_rowSum : Int32} {res : Int32 × Int32} (hE : S_X4_startRow = some res) : Met l yX4_startRow wsX4_startRow ({ frames := 0, cells := 0, slots := 0, locals := 0 }) (va_Pc [.ref q_t] (fun U => U.heap.size = sz ∧ va_P G.1 vwCl [oX4 q_t q_t_letters t_length q_t_draft t_rowsEnded t_rowLength t_rowSum] U.heap ∧ kw G U ∧ va_D (fun _ => True) [oX4 q_t q_t_letters t_length q_t_draft t_rowsEnded t_rowLength t_rowSum])) (va_Qv (fun (_ : Unit) => True) (fun _ t => va_P G.1 vwCl [oX4 q_t q_t_letters t_length q_t_draft t_rowsEnded res.1 res.2] t.heap ∧ va_D (va_A [oX4 q_t q_t_letters t_length q_t_draft t_rowsEnded t_rowLength t_rowSum] sz) [oX4 q_t q_t_letters t_length q_t_draft t_rowsEnded res.1 res.2]) (va_A [oX4 q_t q_t_letters t_length q_t_draft t_rowsEnded t_rowLength t_rowSum] sz)) 0 0 (va_A [oX4 q_t q_t_letters t_length q_t_draft t_rowsEnded t_rowLength t_rowSum] sz) := by
  refine Met.ofQ (cc := cX4_startRow) (maxL := 1) (ret := none) (by decide) rfl ?_
  intro p e s m args below meth c s₁ Q hQ B hml hv
  obtain ⟨rfl, hsz, hP, hKW, hD0⟩ := hv
  have hK := hKW.1
  have hx := B.exec
  have hb := B.bytes
  have hr := B.returns
  have hts := atoms_spec (ws := wsX4_startRow) B.pre
  have hown : s.vm.findClass RX4 = some m.cls := findClass_of_methodNamed B.named
  have hlocks := B.notSynchronized
  have iX4 : ∀ w ∈ u_ws RX4 TX4 6, w ∈ wsX4_startRow := by decide +kernel
  have fl_43 := hts (.fieldLink RX4 43 "AlternateSigns$Text" "rowLength" "I") (by decide +kernel)
  have fl_46 := hts (.fieldLink RX4 46 "AlternateSigns$Text" "rowSum" "I") (by decide +kernel)
  subst hsz
  have hD := hD0.self (sz := s.heap.size)
  generalize hAe : va_A [oX4 q_t q_t_letters t_length q_t_draft t_rowsEnded t_rowLength t_rowSum] s.heap.size = A at hD hQ
  have hA : ∀ q : Nat, s.heap.size ≤ q → A q := fun q h => by rw [← hAe]; exact Or.inr h
  have hS : va_S A s.heap s.heap [] := va_S.rf
  have hl := lv_entry ([.ref q_t]) (n := 1) (Nat.le_of_ble_eq_true rfl)
  rw [lg_entry_eq]
  generalize (lg_sl ([.ref q_t]) ++ List.replicate (1 - (lg_sl ([.ref q_t])).length) Slot.unset).toArray = ls at hl ⊢
  have hl : lv_has ls 1 [(0, .ref q_t)] := hl
  unfold S_X4_startRow at hE
  refine lv_aload_n hx hb dX4_startRow_0 rfl (lv_at hl 0 rfl) ?_
  refine lv_iconst (v := 0) hx hb dX4_startRow_1 (by decide) ?_
  refine va_put (D := G.1) (ci := 4) (v := .int (0 : Int32)) (ty := .int) (C := RX4) (T := TX4) (N := 6) hx hb hts iX4 tyX4 tyX4_ok nmX4 hown hK hP hD hS 0 rfl rfl 4 (by decide) fl_43 (fun _ h9 => h9) rfl (by decide +kernel) rfl rfl (Nat.le_of_ble_eq_true rfl) dX4_startRow_2 (fun H locs hP hD hS => ?_)
  have hP : va_P G.1 vwCl [oX4 q_t q_t_letters t_length q_t_draft t_rowsEnded (0 : Int32) t_rowSum] H := hP
  have hD : va_D A [oX4 q_t q_t_letters t_length q_t_draft t_rowsEnded (0 : Int32) t_rowSum] := hD
  refine lv_aload_n hx hb dX4_startRow_5 rfl (lv_at hl 0 rfl) ?_
  refine lv_iconst (v := 0) hx hb dX4_startRow_6 (by decide) ?_
  refine va_put (D := G.1) (ci := 4) (v := .int (0 : Int32)) (ty := .int) (C := RX4) (T := TX4) (N := 6) hx hb hts iX4 tyX4 tyX4_ok nmX4 hown hK hP hD hS 0 rfl rfl 5 (by decide) fl_46 (fun _ h9 => h9) rfl (by decide +kernel) rfl rfl (Nat.le_of_ble_eq_true rfl) dX4_startRow_7 (fun H locs hP hD hS => ?_)
  have hP : va_P G.1 vwCl [oX4 q_t q_t_letters t_length q_t_draft t_rowsEnded (0 : Int32) (0 : Int32)] H := hP
  have hD : va_D A [oX4 q_t q_t_letters t_length q_t_draft t_rowsEnded (0 : Int32) (0 : Int32)] := hD
  have e_0 := Option.some.inj hE
  subst e_0
  rw [hQ]
  exact W.vret hx hb hr (fun t ht _ => ⟨⟨(), rfl, trivial, by rw [ht]; exact hP, hD⟩, hS.F ht⟩) hS.2.2 dX4_startRow_10
def S_X4_isWhole (t_rowsEnded : Int32) (t_draft_size : Int32) : Option Int32 := if t_draft_size ≤ 0 then some (0 : Int32) else if t_rowsEnded = t_draft_size then some (1 : Int32) else some (0 : Int32)
theorem kd_X4_isWhole : yX4_isWhole.cls = RX4 ∧ yX4_isWhole.cls ≠ "java/lang/invoke/MethodHandle" ∧ yX4_isWhole.cls ≠ "java/lang/invoke/VarHandle" ∧ (parseMethodDescriptor yX4_isWhole.desc).map (fun d => d.parameters.length) = some 0 := by decide +kernel
set_option maxHeartbeats 4000000 in
set_option maxRecDepth 100000 in
theorem c_X4_isWhole {l : Launch} {G : kG} {q_t : Nat} {q_t_letters : Nat} {t_length : Int32} {q_t_draft : Nat} {t_rowsEnded : Int32} {t_rowLength : Int32} {t_rowSum : Int32} {t_draft_size : Int32} {q_t_draft_corners : Nat} {res : Int32} (hE : S_X4_isWhole t_rowsEnded t_draft_size = some res) : Met l yX4_isWhole wsX4_isWhole ({ frames := 0, cells := 0, slots := 0, locals := 0 }) (va_Pc [.ref q_t] (fun U => va_P G.1 vwCl [oX4 q_t q_t_letters t_length q_t_draft t_rowsEnded t_rowLength t_rowSum, oX3 q_t_draft t_draft_size q_t_draft_corners] U.heap ∧ kw G U)) (vp_Si (fun r => r = res)) 0 0 (fun _ => False) := by
  refine Met.ofQ (cc := cX4_isWhole) (maxL := 1) (ret := (some .boolean)) (by decide) rfl ?_
  intro p e s m args below meth c s₁ Q hQ B hml hv
  obtain ⟨rfl, hP, hKW⟩ := hv
  have hK := hKW.1
  have hx := B.exec
  have hb := B.bytes
  have hr := B.returns
  have hts := atoms_spec (ws := wsX4_isWhole) B.pre
  have hown : s.vm.findClass RX4 = some m.cls := findClass_of_methodNamed B.named
  have hlocks := B.notSynchronized
  have iX3 : ∀ w ∈ u_ws RX3 TX3 2, w ∈ wsX4_isWhole := by decide +kernel
  have iX4 : ∀ w ∈ u_ws RX4 TX4 6, w ∈ wsX4_isWhole := by decide +kernel
  have fl_18 := hts (.fieldLink RX4 18 "AlternateSigns$Text" "draft" "LAlternateSigns$Table;") (by decide +kernel)
  have fl_26 := hts (.fieldLink RX4 26 "AlternateSigns$Table" "size" "I") (by decide +kernel)
  have fl_29 := hts (.fieldLink RX4 29 "AlternateSigns$Text" "rowsEnded" "I") (by decide +kernel)
  have hl := lv_entry ([.ref q_t]) (n := 1) (Nat.le_of_ble_eq_true rfl)
  rw [lg_entry_eq]
  generalize (lg_sl ([.ref q_t]) ++ List.replicate (1 - (lg_sl ([.ref q_t])).length) Slot.unset).toArray = ls at hl ⊢
  have hl : lv_has ls 1 [(0, .ref q_t)] := hl
  unfold S_X4_isWhole at hE
  refine lv_aload_n hx hb dX4_isWhole_0 rfl (lv_at hl 0 rfl) ?_
  refine va_get (D := G.1) (ci := 4) (v := .ref q_t_draft) (C := RX4) (T := TX4) (N := 6) hx hb hts iX4 hown hK hP 0 rfl rfl 2 (by decide) fl_18 (fun _ h9 => h9) rfl dX4_isWhole_1 ?_
  refine va_get (D := G.1) (ci := 3) (v := .int t_draft_size) (C := RX3) (T := TX3) (N := 2) hx hb hts iX3 hown hK hP 1 rfl rfl 0 (by decide) fl_26 (fun _ h9 => h9) rfl dX4_isWhole_4 ?_
  refine lv_if_le (tgt := 28) hx hb dX4_isWhole_7 (by decide) (fun c_7 => ?_) (fun c_7 => ?_)
  · replace hE := (if_pos c_7).symm.trans hE
    refine lv_iconst (v := 0) hx hb dX4_isWhole_28 (by decide) ?_
    have e_0 := Option.some.inj hE
    rw [hQ]
    exact W.zret (v := (0 : Int32)) hx hb hr rfl (fun t ht _ => ⟨_, rfl, e_0, ht⟩) (fun q h => by cases h) dX4_isWhole_29
  · replace hE := (if_neg c_7).symm.trans hE
    refine lv_aload_n hx hb dX4_isWhole_10 rfl (lv_at hl 0 rfl) ?_
    refine va_get (D := G.1) (ci := 4) (v := .int t_rowsEnded) (C := RX4) (T := TX4) (N := 6) hx hb hts iX4 hown hK hP 0 rfl rfl 3 (by decide) fl_29 (fun _ h9 => h9) rfl dX4_isWhole_11 ?_
    refine lv_aload_n hx hb dX4_isWhole_14 rfl (lv_at hl 0 rfl) ?_
    refine va_get (D := G.1) (ci := 4) (v := .ref q_t_draft) (C := RX4) (T := TX4) (N := 6) hx hb hts iX4 hown hK hP 0 rfl rfl 2 (by decide) fl_18 (fun _ h9 => h9) rfl dX4_isWhole_15 ?_
    refine va_get (D := G.1) (ci := 3) (v := .int t_draft_size) (C := RX3) (T := TX3) (N := 2) hx hb hts iX3 hown hK hP 1 rfl rfl 0 (by decide) fl_26 (fun _ h9 => h9) rfl dX4_isWhole_18 ?_
    refine lv_icmp_ne (tgt := 28) hx hb dX4_isWhole_21 (by decide) (fun c_21 => ?_) (fun c_21 => ?_)
    · replace hE := (if_neg c_21).symm.trans hE
      refine lv_iconst (v := 0) hx hb dX4_isWhole_28 (by decide) ?_
      have e_0 := Option.some.inj hE
      rw [hQ]
      exact W.zret (v := (0 : Int32)) hx hb hr rfl (fun t ht _ => ⟨_, rfl, e_0, ht⟩) (fun q h => by cases h) dX4_isWhole_29
    · replace hE := (if_pos c_21).symm.trans hE
      refine lv_iconst (v := 1) hx hb dX4_isWhole_24 (by decide) ?_
      refine lv_goto (tgt := 29) hx hb dX4_isWhole_25 (by decide) ?_
      have e_0 := Option.some.inj hE
      rw [hQ]
      exact W.zret (v := (1 : Int32)) hx hb hr rfl (fun t ht _ => ⟨_, rfl, e_0, ht⟩) (fun q h => by cases h) dX4_isWhole_29
def S_X4_canEndRow (t_rowsEnded : Int32) (t_rowLength : Int32) (t_rowSum : Int32) (t_draft_size : Int32) : Option (Int32 × Int32 × Int32 × Int32 × Int32) := if t_rowLength = 0 then some ((0 : Int32), t_rowsEnded, t_rowLength, t_rowSum, t_draft_size) else if t_rowLength < t_draft_size then some ((0 : Int32), t_rowsEnded, t_rowLength, t_rowSum, t_draft_size) else if t_rowSum = (1 : Int32) then (S_X4_startRow).bind (fun (y53 : Int32 × Int32) => some ((1 : Int32), t_rowsEnded + (1 : Int32), y53.1, y53.2, t_rowLength)) else some ((0 : Int32), t_rowsEnded, t_rowLength, t_rowSum, t_draft_size)
theorem kd_X4_canEndRow : yX4_canEndRow.cls = RX4 ∧ yX4_canEndRow.cls ≠ "java/lang/invoke/MethodHandle" ∧ yX4_canEndRow.cls ≠ "java/lang/invoke/VarHandle" ∧ (parseMethodDescriptor yX4_canEndRow.desc).map (fun d => d.parameters.length) = some 0 := by decide +kernel
set_option maxHeartbeats 4000000 in
set_option maxRecDepth 100000 in
theorem c_X4_canEndRow {l : Launch} {G : kG} (sz : Nat) {q_t : Nat} {q_t_letters : Nat} {t_length : Int32} {q_t_draft : Nat} {t_rowsEnded : Int32} {t_rowLength : Int32} {t_rowSum : Int32} {t_draft_size : Int32} {q_t_draft_corners : Nat} {res : Int32 × Int32 × Int32 × Int32 × Int32} (hE : S_X4_canEndRow t_rowsEnded t_rowLength t_rowSum t_draft_size = some res) : Met l yX4_canEndRow wsX4_canEndRow ({ frames := 1, cells := 0, slots := 0, locals := 20 }) (va_Pc [.ref q_t] (fun U => U.heap.size = sz ∧ va_P G.1 vwCl [oX4 q_t q_t_letters t_length q_t_draft t_rowsEnded t_rowLength t_rowSum, oX3 q_t_draft t_draft_size q_t_draft_corners] U.heap ∧ kw G U ∧ va_D (fun _ => True) [oX4 q_t q_t_letters t_length q_t_draft t_rowsEnded t_rowLength t_rowSum, oX3 q_t_draft t_draft_size q_t_draft_corners])) (va_Qi (fun r (_ : Unit) => r = res.1) (fun _ t => va_P G.1 vwCl [oX4 q_t q_t_letters t_length q_t_draft res.2.1 res.2.2.1 res.2.2.2.1, oX3 q_t_draft res.2.2.2.2 q_t_draft_corners] t.heap ∧ va_D (va_A [oX4 q_t q_t_letters t_length q_t_draft t_rowsEnded t_rowLength t_rowSum, oX3 q_t_draft t_draft_size q_t_draft_corners] sz) [oX4 q_t q_t_letters t_length q_t_draft res.2.1 res.2.2.1 res.2.2.2.1, oX3 q_t_draft res.2.2.2.2 q_t_draft_corners]) (va_A [oX4 q_t q_t_letters t_length q_t_draft t_rowsEnded t_rowLength t_rowSum, oX3 q_t_draft t_draft_size q_t_draft_corners] sz)) 0 0 (va_A [oX4 q_t q_t_letters t_length q_t_draft t_rowsEnded t_rowLength t_rowSum, oX3 q_t_draft t_draft_size q_t_draft_corners] sz) := by
  refine Met.ofQ (cc := cX4_canEndRow) (maxL := 1) (ret := (some .boolean)) (by decide) rfl ?_
  intro p e s m args below meth c s₁ Q hQ B hml hv
  obtain ⟨rfl, hsz, hP, hKW, hD0⟩ := hv
  have hK := hKW.1
  have hx := B.exec
  have hb := B.bytes
  have hr := B.returns
  have hts := atoms_spec (ws := wsX4_canEndRow) B.pre
  have hown : s.vm.findClass RX4 = some m.cls := findClass_of_methodNamed B.named
  have hlocks := B.notSynchronized
  have iX3 : ∀ w ∈ u_ws RX3 TX3 2, w ∈ wsX4_canEndRow := by decide +kernel
  have iX4 : ∀ w ∈ u_ws RX4 TX4 6, w ∈ wsX4_canEndRow := by decide +kernel
  have fl_43 := hts (.fieldLink RX4 43 "AlternateSigns$Text" "rowLength" "I") (by decide +kernel)
  have fl_18 := hts (.fieldLink RX4 18 "AlternateSigns$Text" "draft" "LAlternateSigns$Table;") (by decide +kernel)
  have fl_26 := hts (.fieldLink RX4 26 "AlternateSigns$Table" "size" "I") (by decide +kernel)
  have fl_46 := hts (.fieldLink RX4 46 "AlternateSigns$Text" "rowSum" "I") (by decide +kernel)
  have fl_29 := hts (.fieldLink RX4 29 "AlternateSigns$Text" "rowsEnded" "I") (by decide +kernel)
  subst hsz
  have hD := hD0.self (sz := s.heap.size)
  generalize hAe : va_A [oX4 q_t q_t_letters t_length q_t_draft t_rowsEnded t_rowLength t_rowSum, oX3 q_t_draft t_draft_size q_t_draft_corners] s.heap.size = A at hD hQ
  have hA : ∀ q : Nat, s.heap.size ≤ q → A q := fun q h => by rw [← hAe]; exact Or.inr h
  have hS : va_S A s.heap s.heap [] := va_S.rf
  have hl := lv_entry ([.ref q_t]) (n := 1) (Nat.le_of_ble_eq_true rfl)
  rw [lg_entry_eq]
  generalize (lg_sl ([.ref q_t]) ++ List.replicate (1 - (lg_sl ([.ref q_t])).length) Slot.unset).toArray = ls at hl ⊢
  have hl : lv_has ls 1 [(0, .ref q_t)] := hl
  unfold S_X4_canEndRow at hE
  refine lv_aload_n hx hb dX4_canEndRow_0 rfl (lv_at hl 0 rfl) ?_
  refine va_get (D := G.1) (ci := 4) (v := .int t_rowLength) (C := RX4) (T := TX4) (N := 6) hx hb hts iX4 hown hK hP 0 rfl rfl 4 (by decide) fl_43 (fun _ h9 => h9) rfl dX4_canEndRow_1 ?_
  refine lv_if_eq (tgt := 29) hx hb dX4_canEndRow_4 (by decide) (fun c_4 => ?_) (fun c_4 => ?_)
  · replace hE := (if_pos c_4).symm.trans hE
    refine lv_iconst (v := 0) hx hb dX4_canEndRow_29 (by decide) ?_
    have e_0 := Option.some.inj hE
    subst e_0
    rw [hQ]
    exact W.zret (v := (0 : Int32)) hx hb hr rfl (fun t ht _ => ⟨⟨_, (), rfl, rfl, by rw [ht]; exact hP, hD⟩, hS.F ht⟩) hS.2.2 dX4_canEndRow_30
  · replace hE := (if_neg c_4).symm.trans hE
    refine lv_aload_n hx hb dX4_canEndRow_7 rfl (lv_at hl 0 rfl) ?_
    refine va_get (D := G.1) (ci := 4) (v := .int t_rowLength) (C := RX4) (T := TX4) (N := 6) hx hb hts iX4 hown hK hP 0 rfl rfl 4 (by decide) fl_43 (fun _ h9 => h9) rfl dX4_canEndRow_8 ?_
    refine lv_aload_n hx hb dX4_canEndRow_11 rfl (lv_at hl 0 rfl) ?_
    refine va_get (D := G.1) (ci := 4) (v := .ref q_t_draft) (C := RX4) (T := TX4) (N := 6) hx hb hts iX4 hown hK hP 0 rfl rfl 2 (by decide) fl_18 (fun _ h9 => h9) rfl dX4_canEndRow_12 ?_
    refine va_get (D := G.1) (ci := 3) (v := .int t_draft_size) (C := RX3) (T := TX3) (N := 2) hx hb hts iX3 hown hK hP 1 rfl rfl 0 (by decide) fl_26 (fun _ h9 => h9) rfl dX4_canEndRow_15 ?_
    refine lv_icmp_lt (tgt := 29) hx hb dX4_canEndRow_18 (by decide) (fun c_18 => ?_) (fun c_18 => ?_)
    · replace hE := (if_pos c_18).symm.trans hE
      refine lv_iconst (v := 0) hx hb dX4_canEndRow_29 (by decide) ?_
      have e_0 := Option.some.inj hE
      subst e_0
      rw [hQ]
      exact W.zret (v := (0 : Int32)) hx hb hr rfl (fun t ht _ => ⟨⟨_, (), rfl, rfl, by rw [ht]; exact hP, hD⟩, hS.F ht⟩) hS.2.2 dX4_canEndRow_30
    · replace hE := (if_neg c_18).symm.trans hE
      refine lv_aload_n hx hb dX4_canEndRow_21 rfl (lv_at hl 0 rfl) ?_
      refine va_get (D := G.1) (ci := 4) (v := .int t_rowSum) (C := RX4) (T := TX4) (N := 6) hx hb hts iX4 hown hK hP 0 rfl rfl 5 (by decide) fl_46 (fun _ h9 => h9) rfl dX4_canEndRow_22 ?_
      refine lv_iconst (v := 1) hx hb dX4_canEndRow_25 (by decide) ?_
      refine lv_icmp_eq (tgt := 31) hx hb dX4_canEndRow_26 (by decide) (fun c_26 => ?_) (fun c_26 => ?_)
      · replace hE := (if_pos c_26).symm.trans hE
        refine lv_aload_n hx hb dX4_canEndRow_31 rfl (lv_at hl 0 rfl) ?_
        refine va_get (D := G.1) (ci := 4) (v := .ref q_t_draft) (C := RX4) (T := TX4) (N := 6) hx hb hts iX4 hown hK hP 0 rfl rfl 2 (by decide) fl_18 (fun _ h9 => h9) rfl dX4_canEndRow_32 ?_
        refine lv_aload_n hx hb dX4_canEndRow_35 rfl (lv_at hl 0 rfl) ?_
        refine va_get (D := G.1) (ci := 4) (v := .int t_rowLength) (C := RX4) (T := TX4) (N := 6) hx hb hts iX4 hown hK hP 0 rfl rfl 4 (by decide) fl_43 (fun _ h9 => h9) rfl dX4_canEndRow_36 ?_
        refine va_put (D := G.1) (ci := 3) (v := .int t_rowLength) (ty := .int) (C := RX3) (T := TX3) (N := 2) hx hb hts iX3 tyX3 tyX3_ok nmX3 hown hK hP hD hS 1 rfl rfl 0 (by decide) fl_26 (fun _ h9 => h9) rfl (by decide +kernel) rfl rfl (Nat.le_of_ble_eq_true rfl) dX4_canEndRow_39 (fun H locs hP hD hS => ?_)
        have hP : va_P G.1 vwCl [oX4 q_t q_t_letters t_length q_t_draft t_rowsEnded t_rowLength t_rowSum, oX3 q_t_draft t_rowLength q_t_draft_corners] H := hP
        have hD : va_D A [oX4 q_t q_t_letters t_length q_t_draft t_rowsEnded t_rowLength t_rowSum, oX3 q_t_draft t_rowLength q_t_draft_corners] := hD
        refine lv_aload_n hx hb dX4_canEndRow_42 rfl (lv_at hl 0 rfl) ?_
        refine lv_dup hx hb dX4_canEndRow_43 rfl ?_
        refine va_get (D := G.1) (ci := 4) (v := .int t_rowsEnded) (C := RX4) (T := TX4) (N := 6) hx hb hts iX4 hown hK hP 0 rfl rfl 3 (by decide) fl_29 (fun _ h9 => h9) rfl dX4_canEndRow_44 ?_
        refine lv_iconst (v := 1) hx hb dX4_canEndRow_47 (by decide) ?_
        refine lv_iadd hx hb dX4_canEndRow_48 ?_
        refine va_put (D := G.1) (ci := 4) (v := .int (t_rowsEnded + (1 : Int32))) (ty := .int) (C := RX4) (T := TX4) (N := 6) hx hb hts iX4 tyX4 tyX4_ok nmX4 hown hK hP hD hS 0 rfl rfl 3 (by decide) fl_29 (fun _ h9 => h9) rfl (by decide +kernel) rfl rfl (Nat.le_of_ble_eq_true rfl) dX4_canEndRow_49 (fun H locs hP hD hS => ?_)
        have hP : va_P G.1 vwCl [oX4 q_t q_t_letters t_length q_t_draft (t_rowsEnded + (1 : Int32)) t_rowLength t_rowSum, oX3 q_t_draft t_rowLength q_t_draft_corners] H := hP
        have hD : va_D A [oX4 q_t q_t_letters t_length q_t_draft (t_rowsEnded + (1 : Int32)) t_rowLength t_rowSum, oX3 q_t_draft t_rowLength q_t_draft_corners] := hD
        refine lv_aload_n hx hb dX4_canEndRow_52 rfl (lv_at hl 0 rfl) ?_
        obtain ⟨y53, hC_53, hE⟩ := Option.bind_eq_some_iff.mp hE
        obtain ⟨m_53_0, m_53_1⟩ := y53
        try dsimp only at hE
        have hPc := hP.sub (ws' := [oX4 q_t q_t_letters t_length q_t_draft (t_rowsEnded + (1 : Int32)) t_rowLength t_rowSum]) [0] rfl
        have hDc := hD.sub (ws' := [oX4 q_t q_t_letters t_length q_t_draft (t_rowsEnded + (1 : Int32)) t_rowLength t_rowSum]) [0] (by decide) rfl
        have hFc := va_free (wc := [oX4 q_t q_t_letters t_length q_t_draft (t_rowsEnded + (1 : Int32)) t_rowLength t_rowSum]) hD hS hA [0] rfl
        refine va_callv (va_runV (As := []) (rest := []) ⟨hx, hb, hml, hown, hts⟩ (c_X4_startRow (l := l) (G := G) _ (q_t := q_t) (q_t_letters := q_t_letters) (t_length := t_length) (q_t_draft := q_t_draft) (t_rowsEnded := t_rowsEnded + (1 : Int32)) (t_rowLength := t_rowLength) (t_rowSum := t_rowSum) hC_53) (cwV 0 hts gX4_canEndRow_X4_startRow rfl rfl rfl kd_X4_startRow ⟨Nat.le_of_ble_eq_true rfl, Nat.le_of_ble_eq_true rfl⟩) (iv_V hKW hPc hDc (ci := 4) (q0 := 0) rfl rfl) rfl rfl hl.1 rfl (lv_room (Nat.le_of_ble_eq_true rfl)) dX4_canEndRow_53 ⟨Nat.zero_le _, Nat.zero_le _⟩) hS (fun q _ h => hFc q h) hFc (fun u9 t9 H1 locs ht9 hvm9 hw9 hB9 hz9 hk9 hS => ?_)
        obtain ⟨hP1, hD1⟩ := hB9
        rw [ht9] at hP1
        obtain ⟨hP, hD⟩ := va_join (wr := [oX3 q_t_draft t_rowLength q_t_draft_corners]) (w1 := [oX4 q_t q_t_letters t_length q_t_draft (t_rowsEnded + (1 : Int32)) m_53_0 m_53_1]) hP hD [0] [1] rfl rfl (by decide) (by decide) hk9 hFc hP1 hD1
        have hP := hP.sub (ws' := [oX4 q_t q_t_letters t_length q_t_draft (t_rowsEnded + (1 : Int32)) m_53_0 m_53_1, oX3 q_t_draft t_rowLength q_t_draft_corners]) [1, 0] rfl
        have hD := hD.sub (ws' := [oX4 q_t q_t_letters t_length q_t_draft (t_rowsEnded + (1 : Int32)) m_53_0 m_53_1, oX3 q_t_draft t_rowLength q_t_draft_corners]) [1, 0] (by decide) rfl
        clear hPc hDc hFc hP1 hD1 hk9 hz9 hvm9
        refine lv_iconst (v := 1) hx hb dX4_canEndRow_56 (by decide) ?_
        have e_0 := Option.some.inj hE
        subst e_0
        rw [hQ]
        exact W.zret (v := (1 : Int32)) hx hb hr rfl (fun t ht _ => ⟨⟨_, (), rfl, rfl, by rw [ht]; exact hP, hD⟩, hS.F ht⟩) hS.2.2 dX4_canEndRow_57
      · replace hE := (if_neg c_26).symm.trans hE
        refine lv_iconst (v := 0) hx hb dX4_canEndRow_29 (by decide) ?_
        have e_0 := Option.some.inj hE
        subst e_0
        rw [hQ]
        exact W.zret (v := (0 : Int32)) hx hb hr rfl (fun t ht _ => ⟨⟨_, (), rfl, rfl, by rw [ht]; exact hP, hD⟩, hS.F ht⟩) hS.2.2 dX4_canEndRow_30
def S_X4_canPut (p1 : Int32) (t_rowsEnded : Int32) (t_rowLength : Int32) (t_rowSum : Int32) (t_draft_size : Int32) (t_draft_corners : Nat → Int32) : Option (Int32 × Int32 × Int32 × (Nat → Int32)) := jn (if t_draft_size ≤ 0 then some (.inl (6 : Int32)) else some (.inl t_draft_size)) (fun (x1 : Int32) => if t_rowLength < x1 then (S_X3_cornerAt ((t_rowsEnded + (1 : Int32)) - (1 : Int32)) (t_rowLength + (1 : Int32)) t_draft_corners).bind (fun (y80 : Int32) => (S_X3_putCorner (t_rowsEnded + (1 : Int32)) (t_rowLength + (1 : Int32)) (y80 + (t_rowSum + p1)) t_draft_corners).bind (fun (y88 : Nat → Int32) => (S_X5_isBetween (t_rowSum + p1) (0 : Int32) (1 : Int32)).bind (fun (y97 : Int32) => if y97 = 0 then some ((0 : Int32), t_rowLength + (1 : Int32), t_rowSum + p1, y88) else (S_X3_columnSum (t_rowsEnded + (1 : Int32)) (t_rowLength + (1 : Int32)) y88).bind (fun (y112 : Int32) => (S_X5_isBetween y112 (0 : Int32) (1 : Int32)).bind (fun (y117 : Int32) => if y117 = 0 then some ((0 : Int32), t_rowLength + (1 : Int32), t_rowSum + p1, y88) else some ((1 : Int32), t_rowLength + (1 : Int32), t_rowSum + p1, y88)))))) else some ((0 : Int32), t_rowLength, t_rowSum, t_draft_corners))
theorem kd_X4_canPut : yX4_canPut.cls = RX4 ∧ yX4_canPut.cls ≠ "java/lang/invoke/MethodHandle" ∧ yX4_canPut.cls ≠ "java/lang/invoke/VarHandle" ∧ (parseMethodDescriptor yX4_canPut.desc).map (fun d => d.parameters.length) = some 1 := by decide +kernel
set_option maxHeartbeats 4000000 in
set_option maxRecDepth 100000 in
theorem c_X4_canPut {l : Launch} {G : kG} (sz : Nat) {p1 : Int32} {q_t : Nat} {q_t_letters : Nat} {t_length : Int32} {q_t_draft : Nat} {t_rowsEnded : Int32} {t_rowLength : Int32} {t_rowSum : Int32} {t_draft_size : Int32} {q_t_draft_corners : Nat} {t_draft_corners : Nat → Int32} {res : Int32 × Int32 × Int32 × (Nat → Int32)} (hE : S_X4_canPut p1 t_rowsEnded t_rowLength t_rowSum t_draft_size t_draft_corners = some res) : Met l yX4_canPut wsX4_canPut ({ frames := 2, cells := 0, slots := 0, locals := 44 }) (va_Pc [.ref q_t, .int p1] (fun U => U.heap.size = sz ∧ va_P G.1 vwCl [oX4 q_t q_t_letters t_length q_t_draft t_rowsEnded t_rowLength t_rowSum, oX3 q_t_draft t_draft_size q_t_draft_corners, aI (G.2 1) q_t_draft_corners 49 t_draft_corners] U.heap ∧ kw G U ∧ va_D (fun _ => True) [oX4 q_t q_t_letters t_length q_t_draft t_rowsEnded t_rowLength t_rowSum, oX3 q_t_draft t_draft_size q_t_draft_corners, aI (G.2 1) q_t_draft_corners 49 t_draft_corners])) (va_Qi (fun r (_ : Unit) => r = res.1) (fun _ t => va_P G.1 vwCl [oX4 q_t q_t_letters t_length q_t_draft t_rowsEnded res.2.1 res.2.2.1, oX3 q_t_draft t_draft_size q_t_draft_corners, aI (G.2 1) q_t_draft_corners 49 res.2.2.2] t.heap ∧ va_D (va_A [oX4 q_t q_t_letters t_length q_t_draft t_rowsEnded t_rowLength t_rowSum, oX3 q_t_draft t_draft_size q_t_draft_corners, aI (G.2 1) q_t_draft_corners 49 t_draft_corners] sz) [oX4 q_t q_t_letters t_length q_t_draft t_rowsEnded res.2.1 res.2.2.1, oX3 q_t_draft t_draft_size q_t_draft_corners, aI (G.2 1) q_t_draft_corners 49 res.2.2.2]) (va_A [oX4 q_t q_t_letters t_length q_t_draft t_rowsEnded t_rowLength t_rowSum, oX3 q_t_draft t_draft_size q_t_draft_corners, aI (G.2 1) q_t_draft_corners 49 t_draft_corners] sz)) 0 0 (va_A [oX4 q_t q_t_letters t_length q_t_draft t_rowsEnded t_rowLength t_rowSum, oX3 q_t_draft t_draft_size q_t_draft_corners, aI (G.2 1) q_t_draft_corners 49 t_draft_corners] sz) := by
  refine Met.ofQ (cc := cX4_canPut) (maxL := 4) (ret := (some .boolean)) (by decide) rfl ?_
  intro p e s m args below meth c s₁ Q hQ B hml hv
  obtain ⟨rfl, hsz, hP, hKW, hD0⟩ := hv
  have hK := hKW.1
  have hx := B.exec
  have hb := B.bytes
  have hr := B.returns
  have hts := atoms_spec (ws := wsX4_canPut) B.pre
  have hown : s.vm.findClass RX4 = some m.cls := findClass_of_methodNamed B.named
  have hlocks := B.notSynchronized
  have iX3 : ∀ w ∈ u_ws RX3 TX3 2, w ∈ wsX4_canPut := by decide +kernel
  have iX4 : ∀ w ∈ u_ws RX4 TX4 6, w ∈ wsX4_canPut := by decide +kernel
  have fl_18 := hts (.fieldLink RX4 18 "AlternateSigns$Text" "draft" "LAlternateSigns$Table;") (by decide +kernel)
  have fl_26 := hts (.fieldLink RX4 26 "AlternateSigns$Table" "size" "I") (by decide +kernel)
  have fl_43 := hts (.fieldLink RX4 43 "AlternateSigns$Text" "rowLength" "I") (by decide +kernel)
  have fl_46 := hts (.fieldLink RX4 46 "AlternateSigns$Text" "rowSum" "I") (by decide +kernel)
  have fl_29 := hts (.fieldLink RX4 29 "AlternateSigns$Text" "rowsEnded" "I") (by decide +kernel)
  subst hsz
  have hD := hD0.self (sz := s.heap.size)
  generalize hAe : va_A [oX4 q_t q_t_letters t_length q_t_draft t_rowsEnded t_rowLength t_rowSum, oX3 q_t_draft t_draft_size q_t_draft_corners, aI (G.2 1) q_t_draft_corners 49 t_draft_corners] s.heap.size = A at hD hQ
  have hA : ∀ q : Nat, s.heap.size ≤ q → A q := fun q h => by rw [← hAe]; exact Or.inr h
  have hS : va_S A s.heap s.heap [] := va_S.rf
  have hl := lv_entry ([.ref q_t, .int p1]) (n := 4) (Nat.le_of_ble_eq_true rfl)
  rw [lg_entry_eq]
  generalize (lg_sl ([.ref q_t, .int p1]) ++ List.replicate (4 - (lg_sl ([.ref q_t, .int p1])).length) Slot.unset).toArray = ls at hl ⊢
  have hl : lv_has ls 4 [(0, .ref q_t), (1, .int p1)] := hl
  unfold S_X4_canPut at hE
  refine lv_aload_n hx hb dX4_canPut_0 rfl (lv_at hl 0 rfl) ?_
  refine va_get (D := G.1) (ci := 4) (v := .ref q_t_draft) (C := RX4) (T := TX4) (N := 6) hx hb hts iX4 hown hK hP 0 rfl rfl 2 (by decide) fl_18 (fun _ h9 => h9) rfl dX4_canPut_1 ?_
  refine va_get (D := G.1) (ci := 3) (v := .int t_draft_size) (C := RX3) (T := TX3) (N := 2) hx hb hts iX3 hown hK hP 1 rfl rfl 0 (by decide) fl_26 (fun _ h9 => h9) rfl dX4_canPut_4 ?_
  obtain ⟨o_1, hEp, hk9, hr_1⟩ := jn_some hE
  have ih_1 : ∀ (x1 : Int32), o_1 = .inl x1 → ∀ (H : Heap) (locs : List Loc) (ls : Array Slot), va_P G.1 vwCl [oX4 q_t q_t_letters t_length q_t_draft t_rowsEnded t_rowLength t_rowSum, oX3 q_t_draft t_draft_size q_t_draft_corners, aI (G.2 1) q_t_draft_corners 49 t_draft_corners] H → va_D A [oX4 q_t q_t_letters t_length q_t_draft t_rowsEnded t_rowLength t_rowSum, oX3 q_t_draft t_draft_size q_t_draft_corners, aI (G.2 1) q_t_draft_corners 49 t_draft_corners] → va_S A s.heap H locs → lv_has ls 4 [(0, .ref q_t), (1, .int p1)] → W p l e (headSpec wsX4_canPut ({ frames := 2, cells := 0, slots := 0, locals := 44 })).room s m ([.ref q_t, .int p1] : List Value).toArray below meth c H locs 0 0 Q (F0 m 22 ls [.int x1]) := by
    intro x1 ho9
    have hE := hk9 _ ho9
    obtain ⟨k0_1, ex9⟩ : ∃ z, z = x1 := ⟨_, rfl⟩
    subst ex9
    try dsimp only at hE
    intro H locs ls hP hD hS hl
    try dsimp only at hP hD hl ⊢
    refine lv_istore_n (lv' := [(2, .int k0_1), (0, .ref q_t), (1, .int p1)]) hx hb dX4_canPut_22 rfl hl (by decide) rfl (fun ls hl => ?_)
    refine lv_aload_n hx hb dX4_canPut_23 rfl (lv_at hl 1 rfl) ?_
    refine va_get (D := G.1) (ci := 4) (v := .int t_rowLength) (C := RX4) (T := TX4) (N := 6) hx hb hts iX4 hown hK hP 0 rfl rfl 4 (by decide) fl_43 (fun _ h9 => h9) rfl dX4_canPut_24 ?_
    refine lv_iload_n hx hb dX4_canPut_27 rfl (lv_at hl 0 rfl) ?_
    refine lv_icmp_lt (tgt := 33) hx hb dX4_canPut_28 (by decide) (fun c_28 => ?_) (fun c_28 => ?_)
    · replace hE := (if_pos c_28).symm.trans hE
      refine lv_aload_n hx hb dX4_canPut_33 rfl (lv_at hl 1 rfl) ?_
      refine lv_dup hx hb dX4_canPut_34 rfl ?_
      refine va_get (D := G.1) (ci := 4) (v := .int t_rowSum) (C := RX4) (T := TX4) (N := 6) hx hb hts iX4 hown hK hP 0 rfl rfl 5 (by decide) fl_46 (fun _ h9 => h9) rfl dX4_canPut_35 ?_
      refine lv_iload_n hx hb dX4_canPut_38 rfl (lv_at hl 2 rfl) ?_
      refine lv_iadd hx hb dX4_canPut_39 ?_
      refine va_put (D := G.1) (ci := 4) (v := .int (t_rowSum + p1)) (ty := .int) (C := RX4) (T := TX4) (N := 6) hx hb hts iX4 tyX4 tyX4_ok nmX4 hown hK hP hD hS 0 rfl rfl 5 (by decide) fl_46 (fun _ h9 => h9) rfl (by decide +kernel) rfl rfl (Nat.le_of_ble_eq_true rfl) dX4_canPut_40 (fun H locs hP hD hS => ?_)
      have hP : va_P G.1 vwCl [oX4 q_t q_t_letters t_length q_t_draft t_rowsEnded t_rowLength (t_rowSum + p1), oX3 q_t_draft t_draft_size q_t_draft_corners, aI (G.2 1) q_t_draft_corners 49 t_draft_corners] H := hP
      have hD : va_D A [oX4 q_t q_t_letters t_length q_t_draft t_rowsEnded t_rowLength (t_rowSum + p1), oX3 q_t_draft t_draft_size q_t_draft_corners, aI (G.2 1) q_t_draft_corners 49 t_draft_corners] := hD
      refine lv_aload_n hx hb dX4_canPut_43 rfl (lv_at hl 1 rfl) ?_
      refine lv_dup hx hb dX4_canPut_44 rfl ?_
      refine va_get (D := G.1) (ci := 4) (v := .int t_rowLength) (C := RX4) (T := TX4) (N := 6) hx hb hts iX4 hown hK hP 0 rfl rfl 4 (by decide) fl_43 (fun _ h9 => h9) rfl dX4_canPut_45 ?_
      refine lv_iconst (v := 1) hx hb dX4_canPut_48 (by decide) ?_
      refine lv_iadd hx hb dX4_canPut_49 ?_
      refine va_put (D := G.1) (ci := 4) (v := .int (t_rowLength + (1 : Int32))) (ty := .int) (C := RX4) (T := TX4) (N := 6) hx hb hts iX4 tyX4 tyX4_ok nmX4 hown hK hP hD hS 0 rfl rfl 4 (by decide) fl_43 (fun _ h9 => h9) rfl (by decide +kernel) rfl rfl (Nat.le_of_ble_eq_true rfl) dX4_canPut_50 (fun H locs hP hD hS => ?_)
      have hP : va_P G.1 vwCl [oX4 q_t q_t_letters t_length q_t_draft t_rowsEnded (t_rowLength + (1 : Int32)) (t_rowSum + p1), oX3 q_t_draft t_draft_size q_t_draft_corners, aI (G.2 1) q_t_draft_corners 49 t_draft_corners] H := hP
      have hD : va_D A [oX4 q_t q_t_letters t_length q_t_draft t_rowsEnded (t_rowLength + (1 : Int32)) (t_rowSum + p1), oX3 q_t_draft t_draft_size q_t_draft_corners, aI (G.2 1) q_t_draft_corners 49 t_draft_corners] := hD
      refine lv_aload_n hx hb dX4_canPut_53 rfl (lv_at hl 1 rfl) ?_
      refine va_get (D := G.1) (ci := 4) (v := .int t_rowsEnded) (C := RX4) (T := TX4) (N := 6) hx hb hts iX4 hown hK hP 0 rfl rfl 3 (by decide) fl_29 (fun _ h9 => h9) rfl dX4_canPut_54 ?_
      refine lv_iconst (v := 1) hx hb dX4_canPut_57 (by decide) ?_
      refine lv_iadd hx hb dX4_canPut_58 ?_
      refine lv_istore_n (lv' := [(3, .int (t_rowsEnded + (1 : Int32))), (2, .int k0_1), (0, .ref q_t), (1, .int p1)]) hx hb dX4_canPut_59 rfl hl (by decide) rfl (fun ls hl => ?_)
      refine lv_aload_n hx hb dX4_canPut_60 rfl (lv_at hl 2 rfl) ?_
      refine va_get (D := G.1) (ci := 4) (v := .ref q_t_draft) (C := RX4) (T := TX4) (N := 6) hx hb hts iX4 hown hK hP 0 rfl rfl 2 (by decide) fl_18 (fun _ h9 => h9) rfl dX4_canPut_61 ?_
      refine lv_iload_n hx hb dX4_canPut_64 rfl (lv_at hl 0 rfl) ?_
      refine lv_aload_n hx hb dX4_canPut_65 rfl (lv_at hl 2 rfl) ?_
      refine va_get (D := G.1) (ci := 4) (v := .int (t_rowLength + (1 : Int32))) (C := RX4) (T := TX4) (N := 6) hx hb hts iX4 hown hK hP 0 rfl rfl 4 (by decide) fl_43 (fun _ h9 => h9) rfl dX4_canPut_66 ?_
      refine lv_aload_n hx hb dX4_canPut_69 rfl (lv_at hl 2 rfl) ?_
      refine va_get (D := G.1) (ci := 4) (v := .ref q_t_draft) (C := RX4) (T := TX4) (N := 6) hx hb hts iX4 hown hK hP 0 rfl rfl 2 (by decide) fl_18 (fun _ h9 => h9) rfl dX4_canPut_70 ?_
      refine lv_iload_n hx hb dX4_canPut_73 rfl (lv_at hl 0 rfl) ?_
      refine lv_iconst (v := 1) hx hb dX4_canPut_74 (by decide) ?_
      refine lv_isub hx hb dX4_canPut_75 ?_
      refine lv_aload_n hx hb dX4_canPut_76 rfl (lv_at hl 2 rfl) ?_
      refine va_get (D := G.1) (ci := 4) (v := .int (t_rowLength + (1 : Int32))) (C := RX4) (T := TX4) (N := 6) hx hb hts iX4 hown hK hP 0 rfl rfl 4 (by decide) fl_43 (fun _ h9 => h9) rfl dX4_canPut_77 ?_
      obtain ⟨y80, hC_80, hE⟩ := Option.bind_eq_some_iff.mp hE
      obtain ⟨r_80, ex9⟩ : ∃ z, z = y80 := ⟨_, rfl⟩
      subst ex9
      try dsimp only at hE
      refine vp_callSi (va_Run.run (va_runV (As := [.int ((t_rowsEnded + (1 : Int32)) - (1 : Int32)), .int (t_rowLength + (1 : Int32))]) (rest := [.int (t_rowLength + (1 : Int32)), .int (t_rowsEnded + (1 : Int32)), .ref q_t_draft]) ⟨hx, hb, hml, hown, hts⟩ (c_X3_cornerAt (l := l) (G := G) (p1 := (t_rowsEnded + (1 : Int32)) - (1 : Int32)) (p2 := t_rowLength + (1 : Int32)) (q_t := q_t_draft) (t_size := t_draft_size) (q_t_corners := q_t_draft_corners) (t_corners := t_draft_corners) hC_80) (cwV 2 hts gX4_canPut_X3_cornerAt rfl rfl rfl kd_X3_cornerAt ⟨Nat.le_of_ble_eq_true rfl, Nat.le_of_ble_eq_true rfl⟩) (pv_V hKW (hP.sub (ws' := [oX3 q_t_draft t_draft_size q_t_draft_corners, aI (G.2 1) q_t_draft_corners 49 t_draft_corners]) [1, 2] rfl) (ci := 3) (q0 := 0) rfl rfl) rfl rfl hl.1 rfl (lv_room (Nat.le_of_ble_eq_true rfl)) dX4_canPut_80 ⟨Nat.zero_le _, Nat.zero_le _⟩)) (fun r9 hr9 => ?_)
      subst r9
      refine lv_aload_n hx hb dX4_canPut_83 rfl (lv_at hl 2 rfl) ?_
      refine va_get (D := G.1) (ci := 4) (v := .int (t_rowSum + p1)) (C := RX4) (T := TX4) (N := 6) hx hb hts iX4 hown hK hP 0 rfl rfl 5 (by decide) fl_46 (fun _ h9 => h9) rfl dX4_canPut_84 ?_
      refine lv_iadd hx hb dX4_canPut_87 ?_
      obtain ⟨y88, hC_88, hE⟩ := Option.bind_eq_some_iff.mp hE
      obtain ⟨m_88_0, ex9⟩ : ∃ z, z = y88 := ⟨_, rfl⟩
      subst ex9
      try dsimp only at hE
      have hPc := hP.sub (ws' := [oX3 q_t_draft t_draft_size q_t_draft_corners, aI (G.2 1) q_t_draft_corners 49 t_draft_corners]) [1, 2] rfl
      have hDc := hD.sub (ws' := [oX3 q_t_draft t_draft_size q_t_draft_corners, aI (G.2 1) q_t_draft_corners 49 t_draft_corners]) [1, 2] (by decide) rfl
      have hFc := va_free (wc := [oX3 q_t_draft t_draft_size q_t_draft_corners, aI (G.2 1) q_t_draft_corners 49 t_draft_corners]) hD hS hA [1, 2] rfl
      refine va_callv (va_runV (As := [.int (t_rowsEnded + (1 : Int32)), .int (t_rowLength + (1 : Int32)), .int (r_80 + (t_rowSum + p1))]) (rest := []) ⟨hx, hb, hml, hown, hts⟩ (c_X3_putCorner (l := l) (G := G) _ (p1 := t_rowsEnded + (1 : Int32)) (p2 := t_rowLength + (1 : Int32)) (p3 := r_80 + (t_rowSum + p1)) (q_t := q_t_draft) (t_size := t_draft_size) (q_t_corners := q_t_draft_corners) (t_corners := t_draft_corners) hC_88) (cwV 3 hts gX4_canPut_X3_putCorner rfl rfl rfl kd_X3_putCorner ⟨Nat.le_of_ble_eq_true rfl, Nat.le_of_ble_eq_true rfl⟩) (iv_V hKW hPc hDc (ci := 3) (q0 := 0) rfl rfl) rfl rfl hl.1 rfl (lv_room (Nat.le_of_ble_eq_true rfl)) dX4_canPut_88 ⟨Nat.zero_le _, Nat.zero_le _⟩) hS (fun q _ h => hFc q h) hFc (fun u9 t9 H1 locs ht9 hvm9 hw9 hB9 hz9 hk9 hS => ?_)
      obtain ⟨hP1, hD1⟩ := hB9
      rw [ht9] at hP1
      obtain ⟨hP, hD⟩ := va_join (wr := [oX4 q_t q_t_letters t_length q_t_draft t_rowsEnded (t_rowLength + (1 : Int32)) (t_rowSum + p1)]) (w1 := [oX3 q_t_draft t_draft_size q_t_draft_corners, aI (G.2 1) q_t_draft_corners 49 m_88_0]) hP hD [1, 2] [0] rfl rfl (by decide) (by decide) hk9 hFc hP1 hD1
      have hP := hP.sub (ws' := [oX4 q_t q_t_letters t_length q_t_draft t_rowsEnded (t_rowLength + (1 : Int32)) (t_rowSum + p1), oX3 q_t_draft t_draft_size q_t_draft_corners, aI (G.2 1) q_t_draft_corners 49 m_88_0]) [0, 1, 2] rfl
      have hD := hD.sub (ws' := [oX4 q_t q_t_letters t_length q_t_draft t_rowsEnded (t_rowLength + (1 : Int32)) (t_rowSum + p1), oX3 q_t_draft t_draft_size q_t_draft_corners, aI (G.2 1) q_t_draft_corners 49 m_88_0]) [0, 1, 2] (by decide) rfl
      clear hPc hDc hFc hP1 hD1 hk9 hz9 hvm9
      refine lv_aload_n hx hb dX4_canPut_91 rfl (lv_at hl 2 rfl) ?_
      refine va_get (D := G.1) (ci := 4) (v := .int (t_rowSum + p1)) (C := RX4) (T := TX4) (N := 6) hx hb hts iX4 hown hK hP 0 rfl rfl 5 (by decide) fl_46 (fun _ h9 => h9) rfl dX4_canPut_92 ?_
      refine lv_iconst (v := 0) hx hb dX4_canPut_95 (by decide) ?_
      refine lv_iconst (v := 1) hx hb dX4_canPut_96 (by decide) ?_
      obtain ⟨y97, hC_97, hE⟩ := Option.bind_eq_some_iff.mp hE
      obtain ⟨r_97, ex9⟩ : ∃ z, z = y97 := ⟨_, rfl⟩
      subst ex9
      try dsimp only at hE
      refine vp_callSi (va_Run.run (va_runSN (As := [.int (t_rowSum + p1), .int (0 : Int32), .int (1 : Int32)]) (rest := []) ⟨hx, hb, hml, hown, hts⟩ (c_X5_isBetween (l := l) (G := G) (p1 := t_rowSum + p1) (p2 := (0 : Int32)) (p3 := (1 : Int32)) hC_97) ⟨va_cnB 3 hts gX4_canPut_X5_isBetween_n64 rfl rfl rfl (kn_0 hKW) (hts (.initialized RX5) (by decide +kernel)) kd_X5_isBetween ⟨Nat.le_of_ble_eq_true rfl, Nat.le_of_ble_eq_true rfl⟩, hts (.static yX5_isBetween) (by decide +kernel), trivial⟩ (pv_S hKW (hP.sub (ws' := []) [] rfl)) rfl rfl hl.1 rfl (lv_room (Nat.le_of_ble_eq_true rfl)) dX4_canPut_97 ⟨Nat.zero_le _, Nat.zero_le _⟩)) (fun r9 hr9 => ?_)
      subst r9
      refine lv_if_eq (tgt := 127) hx hb dX4_canPut_100 (by decide) (fun c_100 => ?_) (fun c_100 => ?_)
      · replace hE := (if_pos c_100).symm.trans hE
        refine lv_iconst (v := 0) hx hb dX4_canPut_127 (by decide) ?_
        have e_0 := Option.some.inj hE
        subst e_0
        rw [hQ]
        exact W.zret (v := (0 : Int32)) hx hb hr rfl (fun t ht _ => ⟨⟨_, (), rfl, rfl, by rw [ht]; exact hP, hD⟩, hS.F ht⟩) hS.2.2 dX4_canPut_128
      · replace hE := (if_neg c_100).symm.trans hE
        refine lv_aload_n hx hb dX4_canPut_103 rfl (lv_at hl 2 rfl) ?_
        refine va_get (D := G.1) (ci := 4) (v := .ref q_t_draft) (C := RX4) (T := TX4) (N := 6) hx hb hts iX4 hown hK hP 0 rfl rfl 2 (by decide) fl_18 (fun _ h9 => h9) rfl dX4_canPut_104 ?_
        refine lv_iload_n hx hb dX4_canPut_107 rfl (lv_at hl 0 rfl) ?_
        refine lv_aload_n hx hb dX4_canPut_108 rfl (lv_at hl 2 rfl) ?_
        refine va_get (D := G.1) (ci := 4) (v := .int (t_rowLength + (1 : Int32))) (C := RX4) (T := TX4) (N := 6) hx hb hts iX4 hown hK hP 0 rfl rfl 4 (by decide) fl_43 (fun _ h9 => h9) rfl dX4_canPut_109 ?_
        obtain ⟨y112, hC_112, hE⟩ := Option.bind_eq_some_iff.mp hE
        obtain ⟨r_112, ex9⟩ : ∃ z, z = y112 := ⟨_, rfl⟩
        subst ex9
        try dsimp only at hE
        refine vp_callSi (va_Run.run (va_runV (As := [.int (t_rowsEnded + (1 : Int32)), .int (t_rowLength + (1 : Int32))]) (rest := []) ⟨hx, hb, hml, hown, hts⟩ (c_X3_columnSum (l := l) (G := G) (p1 := t_rowsEnded + (1 : Int32)) (p2 := t_rowLength + (1 : Int32)) (q_t := q_t_draft) (t_size := t_draft_size) (q_t_corners := q_t_draft_corners) (t_corners := m_88_0) hC_112) (cwV 2 hts gX4_canPut_X3_columnSum rfl rfl rfl kd_X3_columnSum ⟨Nat.le_of_ble_eq_true rfl, Nat.le_of_ble_eq_true rfl⟩) (pv_V hKW (hP.sub (ws' := [oX3 q_t_draft t_draft_size q_t_draft_corners, aI (G.2 1) q_t_draft_corners 49 m_88_0]) [1, 2] rfl) (ci := 3) (q0 := 0) rfl rfl) rfl rfl hl.1 rfl (lv_room (Nat.le_of_ble_eq_true rfl)) dX4_canPut_112 ⟨Nat.zero_le _, Nat.zero_le _⟩)) (fun r9 hr9 => ?_)
        subst r9
        refine lv_iconst (v := 0) hx hb dX4_canPut_115 (by decide) ?_
        refine lv_iconst (v := 1) hx hb dX4_canPut_116 (by decide) ?_
        obtain ⟨y117, hC_117, hE⟩ := Option.bind_eq_some_iff.mp hE
        obtain ⟨r_117, ex9⟩ : ∃ z, z = y117 := ⟨_, rfl⟩
        subst ex9
        try dsimp only at hE
        refine vp_callSi (va_Run.run (va_runSN (As := [.int r_112, .int (0 : Int32), .int (1 : Int32)]) (rest := []) ⟨hx, hb, hml, hown, hts⟩ (c_X5_isBetween (l := l) (G := G) (p1 := r_112) (p2 := (0 : Int32)) (p3 := (1 : Int32)) hC_117) ⟨va_cnB 3 hts gX4_canPut_X5_isBetween_n64 rfl rfl rfl (kn_0 hKW) (hts (.initialized RX5) (by decide +kernel)) kd_X5_isBetween ⟨Nat.le_of_ble_eq_true rfl, Nat.le_of_ble_eq_true rfl⟩, hts (.static yX5_isBetween) (by decide +kernel), trivial⟩ (pv_S hKW (hP.sub (ws' := []) [] rfl)) rfl rfl hl.1 rfl (lv_room (Nat.le_of_ble_eq_true rfl)) dX4_canPut_117 ⟨Nat.zero_le _, Nat.zero_le _⟩)) (fun r9 hr9 => ?_)
        subst r9
        refine lv_if_eq (tgt := 127) hx hb dX4_canPut_120 (by decide) (fun c_120 => ?_) (fun c_120 => ?_)
        · replace hE := (if_pos c_120).symm.trans hE
          refine lv_iconst (v := 0) hx hb dX4_canPut_127 (by decide) ?_
          have e_0 := Option.some.inj hE
          subst e_0
          rw [hQ]
          exact W.zret (v := (0 : Int32)) hx hb hr rfl (fun t ht _ => ⟨⟨_, (), rfl, rfl, by rw [ht]; exact hP, hD⟩, hS.F ht⟩) hS.2.2 dX4_canPut_128
        · replace hE := (if_neg c_120).symm.trans hE
          refine lv_iconst (v := 1) hx hb dX4_canPut_123 (by decide) ?_
          refine lv_goto (tgt := 128) hx hb dX4_canPut_124 (by decide) ?_
          have e_0 := Option.some.inj hE
          subst e_0
          rw [hQ]
          exact W.zret (v := (1 : Int32)) hx hb hr rfl (fun t ht _ => ⟨⟨_, (), rfl, rfl, by rw [ht]; exact hP, hD⟩, hS.F ht⟩) hS.2.2 dX4_canPut_128
    · replace hE := (if_neg c_28).symm.trans hE
      refine lv_iconst (v := 0) hx hb dX4_canPut_31 (by decide) ?_
      have e_0 := Option.some.inj hE
      subst e_0
      rw [hQ]
      exact W.zret (v := (0 : Int32)) hx hb hr rfl (fun t ht _ => ⟨⟨_, (), rfl, rfl, by rw [ht]; exact hP, hD⟩, hS.F ht⟩) hS.2.2 dX4_canPut_32
  clear hE hk9
  have hE := hEp
  clear hEp
  refine lv_if_le (tgt := 20) hx hb dX4_canPut_7 (by decide) (fun c_7 => ?_) (fun c_7 => ?_)
  · replace hE := (if_pos c_7).symm.trans hE
    refine lv_bipush (v := 6) hx hb dX4_canPut_20 (by decide) ?_
    have e_1 := Option.some.inj hE
    exact ih_1 _ e_1.symm _ _ ls hP hD hS (lv_sub hl [0, 1] rfl)
  · replace hE := (if_neg c_7).symm.trans hE
    refine lv_aload_n hx hb dX4_canPut_10 rfl (lv_at hl 0 rfl) ?_
    refine va_get (D := G.1) (ci := 4) (v := .ref q_t_draft) (C := RX4) (T := TX4) (N := 6) hx hb hts iX4 hown hK hP 0 rfl rfl 2 (by decide) fl_18 (fun _ h9 => h9) rfl dX4_canPut_11 ?_
    refine va_get (D := G.1) (ci := 3) (v := .int t_draft_size) (C := RX3) (T := TX3) (N := 2) hx hb hts iX3 hown hK hP 1 rfl rfl 0 (by decide) fl_26 (fun _ h9 => h9) rfl dX4_canPut_14 ?_
    refine lv_goto (tgt := 22) hx hb dX4_canPut_17 (by decide) ?_
    have e_1 := Option.some.inj hE
    exact ih_1 _ e_1.symm _ _ ls hP hD hS (lv_sub hl [0, 1] rfl)
def S_X4_canStand (p1 : Int32) (t_rowsEnded : Int32) (t_rowLength : Int32) (t_rowSum : Int32) (t_draft_size : Int32) (t_draft_corners : Nat → Int32) : Option (Int32 × Int32 × Int32 × Int32 × Int32 × (Nat → Int32)) := (S_X4_isWhole t_rowsEnded t_draft_size).bind (fun (y1 : Int32) => if y1 = 0 then if p1 = (59 : Int32) then (S_X4_canEndRow t_rowsEnded t_rowLength t_rowSum t_draft_size).bind (fun (y16 : Int32 × Int32 × Int32 × Int32 × Int32) => ck (y16.1 &&& 1 == y16.1) (some (y16.1, y16.2.1, y16.2.2.1, y16.2.2.2.1, y16.2.2.2.2, t_draft_corners))) else if p1 = (48 : Int32) then (S_X4_canPut (0 : Int32) t_rowsEnded t_rowLength t_rowSum t_draft_size t_draft_corners).bind (fun (y28 : Int32 × Int32 × Int32 × (Nat → Int32)) => ck (y28.1 &&& 1 == y28.1) (some (y28.1, t_rowsEnded, y28.2.1, y28.2.2.1, t_draft_size, y28.2.2.2))) else jn (if p1 = (43 : Int32) then (S_X4_canPut (1 : Int32) t_rowsEnded t_rowLength t_rowSum t_draft_size t_draft_corners).bind (fun (y40 : Int32 × Int32 × Int32 × (Nat → Int32)) => if y40.1 = 0 then some (.inl (y40.2.1, y40.2.2.1, y40.2.2.2)) else some (.inr ((1 : Int32), t_rowsEnded, y40.2.1, y40.2.2.1, t_draft_size, y40.2.2.2))) else some (.inl (t_rowLength, t_rowSum, t_draft_corners))) (fun (x1 : Int32 × Int32 × (Nat → Int32)) => if p1 = (45 : Int32) then (S_X4_canPut (-1 : Int32) t_rowsEnded x1.1 x1.2.1 t_draft_size x1.2.2).bind (fun (y54 : Int32 × Int32 × Int32 × (Nat → Int32)) => if y54.1 = 0 then some ((0 : Int32), t_rowsEnded, y54.2.1, y54.2.2.1, t_draft_size, y54.2.2.2) else some ((1 : Int32), t_rowsEnded, y54.2.1, y54.2.2.1, t_draft_size, y54.2.2.2)) else some ((0 : Int32), t_rowsEnded, x1.1, x1.2.1, t_draft_size, x1.2.2)) else some ((0 : Int32), t_rowsEnded, t_rowLength, t_rowSum, t_draft_size, t_draft_corners))
theorem kd_X4_canStand : yX4_canStand.cls = RX4 ∧ yX4_canStand.cls ≠ "java/lang/invoke/MethodHandle" ∧ yX4_canStand.cls ≠ "java/lang/invoke/VarHandle" ∧ (parseMethodDescriptor yX4_canStand.desc).map (fun d => d.parameters.length) = some 1 := by decide +kernel
set_option maxHeartbeats 4000000 in
set_option maxRecDepth 100000 in
theorem c_X4_canStand {l : Launch} {G : kG} (sz : Nat) {p1 : Int32} {q_t : Nat} {q_t_letters : Nat} {t_length : Int32} {q_t_draft : Nat} {t_rowsEnded : Int32} {t_rowLength : Int32} {t_rowSum : Int32} {t_draft_size : Int32} {q_t_draft_corners : Nat} {t_draft_corners : Nat → Int32} {res : Int32 × Int32 × Int32 × Int32 × Int32 × (Nat → Int32)} (hE : S_X4_canStand p1 t_rowsEnded t_rowLength t_rowSum t_draft_size t_draft_corners = some res) : Met l yX4_canStand wsX4_canStand ({ frames := 3, cells := 0, slots := 0, locals := 67 }) (va_Pc [.ref q_t, .int p1] (fun U => U.heap.size = sz ∧ va_P G.1 vwCl [oX4 q_t q_t_letters t_length q_t_draft t_rowsEnded t_rowLength t_rowSum, oX3 q_t_draft t_draft_size q_t_draft_corners, aI (G.2 1) q_t_draft_corners 49 t_draft_corners] U.heap ∧ kw G U ∧ va_D (fun _ => True) [oX4 q_t q_t_letters t_length q_t_draft t_rowsEnded t_rowLength t_rowSum, oX3 q_t_draft t_draft_size q_t_draft_corners, aI (G.2 1) q_t_draft_corners 49 t_draft_corners])) (va_Qi (fun r (_ : Unit) => r = res.1) (fun _ t => va_P G.1 vwCl [oX4 q_t q_t_letters t_length q_t_draft res.2.1 res.2.2.1 res.2.2.2.1, oX3 q_t_draft res.2.2.2.2.1 q_t_draft_corners, aI (G.2 1) q_t_draft_corners 49 res.2.2.2.2.2] t.heap ∧ va_D (va_A [oX4 q_t q_t_letters t_length q_t_draft t_rowsEnded t_rowLength t_rowSum, oX3 q_t_draft t_draft_size q_t_draft_corners, aI (G.2 1) q_t_draft_corners 49 t_draft_corners] sz) [oX4 q_t q_t_letters t_length q_t_draft res.2.1 res.2.2.1 res.2.2.2.1, oX3 q_t_draft res.2.2.2.2.1 q_t_draft_corners, aI (G.2 1) q_t_draft_corners 49 res.2.2.2.2.2]) (va_A [oX4 q_t q_t_letters t_length q_t_draft t_rowsEnded t_rowLength t_rowSum, oX3 q_t_draft t_draft_size q_t_draft_corners, aI (G.2 1) q_t_draft_corners 49 t_draft_corners] sz)) 0 0 (va_A [oX4 q_t q_t_letters t_length q_t_draft t_rowsEnded t_rowLength t_rowSum, oX3 q_t_draft t_draft_size q_t_draft_corners, aI (G.2 1) q_t_draft_corners 49 t_draft_corners] sz) := by
  refine Met.ofQ (cc := cX4_canStand) (maxL := 2) (ret := (some .boolean)) (by decide) rfl ?_
  intro p e s m args below meth c s₁ Q hQ B hml hv
  obtain ⟨rfl, hsz, hP, hKW, hD0⟩ := hv
  have hK := hKW.1
  have hx := B.exec
  have hb := B.bytes
  have hr := B.returns
  have hts := atoms_spec (ws := wsX4_canStand) B.pre
  have hown : s.vm.findClass RX4 = some m.cls := findClass_of_methodNamed B.named
  have hlocks := B.notSynchronized
  subst hsz
  have hD := hD0.self (sz := s.heap.size)
  generalize hAe : va_A [oX4 q_t q_t_letters t_length q_t_draft t_rowsEnded t_rowLength t_rowSum, oX3 q_t_draft t_draft_size q_t_draft_corners, aI (G.2 1) q_t_draft_corners 49 t_draft_corners] s.heap.size = A at hD hQ
  have hA : ∀ q : Nat, s.heap.size ≤ q → A q := fun q h => by rw [← hAe]; exact Or.inr h
  have hS : va_S A s.heap s.heap [] := va_S.rf
  have hl := lv_entry ([.ref q_t, .int p1]) (n := 2) (Nat.le_of_ble_eq_true rfl)
  rw [lg_entry_eq]
  generalize (lg_sl ([.ref q_t, .int p1]) ++ List.replicate (2 - (lg_sl ([.ref q_t, .int p1])).length) Slot.unset).toArray = ls at hl ⊢
  have hl : lv_has ls 2 [(0, .ref q_t), (1, .int p1)] := hl
  unfold S_X4_canStand at hE
  refine lv_aload_n hx hb dX4_canStand_0 rfl (lv_at hl 0 rfl) ?_
  obtain ⟨y1, hC_1, hE⟩ := Option.bind_eq_some_iff.mp hE
  obtain ⟨r_1, ex9⟩ : ∃ z, z = y1 := ⟨_, rfl⟩
  subst ex9
  try dsimp only at hE
  refine vp_callSi (va_Run.run (va_runV (As := []) (rest := []) ⟨hx, hb, hml, hown, hts⟩ (c_X4_isWhole (l := l) (G := G) (q_t := q_t) (q_t_letters := q_t_letters) (t_length := t_length) (q_t_draft := q_t_draft) (t_rowsEnded := t_rowsEnded) (t_rowLength := t_rowLength) (t_rowSum := t_rowSum) (t_draft_size := t_draft_size) (q_t_draft_corners := q_t_draft_corners) hC_1) (cwV 0 hts gX4_canStand_X4_isWhole rfl rfl rfl kd_X4_isWhole ⟨Nat.le_of_ble_eq_true rfl, Nat.le_of_ble_eq_true rfl⟩) (pv_V hKW (hP.sub (ws' := [oX4 q_t q_t_letters t_length q_t_draft t_rowsEnded t_rowLength t_rowSum, oX3 q_t_draft t_draft_size q_t_draft_corners]) [0, 1] rfl) (ci := 4) (q0 := 0) rfl rfl) rfl rfl hl.1 rfl (lv_room (Nat.le_of_ble_eq_true rfl)) dX4_canStand_1 ⟨Nat.zero_le _, Nat.zero_le _⟩)) (fun r9 hr9 => ?_)
  subst r9
  refine lv_if_eq (tgt := 9) hx hb dX4_canStand_4 (by decide) (fun c_4 => ?_) (fun c_4 => ?_)
  · replace hE := (if_pos c_4).symm.trans hE
    refine lv_iload_n hx hb dX4_canStand_9 rfl (lv_at hl 1 rfl) ?_
    refine lv_bipush (v := 59) hx hb dX4_canStand_10 (by decide) ?_
    refine lv_icmp_ne (tgt := 20) hx hb dX4_canStand_12 (by decide) (fun c_12 => ?_) (fun c_12 => ?_)
    · replace hE := (if_neg c_12).symm.trans hE
      refine lv_iload_n hx hb dX4_canStand_20 rfl (lv_at hl 1 rfl) ?_
      refine lv_bipush (v := 48) hx hb dX4_canStand_21 (by decide) ?_
      refine lv_icmp_ne (tgt := 32) hx hb dX4_canStand_23 (by decide) (fun c_23 => ?_) (fun c_23 => ?_)
      · replace hE := (if_neg c_23).symm.trans hE
        refine lv_iload_n hx hb dX4_canStand_32 rfl (lv_at hl 1 rfl) ?_
        refine lv_bipush (v := 43) hx hb dX4_canStand_33 (by decide) ?_
        obtain ⟨o_1, hEp, hk9, hr_1⟩ := jn_some hE
        have ih_1 : ∀ (x1 : Int32 × Int32 × (Nat → Int32)), o_1 = .inl x1 → ∀ (H : Heap) (locs : List Loc) (ls : Array Slot), va_P G.1 vwCl [oX4 q_t q_t_letters t_length q_t_draft t_rowsEnded x1.1 x1.2.1, oX3 q_t_draft t_draft_size q_t_draft_corners, aI (G.2 1) q_t_draft_corners 49 x1.2.2] H → va_D A [oX4 q_t q_t_letters t_length q_t_draft t_rowsEnded x1.1 x1.2.1, oX3 q_t_draft t_draft_size q_t_draft_corners, aI (G.2 1) q_t_draft_corners 49 x1.2.2] → va_S A s.heap H locs → lv_has ls 2 [(0, .ref q_t), (1, .int p1)] → W p l e (headSpec wsX4_canStand ({ frames := 3, cells := 0, slots := 0, locals := 67 })).room s m ([.ref q_t, .int p1] : List Value).toArray below meth c H locs 0 0 Q (F0 m 46 ls []) := by
          intro x1 ho9
          have hE := hk9 _ ho9
          obtain ⟨w_t_rowLength_1, w_t_rowSum_1, w_t_draft_corners_1⟩ := x1
          try dsimp only at hE
          intro H locs ls hP hD hS hl
          try dsimp only at hP hD hl ⊢
          refine lv_iload_n hx hb dX4_canStand_46 rfl (lv_at hl 1 rfl) ?_
          refine lv_bipush (v := 45) hx hb dX4_canStand_47 (by decide) ?_
          refine lv_icmp_ne (tgt := 64) hx hb dX4_canStand_49 (by decide) (fun c_49 => ?_) (fun c_49 => ?_)
          · replace hE := (if_neg c_49).symm.trans hE
            refine lv_iconst (v := 0) hx hb dX4_canStand_64 (by decide) ?_
            have e_0 := Option.some.inj hE
            subst e_0
            rw [hQ]
            exact W.zret (v := (0 : Int32)) hx hb hr rfl (fun t ht _ => ⟨⟨_, (), rfl, rfl, by rw [ht]; exact hP, hD⟩, hS.F ht⟩) hS.2.2 dX4_canStand_65
          · replace hE := (if_pos c_49).symm.trans hE
            refine lv_aload_n hx hb dX4_canStand_52 rfl (lv_at hl 0 rfl) ?_
            refine lv_iconst (v := -1) hx hb dX4_canStand_53 (by decide) ?_
            obtain ⟨y54, hC_54, hE⟩ := Option.bind_eq_some_iff.mp hE
            obtain ⟨r_54, m_54_0, m_54_1, m_54_2⟩ := y54
            try dsimp only at hE
            have hPc := hP.sub (ws' := [oX4 q_t q_t_letters t_length q_t_draft t_rowsEnded w_t_rowLength_1 w_t_rowSum_1, oX3 q_t_draft t_draft_size q_t_draft_corners, aI (G.2 1) q_t_draft_corners 49 w_t_draft_corners_1]) [0, 1, 2] rfl
            have hDc := hD.sub (ws' := [oX4 q_t q_t_letters t_length q_t_draft t_rowsEnded w_t_rowLength_1 w_t_rowSum_1, oX3 q_t_draft t_draft_size q_t_draft_corners, aI (G.2 1) q_t_draft_corners 49 w_t_draft_corners_1]) [0, 1, 2] (by decide) rfl
            have hFc := va_free (wc := [oX4 q_t q_t_letters t_length q_t_draft t_rowsEnded w_t_rowLength_1 w_t_rowSum_1, oX3 q_t_draft t_draft_size q_t_draft_corners, aI (G.2 1) q_t_draft_corners 49 w_t_draft_corners_1]) hD hS hA [0, 1, 2] rfl
            refine va_calli (va_runV (As := [.int (-1 : Int32)]) (rest := []) ⟨hx, hb, hml, hown, hts⟩ (c_X4_canPut (l := l) (G := G) _ (p1 := (-1 : Int32)) (q_t := q_t) (q_t_letters := q_t_letters) (t_length := t_length) (q_t_draft := q_t_draft) (t_rowsEnded := t_rowsEnded) (t_rowLength := w_t_rowLength_1) (t_rowSum := w_t_rowSum_1) (t_draft_size := t_draft_size) (q_t_draft_corners := q_t_draft_corners) (t_draft_corners := w_t_draft_corners_1) hC_54) (cwV 1 hts gX4_canStand_X4_canPut rfl rfl rfl kd_X4_canPut ⟨Nat.le_of_ble_eq_true rfl, Nat.le_of_ble_eq_true rfl⟩) (iv_V hKW hPc hDc (ci := 4) (q0 := 0) rfl rfl) rfl rfl hl.1 rfl (lv_room (Nat.le_of_ble_eq_true rfl)) dX4_canStand_54 ⟨Nat.zero_le _, Nat.zero_le _⟩) hS (fun q _ h => hFc q h) hFc (fun r9 u9 t9 H1 locs ht9 hvm9 hw9 hB9 hz9 hk9 hS => ?_)
            subst r9
            obtain ⟨hP1, hD1⟩ := hB9
            rw [ht9] at hP1
            obtain ⟨hP, hD⟩ := va_join (wr := []) (w1 := [oX4 q_t q_t_letters t_length q_t_draft t_rowsEnded m_54_0 m_54_1, oX3 q_t_draft t_draft_size q_t_draft_corners, aI (G.2 1) q_t_draft_corners 49 m_54_2]) hP hD [0, 1, 2] [] rfl rfl (by decide) (by decide) hk9 hFc hP1 hD1
            have hP := hP.sub (ws' := [oX4 q_t q_t_letters t_length q_t_draft t_rowsEnded m_54_0 m_54_1, oX3 q_t_draft t_draft_size q_t_draft_corners, aI (G.2 1) q_t_draft_corners 49 m_54_2]) [0, 1, 2] rfl
            have hD := hD.sub (ws' := [oX4 q_t q_t_letters t_length q_t_draft t_rowsEnded m_54_0 m_54_1, oX3 q_t_draft t_draft_size q_t_draft_corners, aI (G.2 1) q_t_draft_corners 49 m_54_2]) [0, 1, 2] (by decide) rfl
            clear hPc hDc hFc hP1 hD1 hk9 hz9 hvm9
            refine lv_if_eq (tgt := 64) hx hb dX4_canStand_57 (by decide) (fun c_57 => ?_) (fun c_57 => ?_)
            · replace hE := (if_pos c_57).symm.trans hE
              refine lv_iconst (v := 0) hx hb dX4_canStand_64 (by decide) ?_
              have e_0 := Option.some.inj hE
              subst e_0
              rw [hQ]
              exact W.zret (v := (0 : Int32)) hx hb hr rfl (fun t ht _ => ⟨⟨_, (), rfl, rfl, by rw [ht]; exact hP, hD⟩, hS.F ht⟩) hS.2.2 dX4_canStand_65
            · replace hE := (if_neg c_57).symm.trans hE
              refine lv_iconst (v := 1) hx hb dX4_canStand_60 (by decide) ?_
              refine lv_goto (tgt := 65) hx hb dX4_canStand_61 (by decide) ?_
              have e_0 := Option.some.inj hE
              subst e_0
              rw [hQ]
              exact W.zret (v := (1 : Int32)) hx hb hr rfl (fun t ht _ => ⟨⟨_, (), rfl, rfl, by rw [ht]; exact hP, hD⟩, hS.F ht⟩) hS.2.2 dX4_canStand_65
        clear hE hk9
        have hE := hEp
        clear hEp
        refine lv_icmp_ne (tgt := 46) hx hb dX4_canStand_35 (by decide) (fun c_35 => ?_) (fun c_35 => ?_)
        · replace hE := (if_neg c_35).symm.trans hE
          have e_1 := Option.some.inj hE
          exact ih_1 _ e_1.symm _ _ ls hP hD hS (lv_sub hl [0, 1] rfl)
        · replace hE := (if_pos c_35).symm.trans hE
          refine lv_aload_n hx hb dX4_canStand_38 rfl (lv_at hl 0 rfl) ?_
          refine lv_iconst (v := 1) hx hb dX4_canStand_39 (by decide) ?_
          obtain ⟨y40, hC_40, hE⟩ := Option.bind_eq_some_iff.mp hE
          obtain ⟨r_40, m_40_0, m_40_1, m_40_2⟩ := y40
          try dsimp only at hE
          have hPc := hP.sub (ws' := [oX4 q_t q_t_letters t_length q_t_draft t_rowsEnded t_rowLength t_rowSum, oX3 q_t_draft t_draft_size q_t_draft_corners, aI (G.2 1) q_t_draft_corners 49 t_draft_corners]) [0, 1, 2] rfl
          have hDc := hD.sub (ws' := [oX4 q_t q_t_letters t_length q_t_draft t_rowsEnded t_rowLength t_rowSum, oX3 q_t_draft t_draft_size q_t_draft_corners, aI (G.2 1) q_t_draft_corners 49 t_draft_corners]) [0, 1, 2] (by decide) rfl
          have hFc := va_free (wc := [oX4 q_t q_t_letters t_length q_t_draft t_rowsEnded t_rowLength t_rowSum, oX3 q_t_draft t_draft_size q_t_draft_corners, aI (G.2 1) q_t_draft_corners 49 t_draft_corners]) hD hS hA [0, 1, 2] rfl
          refine va_calli (va_runV (As := [.int (1 : Int32)]) (rest := []) ⟨hx, hb, hml, hown, hts⟩ (c_X4_canPut (l := l) (G := G) _ (p1 := (1 : Int32)) (q_t := q_t) (q_t_letters := q_t_letters) (t_length := t_length) (q_t_draft := q_t_draft) (t_rowsEnded := t_rowsEnded) (t_rowLength := t_rowLength) (t_rowSum := t_rowSum) (t_draft_size := t_draft_size) (q_t_draft_corners := q_t_draft_corners) (t_draft_corners := t_draft_corners) hC_40) (cwV 1 hts gX4_canStand_X4_canPut rfl rfl rfl kd_X4_canPut ⟨Nat.le_of_ble_eq_true rfl, Nat.le_of_ble_eq_true rfl⟩) (iv_V hKW hPc hDc (ci := 4) (q0 := 0) rfl rfl) rfl rfl hl.1 rfl (lv_room (Nat.le_of_ble_eq_true rfl)) dX4_canStand_40 ⟨Nat.zero_le _, Nat.zero_le _⟩) hS (fun q _ h => hFc q h) hFc (fun r9 u9 t9 H1 locs ht9 hvm9 hw9 hB9 hz9 hk9 hS => ?_)
          subst r9
          obtain ⟨hP1, hD1⟩ := hB9
          rw [ht9] at hP1
          obtain ⟨hP, hD⟩ := va_join (wr := []) (w1 := [oX4 q_t q_t_letters t_length q_t_draft t_rowsEnded m_40_0 m_40_1, oX3 q_t_draft t_draft_size q_t_draft_corners, aI (G.2 1) q_t_draft_corners 49 m_40_2]) hP hD [0, 1, 2] [] rfl rfl (by decide) (by decide) hk9 hFc hP1 hD1
          have hP := hP.sub (ws' := [oX4 q_t q_t_letters t_length q_t_draft t_rowsEnded m_40_0 m_40_1, oX3 q_t_draft t_draft_size q_t_draft_corners, aI (G.2 1) q_t_draft_corners 49 m_40_2]) [0, 1, 2] rfl
          have hD := hD.sub (ws' := [oX4 q_t q_t_letters t_length q_t_draft t_rowsEnded m_40_0 m_40_1, oX3 q_t_draft t_draft_size q_t_draft_corners, aI (G.2 1) q_t_draft_corners 49 m_40_2]) [0, 1, 2] (by decide) rfl
          clear hPc hDc hFc hP1 hD1 hk9 hz9 hvm9
          refine lv_if_ne (tgt := 60) hx hb dX4_canStand_43 (by decide) (fun c_43 => ?_) (fun c_43 => ?_)
          · replace hE := (if_neg c_43).symm.trans hE
            refine lv_iconst (v := 1) hx hb dX4_canStand_60 (by decide) ?_
            refine lv_goto (tgt := 65) hx hb dX4_canStand_61 (by decide) ?_
            have e_1 := Option.some.inj hE
            have e_0 := hr_1 _ e_1.symm
            subst e_0
            rw [hQ]
            exact W.zret (v := (1 : Int32)) hx hb hr rfl (fun t ht _ => ⟨⟨_, (), rfl, rfl, by rw [ht]; exact hP, hD⟩, hS.F ht⟩) hS.2.2 dX4_canStand_65
          · replace hE := (if_pos c_43).symm.trans hE
            have e_1 := Option.some.inj hE
            exact ih_1 _ e_1.symm _ _ ls hP hD hS (lv_sub hl [0, 1] rfl)
      · replace hE := (if_pos c_23).symm.trans hE
        refine lv_aload_n hx hb dX4_canStand_26 rfl (lv_at hl 0 rfl) ?_
        refine lv_iconst (v := 0) hx hb dX4_canStand_27 (by decide) ?_
        obtain ⟨y28, hC_28, hE⟩ := Option.bind_eq_some_iff.mp hE
        obtain ⟨r_28, m_28_0, m_28_1, m_28_2⟩ := y28
        try dsimp only at hE
        have hPc := hP.sub (ws' := [oX4 q_t q_t_letters t_length q_t_draft t_rowsEnded t_rowLength t_rowSum, oX3 q_t_draft t_draft_size q_t_draft_corners, aI (G.2 1) q_t_draft_corners 49 t_draft_corners]) [0, 1, 2] rfl
        have hDc := hD.sub (ws' := [oX4 q_t q_t_letters t_length q_t_draft t_rowsEnded t_rowLength t_rowSum, oX3 q_t_draft t_draft_size q_t_draft_corners, aI (G.2 1) q_t_draft_corners 49 t_draft_corners]) [0, 1, 2] (by decide) rfl
        have hFc := va_free (wc := [oX4 q_t q_t_letters t_length q_t_draft t_rowsEnded t_rowLength t_rowSum, oX3 q_t_draft t_draft_size q_t_draft_corners, aI (G.2 1) q_t_draft_corners 49 t_draft_corners]) hD hS hA [0, 1, 2] rfl
        refine va_calli (va_runV (As := [.int (0 : Int32)]) (rest := []) ⟨hx, hb, hml, hown, hts⟩ (c_X4_canPut (l := l) (G := G) _ (p1 := (0 : Int32)) (q_t := q_t) (q_t_letters := q_t_letters) (t_length := t_length) (q_t_draft := q_t_draft) (t_rowsEnded := t_rowsEnded) (t_rowLength := t_rowLength) (t_rowSum := t_rowSum) (t_draft_size := t_draft_size) (q_t_draft_corners := q_t_draft_corners) (t_draft_corners := t_draft_corners) hC_28) (cwV 1 hts gX4_canStand_X4_canPut rfl rfl rfl kd_X4_canPut ⟨Nat.le_of_ble_eq_true rfl, Nat.le_of_ble_eq_true rfl⟩) (iv_V hKW hPc hDc (ci := 4) (q0 := 0) rfl rfl) rfl rfl hl.1 rfl (lv_room (Nat.le_of_ble_eq_true rfl)) dX4_canStand_28 ⟨Nat.zero_le _, Nat.zero_le _⟩) hS (fun q _ h => hFc q h) hFc (fun r9 u9 t9 H1 locs ht9 hvm9 hw9 hB9 hz9 hk9 hS => ?_)
        subst r9
        obtain ⟨hP1, hD1⟩ := hB9
        rw [ht9] at hP1
        obtain ⟨hP, hD⟩ := va_join (wr := []) (w1 := [oX4 q_t q_t_letters t_length q_t_draft t_rowsEnded m_28_0 m_28_1, oX3 q_t_draft t_draft_size q_t_draft_corners, aI (G.2 1) q_t_draft_corners 49 m_28_2]) hP hD [0, 1, 2] [] rfl rfl (by decide) (by decide) hk9 hFc hP1 hD1
        have hP := hP.sub (ws' := [oX4 q_t q_t_letters t_length q_t_draft t_rowsEnded m_28_0 m_28_1, oX3 q_t_draft t_draft_size q_t_draft_corners, aI (G.2 1) q_t_draft_corners 49 m_28_2]) [0, 1, 2] rfl
        have hD := hD.sub (ws' := [oX4 q_t q_t_letters t_length q_t_draft t_rowsEnded m_28_0 m_28_1, oX3 q_t_draft t_draft_size q_t_draft_corners, aI (G.2 1) q_t_draft_corners 49 m_28_2]) [0, 1, 2] (by decide) rfl
        clear hPc hDc hFc hP1 hD1 hk9 hz9 hvm9
        obtain ⟨hbo, hE⟩ := ck_some hE
        have e_0 := Option.some.inj hE
        subst e_0
        rw [hQ]
        exact W.zret (v := r_28) hx hb hr (nar_b hbo) (fun t ht _ => ⟨⟨_, (), rfl, rfl, by rw [ht]; exact hP, hD⟩, hS.F ht⟩) hS.2.2 dX4_canStand_31
    · replace hE := (if_pos c_12).symm.trans hE
      refine lv_aload_n hx hb dX4_canStand_15 rfl (lv_at hl 0 rfl) ?_
      obtain ⟨y16, hC_16, hE⟩ := Option.bind_eq_some_iff.mp hE
      obtain ⟨r_16, m_16_0, m_16_1, m_16_2, m_16_3⟩ := y16
      try dsimp only at hE
      have hPc := hP.sub (ws' := [oX4 q_t q_t_letters t_length q_t_draft t_rowsEnded t_rowLength t_rowSum, oX3 q_t_draft t_draft_size q_t_draft_corners]) [0, 1] rfl
      have hDc := hD.sub (ws' := [oX4 q_t q_t_letters t_length q_t_draft t_rowsEnded t_rowLength t_rowSum, oX3 q_t_draft t_draft_size q_t_draft_corners]) [0, 1] (by decide) rfl
      have hFc := va_free (wc := [oX4 q_t q_t_letters t_length q_t_draft t_rowsEnded t_rowLength t_rowSum, oX3 q_t_draft t_draft_size q_t_draft_corners]) hD hS hA [0, 1] rfl
      refine va_calli (va_runV (As := []) (rest := []) ⟨hx, hb, hml, hown, hts⟩ (c_X4_canEndRow (l := l) (G := G) _ (q_t := q_t) (q_t_letters := q_t_letters) (t_length := t_length) (q_t_draft := q_t_draft) (t_rowsEnded := t_rowsEnded) (t_rowLength := t_rowLength) (t_rowSum := t_rowSum) (t_draft_size := t_draft_size) (q_t_draft_corners := q_t_draft_corners) hC_16) (cwV 0 hts gX4_canStand_X4_canEndRow rfl rfl rfl kd_X4_canEndRow ⟨Nat.le_of_ble_eq_true rfl, Nat.le_of_ble_eq_true rfl⟩) (iv_V hKW hPc hDc (ci := 4) (q0 := 0) rfl rfl) rfl rfl hl.1 rfl (lv_room (Nat.le_of_ble_eq_true rfl)) dX4_canStand_16 ⟨Nat.zero_le _, Nat.zero_le _⟩) hS (fun q _ h => hFc q h) hFc (fun r9 u9 t9 H1 locs ht9 hvm9 hw9 hB9 hz9 hk9 hS => ?_)
      subst r9
      obtain ⟨hP1, hD1⟩ := hB9
      rw [ht9] at hP1
      obtain ⟨hP, hD⟩ := va_join (wr := [aI (G.2 1) q_t_draft_corners 49 t_draft_corners]) (w1 := [oX4 q_t q_t_letters t_length q_t_draft m_16_0 m_16_1 m_16_2, oX3 q_t_draft m_16_3 q_t_draft_corners]) hP hD [0, 1] [2] rfl rfl (by decide) (by decide) hk9 hFc hP1 hD1
      have hP := hP.sub (ws' := [oX4 q_t q_t_letters t_length q_t_draft m_16_0 m_16_1 m_16_2, oX3 q_t_draft m_16_3 q_t_draft_corners, aI (G.2 1) q_t_draft_corners 49 t_draft_corners]) [1, 2, 0] rfl
      have hD := hD.sub (ws' := [oX4 q_t q_t_letters t_length q_t_draft m_16_0 m_16_1 m_16_2, oX3 q_t_draft m_16_3 q_t_draft_corners, aI (G.2 1) q_t_draft_corners 49 t_draft_corners]) [1, 2, 0] (by decide) rfl
      clear hPc hDc hFc hP1 hD1 hk9 hz9 hvm9
      obtain ⟨hbo, hE⟩ := ck_some hE
      have e_0 := Option.some.inj hE
      subst e_0
      rw [hQ]
      exact W.zret (v := r_16) hx hb hr (nar_b hbo) (fun t ht _ => ⟨⟨_, (), rfl, rfl, by rw [ht]; exact hP, hD⟩, hS.F ht⟩) hS.2.2 dX4_canStand_19
  · replace hE := (if_neg c_4).symm.trans hE
    refine lv_iconst (v := 0) hx hb dX4_canStand_7 (by decide) ?_
    have e_0 := Option.some.inj hE
    subst e_0
    rw [hQ]
    exact W.zret (v := (0 : Int32)) hx hb hr rfl (fun t ht _ => ⟨⟨_, (), rfl, rfl, by rw [ht]; exact hP, hD⟩, hS.F ht⟩) hS.2.2 dX4_canStand_8
def S_X4_firstFault (t_length : Int32) (t_letters : Nat → Int32) (t_draft_corners : Nat → Int32) : Option (Int32 × Int32 × Int32 × Int32 × Int32 × (Nat → Int32)) := (S_X4_startRow).bind (fun (y14 : Int32 × Int32) => itr (fun (x1 : Int32 × Int32 × Int32 × Int32 × Int32 × (Nat → Int32)) => if t_length ≤ x1.1 then (S_X4_isWhole x1.2.1 x1.2.2.2.2.1).bind (fun (y49 : Int32) => if y49 = 0 then some (.inr (t_length, x1.2.1, x1.2.2.1, x1.2.2.2.1, x1.2.2.2.2.1, x1.2.2.2.2.2)) else some (.inr ((-4 : Int32), x1.2.1, x1.2.2.1, x1.2.2.2.1, x1.2.2.2.2.1, x1.2.2.2.2.2))) else ck (inb x1.1 200) ((S_X4_canStand (t_letters x1.1.toNatClampNeg) x1.2.1 x1.2.2.1 x1.2.2.2.1 x1.2.2.2.2.1 x1.2.2.2.2.2).bind (fun (y34 : Int32 × Int32 × Int32 × Int32 × Int32 × (Nat → Int32)) => if y34.1 = 0 then some (.inr (x1.1, y34.2.1, y34.2.2.1, y34.2.2.2.1, y34.2.2.2.2.1, y34.2.2.2.2.2)) else some (.inl (x1.1 + (1 : Int32), y34.2.1, y34.2.2.1, y34.2.2.2.1, y34.2.2.2.2.1, y34.2.2.2.2.2))))) 10000 ((0 : Int32), (0 : Int32), y14.1, y14.2, (0 : Int32), t_draft_corners))
theorem kd_X4_firstFault : yX4_firstFault.cls = RX4 ∧ yX4_firstFault.cls ≠ "java/lang/invoke/MethodHandle" ∧ yX4_firstFault.cls ≠ "java/lang/invoke/VarHandle" ∧ (parseMethodDescriptor yX4_firstFault.desc).map (fun d => d.parameters.length) = some 0 := by decide +kernel
set_option maxHeartbeats 4000000 in
set_option maxRecDepth 100000 in
theorem c_X4_firstFault {l : Launch} {G : kG} (sz : Nat) {q_t : Nat} {q_t_letters : Nat} {t_length : Int32} {q_t_draft : Nat} {t_rowsEnded : Int32} {t_rowLength : Int32} {t_rowSum : Int32} {t_letters : Nat → Int32} {t_draft_size : Int32} {q_t_draft_corners : Nat} {t_draft_corners : Nat → Int32} {res : Int32 × Int32 × Int32 × Int32 × Int32 × (Nat → Int32)} (hE : S_X4_firstFault t_length t_letters t_draft_corners = some res) : Met l yX4_firstFault wsX4_firstFault ({ frames := 4, cells := 0, slots := 0, locals := 88 }) (va_Pc [.ref q_t] (fun U => U.heap.size = sz ∧ va_P G.1 vwCl [oX4 q_t q_t_letters t_length q_t_draft t_rowsEnded t_rowLength t_rowSum, aI (G.2 0) q_t_letters 200 t_letters, oX3 q_t_draft t_draft_size q_t_draft_corners, aI (G.2 1) q_t_draft_corners 49 t_draft_corners] U.heap ∧ kw G U ∧ va_D (fun _ => True) [oX4 q_t q_t_letters t_length q_t_draft t_rowsEnded t_rowLength t_rowSum, aI (G.2 0) q_t_letters 200 t_letters, oX3 q_t_draft t_draft_size q_t_draft_corners, aI (G.2 1) q_t_draft_corners 49 t_draft_corners])) (va_Qi (fun r (_ : Unit) => r = res.1) (fun _ t => va_P G.1 vwCl [oX4 q_t q_t_letters t_length q_t_draft res.2.1 res.2.2.1 res.2.2.2.1, aI (G.2 0) q_t_letters 200 t_letters, oX3 q_t_draft res.2.2.2.2.1 q_t_draft_corners, aI (G.2 1) q_t_draft_corners 49 res.2.2.2.2.2] t.heap ∧ va_D (va_A [oX4 q_t q_t_letters t_length q_t_draft t_rowsEnded t_rowLength t_rowSum, aI (G.2 0) q_t_letters 200 t_letters, oX3 q_t_draft t_draft_size q_t_draft_corners, aI (G.2 1) q_t_draft_corners 49 t_draft_corners] sz) [oX4 q_t q_t_letters t_length q_t_draft res.2.1 res.2.2.1 res.2.2.2.1, aI (G.2 0) q_t_letters 200 t_letters, oX3 q_t_draft res.2.2.2.2.1 q_t_draft_corners, aI (G.2 1) q_t_draft_corners 49 res.2.2.2.2.2]) (va_A [oX4 q_t q_t_letters t_length q_t_draft t_rowsEnded t_rowLength t_rowSum, aI (G.2 0) q_t_letters 200 t_letters, oX3 q_t_draft t_draft_size q_t_draft_corners, aI (G.2 1) q_t_draft_corners 49 t_draft_corners] sz)) 0 0 (va_A [oX4 q_t q_t_letters t_length q_t_draft t_rowsEnded t_rowLength t_rowSum, aI (G.2 0) q_t_letters 200 t_letters, oX3 q_t_draft t_draft_size q_t_draft_corners, aI (G.2 1) q_t_draft_corners 49 t_draft_corners] sz) := by
  refine Met.ofQ (cc := cX4_firstFault) (maxL := 2) (ret := (some .int)) (by decide) rfl ?_
  intro p e s m args below meth c s₁ Q hQ B hml hv
  obtain ⟨rfl, hsz, hP, hKW, hD0⟩ := hv
  have hK := hKW.1
  have hx := B.exec
  have hb := B.bytes
  have hr := B.returns
  have hts := atoms_spec (ws := wsX4_firstFault) B.pre
  have hown : s.vm.findClass RX4 = some m.cls := findClass_of_methodNamed B.named
  have hlocks := B.notSynchronized
  have iX3 : ∀ w ∈ u_ws RX3 TX3 2, w ∈ wsX4_firstFault := by decide +kernel
  have iX4 : ∀ w ∈ u_ws RX4 TX4 6, w ∈ wsX4_firstFault := by decide +kernel
  have fl_18 := hts (.fieldLink RX4 18 "AlternateSigns$Text" "draft" "LAlternateSigns$Table;") (by decide +kernel)
  have fl_26 := hts (.fieldLink RX4 26 "AlternateSigns$Table" "size" "I") (by decide +kernel)
  have fl_29 := hts (.fieldLink RX4 29 "AlternateSigns$Text" "rowsEnded" "I") (by decide +kernel)
  have fl_22 := hts (.fieldLink RX4 22 "AlternateSigns$Text" "length" "I") (by decide +kernel)
  have fl_9 := hts (.fieldLink RX4 9 "AlternateSigns$Text" "letters" "[C") (by decide +kernel)
  subst hsz
  have hD := hD0.self (sz := s.heap.size)
  generalize hAe : va_A [oX4 q_t q_t_letters t_length q_t_draft t_rowsEnded t_rowLength t_rowSum, aI (G.2 0) q_t_letters 200 t_letters, oX3 q_t_draft t_draft_size q_t_draft_corners, aI (G.2 1) q_t_draft_corners 49 t_draft_corners] s.heap.size = A at hD hQ
  have hA : ∀ q : Nat, s.heap.size ≤ q → A q := fun q h => by rw [← hAe]; exact Or.inr h
  have hS : va_S A s.heap s.heap [] := va_S.rf
  have hl := lv_entry ([.ref q_t]) (n := 2) (Nat.le_of_ble_eq_true rfl)
  rw [lg_entry_eq]
  generalize (lg_sl ([.ref q_t]) ++ List.replicate (2 - (lg_sl ([.ref q_t])).length) Slot.unset).toArray = ls at hl ⊢
  have hl : lv_has ls 2 [(0, .ref q_t)] := hl
  unfold S_X4_firstFault at hE
  refine lv_aload_n hx hb dX4_firstFault_0 rfl (lv_at hl 0 rfl) ?_
  refine va_get (D := G.1) (ci := 4) (v := .ref q_t_draft) (C := RX4) (T := TX4) (N := 6) hx hb hts iX4 hown hK hP 0 rfl rfl 2 (by decide) fl_18 (fun _ h9 => h9) rfl dX4_firstFault_1 ?_
  refine lv_iconst (v := 0) hx hb dX4_firstFault_4 (by decide) ?_
  refine va_put (D := G.1) (ci := 3) (v := .int (0 : Int32)) (ty := .int) (C := RX3) (T := TX3) (N := 2) hx hb hts iX3 tyX3 tyX3_ok nmX3 hown hK hP hD hS 2 rfl rfl 0 (by decide) fl_26 (fun _ h9 => h9) rfl (by decide +kernel) rfl rfl (Nat.le_of_ble_eq_true rfl) dX4_firstFault_5 (fun H locs hP hD hS => ?_)
  have hP : va_P G.1 vwCl [oX4 q_t q_t_letters t_length q_t_draft t_rowsEnded t_rowLength t_rowSum, aI (G.2 0) q_t_letters 200 t_letters, oX3 q_t_draft (0 : Int32) q_t_draft_corners, aI (G.2 1) q_t_draft_corners 49 t_draft_corners] H := hP
  have hD : va_D A [oX4 q_t q_t_letters t_length q_t_draft t_rowsEnded t_rowLength t_rowSum, aI (G.2 0) q_t_letters 200 t_letters, oX3 q_t_draft (0 : Int32) q_t_draft_corners, aI (G.2 1) q_t_draft_corners 49 t_draft_corners] := hD
  refine lv_aload_n hx hb dX4_firstFault_8 rfl (lv_at hl 0 rfl) ?_
  refine lv_iconst (v := 0) hx hb dX4_firstFault_9 (by decide) ?_
  refine va_put (D := G.1) (ci := 4) (v := .int (0 : Int32)) (ty := .int) (C := RX4) (T := TX4) (N := 6) hx hb hts iX4 tyX4 tyX4_ok nmX4 hown hK hP hD hS 0 rfl rfl 3 (by decide) fl_29 (fun _ h9 => h9) rfl (by decide +kernel) rfl rfl (Nat.le_of_ble_eq_true rfl) dX4_firstFault_10 (fun H locs hP hD hS => ?_)
  have hP : va_P G.1 vwCl [oX4 q_t q_t_letters t_length q_t_draft (0 : Int32) t_rowLength t_rowSum, aI (G.2 0) q_t_letters 200 t_letters, oX3 q_t_draft (0 : Int32) q_t_draft_corners, aI (G.2 1) q_t_draft_corners 49 t_draft_corners] H := hP
  have hD : va_D A [oX4 q_t q_t_letters t_length q_t_draft (0 : Int32) t_rowLength t_rowSum, aI (G.2 0) q_t_letters 200 t_letters, oX3 q_t_draft (0 : Int32) q_t_draft_corners, aI (G.2 1) q_t_draft_corners 49 t_draft_corners] := hD
  refine lv_aload_n hx hb dX4_firstFault_13 rfl (lv_at hl 0 rfl) ?_
  obtain ⟨y14, hC_14, hE⟩ := Option.bind_eq_some_iff.mp hE
  obtain ⟨m_14_0, m_14_1⟩ := y14
  try dsimp only at hE
  have hPc := hP.sub (ws' := [oX4 q_t q_t_letters t_length q_t_draft (0 : Int32) t_rowLength t_rowSum]) [0] rfl
  have hDc := hD.sub (ws' := [oX4 q_t q_t_letters t_length q_t_draft (0 : Int32) t_rowLength t_rowSum]) [0] (by decide) rfl
  have hFc := va_free (wc := [oX4 q_t q_t_letters t_length q_t_draft (0 : Int32) t_rowLength t_rowSum]) hD hS hA [0] rfl
  refine va_callv (va_runV (As := []) (rest := []) ⟨hx, hb, hml, hown, hts⟩ (c_X4_startRow (l := l) (G := G) _ (q_t := q_t) (q_t_letters := q_t_letters) (t_length := t_length) (q_t_draft := q_t_draft) (t_rowsEnded := (0 : Int32)) (t_rowLength := t_rowLength) (t_rowSum := t_rowSum) hC_14) (cwV 0 hts gX4_firstFault_X4_startRow rfl rfl rfl kd_X4_startRow ⟨Nat.le_of_ble_eq_true rfl, Nat.le_of_ble_eq_true rfl⟩) (iv_V hKW hPc hDc (ci := 4) (q0 := 0) rfl rfl) rfl rfl hl.1 rfl (lv_room (Nat.le_of_ble_eq_true rfl)) dX4_firstFault_14 ⟨Nat.zero_le _, Nat.zero_le _⟩) hS (fun q _ h => hFc q h) hFc (fun u9 t9 H1 locs ht9 hvm9 hw9 hB9 hz9 hk9 hS => ?_)
  obtain ⟨hP1, hD1⟩ := hB9
  rw [ht9] at hP1
  obtain ⟨hP, hD⟩ := va_join (wr := [aI (G.2 0) q_t_letters 200 t_letters, oX3 q_t_draft (0 : Int32) q_t_draft_corners, aI (G.2 1) q_t_draft_corners 49 t_draft_corners]) (w1 := [oX4 q_t q_t_letters t_length q_t_draft (0 : Int32) m_14_0 m_14_1]) hP hD [0] [1, 2, 3] rfl rfl (by decide) (by decide) hk9 hFc hP1 hD1
  have hP := hP.sub (ws' := [oX4 q_t q_t_letters t_length q_t_draft (0 : Int32) m_14_0 m_14_1, aI (G.2 0) q_t_letters 200 t_letters, oX3 q_t_draft (0 : Int32) q_t_draft_corners, aI (G.2 1) q_t_draft_corners 49 t_draft_corners]) [3, 0, 1, 2] rfl
  have hD := hD.sub (ws' := [oX4 q_t q_t_letters t_length q_t_draft (0 : Int32) m_14_0 m_14_1, aI (G.2 0) q_t_letters 200 t_letters, oX3 q_t_draft (0 : Int32) q_t_draft_corners, aI (G.2 1) q_t_draft_corners 49 t_draft_corners]) [3, 0, 1, 2] (by decide) rfl
  clear hPc hDc hFc hP1 hD1 hk9 hz9 hvm9
  refine lv_iconst (v := 0) hx hb dX4_firstFault_17 (by decide) ?_
  refine lv_istore_n (lv' := [(1, .int (0 : Int32)), (0, .ref q_t)]) hx hb dX4_firstFault_18 rfl hl (by decide) rfl (fun ls hl => ?_)
  refine itr_ind (fun (x1 : Int32 × Int32 × Int32 × Int32 × Int32 × (Nat → Int32)) => ∀ (H : Heap) (locs : List Loc) (ls : Array Slot), va_P G.1 vwCl [oX4 q_t q_t_letters t_length q_t_draft x1.2.1 x1.2.2.1 x1.2.2.2.1, aI (G.2 0) q_t_letters 200 t_letters, oX3 q_t_draft x1.2.2.2.2.1 q_t_draft_corners, aI (G.2 1) q_t_draft_corners 49 x1.2.2.2.2.2] H → va_D A [oX4 q_t q_t_letters t_length q_t_draft x1.2.1 x1.2.2.1 x1.2.2.2.1, aI (G.2 0) q_t_letters 200 t_letters, oX3 q_t_draft x1.2.2.2.2.1 q_t_draft_corners, aI (G.2 1) q_t_draft_corners 49 x1.2.2.2.2.2] → va_S A s.heap H locs → lv_has ls 2 [(0, .ref q_t), (1, .int x1.1)] → W p l e (headSpec wsX4_firstFault ({ frames := 4, cells := 0, slots := 0, locals := 88 })).room s m ([.ref q_t] : List Value).toArray below meth c H locs 0 0 Q (F0 m 19 ls [])) (fun x1 o_1 hE ih_1 hr_1 => ?_) _ _ hE _ _ ls hP hD hS (lv_sub hl [1, 0] rfl)
  obtain ⟨v1_1, w_t_rowsEnded_1, w_t_rowLength_1, w_t_rowSum_1, w_t_draft_size_1, w_t_draft_corners_1⟩ := x1
  try dsimp only at hE
  intro H locs ls hP hD hS hl
  try dsimp only at hP hD hl ⊢
  refine lv_iload_n hx hb dX4_firstFault_19 rfl (lv_at hl 1 rfl) ?_
  refine lv_aload_n hx hb dX4_firstFault_20 rfl (lv_at hl 0 rfl) ?_
  refine va_get (D := G.1) (ci := 4) (v := .int t_length) (C := RX4) (T := TX4) (N := 6) hx hb hts iX4 hown hK hP 0 rfl rfl 1 (by decide) fl_22 (fun _ h9 => h9) rfl dX4_firstFault_21 ?_
  refine lv_icmp_ge (tgt := 48) hx hb dX4_firstFault_24 (by decide) (fun c_24 => ?_) (fun c_24 => ?_)
  · replace hE := (if_pos c_24).symm.trans hE
    refine lv_aload_n hx hb dX4_firstFault_48 rfl (lv_at hl 0 rfl) ?_
    obtain ⟨y49, hC_49, hE⟩ := Option.bind_eq_some_iff.mp hE
    obtain ⟨r_49, ex9⟩ : ∃ z, z = y49 := ⟨_, rfl⟩
    subst ex9
    try dsimp only at hE
    refine vp_callSi (va_Run.run (va_runV (As := []) (rest := []) ⟨hx, hb, hml, hown, hts⟩ (c_X4_isWhole (l := l) (G := G) (q_t := q_t) (q_t_letters := q_t_letters) (t_length := t_length) (q_t_draft := q_t_draft) (t_rowsEnded := w_t_rowsEnded_1) (t_rowLength := w_t_rowLength_1) (t_rowSum := w_t_rowSum_1) (t_draft_size := w_t_draft_size_1) (q_t_draft_corners := q_t_draft_corners) hC_49) (cwV 0 hts gX4_firstFault_X4_isWhole rfl rfl rfl kd_X4_isWhole ⟨Nat.le_of_ble_eq_true rfl, Nat.le_of_ble_eq_true rfl⟩) (pv_V hKW (hP.sub (ws' := [oX4 q_t q_t_letters t_length q_t_draft w_t_rowsEnded_1 w_t_rowLength_1 w_t_rowSum_1, oX3 q_t_draft w_t_draft_size_1 q_t_draft_corners]) [0, 2] rfl) (ci := 4) (q0 := 0) rfl rfl) rfl rfl hl.1 rfl (lv_room (Nat.le_of_ble_eq_true rfl)) dX4_firstFault_49 ⟨Nat.zero_le _, Nat.zero_le _⟩)) (fun r9 hr9 => ?_)
    subst r9
    refine lv_if_eq (tgt := 60) hx hb dX4_firstFault_52 (by decide) (fun c_52 => ?_) (fun c_52 => ?_)
    · replace hE := (if_pos c_52).symm.trans hE
      refine lv_aload_n hx hb dX4_firstFault_60 rfl (lv_at hl 0 rfl) ?_
      refine va_get (D := G.1) (ci := 4) (v := .int t_length) (C := RX4) (T := TX4) (N := 6) hx hb hts iX4 hown hK hP 0 rfl rfl 1 (by decide) fl_22 (fun _ h9 => h9) rfl dX4_firstFault_61 ?_
      have e_1 := Option.some.inj hE
      have e_0 := hr_1 _ e_1.symm
      subst e_0
      rw [hQ]
      exact W.iret (v := t_length) hx hb hr (fun t ht _ => ⟨⟨_, (), rfl, rfl, by rw [ht]; exact hP, hD⟩, hS.F ht⟩) hS.2.2 dX4_firstFault_64
    · replace hE := (if_neg c_52).symm.trans hE
      refine lv_bipush (v := -4) hx hb dX4_firstFault_55 (by decide) ?_
      refine lv_goto (tgt := 64) hx hb dX4_firstFault_57 (by decide) ?_
      have e_1 := Option.some.inj hE
      have e_0 := hr_1 _ e_1.symm
      subst e_0
      rw [hQ]
      exact W.iret (v := (-4 : Int32)) hx hb hr (fun t ht _ => ⟨⟨_, (), rfl, rfl, by rw [ht]; exact hP, hD⟩, hS.F ht⟩) hS.2.2 dX4_firstFault_64
  · replace hE := (if_neg c_24).symm.trans hE
    refine lv_aload_n hx hb dX4_firstFault_27 rfl (lv_at hl 0 rfl) ?_
    refine lv_aload_n hx hb dX4_firstFault_28 rfl (lv_at hl 0 rfl) ?_
    refine va_get (D := G.1) (ci := 4) (v := .ref q_t_letters) (C := RX4) (T := TX4) (N := 6) hx hb hts iX4 hown hK hP 0 rfl rfl 0 (by decide) fl_9 (fun _ h9 => h9) rfl dX4_firstFault_29 ?_
    refine lv_iload_n hx hb dX4_firstFault_32 rfl (lv_at hl 1 rfl) ?_
    obtain ⟨hi_33, hE⟩ := ck_some hE
    refine va_cald hx hb hK hP 1 0 rfl rfl (inb_in hi_33) dX4_firstFault_33 ?_
    obtain ⟨y34, hC_34, hE⟩ := Option.bind_eq_some_iff.mp hE
    obtain ⟨r_34, m_34_0, m_34_1, m_34_2, m_34_3, m_34_4⟩ := y34
    try dsimp only at hE
    have hPc := hP.sub (ws' := [oX4 q_t q_t_letters t_length q_t_draft w_t_rowsEnded_1 w_t_rowLength_1 w_t_rowSum_1, oX3 q_t_draft w_t_draft_size_1 q_t_draft_corners, aI (G.2 1) q_t_draft_corners 49 w_t_draft_corners_1]) [0, 2, 3] rfl
    have hDc := hD.sub (ws' := [oX4 q_t q_t_letters t_length q_t_draft w_t_rowsEnded_1 w_t_rowLength_1 w_t_rowSum_1, oX3 q_t_draft w_t_draft_size_1 q_t_draft_corners, aI (G.2 1) q_t_draft_corners 49 w_t_draft_corners_1]) [0, 2, 3] (by decide) rfl
    have hFc := va_free (wc := [oX4 q_t q_t_letters t_length q_t_draft w_t_rowsEnded_1 w_t_rowLength_1 w_t_rowSum_1, oX3 q_t_draft w_t_draft_size_1 q_t_draft_corners, aI (G.2 1) q_t_draft_corners 49 w_t_draft_corners_1]) hD hS hA [0, 2, 3] rfl
    refine va_calli (va_runV (As := [.int (t_letters v1_1.toNatClampNeg)]) (rest := []) ⟨hx, hb, hml, hown, hts⟩ (c_X4_canStand (l := l) (G := G) _ (p1 := t_letters v1_1.toNatClampNeg) (q_t := q_t) (q_t_letters := q_t_letters) (t_length := t_length) (q_t_draft := q_t_draft) (t_rowsEnded := w_t_rowsEnded_1) (t_rowLength := w_t_rowLength_1) (t_rowSum := w_t_rowSum_1) (t_draft_size := w_t_draft_size_1) (q_t_draft_corners := q_t_draft_corners) (t_draft_corners := w_t_draft_corners_1) hC_34) (cwV 1 hts gX4_firstFault_X4_canStand rfl rfl rfl kd_X4_canStand ⟨Nat.le_of_ble_eq_true rfl, Nat.le_of_ble_eq_true rfl⟩) (iv_V hKW hPc hDc (ci := 4) (q0 := 0) rfl rfl) rfl rfl hl.1 rfl (lv_room (Nat.le_of_ble_eq_true rfl)) dX4_firstFault_34 ⟨Nat.zero_le _, Nat.zero_le _⟩) hS (fun q _ h => hFc q h) hFc (fun r9 u9 t9 H1 locs ht9 hvm9 hw9 hB9 hz9 hk9 hS => ?_)
    subst r9
    obtain ⟨hP1, hD1⟩ := hB9
    rw [ht9] at hP1
    obtain ⟨hP, hD⟩ := va_join (wr := [aI (G.2 0) q_t_letters 200 t_letters]) (w1 := [oX4 q_t q_t_letters t_length q_t_draft m_34_0 m_34_1 m_34_2, oX3 q_t_draft m_34_3 q_t_draft_corners, aI (G.2 1) q_t_draft_corners 49 m_34_4]) hP hD [0, 2, 3] [1] rfl rfl (by decide) (by decide) hk9 hFc hP1 hD1
    have hP := hP.sub (ws' := [oX4 q_t q_t_letters t_length q_t_draft m_34_0 m_34_1 m_34_2, aI (G.2 0) q_t_letters 200 t_letters, oX3 q_t_draft m_34_3 q_t_draft_corners, aI (G.2 1) q_t_draft_corners 49 m_34_4]) [1, 0, 2, 3] rfl
    have hD := hD.sub (ws' := [oX4 q_t q_t_letters t_length q_t_draft m_34_0 m_34_1 m_34_2, aI (G.2 0) q_t_letters 200 t_letters, oX3 q_t_draft m_34_3 q_t_draft_corners, aI (G.2 1) q_t_draft_corners 49 m_34_4]) [1, 0, 2, 3] (by decide) rfl
    clear hPc hDc hFc hP1 hD1 hk9 hz9 hvm9
    refine lv_if_ne (tgt := 42) hx hb dX4_firstFault_37 (by decide) (fun c_37 => ?_) (fun c_37 => ?_)
    · replace hE := (if_neg c_37).symm.trans hE
      refine lv_iinc (v := v1_1 + (1 : Int32)) (lv' := [(1, .int (v1_1 + (1 : Int32))), (0, .ref q_t)]) hx hb dX4_firstFault_42 hl (k := 1) rfl rfl (by decide) rfl (fun ls hl => ?_)
      refine lv_goto (tgt := 19) hx hb dX4_firstFault_45 (by decide) ?_
      have e_1 := Option.some.inj hE
      exact ih_1 _ e_1.symm _ _ ls hP hD hS (lv_sub hl [1, 0] rfl)
    · replace hE := (if_pos c_37).symm.trans hE
      refine lv_iload_n hx hb dX4_firstFault_40 rfl (lv_at hl 1 rfl) ?_
      have e_1 := Option.some.inj hE
      have e_0 := hr_1 _ e_1.symm
      subst e_0
      rw [hQ]
      exact W.iret (v := v1_1) hx hb hr (fun t ht _ => ⟨⟨_, (), rfl, rfl, by rw [ht]; exact hP, hD⟩, hS.F ht⟩) hS.2.2 dX4_firstFault_41
