def S_X5_write (p1 : Int32) (t_text_length : Int32) (t_text_letters : Nat → Int32) : Option (Int32 × Int32 × (Nat → Int32)) := if p1 < (32 : Int32) then some ((-1 : Int32), t_text_length, t_text_letters) else if p1 ≤ (126 : Int32) then if t_text_length < (200 : Int32) then (S_X4_add ((p1.toUInt32 % 65536).toInt32) t_text_length t_text_letters).bind (fun (y36 : Int32 × (Nat → Int32)) => some (y36.1, y36.1, y36.2)) else some ((-3 : Int32), t_text_length, t_text_letters) else some ((-1 : Int32), t_text_length, t_text_letters)
theorem kd_X5_write : yX5_write.cls = RX5 ∧ yX5_write.cls ≠ "java/lang/invoke/MethodHandle" ∧ yX5_write.cls ≠ "java/lang/invoke/VarHandle" ∧ (parseMethodDescriptor yX5_write.desc).map (fun d => d.parameters.length) = some 1 := by decide +kernel
set_option maxHeartbeats 4000000 in
set_option maxRecDepth 100000 in
theorem c_X5_write {l : Launch} {G : kG} (sz : Nat) {p1 : Int32} {q_t : Nat} {q_t_text : Nat} {q_t_table : Nat} {q_t_other : Nat} {q_t_spare : Nat} {q_t_past : Nat} {q_t_lines : Nat} {q_t_sizes : Nat} {q_t_text_letters : Nat} {t_text_length : Int32} {q_t_text_draft : Nat} {t_text_rowsEnded : Int32} {t_text_rowLength : Int32} {t_text_rowSum : Int32} {t_text_letters : Nat → Int32} {res : Int32 × Int32 × (Nat → Int32)} (hE : S_X5_write p1 t_text_length t_text_letters = some res) : Met l yX5_write wsX5_write ({ frames := 1, cells := 0, slots := 0, locals := 21 }) (va_Pc [.ref q_t, .int p1] (fun U => U.heap.size = sz ∧ va_P G.1 vwCl [oX5 q_t q_t_text q_t_table q_t_other q_t_spare q_t_past q_t_lines q_t_sizes, oX4 q_t_text q_t_text_letters t_text_length q_t_text_draft t_text_rowsEnded t_text_rowLength t_text_rowSum, aI (G.2 0) q_t_text_letters 200 t_text_letters] U.heap ∧ kw G U ∧ va_D (fun _ => True) [oX5 q_t q_t_text q_t_table q_t_other q_t_spare q_t_past q_t_lines q_t_sizes, oX4 q_t_text q_t_text_letters t_text_length q_t_text_draft t_text_rowsEnded t_text_rowLength t_text_rowSum, aI (G.2 0) q_t_text_letters 200 t_text_letters])) (va_Qi (fun r (_ : Unit) => r = res.1) (fun _ t => va_P G.1 vwCl [oX5 q_t q_t_text q_t_table q_t_other q_t_spare q_t_past q_t_lines q_t_sizes, oX4 q_t_text q_t_text_letters res.2.1 q_t_text_draft t_text_rowsEnded t_text_rowLength t_text_rowSum, aI (G.2 0) q_t_text_letters 200 res.2.2] t.heap ∧ va_D (va_A [oX5 q_t q_t_text q_t_table q_t_other q_t_spare q_t_past q_t_lines q_t_sizes, oX4 q_t_text q_t_text_letters t_text_length q_t_text_draft t_text_rowsEnded t_text_rowLength t_text_rowSum, aI (G.2 0) q_t_text_letters 200 t_text_letters] sz) [oX5 q_t q_t_text q_t_table q_t_other q_t_spare q_t_past q_t_lines q_t_sizes, oX4 q_t_text q_t_text_letters res.2.1 q_t_text_draft t_text_rowsEnded t_text_rowLength t_text_rowSum, aI (G.2 0) q_t_text_letters 200 res.2.2]) (va_A [oX5 q_t q_t_text q_t_table q_t_other q_t_spare q_t_past q_t_lines q_t_sizes, oX4 q_t_text q_t_text_letters t_text_length q_t_text_draft t_text_rowsEnded t_text_rowLength t_text_rowSum, aI (G.2 0) q_t_text_letters 200 t_text_letters] sz)) 0 0 (va_A [oX5 q_t q_t_text q_t_table q_t_other q_t_spare q_t_past q_t_lines q_t_sizes, oX4 q_t_text q_t_text_letters t_text_length q_t_text_draft t_text_rowsEnded t_text_rowLength t_text_rowSum, aI (G.2 0) q_t_text_letters 200 t_text_letters] sz) := by
  refine Met.ofQ (cc := cX5_write) (maxL := 2) (ret := (some .int)) (by decide) rfl ?_
  intro p e s m args below meth c s₁ Q hQ B hml hv
  obtain ⟨rfl, hsz, hP, hKW, hD0⟩ := hv
  have hK := hKW.1
  have hx := B.exec
  have hb := B.bytes
  have hr := B.returns
  have hts := atoms_spec (ws := wsX5_write) B.pre
  have hown : s.vm.findClass RX5 = some m.cls := findClass_of_methodNamed B.named
  have hlocks := B.notSynchronized
  have iX4 : ∀ w ∈ u_ws RX4 TX4 6, w ∈ wsX5_write := by decide +kernel
  have iX5 : ∀ w ∈ u_ws RX5 TX5 7, w ∈ wsX5_write := by decide +kernel
  have fl_12 := hts (.fieldLink RX5 12 "AlternateSigns" "text" "LAlternateSigns$Text;") (by decide +kernel)
  have fl_78 := hts (.fieldLink RX5 78 "AlternateSigns$Text" "length" "I") (by decide +kernel)
  subst hsz
  have hD := hD0.self (sz := s.heap.size)
  generalize hAe : va_A [oX5 q_t q_t_text q_t_table q_t_other q_t_spare q_t_past q_t_lines q_t_sizes, oX4 q_t_text q_t_text_letters t_text_length q_t_text_draft t_text_rowsEnded t_text_rowLength t_text_rowSum, aI (G.2 0) q_t_text_letters 200 t_text_letters] s.heap.size = A at hD hQ
  have hA : ∀ q : Nat, s.heap.size ≤ q → A q := fun q h => by rw [← hAe]; exact Or.inr h
  have hS : va_S A s.heap s.heap [] := va_S.rf
  have hl := lv_entry ([.ref q_t, .int p1]) (n := 2) (Nat.le_of_ble_eq_true rfl)
  rw [lg_entry_eq]
  generalize (lg_sl ([.ref q_t, .int p1]) ++ List.replicate (2 - (lg_sl ([.ref q_t, .int p1])).length) Slot.unset).toArray = ls at hl ⊢
  have hl : lv_has ls 2 [(0, .ref q_t), (1, .int p1)] := hl
  unfold S_X5_write at hE
  refine lv_iload_n hx hb dX5_write_0 rfl (lv_at hl 1 rfl) ?_
  refine lv_bipush (v := 32) hx hb dX5_write_1 (by decide) ?_
  refine lv_icmp_lt (tgt := 12) hx hb dX5_write_3 (by decide) (fun c_3 => ?_) (fun c_3 => ?_)
  · replace hE := (if_pos c_3).symm.trans hE
    refine lv_iconst (v := -1) hx hb dX5_write_12 (by decide) ?_
    have e_0 := Option.some.inj hE
    subst e_0
    rw [hQ]
    exact W.iret (v := (-1 : Int32)) hx hb hr (fun t ht _ => ⟨⟨_, (), rfl, rfl, by rw [ht]; exact hP, hD⟩, hS.F ht⟩) hS.2.2 dX5_write_13
  · replace hE := (if_neg c_3).symm.trans hE
    refine lv_iload_n hx hb dX5_write_6 rfl (lv_at hl 1 rfl) ?_
    refine lv_bipush (v := 126) hx hb dX5_write_7 (by decide) ?_
    refine lv_icmp_le (tgt := 14) hx hb dX5_write_9 (by decide) (fun c_9 => ?_) (fun c_9 => ?_)
    · replace hE := (if_pos c_9).symm.trans hE
      refine lv_aload_n hx hb dX5_write_14 rfl (lv_at hl 0 rfl) ?_
      refine va_get (D := G.1) (ci := 5) (v := .ref q_t_text) (C := RX5) (T := TX5) (N := 7) hx hb hts iX5 hown hK hP 0 rfl rfl 0 (by decide) fl_12 (fun _ h9 => h9) rfl dX5_write_15 ?_
      refine va_get (D := G.1) (ci := 4) (v := .int t_text_length) (C := RX4) (T := TX4) (N := 6) hx hb hts iX4 hown hK hP 1 rfl rfl 1 (by decide) fl_78 (fun _ h9 => h9) rfl dX5_write_18 ?_
      refine lv_sipush (v := 200) hx hb dX5_write_21 (by decide) ?_
      refine lv_icmp_lt (tgt := 30) hx hb dX5_write_24 (by decide) (fun c_24 => ?_) (fun c_24 => ?_)
      · replace hE := (if_pos c_24).symm.trans hE
        refine lv_aload_n hx hb dX5_write_30 rfl (lv_at hl 0 rfl) ?_
        refine va_get (D := G.1) (ci := 5) (v := .ref q_t_text) (C := RX5) (T := TX5) (N := 7) hx hb hts iX5 hown hK hP 0 rfl rfl 0 (by decide) fl_12 (fun _ h9 => h9) rfl dX5_write_31 ?_
        refine lv_iload_n hx hb dX5_write_34 rfl (lv_at hl 1 rfl) ?_
        refine lv_i2c (v := (p1.toUInt32 % 65536).toInt32) hx hb dX5_write_35 rfl ?_
        obtain ⟨y36, hC_36, hE⟩ := Option.bind_eq_some_iff.mp hE
        obtain ⟨m_36_0, m_36_1⟩ := y36
        try dsimp only at hE
        have hPc := hP.sub (ws' := [oX4 q_t_text q_t_text_letters t_text_length q_t_text_draft t_text_rowsEnded t_text_rowLength t_text_rowSum, aI (G.2 0) q_t_text_letters 200 t_text_letters]) [1, 2] rfl
        have hDc := hD.sub (ws' := [oX4 q_t_text q_t_text_letters t_text_length q_t_text_draft t_text_rowsEnded t_text_rowLength t_text_rowSum, aI (G.2 0) q_t_text_letters 200 t_text_letters]) [1, 2] (by decide) rfl
        have hFc := va_free (wc := [oX4 q_t_text q_t_text_letters t_text_length q_t_text_draft t_text_rowsEnded t_text_rowLength t_text_rowSum, aI (G.2 0) q_t_text_letters 200 t_text_letters]) hD hS hA [1, 2] rfl
        refine va_callv (va_runV (As := [.int ((p1.toUInt32 % 65536).toInt32)]) (rest := []) ⟨hx, hb, hml, hown, hts⟩ (c_X4_add (l := l) (G := G) _ (p1 := (p1.toUInt32 % 65536).toInt32) (q_t := q_t_text) (q_t_letters := q_t_text_letters) (t_length := t_text_length) (q_t_draft := q_t_text_draft) (t_rowsEnded := t_text_rowsEnded) (t_rowLength := t_text_rowLength) (t_rowSum := t_text_rowSum) (t_letters := t_text_letters) hC_36) (cwV 1 hts gX5_write_X4_add rfl rfl rfl kd_X4_add ⟨Nat.le_of_ble_eq_true rfl, Nat.le_of_ble_eq_true rfl⟩) (iv_V hKW hPc hDc (ci := 4) (q0 := 0) rfl rfl) rfl rfl hl.1 rfl (lv_room (Nat.le_of_ble_eq_true rfl)) dX5_write_36 ⟨Nat.zero_le _, Nat.zero_le _⟩) hS (fun q _ h => hFc q h) hFc (fun u9 t9 H1 locs ht9 hvm9 hw9 hB9 hz9 hk9 hS => ?_)
        obtain ⟨hP1, hD1⟩ := hB9
        rw [ht9] at hP1
        obtain ⟨hP, hD⟩ := va_join (wr := [oX5 q_t q_t_text q_t_table q_t_other q_t_spare q_t_past q_t_lines q_t_sizes]) (w1 := [oX4 q_t_text q_t_text_letters m_36_0 q_t_text_draft t_text_rowsEnded t_text_rowLength t_text_rowSum, aI (G.2 0) q_t_text_letters 200 m_36_1]) hP hD [1, 2] [0] rfl rfl (by decide) (by decide) hk9 hFc hP1 hD1
        have hP := hP.sub (ws' := [oX5 q_t q_t_text q_t_table q_t_other q_t_spare q_t_past q_t_lines q_t_sizes, oX4 q_t_text q_t_text_letters m_36_0 q_t_text_draft t_text_rowsEnded t_text_rowLength t_text_rowSum, aI (G.2 0) q_t_text_letters 200 m_36_1]) [0, 1, 2] rfl
        have hD := hD.sub (ws' := [oX5 q_t q_t_text q_t_table q_t_other q_t_spare q_t_past q_t_lines q_t_sizes, oX4 q_t_text q_t_text_letters m_36_0 q_t_text_draft t_text_rowsEnded t_text_rowLength t_text_rowSum, aI (G.2 0) q_t_text_letters 200 m_36_1]) [0, 1, 2] (by decide) rfl
        clear hPc hDc hFc hP1 hD1 hk9 hz9 hvm9
        refine lv_aload_n hx hb dX5_write_39 rfl (lv_at hl 0 rfl) ?_
        refine va_get (D := G.1) (ci := 5) (v := .ref q_t_text) (C := RX5) (T := TX5) (N := 7) hx hb hts iX5 hown hK hP 0 rfl rfl 0 (by decide) fl_12 (fun _ h9 => h9) rfl dX5_write_40 ?_
        refine va_get (D := G.1) (ci := 4) (v := .int m_36_0) (C := RX4) (T := TX4) (N := 6) hx hb hts iX4 hown hK hP 1 rfl rfl 1 (by decide) fl_78 (fun _ h9 => h9) rfl dX5_write_43 ?_
        have e_0 := Option.some.inj hE
        subst e_0
        rw [hQ]
        exact W.iret (v := m_36_0) hx hb hr (fun t ht _ => ⟨⟨_, (), rfl, rfl, by rw [ht]; exact hP, hD⟩, hS.F ht⟩) hS.2.2 dX5_write_46
      · replace hE := (if_neg c_24).symm.trans hE
        refine lv_bipush (v := -3) hx hb dX5_write_27 (by decide) ?_
        have e_0 := Option.some.inj hE
        subst e_0
        rw [hQ]
        exact W.iret (v := (-3 : Int32)) hx hb hr (fun t ht _ => ⟨⟨_, (), rfl, rfl, by rw [ht]; exact hP, hD⟩, hS.F ht⟩) hS.2.2 dX5_write_29
    · replace hE := (if_neg c_9).symm.trans hE
      refine lv_iconst (v := -1) hx hb dX5_write_12 (by decide) ?_
      have e_0 := Option.some.inj hE
      subst e_0
      rw [hQ]
      exact W.iret (v := (-1 : Int32)) hx hb hr (fun t ht _ => ⟨⟨_, (), rfl, rfl, by rw [ht]; exact hP, hD⟩, hS.F ht⟩) hS.2.2 dX5_write_13
def S_X5_wipe (t_text_length : Int32) : Option (Int32 × Int32) := some (t_text_length, (0 : Int32))
theorem kd_X5_wipe : yX5_wipe.cls = RX5 ∧ yX5_wipe.cls ≠ "java/lang/invoke/MethodHandle" ∧ yX5_wipe.cls ≠ "java/lang/invoke/VarHandle" ∧ (parseMethodDescriptor yX5_wipe.desc).map (fun d => d.parameters.length) = some 0 := by decide +kernel
set_option maxHeartbeats 4000000 in
set_option maxRecDepth 100000 in
theorem c_X5_wipe {l : Launch} {G : kG} (sz : Nat) {q_t : Nat} {q_t_text : Nat} {q_t_table : Nat} {q_t_other : Nat} {q_t_spare : Nat} {q_t_past : Nat} {q_t_lines : Nat} {q_t_sizes : Nat} {q_t_text_letters : Nat} {t_text_length : Int32} {q_t_text_draft : Nat} {t_text_rowsEnded : Int32} {t_text_rowLength : Int32} {t_text_rowSum : Int32} {res : Int32 × Int32} (hE : S_X5_wipe t_text_length = some res) : Met l yX5_wipe wsX5_wipe ({ frames := 0, cells := 0, slots := 0, locals := 0 }) (va_Pc [.ref q_t] (fun U => U.heap.size = sz ∧ va_P G.1 vwCl [oX5 q_t q_t_text q_t_table q_t_other q_t_spare q_t_past q_t_lines q_t_sizes, oX4 q_t_text q_t_text_letters t_text_length q_t_text_draft t_text_rowsEnded t_text_rowLength t_text_rowSum] U.heap ∧ kw G U ∧ va_D (fun _ => True) [oX5 q_t q_t_text q_t_table q_t_other q_t_spare q_t_past q_t_lines q_t_sizes, oX4 q_t_text q_t_text_letters t_text_length q_t_text_draft t_text_rowsEnded t_text_rowLength t_text_rowSum])) (va_Qi (fun r (_ : Unit) => r = res.1) (fun _ t => va_P G.1 vwCl [oX5 q_t q_t_text q_t_table q_t_other q_t_spare q_t_past q_t_lines q_t_sizes, oX4 q_t_text q_t_text_letters res.2 q_t_text_draft t_text_rowsEnded t_text_rowLength t_text_rowSum] t.heap ∧ va_D (va_A [oX5 q_t q_t_text q_t_table q_t_other q_t_spare q_t_past q_t_lines q_t_sizes, oX4 q_t_text q_t_text_letters t_text_length q_t_text_draft t_text_rowsEnded t_text_rowLength t_text_rowSum] sz) [oX5 q_t q_t_text q_t_table q_t_other q_t_spare q_t_past q_t_lines q_t_sizes, oX4 q_t_text q_t_text_letters res.2 q_t_text_draft t_text_rowsEnded t_text_rowLength t_text_rowSum]) (va_A [oX5 q_t q_t_text q_t_table q_t_other q_t_spare q_t_past q_t_lines q_t_sizes, oX4 q_t_text q_t_text_letters t_text_length q_t_text_draft t_text_rowsEnded t_text_rowLength t_text_rowSum] sz)) 0 0 (va_A [oX5 q_t q_t_text q_t_table q_t_other q_t_spare q_t_past q_t_lines q_t_sizes, oX4 q_t_text q_t_text_letters t_text_length q_t_text_draft t_text_rowsEnded t_text_rowLength t_text_rowSum] sz) := by
  refine Met.ofQ (cc := cX5_wipe) (maxL := 2) (ret := (some .int)) (by decide) rfl ?_
  intro p e s m args below meth c s₁ Q hQ B hml hv
  obtain ⟨rfl, hsz, hP, hKW, hD0⟩ := hv
  have hK := hKW.1
  have hx := B.exec
  have hb := B.bytes
  have hr := B.returns
  have hts := atoms_spec (ws := wsX5_wipe) B.pre
  have hown : s.vm.findClass RX5 = some m.cls := findClass_of_methodNamed B.named
  have hlocks := B.notSynchronized
  have iX4 : ∀ w ∈ u_ws RX4 TX4 6, w ∈ wsX5_wipe := by decide +kernel
  have iX5 : ∀ w ∈ u_ws RX5 TX5 7, w ∈ wsX5_wipe := by decide +kernel
  have fl_12 := hts (.fieldLink RX5 12 "AlternateSigns" "text" "LAlternateSigns$Text;") (by decide +kernel)
  have fl_78 := hts (.fieldLink RX5 78 "AlternateSigns$Text" "length" "I") (by decide +kernel)
  subst hsz
  have hD := hD0.self (sz := s.heap.size)
  generalize hAe : va_A [oX5 q_t q_t_text q_t_table q_t_other q_t_spare q_t_past q_t_lines q_t_sizes, oX4 q_t_text q_t_text_letters t_text_length q_t_text_draft t_text_rowsEnded t_text_rowLength t_text_rowSum] s.heap.size = A at hD hQ
  have hA : ∀ q : Nat, s.heap.size ≤ q → A q := fun q h => by rw [← hAe]; exact Or.inr h
  have hS : va_S A s.heap s.heap [] := va_S.rf
  have hl := lv_entry ([.ref q_t]) (n := 2) (Nat.le_of_ble_eq_true rfl)
  rw [lg_entry_eq]
  generalize (lg_sl ([.ref q_t]) ++ List.replicate (2 - (lg_sl ([.ref q_t])).length) Slot.unset).toArray = ls at hl ⊢
  have hl : lv_has ls 2 [(0, .ref q_t)] := hl
  unfold S_X5_wipe at hE
  refine lv_aload_n hx hb dX5_wipe_0 rfl (lv_at hl 0 rfl) ?_
  refine va_get (D := G.1) (ci := 5) (v := .ref q_t_text) (C := RX5) (T := TX5) (N := 7) hx hb hts iX5 hown hK hP 0 rfl rfl 0 (by decide) fl_12 (fun _ h9 => h9) rfl dX5_wipe_1 ?_
  refine va_get (D := G.1) (ci := 4) (v := .int t_text_length) (C := RX4) (T := TX4) (N := 6) hx hb hts iX4 hown hK hP 1 rfl rfl 1 (by decide) fl_78 (fun _ h9 => h9) rfl dX5_wipe_4 ?_
  refine lv_istore_n (lv' := [(1, .int t_text_length), (0, .ref q_t)]) hx hb dX5_wipe_7 rfl hl (by decide) rfl (fun ls hl => ?_)
  refine lv_aload_n hx hb dX5_wipe_8 rfl (lv_at hl 1 rfl) ?_
  refine va_get (D := G.1) (ci := 5) (v := .ref q_t_text) (C := RX5) (T := TX5) (N := 7) hx hb hts iX5 hown hK hP 0 rfl rfl 0 (by decide) fl_12 (fun _ h9 => h9) rfl dX5_wipe_9 ?_
  refine lv_iconst (v := 0) hx hb dX5_wipe_12 (by decide) ?_
  refine va_put (D := G.1) (ci := 4) (v := .int (0 : Int32)) (ty := .int) (C := RX4) (T := TX4) (N := 6) hx hb hts iX4 tyX4 tyX4_ok nmX4 hown hK hP hD hS 1 rfl rfl 1 (by decide) fl_78 (fun _ h9 => h9) rfl (by decide +kernel) rfl rfl (Nat.le_of_ble_eq_true rfl) dX5_wipe_13 (fun H locs hP hD hS => ?_)
  have hP : va_P G.1 vwCl [oX5 q_t q_t_text q_t_table q_t_other q_t_spare q_t_past q_t_lines q_t_sizes, oX4 q_t_text q_t_text_letters (0 : Int32) q_t_text_draft t_text_rowsEnded t_text_rowLength t_text_rowSum] H := hP
  have hD : va_D A [oX5 q_t q_t_text q_t_table q_t_other q_t_spare q_t_past q_t_lines q_t_sizes, oX4 q_t_text q_t_text_letters (0 : Int32) q_t_text_draft t_text_rowsEnded t_text_rowLength t_text_rowSum] := hD
  refine lv_iload_n hx hb dX5_wipe_16 rfl (lv_at hl 0 rfl) ?_
  have e_0 := Option.some.inj hE
  subst e_0
  rw [hQ]
  exact W.iret (v := t_text_length) hx hb hr (fun t ht _ => ⟨⟨_, (), rfl, rfl, by rw [ht]; exact hP, hD⟩, hS.F ht⟩) hS.2.2 dX5_wipe_17
def S_X5_fault (t_text_length : Int32) (t_text_letters : Nat → Int32) (t_text_draft_corners : Nat → Int32) : Option (Int32 × Int32 × Int32 × Int32 × Int32 × (Nat → Int32)) := (S_X4_firstFault t_text_length t_text_letters t_text_draft_corners).bind (fun (y4 : Int32 × Int32 × Int32 × Int32 × Int32 × (Nat → Int32)) => some (y4.1, y4.2.1, y4.2.2.1, y4.2.2.2.1, y4.2.2.2.2.1, y4.2.2.2.2.2))
theorem kd_X5_fault : yX5_fault.cls = RX5 ∧ yX5_fault.cls ≠ "java/lang/invoke/MethodHandle" ∧ yX5_fault.cls ≠ "java/lang/invoke/VarHandle" ∧ (parseMethodDescriptor yX5_fault.desc).map (fun d => d.parameters.length) = some 0 := by decide +kernel
set_option maxHeartbeats 4000000 in
set_option maxRecDepth 100000 in
theorem c_X5_fault {l : Launch} {G : kG} (sz : Nat) {q_t : Nat} {q_t_text : Nat} {q_t_table : Nat} {q_t_other : Nat} {q_t_spare : Nat} {q_t_past : Nat} {q_t_lines : Nat} {q_t_sizes : Nat} {q_t_text_letters : Nat} {t_text_length : Int32} {q_t_text_draft : Nat} {t_text_rowsEnded : Int32} {t_text_rowLength : Int32} {t_text_rowSum : Int32} {t_text_letters : Nat → Int32} {t_text_draft_size : Int32} {q_t_text_draft_corners : Nat} {t_text_draft_corners : Nat → Int32} {res : Int32 × Int32 × Int32 × Int32 × Int32 × (Nat → Int32)} (hE : S_X5_fault t_text_length t_text_letters t_text_draft_corners = some res) : Met l yX5_fault wsX5_fault ({ frames := 5, cells := 0, slots := 0, locals := 109 }) (va_Pc [.ref q_t] (fun U => U.heap.size = sz ∧ va_P G.1 vwCl [oX5 q_t q_t_text q_t_table q_t_other q_t_spare q_t_past q_t_lines q_t_sizes, oX4 q_t_text q_t_text_letters t_text_length q_t_text_draft t_text_rowsEnded t_text_rowLength t_text_rowSum, aI (G.2 0) q_t_text_letters 200 t_text_letters, oX3 q_t_text_draft t_text_draft_size q_t_text_draft_corners, aI (G.2 1) q_t_text_draft_corners 49 t_text_draft_corners] U.heap ∧ kw G U ∧ va_D (fun _ => True) [oX5 q_t q_t_text q_t_table q_t_other q_t_spare q_t_past q_t_lines q_t_sizes, oX4 q_t_text q_t_text_letters t_text_length q_t_text_draft t_text_rowsEnded t_text_rowLength t_text_rowSum, aI (G.2 0) q_t_text_letters 200 t_text_letters, oX3 q_t_text_draft t_text_draft_size q_t_text_draft_corners, aI (G.2 1) q_t_text_draft_corners 49 t_text_draft_corners])) (va_Qi (fun r (_ : Unit) => r = res.1) (fun _ t => va_P G.1 vwCl [oX5 q_t q_t_text q_t_table q_t_other q_t_spare q_t_past q_t_lines q_t_sizes, oX4 q_t_text q_t_text_letters t_text_length q_t_text_draft res.2.1 res.2.2.1 res.2.2.2.1, aI (G.2 0) q_t_text_letters 200 t_text_letters, oX3 q_t_text_draft res.2.2.2.2.1 q_t_text_draft_corners, aI (G.2 1) q_t_text_draft_corners 49 res.2.2.2.2.2] t.heap ∧ va_D (va_A [oX5 q_t q_t_text q_t_table q_t_other q_t_spare q_t_past q_t_lines q_t_sizes, oX4 q_t_text q_t_text_letters t_text_length q_t_text_draft t_text_rowsEnded t_text_rowLength t_text_rowSum, aI (G.2 0) q_t_text_letters 200 t_text_letters, oX3 q_t_text_draft t_text_draft_size q_t_text_draft_corners, aI (G.2 1) q_t_text_draft_corners 49 t_text_draft_corners] sz) [oX5 q_t q_t_text q_t_table q_t_other q_t_spare q_t_past q_t_lines q_t_sizes, oX4 q_t_text q_t_text_letters t_text_length q_t_text_draft res.2.1 res.2.2.1 res.2.2.2.1, aI (G.2 0) q_t_text_letters 200 t_text_letters, oX3 q_t_text_draft res.2.2.2.2.1 q_t_text_draft_corners, aI (G.2 1) q_t_text_draft_corners 49 res.2.2.2.2.2]) (va_A [oX5 q_t q_t_text q_t_table q_t_other q_t_spare q_t_past q_t_lines q_t_sizes, oX4 q_t_text q_t_text_letters t_text_length q_t_text_draft t_text_rowsEnded t_text_rowLength t_text_rowSum, aI (G.2 0) q_t_text_letters 200 t_text_letters, oX3 q_t_text_draft t_text_draft_size q_t_text_draft_corners, aI (G.2 1) q_t_text_draft_corners 49 t_text_draft_corners] sz)) 0 0 (va_A [oX5 q_t q_t_text q_t_table q_t_other q_t_spare q_t_past q_t_lines q_t_sizes, oX4 q_t_text q_t_text_letters t_text_length q_t_text_draft t_text_rowsEnded t_text_rowLength t_text_rowSum, aI (G.2 0) q_t_text_letters 200 t_text_letters, oX3 q_t_text_draft t_text_draft_size q_t_text_draft_corners, aI (G.2 1) q_t_text_draft_corners 49 t_text_draft_corners] sz) := by
  refine Met.ofQ (cc := cX5_fault) (maxL := 1) (ret := (some .int)) (by decide) rfl ?_
  intro p e s m args below meth c s₁ Q hQ B hml hv
  obtain ⟨rfl, hsz, hP, hKW, hD0⟩ := hv
  have hK := hKW.1
  have hx := B.exec
  have hb := B.bytes
  have hr := B.returns
  have hts := atoms_spec (ws := wsX5_fault) B.pre
  have hown : s.vm.findClass RX5 = some m.cls := findClass_of_methodNamed B.named
  have hlocks := B.notSynchronized
  have iX5 : ∀ w ∈ u_ws RX5 TX5 7, w ∈ wsX5_fault := by decide +kernel
  have fl_12 := hts (.fieldLink RX5 12 "AlternateSigns" "text" "LAlternateSigns$Text;") (by decide +kernel)
  subst hsz
  have hD := hD0.self (sz := s.heap.size)
  generalize hAe : va_A [oX5 q_t q_t_text q_t_table q_t_other q_t_spare q_t_past q_t_lines q_t_sizes, oX4 q_t_text q_t_text_letters t_text_length q_t_text_draft t_text_rowsEnded t_text_rowLength t_text_rowSum, aI (G.2 0) q_t_text_letters 200 t_text_letters, oX3 q_t_text_draft t_text_draft_size q_t_text_draft_corners, aI (G.2 1) q_t_text_draft_corners 49 t_text_draft_corners] s.heap.size = A at hD hQ
  have hA : ∀ q : Nat, s.heap.size ≤ q → A q := fun q h => by rw [← hAe]; exact Or.inr h
  have hS : va_S A s.heap s.heap [] := va_S.rf
  have hl := lv_entry ([.ref q_t]) (n := 1) (Nat.le_of_ble_eq_true rfl)
  rw [lg_entry_eq]
  generalize (lg_sl ([.ref q_t]) ++ List.replicate (1 - (lg_sl ([.ref q_t])).length) Slot.unset).toArray = ls at hl ⊢
  have hl : lv_has ls 1 [(0, .ref q_t)] := hl
  unfold S_X5_fault at hE
  refine lv_aload_n hx hb dX5_fault_0 rfl (lv_at hl 0 rfl) ?_
  refine va_get (D := G.1) (ci := 5) (v := .ref q_t_text) (C := RX5) (T := TX5) (N := 7) hx hb hts iX5 hown hK hP 0 rfl rfl 0 (by decide) fl_12 (fun _ h9 => h9) rfl dX5_fault_1 ?_
  obtain ⟨y4, hC_4, hE⟩ := Option.bind_eq_some_iff.mp hE
  obtain ⟨r_4, m_4_0, m_4_1, m_4_2, m_4_3, m_4_4⟩ := y4
  try dsimp only at hE
  have hPc := hP.sub (ws' := [oX4 q_t_text q_t_text_letters t_text_length q_t_text_draft t_text_rowsEnded t_text_rowLength t_text_rowSum, aI (G.2 0) q_t_text_letters 200 t_text_letters, oX3 q_t_text_draft t_text_draft_size q_t_text_draft_corners, aI (G.2 1) q_t_text_draft_corners 49 t_text_draft_corners]) [1, 2, 3, 4] rfl
  have hDc := hD.sub (ws' := [oX4 q_t_text q_t_text_letters t_text_length q_t_text_draft t_text_rowsEnded t_text_rowLength t_text_rowSum, aI (G.2 0) q_t_text_letters 200 t_text_letters, oX3 q_t_text_draft t_text_draft_size q_t_text_draft_corners, aI (G.2 1) q_t_text_draft_corners 49 t_text_draft_corners]) [1, 2, 3, 4] (by decide) rfl
  have hFc := va_free (wc := [oX4 q_t_text q_t_text_letters t_text_length q_t_text_draft t_text_rowsEnded t_text_rowLength t_text_rowSum, aI (G.2 0) q_t_text_letters 200 t_text_letters, oX3 q_t_text_draft t_text_draft_size q_t_text_draft_corners, aI (G.2 1) q_t_text_draft_corners 49 t_text_draft_corners]) hD hS hA [1, 2, 3, 4] rfl
  refine va_calli (va_runV (As := []) (rest := []) ⟨hx, hb, hml, hown, hts⟩ (c_X4_firstFault (l := l) (G := G) _ (q_t := q_t_text) (q_t_letters := q_t_text_letters) (t_length := t_text_length) (q_t_draft := q_t_text_draft) (t_rowsEnded := t_text_rowsEnded) (t_rowLength := t_text_rowLength) (t_rowSum := t_text_rowSum) (t_letters := t_text_letters) (t_draft_size := t_text_draft_size) (q_t_draft_corners := q_t_text_draft_corners) (t_draft_corners := t_text_draft_corners) hC_4) (cwV 0 hts gX5_fault_X4_firstFault rfl rfl rfl kd_X4_firstFault ⟨Nat.le_of_ble_eq_true rfl, Nat.le_of_ble_eq_true rfl⟩) (iv_V hKW hPc hDc (ci := 4) (q0 := 0) rfl rfl) rfl rfl hl.1 rfl (lv_room (Nat.le_of_ble_eq_true rfl)) dX5_fault_4 ⟨Nat.zero_le _, Nat.zero_le _⟩) hS (fun q _ h => hFc q h) hFc (fun r9 u9 t9 H1 locs ht9 hvm9 hw9 hB9 hz9 hk9 hS => ?_)
  subst r9
  obtain ⟨hP1, hD1⟩ := hB9
  rw [ht9] at hP1
  obtain ⟨hP, hD⟩ := va_join (wr := [oX5 q_t q_t_text q_t_table q_t_other q_t_spare q_t_past q_t_lines q_t_sizes]) (w1 := [oX4 q_t_text q_t_text_letters t_text_length q_t_text_draft m_4_0 m_4_1 m_4_2, aI (G.2 0) q_t_text_letters 200 t_text_letters, oX3 q_t_text_draft m_4_3 q_t_text_draft_corners, aI (G.2 1) q_t_text_draft_corners 49 m_4_4]) hP hD [1, 2, 3, 4] [0] rfl rfl (by decide) (by decide) hk9 hFc hP1 hD1
  have hP := hP.sub (ws' := [oX5 q_t q_t_text q_t_table q_t_other q_t_spare q_t_past q_t_lines q_t_sizes, oX4 q_t_text q_t_text_letters t_text_length q_t_text_draft m_4_0 m_4_1 m_4_2, aI (G.2 0) q_t_text_letters 200 t_text_letters, oX3 q_t_text_draft m_4_3 q_t_text_draft_corners, aI (G.2 1) q_t_text_draft_corners 49 m_4_4]) [0, 1, 2, 3, 4] rfl
  have hD := hD.sub (ws' := [oX5 q_t q_t_text q_t_table q_t_other q_t_spare q_t_past q_t_lines q_t_sizes, oX4 q_t_text q_t_text_letters t_text_length q_t_text_draft m_4_0 m_4_1 m_4_2, aI (G.2 0) q_t_text_letters 200 t_text_letters, oX3 q_t_text_draft m_4_3 q_t_text_draft_corners, aI (G.2 1) q_t_text_draft_corners 49 m_4_4]) [0, 1, 2, 3, 4] (by decide) rfl
  clear hPc hDc hFc hP1 hD1 hk9 hz9 hvm9
  have e_0 := Option.some.inj hE
  subst e_0
  rw [hQ]
  exact W.iret (v := r_4) hx hb hr (fun t ht _ => ⟨⟨_, (), rfl, rfl, by rw [ht]; exact hP, hD⟩, hS.F ht⟩) hS.2.2 dX5_fault_7
def S_X5_lay (t_text_length : Int32) (t_text_letters : Nat → Int32) (t_text_draft_corners : Nat → Int32) (t_table_size : Int32) (t_table_corners : Nat → Int32) (t_past_held : Int32) : Option (Int32 × Int32 × Int32 × Int32 × Int32 × (Nat → Int32) × Int32 × (Nat → Int32) × Int32) := (S_X4_firstFault t_text_length t_text_letters t_text_draft_corners).bind (fun (y4 : Int32 × Int32 × Int32 × Int32 × Int32 × (Nat → Int32)) => if y4.1 = (-4 : Int32) then (S_X3_copy t_table_corners y4.2.2.2.2.1 y4.2.2.2.2.2).bind (fun (y26 : Int32 × (Nat → Int32)) => (S_X2_forget).bind (fun (y33 : Int32) => some (y26.1, y4.2.1, y4.2.2.1, y4.2.2.2.1, y4.2.2.2.2.1, y4.2.2.2.2.2, y26.1, y26.2, y33))) else some ((-2 : Int32), y4.2.1, y4.2.2.1, y4.2.2.2.1, y4.2.2.2.2.1, y4.2.2.2.2.2, t_table_size, t_table_corners, t_past_held))
theorem kd_X5_lay : yX5_lay.cls = RX5 ∧ yX5_lay.cls ≠ "java/lang/invoke/MethodHandle" ∧ yX5_lay.cls ≠ "java/lang/invoke/VarHandle" ∧ (parseMethodDescriptor yX5_lay.desc).map (fun d => d.parameters.length) = some 0 := by decide +kernel
set_option maxHeartbeats 4000000 in
set_option maxRecDepth 100000 in
theorem c_X5_lay {l : Launch} {G : kG} (sz : Nat) {q_t : Nat} {q_t_text : Nat} {q_t_table : Nat} {q_t_other : Nat} {q_t_spare : Nat} {q_t_past : Nat} {q_t_lines : Nat} {q_t_sizes : Nat} {q_t_text_letters : Nat} {t_text_length : Int32} {q_t_text_draft : Nat} {t_text_rowsEnded : Int32} {t_text_rowLength : Int32} {t_text_rowSum : Int32} {t_text_letters : Nat → Int32} {t_text_draft_size : Int32} {q_t_text_draft_corners : Nat} {t_text_draft_corners : Nat → Int32} {t_table_size : Int32} {q_t_table_corners : Nat} {t_table_corners : Nat → Int32} {q_t_past_tables : Nat} {t_past_free : Int32} {t_past_held : Int32} {res : Int32 × Int32 × Int32 × Int32 × Int32 × (Nat → Int32) × Int32 × (Nat → Int32) × Int32} (hE : S_X5_lay t_text_length t_text_letters t_text_draft_corners t_table_size t_table_corners t_past_held = some res) : Met l yX5_lay wsX5_lay ({ frames := 5, cells := 0, slots := 0, locals := 109 }) (va_Pc [.ref q_t] (fun U => U.heap.size = sz ∧ va_P G.1 vwCl [oX5 q_t q_t_text q_t_table q_t_other q_t_spare q_t_past q_t_lines q_t_sizes, oX4 q_t_text q_t_text_letters t_text_length q_t_text_draft t_text_rowsEnded t_text_rowLength t_text_rowSum, aI (G.2 0) q_t_text_letters 200 t_text_letters, oX3 q_t_text_draft t_text_draft_size q_t_text_draft_corners, aI (G.2 1) q_t_text_draft_corners 49 t_text_draft_corners, oX3 q_t_table t_table_size q_t_table_corners, aI (G.2 1) q_t_table_corners 49 t_table_corners, oX2 q_t_past q_t_past_tables t_past_free t_past_held] U.heap ∧ kw G U ∧ va_D (fun _ => True) [oX5 q_t q_t_text q_t_table q_t_other q_t_spare q_t_past q_t_lines q_t_sizes, oX4 q_t_text q_t_text_letters t_text_length q_t_text_draft t_text_rowsEnded t_text_rowLength t_text_rowSum, aI (G.2 0) q_t_text_letters 200 t_text_letters, oX3 q_t_text_draft t_text_draft_size q_t_text_draft_corners, aI (G.2 1) q_t_text_draft_corners 49 t_text_draft_corners, oX3 q_t_table t_table_size q_t_table_corners, aI (G.2 1) q_t_table_corners 49 t_table_corners, oX2 q_t_past q_t_past_tables t_past_free t_past_held])) (va_Qi (fun r (_ : Unit) => r = res.1) (fun _ t => va_P G.1 vwCl [oX5 q_t q_t_text q_t_table q_t_other q_t_spare q_t_past q_t_lines q_t_sizes, oX4 q_t_text q_t_text_letters t_text_length q_t_text_draft res.2.1 res.2.2.1 res.2.2.2.1, aI (G.2 0) q_t_text_letters 200 t_text_letters, oX3 q_t_text_draft res.2.2.2.2.1 q_t_text_draft_corners, aI (G.2 1) q_t_text_draft_corners 49 res.2.2.2.2.2.1, oX3 q_t_table res.2.2.2.2.2.2.1 q_t_table_corners, aI (G.2 1) q_t_table_corners 49 res.2.2.2.2.2.2.2.1, oX2 q_t_past q_t_past_tables t_past_free res.2.2.2.2.2.2.2.2] t.heap ∧ va_D (va_A [oX5 q_t q_t_text q_t_table q_t_other q_t_spare q_t_past q_t_lines q_t_sizes, oX4 q_t_text q_t_text_letters t_text_length q_t_text_draft t_text_rowsEnded t_text_rowLength t_text_rowSum, aI (G.2 0) q_t_text_letters 200 t_text_letters, oX3 q_t_text_draft t_text_draft_size q_t_text_draft_corners, aI (G.2 1) q_t_text_draft_corners 49 t_text_draft_corners, oX3 q_t_table t_table_size q_t_table_corners, aI (G.2 1) q_t_table_corners 49 t_table_corners, oX2 q_t_past q_t_past_tables t_past_free t_past_held] sz) [oX5 q_t q_t_text q_t_table q_t_other q_t_spare q_t_past q_t_lines q_t_sizes, oX4 q_t_text q_t_text_letters t_text_length q_t_text_draft res.2.1 res.2.2.1 res.2.2.2.1, aI (G.2 0) q_t_text_letters 200 t_text_letters, oX3 q_t_text_draft res.2.2.2.2.1 q_t_text_draft_corners, aI (G.2 1) q_t_text_draft_corners 49 res.2.2.2.2.2.1, oX3 q_t_table res.2.2.2.2.2.2.1 q_t_table_corners, aI (G.2 1) q_t_table_corners 49 res.2.2.2.2.2.2.2.1, oX2 q_t_past q_t_past_tables t_past_free res.2.2.2.2.2.2.2.2]) (va_A [oX5 q_t q_t_text q_t_table q_t_other q_t_spare q_t_past q_t_lines q_t_sizes, oX4 q_t_text q_t_text_letters t_text_length q_t_text_draft t_text_rowsEnded t_text_rowLength t_text_rowSum, aI (G.2 0) q_t_text_letters 200 t_text_letters, oX3 q_t_text_draft t_text_draft_size q_t_text_draft_corners, aI (G.2 1) q_t_text_draft_corners 49 t_text_draft_corners, oX3 q_t_table t_table_size q_t_table_corners, aI (G.2 1) q_t_table_corners 49 t_table_corners, oX2 q_t_past q_t_past_tables t_past_free t_past_held] sz)) 0 0 (va_A [oX5 q_t q_t_text q_t_table q_t_other q_t_spare q_t_past q_t_lines q_t_sizes, oX4 q_t_text q_t_text_letters t_text_length q_t_text_draft t_text_rowsEnded t_text_rowLength t_text_rowSum, aI (G.2 0) q_t_text_letters 200 t_text_letters, oX3 q_t_text_draft t_text_draft_size q_t_text_draft_corners, aI (G.2 1) q_t_text_draft_corners 49 t_text_draft_corners, oX3 q_t_table t_table_size q_t_table_corners, aI (G.2 1) q_t_table_corners 49 t_table_corners, oX2 q_t_past q_t_past_tables t_past_free t_past_held] sz) := by
  refine Met.ofQ (cc := cX5_lay) (maxL := 1) (ret := (some .int)) (by decide) rfl ?_
  intro p e s m args below meth c s₁ Q hQ B hml hv
  obtain ⟨rfl, hsz, hP, hKW, hD0⟩ := hv
  have hK := hKW.1
  have hx := B.exec
  have hb := B.bytes
  have hr := B.returns
  have hts := atoms_spec (ws := wsX5_lay) B.pre
  have hown : s.vm.findClass RX5 = some m.cls := findClass_of_methodNamed B.named
  have hlocks := B.notSynchronized
  have iX3 : ∀ w ∈ u_ws RX3 TX3 2, w ∈ wsX5_lay := by decide +kernel
  have iX4 : ∀ w ∈ u_ws RX4 TX4 6, w ∈ wsX5_lay := by decide +kernel
  have iX5 : ∀ w ∈ u_ws RX5 TX5 7, w ∈ wsX5_lay := by decide +kernel
  have fl_12 := hts (.fieldLink RX5 12 "AlternateSigns" "text" "LAlternateSigns$Text;") (by decide +kernel)
  have fl_19 := hts (.fieldLink RX5 19 "AlternateSigns" "table" "LAlternateSigns$Table;") (by decide +kernel)
  have fl_71 := hts (.fieldLink RX5 71 "AlternateSigns$Text" "draft" "LAlternateSigns$Table;") (by decide +kernel)
  have fl_32 := hts (.fieldLink RX5 32 "AlternateSigns" "past" "LAlternateSigns$Past;") (by decide +kernel)
  have fl_84 := hts (.fieldLink RX5 84 "AlternateSigns$Table" "size" "I") (by decide +kernel)
  subst hsz
  have hD := hD0.self (sz := s.heap.size)
  generalize hAe : va_A [oX5 q_t q_t_text q_t_table q_t_other q_t_spare q_t_past q_t_lines q_t_sizes, oX4 q_t_text q_t_text_letters t_text_length q_t_text_draft t_text_rowsEnded t_text_rowLength t_text_rowSum, aI (G.2 0) q_t_text_letters 200 t_text_letters, oX3 q_t_text_draft t_text_draft_size q_t_text_draft_corners, aI (G.2 1) q_t_text_draft_corners 49 t_text_draft_corners, oX3 q_t_table t_table_size q_t_table_corners, aI (G.2 1) q_t_table_corners 49 t_table_corners, oX2 q_t_past q_t_past_tables t_past_free t_past_held] s.heap.size = A at hD hQ
  have hA : ∀ q : Nat, s.heap.size ≤ q → A q := fun q h => by rw [← hAe]; exact Or.inr h
  have hS : va_S A s.heap s.heap [] := va_S.rf
  have hl := lv_entry ([.ref q_t]) (n := 1) (Nat.le_of_ble_eq_true rfl)
  rw [lg_entry_eq]
  generalize (lg_sl ([.ref q_t]) ++ List.replicate (1 - (lg_sl ([.ref q_t])).length) Slot.unset).toArray = ls at hl ⊢
  have hl : lv_has ls 1 [(0, .ref q_t)] := hl
  unfold S_X5_lay at hE
  refine lv_aload_n hx hb dX5_lay_0 rfl (lv_at hl 0 rfl) ?_
  refine va_get (D := G.1) (ci := 5) (v := .ref q_t_text) (C := RX5) (T := TX5) (N := 7) hx hb hts iX5 hown hK hP 0 rfl rfl 0 (by decide) fl_12 (fun _ h9 => h9) rfl dX5_lay_1 ?_
  obtain ⟨y4, hC_4, hE⟩ := Option.bind_eq_some_iff.mp hE
  obtain ⟨r_4, m_4_0, m_4_1, m_4_2, m_4_3, m_4_4⟩ := y4
  try dsimp only at hE
  have hPc := hP.sub (ws' := [oX4 q_t_text q_t_text_letters t_text_length q_t_text_draft t_text_rowsEnded t_text_rowLength t_text_rowSum, aI (G.2 0) q_t_text_letters 200 t_text_letters, oX3 q_t_text_draft t_text_draft_size q_t_text_draft_corners, aI (G.2 1) q_t_text_draft_corners 49 t_text_draft_corners]) [1, 2, 3, 4] rfl
  have hDc := hD.sub (ws' := [oX4 q_t_text q_t_text_letters t_text_length q_t_text_draft t_text_rowsEnded t_text_rowLength t_text_rowSum, aI (G.2 0) q_t_text_letters 200 t_text_letters, oX3 q_t_text_draft t_text_draft_size q_t_text_draft_corners, aI (G.2 1) q_t_text_draft_corners 49 t_text_draft_corners]) [1, 2, 3, 4] (by decide) rfl
  have hFc := va_free (wc := [oX4 q_t_text q_t_text_letters t_text_length q_t_text_draft t_text_rowsEnded t_text_rowLength t_text_rowSum, aI (G.2 0) q_t_text_letters 200 t_text_letters, oX3 q_t_text_draft t_text_draft_size q_t_text_draft_corners, aI (G.2 1) q_t_text_draft_corners 49 t_text_draft_corners]) hD hS hA [1, 2, 3, 4] rfl
  refine va_calli (va_runV (As := []) (rest := []) ⟨hx, hb, hml, hown, hts⟩ (c_X4_firstFault (l := l) (G := G) _ (q_t := q_t_text) (q_t_letters := q_t_text_letters) (t_length := t_text_length) (q_t_draft := q_t_text_draft) (t_rowsEnded := t_text_rowsEnded) (t_rowLength := t_text_rowLength) (t_rowSum := t_text_rowSum) (t_letters := t_text_letters) (t_draft_size := t_text_draft_size) (q_t_draft_corners := q_t_text_draft_corners) (t_draft_corners := t_text_draft_corners) hC_4) (cwV 0 hts gX5_lay_X4_firstFault rfl rfl rfl kd_X4_firstFault ⟨Nat.le_of_ble_eq_true rfl, Nat.le_of_ble_eq_true rfl⟩) (iv_V hKW hPc hDc (ci := 4) (q0 := 0) rfl rfl) rfl rfl hl.1 rfl (lv_room (Nat.le_of_ble_eq_true rfl)) dX5_lay_4 ⟨Nat.zero_le _, Nat.zero_le _⟩) hS (fun q _ h => hFc q h) hFc (fun r9 u9 t9 H1 locs ht9 hvm9 hw9 hB9 hz9 hk9 hS => ?_)
  subst r9
  obtain ⟨hP1, hD1⟩ := hB9
  rw [ht9] at hP1
  obtain ⟨hP, hD⟩ := va_join (wr := [oX5 q_t q_t_text q_t_table q_t_other q_t_spare q_t_past q_t_lines q_t_sizes, oX3 q_t_table t_table_size q_t_table_corners, aI (G.2 1) q_t_table_corners 49 t_table_corners, oX2 q_t_past q_t_past_tables t_past_free t_past_held]) (w1 := [oX4 q_t_text q_t_text_letters t_text_length q_t_text_draft m_4_0 m_4_1 m_4_2, aI (G.2 0) q_t_text_letters 200 t_text_letters, oX3 q_t_text_draft m_4_3 q_t_text_draft_corners, aI (G.2 1) q_t_text_draft_corners 49 m_4_4]) hP hD [1, 2, 3, 4] [0, 5, 6, 7] rfl rfl (by decide) (by decide) hk9 hFc hP1 hD1
  have hP := hP.sub (ws' := [oX5 q_t q_t_text q_t_table q_t_other q_t_spare q_t_past q_t_lines q_t_sizes, oX4 q_t_text q_t_text_letters t_text_length q_t_text_draft m_4_0 m_4_1 m_4_2, aI (G.2 0) q_t_text_letters 200 t_text_letters, oX3 q_t_text_draft m_4_3 q_t_text_draft_corners, aI (G.2 1) q_t_text_draft_corners 49 m_4_4, oX3 q_t_table t_table_size q_t_table_corners, aI (G.2 1) q_t_table_corners 49 t_table_corners, oX2 q_t_past q_t_past_tables t_past_free t_past_held]) [0, 4, 5, 6, 7, 1, 2, 3] rfl
  have hD := hD.sub (ws' := [oX5 q_t q_t_text q_t_table q_t_other q_t_spare q_t_past q_t_lines q_t_sizes, oX4 q_t_text q_t_text_letters t_text_length q_t_text_draft m_4_0 m_4_1 m_4_2, aI (G.2 0) q_t_text_letters 200 t_text_letters, oX3 q_t_text_draft m_4_3 q_t_text_draft_corners, aI (G.2 1) q_t_text_draft_corners 49 m_4_4, oX3 q_t_table t_table_size q_t_table_corners, aI (G.2 1) q_t_table_corners 49 t_table_corners, oX2 q_t_past q_t_past_tables t_past_free t_past_held]) [0, 4, 5, 6, 7, 1, 2, 3] (by decide) rfl
  clear hPc hDc hFc hP1 hD1 hk9 hz9 hvm9
  refine lv_bipush (v := -4) hx hb dX5_lay_7 (by decide) ?_
  refine lv_icmp_eq (tgt := 15) hx hb dX5_lay_9 (by decide) (fun c_9 => ?_) (fun c_9 => ?_)
  · replace hE := (if_pos c_9).symm.trans hE
    refine lv_aload_n hx hb dX5_lay_15 rfl (lv_at hl 0 rfl) ?_
    refine va_get (D := G.1) (ci := 5) (v := .ref q_t_table) (C := RX5) (T := TX5) (N := 7) hx hb hts iX5 hown hK hP 0 rfl rfl 1 (by decide) fl_19 (fun _ h9 => h9) rfl dX5_lay_16 ?_
    refine lv_aload_n hx hb dX5_lay_19 rfl (lv_at hl 0 rfl) ?_
    refine va_get (D := G.1) (ci := 5) (v := .ref q_t_text) (C := RX5) (T := TX5) (N := 7) hx hb hts iX5 hown hK hP 0 rfl rfl 0 (by decide) fl_12 (fun _ h9 => h9) rfl dX5_lay_20 ?_
    refine va_get (D := G.1) (ci := 4) (v := .ref q_t_text_draft) (C := RX4) (T := TX4) (N := 6) hx hb hts iX4 hown hK hP 1 rfl rfl 2 (by decide) fl_71 (fun _ h9 => h9) rfl dX5_lay_23 ?_
    obtain ⟨y26, hC_26, hE⟩ := Option.bind_eq_some_iff.mp hE
    obtain ⟨m_26_0, m_26_1⟩ := y26
    try dsimp only at hE
    have hPc := hP.sub (ws' := [oX3 q_t_table t_table_size q_t_table_corners, aI (G.2 1) q_t_table_corners 49 t_table_corners, oX3 q_t_text_draft m_4_3 q_t_text_draft_corners, aI (G.2 1) q_t_text_draft_corners 49 m_4_4]) [5, 6, 3, 4] rfl
    have hDc := hD.sub (ws' := [oX3 q_t_table t_table_size q_t_table_corners, aI (G.2 1) q_t_table_corners 49 t_table_corners, oX3 q_t_text_draft m_4_3 q_t_text_draft_corners, aI (G.2 1) q_t_text_draft_corners 49 m_4_4]) [5, 6, 3, 4] (by decide) rfl
    have hFc := va_free (wc := [oX3 q_t_table t_table_size q_t_table_corners, aI (G.2 1) q_t_table_corners 49 t_table_corners, oX3 q_t_text_draft m_4_3 q_t_text_draft_corners, aI (G.2 1) q_t_text_draft_corners 49 m_4_4]) hD hS hA [5, 6, 3, 4] rfl
    refine va_callv (va_runV (As := [.ref q_t_text_draft]) (rest := []) ⟨hx, hb, hml, hown, hts⟩ (c_X3_copy (l := l) (G := G) _ (q_t := q_t_table) (t_size := t_table_size) (q_t_corners := q_t_table_corners) (t_corners := t_table_corners) (q_p1 := q_t_text_draft) (p1_size := m_4_3) (q_p1_corners := q_t_text_draft_corners) (p1_corners := m_4_4) hC_26) (cwV 1 hts gX5_lay_X3_copy rfl rfl rfl kd_X3_copy ⟨Nat.le_of_ble_eq_true rfl, Nat.le_of_ble_eq_true rfl⟩) (iv_V hKW hPc hDc (ci := 3) (q0 := 0) rfl rfl) rfl rfl hl.1 rfl (lv_room (Nat.le_of_ble_eq_true rfl)) dX5_lay_26 ⟨Nat.zero_le _, Nat.zero_le _⟩) hS (fun q _ h => hFc q h) hFc (fun u9 t9 H1 locs ht9 hvm9 hw9 hB9 hz9 hk9 hS => ?_)
    obtain ⟨hP1, hD1⟩ := hB9
    rw [ht9] at hP1
    obtain ⟨hP, hD⟩ := va_join (wr := [oX5 q_t q_t_text q_t_table q_t_other q_t_spare q_t_past q_t_lines q_t_sizes, oX4 q_t_text q_t_text_letters t_text_length q_t_text_draft m_4_0 m_4_1 m_4_2, aI (G.2 0) q_t_text_letters 200 t_text_letters, oX2 q_t_past q_t_past_tables t_past_free t_past_held]) (w1 := [oX3 q_t_table m_26_0 q_t_table_corners, aI (G.2 1) q_t_table_corners 49 m_26_1, oX3 q_t_text_draft m_4_3 q_t_text_draft_corners, aI (G.2 1) q_t_text_draft_corners 49 m_4_4]) hP hD [5, 6, 3, 4] [0, 1, 2, 7] rfl rfl (by decide) (by decide) hk9 hFc hP1 hD1
    have hP := hP.sub (ws' := [oX5 q_t q_t_text q_t_table q_t_other q_t_spare q_t_past q_t_lines q_t_sizes, oX4 q_t_text q_t_text_letters t_text_length q_t_text_draft m_4_0 m_4_1 m_4_2, aI (G.2 0) q_t_text_letters 200 t_text_letters, oX3 q_t_text_draft m_4_3 q_t_text_draft_corners, aI (G.2 1) q_t_text_draft_corners 49 m_4_4, oX3 q_t_table m_26_0 q_t_table_corners, aI (G.2 1) q_t_table_corners 49 m_26_1, oX2 q_t_past q_t_past_tables t_past_free t_past_held]) [0, 1, 2, 6, 7, 4, 5, 3] rfl
    have hD := hD.sub (ws' := [oX5 q_t q_t_text q_t_table q_t_other q_t_spare q_t_past q_t_lines q_t_sizes, oX4 q_t_text q_t_text_letters t_text_length q_t_text_draft m_4_0 m_4_1 m_4_2, aI (G.2 0) q_t_text_letters 200 t_text_letters, oX3 q_t_text_draft m_4_3 q_t_text_draft_corners, aI (G.2 1) q_t_text_draft_corners 49 m_4_4, oX3 q_t_table m_26_0 q_t_table_corners, aI (G.2 1) q_t_table_corners 49 m_26_1, oX2 q_t_past q_t_past_tables t_past_free t_past_held]) [0, 1, 2, 6, 7, 4, 5, 3] (by decide) rfl
    clear hPc hDc hFc hP1 hD1 hk9 hz9 hvm9
    refine lv_aload_n hx hb dX5_lay_29 rfl (lv_at hl 0 rfl) ?_
    refine va_get (D := G.1) (ci := 5) (v := .ref q_t_past) (C := RX5) (T := TX5) (N := 7) hx hb hts iX5 hown hK hP 0 rfl rfl 4 (by decide) fl_32 (fun _ h9 => h9) rfl dX5_lay_30 ?_
    obtain ⟨y33, hC_33, hE⟩ := Option.bind_eq_some_iff.mp hE
    obtain ⟨m_33_0, ex9⟩ : ∃ z, z = y33 := ⟨_, rfl⟩
    subst ex9
    try dsimp only at hE
    have hPc := hP.sub (ws' := [oX2 q_t_past q_t_past_tables t_past_free t_past_held]) [7] rfl
    have hDc := hD.sub (ws' := [oX2 q_t_past q_t_past_tables t_past_free t_past_held]) [7] (by decide) rfl
    have hFc := va_free (wc := [oX2 q_t_past q_t_past_tables t_past_free t_past_held]) hD hS hA [7] rfl
    refine va_callv (va_runV (As := []) (rest := []) ⟨hx, hb, hml, hown, hts⟩ (c_X2_forget (l := l) (G := G) _ (q_t := q_t_past) (q_t_tables := q_t_past_tables) (t_free := t_past_free) (t_held := t_past_held) hC_33) (cwV 0 hts gX5_lay_X2_forget rfl rfl rfl kd_X2_forget ⟨Nat.le_of_ble_eq_true rfl, Nat.le_of_ble_eq_true rfl⟩) (iv_V hKW hPc hDc (ci := 2) (q0 := 0) rfl rfl) rfl rfl hl.1 rfl (lv_room (Nat.le_of_ble_eq_true rfl)) dX5_lay_33 ⟨Nat.zero_le _, Nat.zero_le _⟩) hS (fun q _ h => hFc q h) hFc (fun u9 t9 H1 locs ht9 hvm9 hw9 hB9 hz9 hk9 hS => ?_)
    obtain ⟨hP1, hD1⟩ := hB9
    rw [ht9] at hP1
    obtain ⟨hP, hD⟩ := va_join (wr := [oX5 q_t q_t_text q_t_table q_t_other q_t_spare q_t_past q_t_lines q_t_sizes, oX4 q_t_text q_t_text_letters t_text_length q_t_text_draft m_4_0 m_4_1 m_4_2, aI (G.2 0) q_t_text_letters 200 t_text_letters, oX3 q_t_text_draft m_4_3 q_t_text_draft_corners, aI (G.2 1) q_t_text_draft_corners 49 m_4_4, oX3 q_t_table m_26_0 q_t_table_corners, aI (G.2 1) q_t_table_corners 49 m_26_1]) (w1 := [oX2 q_t_past q_t_past_tables t_past_free m_33_0]) hP hD [7] [0, 1, 2, 3, 4, 5, 6] rfl rfl (by decide) (by decide) hk9 hFc hP1 hD1
    have hP := hP.sub (ws' := [oX5 q_t q_t_text q_t_table q_t_other q_t_spare q_t_past q_t_lines q_t_sizes, oX4 q_t_text q_t_text_letters t_text_length q_t_text_draft m_4_0 m_4_1 m_4_2, aI (G.2 0) q_t_text_letters 200 t_text_letters, oX3 q_t_text_draft m_4_3 q_t_text_draft_corners, aI (G.2 1) q_t_text_draft_corners 49 m_4_4, oX3 q_t_table m_26_0 q_t_table_corners, aI (G.2 1) q_t_table_corners 49 m_26_1, oX2 q_t_past q_t_past_tables t_past_free m_33_0]) [0, 1, 2, 3, 4, 5, 6, 7] rfl
    have hD := hD.sub (ws' := [oX5 q_t q_t_text q_t_table q_t_other q_t_spare q_t_past q_t_lines q_t_sizes, oX4 q_t_text q_t_text_letters t_text_length q_t_text_draft m_4_0 m_4_1 m_4_2, aI (G.2 0) q_t_text_letters 200 t_text_letters, oX3 q_t_text_draft m_4_3 q_t_text_draft_corners, aI (G.2 1) q_t_text_draft_corners 49 m_4_4, oX3 q_t_table m_26_0 q_t_table_corners, aI (G.2 1) q_t_table_corners 49 m_26_1, oX2 q_t_past q_t_past_tables t_past_free m_33_0]) [0, 1, 2, 3, 4, 5, 6, 7] (by decide) rfl
    clear hPc hDc hFc hP1 hD1 hk9 hz9 hvm9
    refine lv_aload_n hx hb dX5_lay_36 rfl (lv_at hl 0 rfl) ?_
    refine va_get (D := G.1) (ci := 5) (v := .ref q_t_table) (C := RX5) (T := TX5) (N := 7) hx hb hts iX5 hown hK hP 0 rfl rfl 1 (by decide) fl_19 (fun _ h9 => h9) rfl dX5_lay_37 ?_
    refine va_get (D := G.1) (ci := 3) (v := .int m_26_0) (C := RX3) (T := TX3) (N := 2) hx hb hts iX3 hown hK hP 5 rfl rfl 0 (by decide) fl_84 (fun _ h9 => h9) rfl dX5_lay_40 ?_
    have e_0 := Option.some.inj hE
    subst e_0
    rw [hQ]
    exact W.iret (v := m_26_0) hx hb hr (fun t ht _ => ⟨⟨_, (), rfl, rfl, by rw [ht]; exact hP, hD⟩, hS.F ht⟩) hS.2.2 dX5_lay_43
  · replace hE := (if_neg c_9).symm.trans hE
    refine lv_bipush (v := -2) hx hb dX5_lay_12 (by decide) ?_
    have e_0 := Option.some.inj hE
    subst e_0
    rw [hQ]
    exact W.iret (v := (-2 : Int32)) hx hb hr (fun t ht _ => ⟨⟨_, (), rfl, rfl, by rw [ht]; exact hP, hD⟩, hS.F ht⟩) hS.2.2 dX5_lay_14
def S_X5_isSize (p1 : Int32) : Option Int32 := (S_X5_isBetween p1 (1 : Int32) (6 : Int32)).bind (fun (y4 : Int32) => ck (y4 &&& 1 == y4) (some y4))
theorem kd_X5_isSize : yX5_isSize.cls ≠ "java/lang/invoke/MethodHandle" ∧ yX5_isSize.cls ≠ "java/lang/invoke/VarHandle" ∧ (parseMethodDescriptor yX5_isSize.desc).map (fun d => d.parameters.length) = some 1 := by decide +kernel
set_option maxHeartbeats 4000000 in
set_option maxRecDepth 100000 in
theorem c_X5_isSize {l : Launch} {G : kG} {p1 : Int32} {res : Int32} (hE : S_X5_isSize p1 = some res) : Met l yX5_isSize wsX5_isSize ({ frames := 1, cells := 0, slots := 0, locals := 22 }) (va_Pc [.int p1] (fun U => va_P G.1 vwCl [] U.heap ∧ kw G U)) (vp_Si (fun r => r = res)) 0 0 (fun _ => False) := by
  refine Met.ofQ (cc := cX5_isSize) (maxL := 1) (ret := (some .boolean)) (by decide) rfl ?_
  intro p e s m args below meth c s₁ Q hQ B hml hv
  obtain ⟨rfl, hP, hKW⟩ := hv
  have hK := hKW.1
  have hx := B.exec
  have hb := B.bytes
  have hr := B.returns
  have hts := atoms_spec (ws := wsX5_isSize) B.pre
  have hown : s.vm.findClass RX5 = some m.cls := findClass_of_methodNamed B.named
  have hlocks := B.notSynchronized
  have hl := lv_entry ([.int p1]) (n := 1) (Nat.le_of_ble_eq_true rfl)
  rw [lg_entry_eq]
  generalize (lg_sl ([.int p1]) ++ List.replicate (1 - (lg_sl ([.int p1])).length) Slot.unset).toArray = ls at hl ⊢
  have hl : lv_has ls 1 [(0, .int p1)] := hl
  unfold S_X5_isSize at hE
  refine lv_iload_n hx hb dX5_isSize_0 rfl (lv_at hl 0 rfl) ?_
  refine lv_iconst (v := 1) hx hb dX5_isSize_1 (by decide) ?_
  refine lv_bipush (v := 6) hx hb dX5_isSize_2 (by decide) ?_
  obtain ⟨y4, hC_4, hE⟩ := Option.bind_eq_some_iff.mp hE
  obtain ⟨r_4, ex9⟩ : ∃ z, z = y4 := ⟨_, rfl⟩
  subst ex9
  try dsimp only at hE
  refine vp_callSi (va_Run.run (va_runS (As := [.int p1, .int (1 : Int32), .int (6 : Int32)]) (rest := []) ⟨hx, hb, hml, hown, hts⟩ (c_X5_isBetween (l := l) (G := G) (p1 := p1) (p2 := (1 : Int32)) (p3 := (6 : Int32)) hC_4) (va_cwS 3 hts gX5_isSize_X5_isBetween rfl rfl rfl kd_X5_isBetween ⟨Nat.le_of_ble_eq_true rfl, Nat.le_of_ble_eq_true rfl⟩) (pv_S hKW (hP.sub (ws' := []) [] rfl)) rfl rfl hl.1 rfl (lv_room (Nat.le_of_ble_eq_true rfl)) dX5_isSize_4 ⟨Nat.zero_le _, Nat.zero_le _⟩)) (fun r9 hr9 => ?_)
  subst r9
  obtain ⟨hbo, hE⟩ := ck_some hE
  have e_0 := Option.some.inj hE
  rw [hQ]
  exact W.zret (v := r_4) hx hb hr (nar_b hbo) (fun t ht _ => ⟨_, rfl, e_0, ht⟩) (fun q h => by cases h) dX5_isSize_7
def S_X5_take (p1 : Int32) (p2 : Int32) (t_table_size : Int32) (t_table_corners : Nat → Int32) (t_past_free : Int32) (t_past_held : Int32) (t_past_tables_e_size : Int32) (t_past_tables_e_corners : Nat → Int32) (t_sizes_e_size : Int32) (t_sizes_e_masks : Int32) (t_sizes_e_areEndingsCounted : Int32) (t_sizes_e_endings : Nat → Int32) : Option (Int32 × Int32 × (Nat → Int32) × Int32 × Int32 × Int32 × (Nat → Int32) × Int32 × (Nat → Int32)) := (S_X5_isSize p1).bind (fun (y1 : Int32) => if y1 = 0 then some ((-1 : Int32), t_table_size, t_table_corners, t_past_free, t_past_held, t_past_tables_e_size, t_past_tables_e_corners, t_sizes_e_areEndingsCounted, t_sizes_e_endings) else ck (inb (p1 - (1 : Int32)) 6) (if p2 < 0 then some ((-4 : Int32), t_table_size, t_table_corners, t_past_free, t_past_held, t_past_tables_e_size, t_past_tables_e_corners, t_sizes_e_areEndingsCounted, t_sizes_e_endings) else (S_X0_total t_sizes_e_size t_sizes_e_masks t_sizes_e_areEndingsCounted t_sizes_e_endings).bind (fun (y24 : Int32 × Int32 × (Nat → Int32)) => if p2 < y24.1 then (S_X2_remember t_past_free t_past_held t_past_tables_e_corners t_table_size t_table_corners).bind (fun (y41 : Int32 × Int32 × Int32 × (Nat → Int32)) => (S_X0_put p2 t_sizes_e_size t_sizes_e_masks y24.2.1 y24.2.2 t_table_corners).bind (fun (y50 : Int32 × (Nat → Int32) × Int32 × (Nat → Int32)) => some (p1, y50.2.2.1, y50.2.2.2, y41.1, y41.2.1, y41.2.2.1, y41.2.2.2, y50.1, y50.2.1))) else some ((-4 : Int32), t_table_size, t_table_corners, t_past_free, t_past_held, t_past_tables_e_size, t_past_tables_e_corners, y24.2.1, y24.2.2))))
theorem kd_X5_take : yX5_take.cls = RX5 ∧ yX5_take.cls ≠ "java/lang/invoke/MethodHandle" ∧ yX5_take.cls ≠ "java/lang/invoke/VarHandle" ∧ (parseMethodDescriptor yX5_take.desc).map (fun d => d.parameters.length) = some 2 := by decide +kernel
set_option maxHeartbeats 4000000 in
set_option maxRecDepth 100000 in
theorem c_X5_take {l : Launch} {G : kG} (sz : Nat) {p1 : Int32} {p2 : Int32} {q_t : Nat} {q_t_text : Nat} {q_t_table : Nat} {q_t_other : Nat} {q_t_spare : Nat} {q_t_past : Nat} {q_t_lines : Nat} {q_t_sizes : Nat} {t_table_size : Int32} {q_t_table_corners : Nat} {t_table_corners : Nat → Int32} {q_t_past_tables : Nat} {t_past_free : Int32} {t_past_held : Int32} {t_past_tables : Nat → Option Nat} {q_t_past_tables_e : Nat} {t_past_tables_e_size : Int32} {q_t_past_tables_e_corners : Nat} {t_past_tables_e_corners : Nat → Int32} {t_sizes : Nat → Option Nat} {q_t_sizes_e : Nat} {t_sizes_e_size : Int32} {t_sizes_e_masks : Int32} {q_t_sizes_e_endings : Nat} {t_sizes_e_areEndingsCounted : Int32} {q_t_sizes_e_codes : Nat} {q_t_sizes_e_tally : Nat} {t_sizes_e_ways : Int32} {t_sizes_e_endings : Nat → Int32} {res : Int32 × Int32 × (Nat → Int32) × Int32 × Int32 × Int32 × (Nat → Int32) × Int32 × (Nat → Int32)} (he_0 : inb (p1 - (1 : Int32)) 6 = true → t_sizes (p1 - (1 : Int32)).toNatClampNeg = some q_t_sizes_e) (he_1 : inb t_past_free 6 = true → t_past_tables t_past_free.toNatClampNeg = some q_t_past_tables_e) (hE : S_X5_take p1 p2 t_table_size t_table_corners t_past_free t_past_held t_past_tables_e_size t_past_tables_e_corners t_sizes_e_size t_sizes_e_masks t_sizes_e_areEndingsCounted t_sizes_e_endings = some res) : Met l yX5_take wsX5_take ({ frames := 4, cells := 0, slots := 0, locals := 97 }) (va_Pc [.ref q_t, .int p1, .int p2] (fun U => U.heap.size = sz ∧ va_P G.1 vwCl [oX5 q_t q_t_text q_t_table q_t_other q_t_spare q_t_past q_t_lines q_t_sizes, oX3 q_t_table t_table_size q_t_table_corners, aI (G.2 1) q_t_table_corners 49 t_table_corners, oX2 q_t_past q_t_past_tables t_past_free t_past_held, aQ (G.2 5) q_t_past_tables 6 t_past_tables, oX3 q_t_past_tables_e t_past_tables_e_size q_t_past_tables_e_corners, aI (G.2 1) q_t_past_tables_e_corners 49 t_past_tables_e_corners, aQ (G.2 4) q_t_sizes 6 t_sizes, oX0 q_t_sizes_e t_sizes_e_size t_sizes_e_masks q_t_sizes_e_endings t_sizes_e_areEndingsCounted q_t_sizes_e_codes q_t_sizes_e_tally t_sizes_e_ways, aI (G.2 1) q_t_sizes_e_endings 64 t_sizes_e_endings] U.heap ∧ kw G U ∧ va_D (fun _ => True) [oX5 q_t q_t_text q_t_table q_t_other q_t_spare q_t_past q_t_lines q_t_sizes, oX3 q_t_table t_table_size q_t_table_corners, aI (G.2 1) q_t_table_corners 49 t_table_corners, oX2 q_t_past q_t_past_tables t_past_free t_past_held, aQ (G.2 5) q_t_past_tables 6 t_past_tables, oX3 q_t_past_tables_e t_past_tables_e_size q_t_past_tables_e_corners, aI (G.2 1) q_t_past_tables_e_corners 49 t_past_tables_e_corners, aQ (G.2 4) q_t_sizes 6 t_sizes, oX0 q_t_sizes_e t_sizes_e_size t_sizes_e_masks q_t_sizes_e_endings t_sizes_e_areEndingsCounted q_t_sizes_e_codes q_t_sizes_e_tally t_sizes_e_ways, aI (G.2 1) q_t_sizes_e_endings 64 t_sizes_e_endings])) (va_Qi (fun r (_ : Unit) => r = res.1) (fun _ t => va_P G.1 vwCl [oX5 q_t q_t_text q_t_table q_t_other q_t_spare q_t_past q_t_lines q_t_sizes, oX3 q_t_table res.2.1 q_t_table_corners, aI (G.2 1) q_t_table_corners 49 res.2.2.1, oX2 q_t_past q_t_past_tables res.2.2.2.1 res.2.2.2.2.1, aQ (G.2 5) q_t_past_tables 6 t_past_tables, oX3 q_t_past_tables_e res.2.2.2.2.2.1 q_t_past_tables_e_corners, aI (G.2 1) q_t_past_tables_e_corners 49 res.2.2.2.2.2.2.1, aQ (G.2 4) q_t_sizes 6 t_sizes, oX0 q_t_sizes_e t_sizes_e_size t_sizes_e_masks q_t_sizes_e_endings res.2.2.2.2.2.2.2.1 q_t_sizes_e_codes q_t_sizes_e_tally t_sizes_e_ways, aI (G.2 1) q_t_sizes_e_endings 64 res.2.2.2.2.2.2.2.2] t.heap ∧ va_D (va_A [oX5 q_t q_t_text q_t_table q_t_other q_t_spare q_t_past q_t_lines q_t_sizes, oX3 q_t_table t_table_size q_t_table_corners, aI (G.2 1) q_t_table_corners 49 t_table_corners, oX2 q_t_past q_t_past_tables t_past_free t_past_held, aQ (G.2 5) q_t_past_tables 6 t_past_tables, oX3 q_t_past_tables_e t_past_tables_e_size q_t_past_tables_e_corners, aI (G.2 1) q_t_past_tables_e_corners 49 t_past_tables_e_corners, aQ (G.2 4) q_t_sizes 6 t_sizes, oX0 q_t_sizes_e t_sizes_e_size t_sizes_e_masks q_t_sizes_e_endings t_sizes_e_areEndingsCounted q_t_sizes_e_codes q_t_sizes_e_tally t_sizes_e_ways, aI (G.2 1) q_t_sizes_e_endings 64 t_sizes_e_endings] sz) [oX5 q_t q_t_text q_t_table q_t_other q_t_spare q_t_past q_t_lines q_t_sizes, oX3 q_t_table res.2.1 q_t_table_corners, aI (G.2 1) q_t_table_corners 49 res.2.2.1, oX2 q_t_past q_t_past_tables res.2.2.2.1 res.2.2.2.2.1, aQ (G.2 5) q_t_past_tables 6 t_past_tables, oX3 q_t_past_tables_e res.2.2.2.2.2.1 q_t_past_tables_e_corners, aI (G.2 1) q_t_past_tables_e_corners 49 res.2.2.2.2.2.2.1, aQ (G.2 4) q_t_sizes 6 t_sizes, oX0 q_t_sizes_e t_sizes_e_size t_sizes_e_masks q_t_sizes_e_endings res.2.2.2.2.2.2.2.1 q_t_sizes_e_codes q_t_sizes_e_tally t_sizes_e_ways, aI (G.2 1) q_t_sizes_e_endings 64 res.2.2.2.2.2.2.2.2]) (va_A [oX5 q_t q_t_text q_t_table q_t_other q_t_spare q_t_past q_t_lines q_t_sizes, oX3 q_t_table t_table_size q_t_table_corners, aI (G.2 1) q_t_table_corners 49 t_table_corners, oX2 q_t_past q_t_past_tables t_past_free t_past_held, aQ (G.2 5) q_t_past_tables 6 t_past_tables, oX3 q_t_past_tables_e t_past_tables_e_size q_t_past_tables_e_corners, aI (G.2 1) q_t_past_tables_e_corners 49 t_past_tables_e_corners, aQ (G.2 4) q_t_sizes 6 t_sizes, oX0 q_t_sizes_e t_sizes_e_size t_sizes_e_masks q_t_sizes_e_endings t_sizes_e_areEndingsCounted q_t_sizes_e_codes q_t_sizes_e_tally t_sizes_e_ways, aI (G.2 1) q_t_sizes_e_endings 64 t_sizes_e_endings] sz)) 0 0 (va_A [oX5 q_t q_t_text q_t_table q_t_other q_t_spare q_t_past q_t_lines q_t_sizes, oX3 q_t_table t_table_size q_t_table_corners, aI (G.2 1) q_t_table_corners 49 t_table_corners, oX2 q_t_past q_t_past_tables t_past_free t_past_held, aQ (G.2 5) q_t_past_tables 6 t_past_tables, oX3 q_t_past_tables_e t_past_tables_e_size q_t_past_tables_e_corners, aI (G.2 1) q_t_past_tables_e_corners 49 t_past_tables_e_corners, aQ (G.2 4) q_t_sizes 6 t_sizes, oX0 q_t_sizes_e t_sizes_e_size t_sizes_e_masks q_t_sizes_e_endings t_sizes_e_areEndingsCounted q_t_sizes_e_codes q_t_sizes_e_tally t_sizes_e_ways, aI (G.2 1) q_t_sizes_e_endings 64 t_sizes_e_endings] sz) := by
  refine Met.ofQ (cc := cX5_take) (maxL := 4) (ret := (some .int)) (by decide) rfl ?_
  intro p e s m args below meth c s₁ Q hQ B hml hv
  obtain ⟨rfl, hsz, hP, hKW, hD0⟩ := hv
  have hK := hKW.1
  have hx := B.exec
  have hb := B.bytes
  have hr := B.returns
  have hts := atoms_spec (ws := wsX5_take) B.pre
  have hown : s.vm.findClass RX5 = some m.cls := findClass_of_methodNamed B.named
  have hlocks := B.notSynchronized
  have iX5 : ∀ w ∈ u_ws RX5 TX5 7, w ∈ wsX5_take := by decide +kernel
  have fl_45 := hts (.fieldLink RX5 45 "AlternateSigns" "sizes" "[LAlternateSigns$AllOfSize;") (by decide +kernel)
  have fl_32 := hts (.fieldLink RX5 32 "AlternateSigns" "past" "LAlternateSigns$Past;") (by decide +kernel)
  have fl_19 := hts (.fieldLink RX5 19 "AlternateSigns" "table" "LAlternateSigns$Table;") (by decide +kernel)
  subst hsz
  have hD := hD0.self (sz := s.heap.size)
  generalize hAe : va_A [oX5 q_t q_t_text q_t_table q_t_other q_t_spare q_t_past q_t_lines q_t_sizes, oX3 q_t_table t_table_size q_t_table_corners, aI (G.2 1) q_t_table_corners 49 t_table_corners, oX2 q_t_past q_t_past_tables t_past_free t_past_held, aQ (G.2 5) q_t_past_tables 6 t_past_tables, oX3 q_t_past_tables_e t_past_tables_e_size q_t_past_tables_e_corners, aI (G.2 1) q_t_past_tables_e_corners 49 t_past_tables_e_corners, aQ (G.2 4) q_t_sizes 6 t_sizes, oX0 q_t_sizes_e t_sizes_e_size t_sizes_e_masks q_t_sizes_e_endings t_sizes_e_areEndingsCounted q_t_sizes_e_codes q_t_sizes_e_tally t_sizes_e_ways, aI (G.2 1) q_t_sizes_e_endings 64 t_sizes_e_endings] s.heap.size = A at hD hQ
  have hA : ∀ q : Nat, s.heap.size ≤ q → A q := fun q h => by rw [← hAe]; exact Or.inr h
  have hS : va_S A s.heap s.heap [] := va_S.rf
  have hl := lv_entry ([.ref q_t, .int p1, .int p2]) (n := 4) (Nat.le_of_ble_eq_true rfl)
  rw [lg_entry_eq]
  generalize (lg_sl ([.ref q_t, .int p1, .int p2]) ++ List.replicate (4 - (lg_sl ([.ref q_t, .int p1, .int p2])).length) Slot.unset).toArray = ls at hl ⊢
  have hl : lv_has ls 4 [(0, .ref q_t), (1, .int p1), (2, .int p2)] := hl
  unfold S_X5_take at hE
  refine lv_iload_n hx hb dX5_take_0 rfl (lv_at hl 1 rfl) ?_
  obtain ⟨y1, hC_1, hE⟩ := Option.bind_eq_some_iff.mp hE
  obtain ⟨r_1, ex9⟩ : ∃ z, z = y1 := ⟨_, rfl⟩
  subst ex9
  try dsimp only at hE
  refine vp_callSi (va_Run.run (va_runS (As := [.int p1]) (rest := []) ⟨hx, hb, hml, hown, hts⟩ (c_X5_isSize (l := l) (G := G) (p1 := p1) hC_1) (va_cwS 1 hts gX5_take_X5_isSize rfl rfl rfl kd_X5_isSize ⟨Nat.le_of_ble_eq_true rfl, Nat.le_of_ble_eq_true rfl⟩) (pv_S hKW (hP.sub (ws' := []) [] rfl)) rfl rfl hl.1 rfl (lv_room (Nat.le_of_ble_eq_true rfl)) dX5_take_1 ⟨Nat.zero_le _, Nat.zero_le _⟩)) (fun r9 hr9 => ?_)
  subst r9
  refine lv_if_ne (tgt := 9) hx hb dX5_take_4 (by decide) (fun c_4 => ?_) (fun c_4 => ?_)
  · replace hE := (if_neg c_4).symm.trans hE
    refine lv_aload_n hx hb dX5_take_9 rfl (lv_at hl 0 rfl) ?_
    refine va_get (D := G.1) (ci := 5) (v := .ref q_t_sizes) (C := RX5) (T := TX5) (N := 7) hx hb hts iX5 hown hK hP 0 rfl rfl 6 (by decide) fl_45 (fun _ h9 => h9) rfl dX5_take_10 ?_
    refine lv_iload_n hx hb dX5_take_13 rfl (lv_at hl 1 rfl) ?_
    refine lv_iconst (v := 1) hx hb dX5_take_14 (by decide) ?_
    refine lv_isub hx hb dX5_take_15 ?_
    obtain ⟨hi_16, hE⟩ := ck_some hE
    refine va_aldq (C := RX0) hx hb hK hP 7 4 rfl rfl (inb_in hi_16) dX5_take_16 ?_
    rw [he_0 hi_16]
    refine W.eq (g2 := F0 m 17 ls [.ref q_t_sizes_e]) rfl ?_
    refine lv_astore_n (lv' := [(3, .ref q_t_sizes_e), (0, .ref q_t), (1, .int p1), (2, .int p2)]) hx hb dX5_take_17 rfl hl (by decide) rfl (fun ls hl => ?_)
    refine lv_iload_n hx hb dX5_take_18 rfl (lv_at hl 3 rfl) ?_
    refine lv_if_lt (tgt := 30) hx hb dX5_take_19 (by decide) (fun c_19 => ?_) (fun c_19 => ?_)
    · replace hE := (if_pos c_19).symm.trans hE
      refine lv_bipush (v := -4) hx hb dX5_take_30 (by decide) ?_
      have e_0 := Option.some.inj hE
      subst e_0
      rw [hQ]
      exact W.iret (v := (-4 : Int32)) hx hb hr (fun t ht _ => ⟨⟨_, (), rfl, rfl, by rw [ht]; exact hP, hD⟩, hS.F ht⟩) hS.2.2 dX5_take_32
    · replace hE := (if_neg c_19).symm.trans hE
      refine lv_iload_n hx hb dX5_take_22 rfl (lv_at hl 3 rfl) ?_
      refine lv_aload_n hx hb dX5_take_23 rfl (lv_at hl 0 rfl) ?_
      obtain ⟨y24, hC_24, hE⟩ := Option.bind_eq_some_iff.mp hE
      obtain ⟨r_24, m_24_0, m_24_1⟩ := y24
      try dsimp only at hE
      have hPc := hP.sub (ws' := [oX0 q_t_sizes_e t_sizes_e_size t_sizes_e_masks q_t_sizes_e_endings t_sizes_e_areEndingsCounted q_t_sizes_e_codes q_t_sizes_e_tally t_sizes_e_ways, aI (G.2 1) q_t_sizes_e_endings 64 t_sizes_e_endings]) [8, 9] rfl
      have hDc := hD.sub (ws' := [oX0 q_t_sizes_e t_sizes_e_size t_sizes_e_masks q_t_sizes_e_endings t_sizes_e_areEndingsCounted q_t_sizes_e_codes q_t_sizes_e_tally t_sizes_e_ways, aI (G.2 1) q_t_sizes_e_endings 64 t_sizes_e_endings]) [8, 9] (by decide) rfl
      have hFc := va_free (wc := [oX0 q_t_sizes_e t_sizes_e_size t_sizes_e_masks q_t_sizes_e_endings t_sizes_e_areEndingsCounted q_t_sizes_e_codes q_t_sizes_e_tally t_sizes_e_ways, aI (G.2 1) q_t_sizes_e_endings 64 t_sizes_e_endings]) hD hS hA [8, 9] rfl
      refine va_calli (va_runV (As := []) (rest := [.int p2]) ⟨hx, hb, hml, hown, hts⟩ (c_X0_total (l := l) (G := G) _ (q_t := q_t_sizes_e) (t_size := t_sizes_e_size) (t_masks := t_sizes_e_masks) (q_t_endings := q_t_sizes_e_endings) (t_areEndingsCounted := t_sizes_e_areEndingsCounted) (q_t_codes := q_t_sizes_e_codes) (q_t_tally := q_t_sizes_e_tally) (t_ways := t_sizes_e_ways) (t_endings := t_sizes_e_endings) hC_24) (cwV 0 hts gX5_take_X0_total rfl rfl rfl kd_X0_total ⟨Nat.le_of_ble_eq_true rfl, Nat.le_of_ble_eq_true rfl⟩) (iv_V hKW hPc hDc (ci := 0) (q0 := 0) rfl rfl) rfl rfl hl.1 rfl (lv_room (Nat.le_of_ble_eq_true rfl)) dX5_take_24 ⟨Nat.zero_le _, Nat.zero_le _⟩) hS (fun q _ h => hFc q h) hFc (fun r9 u9 t9 H1 locs ht9 hvm9 hw9 hB9 hz9 hk9 hS => ?_)
      subst r9
      obtain ⟨hP1, hD1⟩ := hB9
      rw [ht9] at hP1
      obtain ⟨hP, hD⟩ := va_join (wr := [oX5 q_t q_t_text q_t_table q_t_other q_t_spare q_t_past q_t_lines q_t_sizes, oX3 q_t_table t_table_size q_t_table_corners, aI (G.2 1) q_t_table_corners 49 t_table_corners, oX2 q_t_past q_t_past_tables t_past_free t_past_held, aQ (G.2 5) q_t_past_tables 6 t_past_tables, oX3 q_t_past_tables_e t_past_tables_e_size q_t_past_tables_e_corners, aI (G.2 1) q_t_past_tables_e_corners 49 t_past_tables_e_corners, aQ (G.2 4) q_t_sizes 6 t_sizes]) (w1 := [oX0 q_t_sizes_e t_sizes_e_size t_sizes_e_masks q_t_sizes_e_endings m_24_0 q_t_sizes_e_codes q_t_sizes_e_tally t_sizes_e_ways, aI (G.2 1) q_t_sizes_e_endings 64 m_24_1]) hP hD [8, 9] [0, 1, 2, 3, 4, 5, 6, 7] rfl rfl (by decide) (by decide) hk9 hFc hP1 hD1
      have hP := hP.sub (ws' := [oX5 q_t q_t_text q_t_table q_t_other q_t_spare q_t_past q_t_lines q_t_sizes, oX3 q_t_table t_table_size q_t_table_corners, aI (G.2 1) q_t_table_corners 49 t_table_corners, oX2 q_t_past q_t_past_tables t_past_free t_past_held, aQ (G.2 5) q_t_past_tables 6 t_past_tables, oX3 q_t_past_tables_e t_past_tables_e_size q_t_past_tables_e_corners, aI (G.2 1) q_t_past_tables_e_corners 49 t_past_tables_e_corners, aQ (G.2 4) q_t_sizes 6 t_sizes, oX0 q_t_sizes_e t_sizes_e_size t_sizes_e_masks q_t_sizes_e_endings m_24_0 q_t_sizes_e_codes q_t_sizes_e_tally t_sizes_e_ways, aI (G.2 1) q_t_sizes_e_endings 64 m_24_1]) [0, 1, 2, 3, 4, 5, 6, 7, 8, 9] rfl
      have hD := hD.sub (ws' := [oX5 q_t q_t_text q_t_table q_t_other q_t_spare q_t_past q_t_lines q_t_sizes, oX3 q_t_table t_table_size q_t_table_corners, aI (G.2 1) q_t_table_corners 49 t_table_corners, oX2 q_t_past q_t_past_tables t_past_free t_past_held, aQ (G.2 5) q_t_past_tables 6 t_past_tables, oX3 q_t_past_tables_e t_past_tables_e_size q_t_past_tables_e_corners, aI (G.2 1) q_t_past_tables_e_corners 49 t_past_tables_e_corners, aQ (G.2 4) q_t_sizes 6 t_sizes, oX0 q_t_sizes_e t_sizes_e_size t_sizes_e_masks q_t_sizes_e_endings m_24_0 q_t_sizes_e_codes q_t_sizes_e_tally t_sizes_e_ways, aI (G.2 1) q_t_sizes_e_endings 64 m_24_1]) [0, 1, 2, 3, 4, 5, 6, 7, 8, 9] (by decide) rfl
      clear hPc hDc hFc hP1 hD1 hk9 hz9 hvm9
      refine lv_icmp_lt (tgt := 33) hx hb dX5_take_27 (by decide) (fun c_27 => ?_) (fun c_27 => ?_)
      · replace hE := (if_pos c_27).symm.trans hE
        refine lv_aload_n hx hb dX5_take_33 rfl (lv_at hl 1 rfl) ?_
        refine va_get (D := G.1) (ci := 5) (v := .ref q_t_past) (C := RX5) (T := TX5) (N := 7) hx hb hts iX5 hown hK hP 0 rfl rfl 4 (by decide) fl_32 (fun _ h9 => h9) rfl dX5_take_34 ?_
        refine lv_aload_n hx hb dX5_take_37 rfl (lv_at hl 1 rfl) ?_
        refine va_get (D := G.1) (ci := 5) (v := .ref q_t_table) (C := RX5) (T := TX5) (N := 7) hx hb hts iX5 hown hK hP 0 rfl rfl 1 (by decide) fl_19 (fun _ h9 => h9) rfl dX5_take_38 ?_
        obtain ⟨y41, hC_41, hE⟩ := Option.bind_eq_some_iff.mp hE
        obtain ⟨m_41_0, m_41_1, m_41_2, m_41_3⟩ := y41
        try dsimp only at hE
        have hPc := hP.sub (ws' := [oX2 q_t_past q_t_past_tables t_past_free t_past_held, aQ (G.2 5) q_t_past_tables 6 t_past_tables, oX3 q_t_past_tables_e t_past_tables_e_size q_t_past_tables_e_corners, aI (G.2 1) q_t_past_tables_e_corners 49 t_past_tables_e_corners, oX3 q_t_table t_table_size q_t_table_corners, aI (G.2 1) q_t_table_corners 49 t_table_corners]) [3, 4, 5, 6, 1, 2] rfl
        have hDc := hD.sub (ws' := [oX2 q_t_past q_t_past_tables t_past_free t_past_held, aQ (G.2 5) q_t_past_tables 6 t_past_tables, oX3 q_t_past_tables_e t_past_tables_e_size q_t_past_tables_e_corners, aI (G.2 1) q_t_past_tables_e_corners 49 t_past_tables_e_corners, oX3 q_t_table t_table_size q_t_table_corners, aI (G.2 1) q_t_table_corners 49 t_table_corners]) [3, 4, 5, 6, 1, 2] (by decide) rfl
        have hFc := va_free (wc := [oX2 q_t_past q_t_past_tables t_past_free t_past_held, aQ (G.2 5) q_t_past_tables 6 t_past_tables, oX3 q_t_past_tables_e t_past_tables_e_size q_t_past_tables_e_corners, aI (G.2 1) q_t_past_tables_e_corners 49 t_past_tables_e_corners, oX3 q_t_table t_table_size q_t_table_corners, aI (G.2 1) q_t_table_corners 49 t_table_corners]) hD hS hA [3, 4, 5, 6, 1, 2] rfl
        refine va_callv (va_runV (As := [.ref q_t_table]) (rest := []) ⟨hx, hb, hml, hown, hts⟩ (c_X2_remember (l := l) (G := G) _ (q_t := q_t_past) (q_t_tables := q_t_past_tables) (t_free := t_past_free) (t_held := t_past_held) (t_tables := t_past_tables) (q_t_tables_e := q_t_past_tables_e) (t_tables_e_size := t_past_tables_e_size) (q_t_tables_e_corners := q_t_past_tables_e_corners) (t_tables_e_corners := t_past_tables_e_corners) (q_p1 := q_t_table) (p1_size := t_table_size) (q_p1_corners := q_t_table_corners) (p1_corners := t_table_corners) he_1 hC_41) (cwV 1 hts gX5_take_X2_remember rfl rfl rfl kd_X2_remember ⟨Nat.le_of_ble_eq_true rfl, Nat.le_of_ble_eq_true rfl⟩) (iv_V hKW hPc hDc (ci := 2) (q0 := 0) rfl rfl) rfl rfl hl.1 rfl (lv_room (Nat.le_of_ble_eq_true rfl)) dX5_take_41 ⟨Nat.zero_le _, Nat.zero_le _⟩) hS (fun q _ h => hFc q h) hFc (fun u9 t9 H1 locs ht9 hvm9 hw9 hB9 hz9 hk9 hS => ?_)
        obtain ⟨hP1, hD1⟩ := hB9
        rw [ht9] at hP1
        obtain ⟨hP, hD⟩ := va_join (wr := [oX5 q_t q_t_text q_t_table q_t_other q_t_spare q_t_past q_t_lines q_t_sizes, aQ (G.2 4) q_t_sizes 6 t_sizes, oX0 q_t_sizes_e t_sizes_e_size t_sizes_e_masks q_t_sizes_e_endings m_24_0 q_t_sizes_e_codes q_t_sizes_e_tally t_sizes_e_ways, aI (G.2 1) q_t_sizes_e_endings 64 m_24_1]) (w1 := [oX2 q_t_past q_t_past_tables m_41_0 m_41_1, aQ (G.2 5) q_t_past_tables 6 t_past_tables, oX3 q_t_past_tables_e m_41_2 q_t_past_tables_e_corners, aI (G.2 1) q_t_past_tables_e_corners 49 m_41_3, oX3 q_t_table t_table_size q_t_table_corners, aI (G.2 1) q_t_table_corners 49 t_table_corners]) hP hD [3, 4, 5, 6, 1, 2] [0, 7, 8, 9] rfl rfl (by decide) (by decide) hk9 hFc hP1 hD1
        have hP := hP.sub (ws' := [oX5 q_t q_t_text q_t_table q_t_other q_t_spare q_t_past q_t_lines q_t_sizes, oX3 q_t_table t_table_size q_t_table_corners, aI (G.2 1) q_t_table_corners 49 t_table_corners, oX2 q_t_past q_t_past_tables m_41_0 m_41_1, aQ (G.2 5) q_t_past_tables 6 t_past_tables, oX3 q_t_past_tables_e m_41_2 q_t_past_tables_e_corners, aI (G.2 1) q_t_past_tables_e_corners 49 m_41_3, aQ (G.2 4) q_t_sizes 6 t_sizes, oX0 q_t_sizes_e t_sizes_e_size t_sizes_e_masks q_t_sizes_e_endings m_24_0 q_t_sizes_e_codes q_t_sizes_e_tally t_sizes_e_ways, aI (G.2 1) q_t_sizes_e_endings 64 m_24_1]) [0, 8, 9, 4, 5, 6, 7, 1, 2, 3] rfl
        have hD := hD.sub (ws' := [oX5 q_t q_t_text q_t_table q_t_other q_t_spare q_t_past q_t_lines q_t_sizes, oX3 q_t_table t_table_size q_t_table_corners, aI (G.2 1) q_t_table_corners 49 t_table_corners, oX2 q_t_past q_t_past_tables m_41_0 m_41_1, aQ (G.2 5) q_t_past_tables 6 t_past_tables, oX3 q_t_past_tables_e m_41_2 q_t_past_tables_e_corners, aI (G.2 1) q_t_past_tables_e_corners 49 m_41_3, aQ (G.2 4) q_t_sizes 6 t_sizes, oX0 q_t_sizes_e t_sizes_e_size t_sizes_e_masks q_t_sizes_e_endings m_24_0 q_t_sizes_e_codes q_t_sizes_e_tally t_sizes_e_ways, aI (G.2 1) q_t_sizes_e_endings 64 m_24_1]) [0, 8, 9, 4, 5, 6, 7, 1, 2, 3] (by decide) rfl
        clear hPc hDc hFc hP1 hD1 hk9 hz9 hvm9
        refine lv_aload_n hx hb dX5_take_44 rfl (lv_at hl 0 rfl) ?_
        refine lv_iload_n hx hb dX5_take_45 rfl (lv_at hl 3 rfl) ?_
        refine lv_aload_n hx hb dX5_take_46 rfl (lv_at hl 1 rfl) ?_
        refine va_get (D := G.1) (ci := 5) (v := .ref q_t_table) (C := RX5) (T := TX5) (N := 7) hx hb hts iX5 hown hK hP 0 rfl rfl 1 (by decide) fl_19 (fun _ h9 => h9) rfl dX5_take_47 ?_
        obtain ⟨y50, hC_50, hE⟩ := Option.bind_eq_some_iff.mp hE
        obtain ⟨m_50_0, m_50_1, m_50_2, m_50_3⟩ := y50
        try dsimp only at hE
        have hPc := hP.sub (ws' := [oX0 q_t_sizes_e t_sizes_e_size t_sizes_e_masks q_t_sizes_e_endings m_24_0 q_t_sizes_e_codes q_t_sizes_e_tally t_sizes_e_ways, aI (G.2 1) q_t_sizes_e_endings 64 m_24_1, oX3 q_t_table t_table_size q_t_table_corners, aI (G.2 1) q_t_table_corners 49 t_table_corners]) [8, 9, 1, 2] rfl
        have hDc := hD.sub (ws' := [oX0 q_t_sizes_e t_sizes_e_size t_sizes_e_masks q_t_sizes_e_endings m_24_0 q_t_sizes_e_codes q_t_sizes_e_tally t_sizes_e_ways, aI (G.2 1) q_t_sizes_e_endings 64 m_24_1, oX3 q_t_table t_table_size q_t_table_corners, aI (G.2 1) q_t_table_corners 49 t_table_corners]) [8, 9, 1, 2] (by decide) rfl
        have hFc := va_free (wc := [oX0 q_t_sizes_e t_sizes_e_size t_sizes_e_masks q_t_sizes_e_endings m_24_0 q_t_sizes_e_codes q_t_sizes_e_tally t_sizes_e_ways, aI (G.2 1) q_t_sizes_e_endings 64 m_24_1, oX3 q_t_table t_table_size q_t_table_corners, aI (G.2 1) q_t_table_corners 49 t_table_corners]) hD hS hA [8, 9, 1, 2] rfl
        refine va_callv (va_runV (As := [.int p2, .ref q_t_table]) (rest := []) ⟨hx, hb, hml, hown, hts⟩ (c_X0_put (l := l) (G := G) _ (p1 := p2) (q_t := q_t_sizes_e) (t_size := t_sizes_e_size) (t_masks := t_sizes_e_masks) (q_t_endings := q_t_sizes_e_endings) (t_areEndingsCounted := m_24_0) (q_t_codes := q_t_sizes_e_codes) (q_t_tally := q_t_sizes_e_tally) (t_ways := t_sizes_e_ways) (t_endings := m_24_1) (q_p2 := q_t_table) (p2_size := t_table_size) (q_p2_corners := q_t_table_corners) (p2_corners := t_table_corners) hC_50) (cwV 2 hts gX5_take_X0_put rfl rfl rfl kd_X0_put ⟨Nat.le_of_ble_eq_true rfl, Nat.le_of_ble_eq_true rfl⟩) (iv_V hKW hPc hDc (ci := 0) (q0 := 0) rfl rfl) rfl rfl hl.1 rfl (lv_room (Nat.le_of_ble_eq_true rfl)) dX5_take_50 ⟨Nat.zero_le _, Nat.zero_le _⟩) hS (fun q _ h => hFc q h) hFc (fun u9 t9 H1 locs ht9 hvm9 hw9 hB9 hz9 hk9 hS => ?_)
        obtain ⟨hP1, hD1⟩ := hB9
        rw [ht9] at hP1
        obtain ⟨hP, hD⟩ := va_join (wr := [oX5 q_t q_t_text q_t_table q_t_other q_t_spare q_t_past q_t_lines q_t_sizes, oX2 q_t_past q_t_past_tables m_41_0 m_41_1, aQ (G.2 5) q_t_past_tables 6 t_past_tables, oX3 q_t_past_tables_e m_41_2 q_t_past_tables_e_corners, aI (G.2 1) q_t_past_tables_e_corners 49 m_41_3, aQ (G.2 4) q_t_sizes 6 t_sizes]) (w1 := [oX0 q_t_sizes_e t_sizes_e_size t_sizes_e_masks q_t_sizes_e_endings m_50_0 q_t_sizes_e_codes q_t_sizes_e_tally t_sizes_e_ways, aI (G.2 1) q_t_sizes_e_endings 64 m_50_1, oX3 q_t_table m_50_2 q_t_table_corners, aI (G.2 1) q_t_table_corners 49 m_50_3]) hP hD [8, 9, 1, 2] [0, 3, 4, 5, 6, 7] rfl rfl (by decide) (by decide) hk9 hFc hP1 hD1
        have hP := hP.sub (ws' := [oX5 q_t q_t_text q_t_table q_t_other q_t_spare q_t_past q_t_lines q_t_sizes, oX3 q_t_table m_50_2 q_t_table_corners, aI (G.2 1) q_t_table_corners 49 m_50_3, oX2 q_t_past q_t_past_tables m_41_0 m_41_1, aQ (G.2 5) q_t_past_tables 6 t_past_tables, oX3 q_t_past_tables_e m_41_2 q_t_past_tables_e_corners, aI (G.2 1) q_t_past_tables_e_corners 49 m_41_3, aQ (G.2 4) q_t_sizes 6 t_sizes, oX0 q_t_sizes_e t_sizes_e_size t_sizes_e_masks q_t_sizes_e_endings m_50_0 q_t_sizes_e_codes q_t_sizes_e_tally t_sizes_e_ways, aI (G.2 1) q_t_sizes_e_endings 64 m_50_1]) [0, 8, 9, 1, 2, 3, 4, 5, 6, 7] rfl
        have hD := hD.sub (ws' := [oX5 q_t q_t_text q_t_table q_t_other q_t_spare q_t_past q_t_lines q_t_sizes, oX3 q_t_table m_50_2 q_t_table_corners, aI (G.2 1) q_t_table_corners 49 m_50_3, oX2 q_t_past q_t_past_tables m_41_0 m_41_1, aQ (G.2 5) q_t_past_tables 6 t_past_tables, oX3 q_t_past_tables_e m_41_2 q_t_past_tables_e_corners, aI (G.2 1) q_t_past_tables_e_corners 49 m_41_3, aQ (G.2 4) q_t_sizes 6 t_sizes, oX0 q_t_sizes_e t_sizes_e_size t_sizes_e_masks q_t_sizes_e_endings m_50_0 q_t_sizes_e_codes q_t_sizes_e_tally t_sizes_e_ways, aI (G.2 1) q_t_sizes_e_endings 64 m_50_1]) [0, 8, 9, 1, 2, 3, 4, 5, 6, 7] (by decide) rfl
        clear hPc hDc hFc hP1 hD1 hk9 hz9 hvm9
        refine lv_iload_n hx hb dX5_take_53 rfl (lv_at hl 2 rfl) ?_
        have e_0 := Option.some.inj hE
        subst e_0
        rw [hQ]
        exact W.iret (v := p1) hx hb hr (fun t ht _ => ⟨⟨_, (), rfl, rfl, by rw [ht]; exact hP, hD⟩, hS.F ht⟩) hS.2.2 dX5_take_54
      · replace hE := (if_neg c_27).symm.trans hE
        refine lv_bipush (v := -4) hx hb dX5_take_30 (by decide) ?_
        have e_0 := Option.some.inj hE
        subst e_0
        rw [hQ]
        exact W.iret (v := (-4 : Int32)) hx hb hr (fun t ht _ => ⟨⟨_, (), rfl, rfl, by rw [ht]; exact hP, hD⟩, hS.F ht⟩) hS.2.2 dX5_take_32
  · replace hE := (if_pos c_4).symm.trans hE
    refine lv_iconst (v := -1) hx hb dX5_take_7 (by decide) ?_
    have e_0 := Option.some.inj hE
    subst e_0
    rw [hQ]
    exact W.iret (v := (-1 : Int32)) hx hb hr (fun t ht _ => ⟨⟨_, (), rfl, rfl, by rw [ht]; exact hP, hD⟩, hS.F ht⟩) hS.2.2 dX5_take_8
def S_X5_undo (t_table_size : Int32) (t_table_corners : Nat → Int32) (t_past_free : Int32) (t_past_held : Int32) (t_past_tables_e_size : Int32) (t_past_tables_e_corners : Nat → Int32) : Option (Int32 × Int32 × (Nat → Int32) × Int32 × Int32) := if t_past_held = 0 then some ((-2 : Int32), t_table_size, t_table_corners, t_past_free, t_past_held) else (S_X2_giveBack t_past_free t_past_held t_past_tables_e_size t_past_tables_e_corners t_table_size t_table_corners).bind (fun (y21 : Int32 × Int32 × Int32 × (Nat → Int32)) => some (y21.2.1, y21.2.2.1, y21.2.2.2, y21.1, y21.2.1))
theorem kd_X5_undo : yX5_undo.cls = RX5 ∧ yX5_undo.cls ≠ "java/lang/invoke/MethodHandle" ∧ yX5_undo.cls ≠ "java/lang/invoke/VarHandle" ∧ (parseMethodDescriptor yX5_undo.desc).map (fun d => d.parameters.length) = some 0 := by decide +kernel
set_option maxHeartbeats 4000000 in
set_option maxRecDepth 100000 in
theorem c_X5_undo {l : Launch} {G : kG} (sz : Nat) {q_t : Nat} {q_t_text : Nat} {q_t_table : Nat} {q_t_other : Nat} {q_t_spare : Nat} {q_t_past : Nat} {q_t_lines : Nat} {q_t_sizes : Nat} {t_table_size : Int32} {q_t_table_corners : Nat} {t_table_corners : Nat → Int32} {q_t_past_tables : Nat} {t_past_free : Int32} {t_past_held : Int32} {t_past_tables : Nat → Option Nat} {q_t_past_tables_e : Nat} {t_past_tables_e_size : Int32} {q_t_past_tables_e_corners : Nat} {t_past_tables_e_corners : Nat → Int32} {res : Int32 × Int32 × (Nat → Int32) × Int32 × Int32} (he_0 : inb (((t_past_free + (6 : Int32)) - (1 : Int32)) - ((t_past_free + (6 : Int32)) - (1 : Int32)) / (6 : Int32) * (6 : Int32)) 6 = true → t_past_tables (((t_past_free + (6 : Int32)) - (1 : Int32)) - ((t_past_free + (6 : Int32)) - (1 : Int32)) / (6 : Int32) * (6 : Int32)).toNatClampNeg = some q_t_past_tables_e) (hE : S_X5_undo t_table_size t_table_corners t_past_free t_past_held t_past_tables_e_size t_past_tables_e_corners = some res) : Met l yX5_undo wsX5_undo ({ frames := 3, cells := 0, slots := 0, locals := 82 }) (va_Pc [.ref q_t] (fun U => U.heap.size = sz ∧ va_P G.1 vwCl [oX5 q_t q_t_text q_t_table q_t_other q_t_spare q_t_past q_t_lines q_t_sizes, oX3 q_t_table t_table_size q_t_table_corners, aI (G.2 1) q_t_table_corners 49 t_table_corners, oX2 q_t_past q_t_past_tables t_past_free t_past_held, aQ (G.2 5) q_t_past_tables 6 t_past_tables, oX3 q_t_past_tables_e t_past_tables_e_size q_t_past_tables_e_corners, aI (G.2 1) q_t_past_tables_e_corners 49 t_past_tables_e_corners] U.heap ∧ kw G U ∧ va_D (fun _ => True) [oX5 q_t q_t_text q_t_table q_t_other q_t_spare q_t_past q_t_lines q_t_sizes, oX3 q_t_table t_table_size q_t_table_corners, aI (G.2 1) q_t_table_corners 49 t_table_corners, oX2 q_t_past q_t_past_tables t_past_free t_past_held, aQ (G.2 5) q_t_past_tables 6 t_past_tables, oX3 q_t_past_tables_e t_past_tables_e_size q_t_past_tables_e_corners, aI (G.2 1) q_t_past_tables_e_corners 49 t_past_tables_e_corners])) (va_Qi (fun r (_ : Unit) => r = res.1) (fun _ t => va_P G.1 vwCl [oX5 q_t q_t_text q_t_table q_t_other q_t_spare q_t_past q_t_lines q_t_sizes, oX3 q_t_table res.2.1 q_t_table_corners, aI (G.2 1) q_t_table_corners 49 res.2.2.1, oX2 q_t_past q_t_past_tables res.2.2.2.1 res.2.2.2.2, aQ (G.2 5) q_t_past_tables 6 t_past_tables, oX3 q_t_past_tables_e t_past_tables_e_size q_t_past_tables_e_corners, aI (G.2 1) q_t_past_tables_e_corners 49 t_past_tables_e_corners] t.heap ∧ va_D (va_A [oX5 q_t q_t_text q_t_table q_t_other q_t_spare q_t_past q_t_lines q_t_sizes, oX3 q_t_table t_table_size q_t_table_corners, aI (G.2 1) q_t_table_corners 49 t_table_corners, oX2 q_t_past q_t_past_tables t_past_free t_past_held, aQ (G.2 5) q_t_past_tables 6 t_past_tables, oX3 q_t_past_tables_e t_past_tables_e_size q_t_past_tables_e_corners, aI (G.2 1) q_t_past_tables_e_corners 49 t_past_tables_e_corners] sz) [oX5 q_t q_t_text q_t_table q_t_other q_t_spare q_t_past q_t_lines q_t_sizes, oX3 q_t_table res.2.1 q_t_table_corners, aI (G.2 1) q_t_table_corners 49 res.2.2.1, oX2 q_t_past q_t_past_tables res.2.2.2.1 res.2.2.2.2, aQ (G.2 5) q_t_past_tables 6 t_past_tables, oX3 q_t_past_tables_e t_past_tables_e_size q_t_past_tables_e_corners, aI (G.2 1) q_t_past_tables_e_corners 49 t_past_tables_e_corners]) (va_A [oX5 q_t q_t_text q_t_table q_t_other q_t_spare q_t_past q_t_lines q_t_sizes, oX3 q_t_table t_table_size q_t_table_corners, aI (G.2 1) q_t_table_corners 49 t_table_corners, oX2 q_t_past q_t_past_tables t_past_free t_past_held, aQ (G.2 5) q_t_past_tables 6 t_past_tables, oX3 q_t_past_tables_e t_past_tables_e_size q_t_past_tables_e_corners, aI (G.2 1) q_t_past_tables_e_corners 49 t_past_tables_e_corners] sz)) 0 0 (va_A [oX5 q_t q_t_text q_t_table q_t_other q_t_spare q_t_past q_t_lines q_t_sizes, oX3 q_t_table t_table_size q_t_table_corners, aI (G.2 1) q_t_table_corners 49 t_table_corners, oX2 q_t_past q_t_past_tables t_past_free t_past_held, aQ (G.2 5) q_t_past_tables 6 t_past_tables, oX3 q_t_past_tables_e t_past_tables_e_size q_t_past_tables_e_corners, aI (G.2 1) q_t_past_tables_e_corners 49 t_past_tables_e_corners] sz) := by
  refine Met.ofQ (cc := cX5_undo) (maxL := 1) (ret := (some .int)) (by decide) rfl ?_
  intro p e s m args below meth c s₁ Q hQ B hml hv
  obtain ⟨rfl, hsz, hP, hKW, hD0⟩ := hv
  have hK := hKW.1
  have hx := B.exec
  have hb := B.bytes
  have hr := B.returns
  have hts := atoms_spec (ws := wsX5_undo) B.pre
  have hown : s.vm.findClass RX5 = some m.cls := findClass_of_methodNamed B.named
  have hlocks := B.notSynchronized
  have iX2 : ∀ w ∈ u_ws RX2 TX2 3, w ∈ wsX5_undo := by decide +kernel
  have iX5 : ∀ w ∈ u_ws RX5 TX5 7, w ∈ wsX5_undo := by decide +kernel
  have fl_32 := hts (.fieldLink RX5 32 "AlternateSigns" "past" "LAlternateSigns$Past;") (by decide +kernel)
  have fl_101 := hts (.fieldLink RX5 101 "AlternateSigns$Past" "held" "I") (by decide +kernel)
  have fl_19 := hts (.fieldLink RX5 19 "AlternateSigns" "table" "LAlternateSigns$Table;") (by decide +kernel)
  subst hsz
  have hD := hD0.self (sz := s.heap.size)
  generalize hAe : va_A [oX5 q_t q_t_text q_t_table q_t_other q_t_spare q_t_past q_t_lines q_t_sizes, oX3 q_t_table t_table_size q_t_table_corners, aI (G.2 1) q_t_table_corners 49 t_table_corners, oX2 q_t_past q_t_past_tables t_past_free t_past_held, aQ (G.2 5) q_t_past_tables 6 t_past_tables, oX3 q_t_past_tables_e t_past_tables_e_size q_t_past_tables_e_corners, aI (G.2 1) q_t_past_tables_e_corners 49 t_past_tables_e_corners] s.heap.size = A at hD hQ
  have hA : ∀ q : Nat, s.heap.size ≤ q → A q := fun q h => by rw [← hAe]; exact Or.inr h
  have hS : va_S A s.heap s.heap [] := va_S.rf
  have hl := lv_entry ([.ref q_t]) (n := 1) (Nat.le_of_ble_eq_true rfl)
  rw [lg_entry_eq]
  generalize (lg_sl ([.ref q_t]) ++ List.replicate (1 - (lg_sl ([.ref q_t])).length) Slot.unset).toArray = ls at hl ⊢
  have hl : lv_has ls 1 [(0, .ref q_t)] := hl
  unfold S_X5_undo at hE
  refine lv_aload_n hx hb dX5_undo_0 rfl (lv_at hl 0 rfl) ?_
  refine va_get (D := G.1) (ci := 5) (v := .ref q_t_past) (C := RX5) (T := TX5) (N := 7) hx hb hts iX5 hown hK hP 0 rfl rfl 4 (by decide) fl_32 (fun _ h9 => h9) rfl dX5_undo_1 ?_
  refine va_get (D := G.1) (ci := 2) (v := .int t_past_held) (C := RX2) (T := TX2) (N := 3) hx hb hts iX2 hown hK hP 3 rfl rfl 2 (by decide) fl_101 (fun _ h9 => h9) rfl dX5_undo_4 ?_
  refine lv_if_ne (tgt := 13) hx hb dX5_undo_7 (by decide) (fun c_7 => ?_) (fun c_7 => ?_)
  · replace hE := (if_neg c_7).symm.trans hE
    refine lv_aload_n hx hb dX5_undo_13 rfl (lv_at hl 0 rfl) ?_
    refine va_get (D := G.1) (ci := 5) (v := .ref q_t_past) (C := RX5) (T := TX5) (N := 7) hx hb hts iX5 hown hK hP 0 rfl rfl 4 (by decide) fl_32 (fun _ h9 => h9) rfl dX5_undo_14 ?_
    refine lv_aload_n hx hb dX5_undo_17 rfl (lv_at hl 0 rfl) ?_
    refine va_get (D := G.1) (ci := 5) (v := .ref q_t_table) (C := RX5) (T := TX5) (N := 7) hx hb hts iX5 hown hK hP 0 rfl rfl 1 (by decide) fl_19 (fun _ h9 => h9) rfl dX5_undo_18 ?_
    obtain ⟨y21, hC_21, hE⟩ := Option.bind_eq_some_iff.mp hE
    obtain ⟨m_21_0, m_21_1, m_21_2, m_21_3⟩ := y21
    try dsimp only at hE
    have hPc := hP.sub (ws' := [oX2 q_t_past q_t_past_tables t_past_free t_past_held, aQ (G.2 5) q_t_past_tables 6 t_past_tables, oX3 q_t_past_tables_e t_past_tables_e_size q_t_past_tables_e_corners, aI (G.2 1) q_t_past_tables_e_corners 49 t_past_tables_e_corners, oX3 q_t_table t_table_size q_t_table_corners, aI (G.2 1) q_t_table_corners 49 t_table_corners]) [3, 4, 5, 6, 1, 2] rfl
    have hDc := hD.sub (ws' := [oX2 q_t_past q_t_past_tables t_past_free t_past_held, aQ (G.2 5) q_t_past_tables 6 t_past_tables, oX3 q_t_past_tables_e t_past_tables_e_size q_t_past_tables_e_corners, aI (G.2 1) q_t_past_tables_e_corners 49 t_past_tables_e_corners, oX3 q_t_table t_table_size q_t_table_corners, aI (G.2 1) q_t_table_corners 49 t_table_corners]) [3, 4, 5, 6, 1, 2] (by decide) rfl
    have hFc := va_free (wc := [oX2 q_t_past q_t_past_tables t_past_free t_past_held, aQ (G.2 5) q_t_past_tables 6 t_past_tables, oX3 q_t_past_tables_e t_past_tables_e_size q_t_past_tables_e_corners, aI (G.2 1) q_t_past_tables_e_corners 49 t_past_tables_e_corners, oX3 q_t_table t_table_size q_t_table_corners, aI (G.2 1) q_t_table_corners 49 t_table_corners]) hD hS hA [3, 4, 5, 6, 1, 2] rfl
    refine va_callv (va_runV (As := [.ref q_t_table]) (rest := []) ⟨hx, hb, hml, hown, hts⟩ (c_X2_giveBack (l := l) (G := G) _ (q_t := q_t_past) (q_t_tables := q_t_past_tables) (t_free := t_past_free) (t_held := t_past_held) (t_tables := t_past_tables) (q_t_tables_e := q_t_past_tables_e) (t_tables_e_size := t_past_tables_e_size) (q_t_tables_e_corners := q_t_past_tables_e_corners) (t_tables_e_corners := t_past_tables_e_corners) (q_p1 := q_t_table) (p1_size := t_table_size) (q_p1_corners := q_t_table_corners) (p1_corners := t_table_corners) he_0 hC_21) (cwV 1 hts gX5_undo_X2_giveBack rfl rfl rfl kd_X2_giveBack ⟨Nat.le_of_ble_eq_true rfl, Nat.le_of_ble_eq_true rfl⟩) (iv_V hKW hPc hDc (ci := 2) (q0 := 0) rfl rfl) rfl rfl hl.1 rfl (lv_room (Nat.le_of_ble_eq_true rfl)) dX5_undo_21 ⟨Nat.zero_le _, Nat.zero_le _⟩) hS (fun q _ h => hFc q h) hFc (fun u9 t9 H1 locs ht9 hvm9 hw9 hB9 hz9 hk9 hS => ?_)
    obtain ⟨hP1, hD1⟩ := hB9
    rw [ht9] at hP1
    obtain ⟨hP, hD⟩ := va_join (wr := [oX5 q_t q_t_text q_t_table q_t_other q_t_spare q_t_past q_t_lines q_t_sizes]) (w1 := [oX2 q_t_past q_t_past_tables m_21_0 m_21_1, aQ (G.2 5) q_t_past_tables 6 t_past_tables, oX3 q_t_past_tables_e t_past_tables_e_size q_t_past_tables_e_corners, aI (G.2 1) q_t_past_tables_e_corners 49 t_past_tables_e_corners, oX3 q_t_table m_21_2 q_t_table_corners, aI (G.2 1) q_t_table_corners 49 m_21_3]) hP hD [3, 4, 5, 6, 1, 2] [0] rfl rfl (by decide) (by decide) hk9 hFc hP1 hD1
    have hP := hP.sub (ws' := [oX5 q_t q_t_text q_t_table q_t_other q_t_spare q_t_past q_t_lines q_t_sizes, oX3 q_t_table m_21_2 q_t_table_corners, aI (G.2 1) q_t_table_corners 49 m_21_3, oX2 q_t_past q_t_past_tables m_21_0 m_21_1, aQ (G.2 5) q_t_past_tables 6 t_past_tables, oX3 q_t_past_tables_e t_past_tables_e_size q_t_past_tables_e_corners, aI (G.2 1) q_t_past_tables_e_corners 49 t_past_tables_e_corners]) [0, 5, 6, 1, 2, 3, 4] rfl
    have hD := hD.sub (ws' := [oX5 q_t q_t_text q_t_table q_t_other q_t_spare q_t_past q_t_lines q_t_sizes, oX3 q_t_table m_21_2 q_t_table_corners, aI (G.2 1) q_t_table_corners 49 m_21_3, oX2 q_t_past q_t_past_tables m_21_0 m_21_1, aQ (G.2 5) q_t_past_tables 6 t_past_tables, oX3 q_t_past_tables_e t_past_tables_e_size q_t_past_tables_e_corners, aI (G.2 1) q_t_past_tables_e_corners 49 t_past_tables_e_corners]) [0, 5, 6, 1, 2, 3, 4] (by decide) rfl
    clear hPc hDc hFc hP1 hD1 hk9 hz9 hvm9
    refine lv_aload_n hx hb dX5_undo_24 rfl (lv_at hl 0 rfl) ?_
    refine va_get (D := G.1) (ci := 5) (v := .ref q_t_past) (C := RX5) (T := TX5) (N := 7) hx hb hts iX5 hown hK hP 0 rfl rfl 4 (by decide) fl_32 (fun _ h9 => h9) rfl dX5_undo_25 ?_
    refine va_get (D := G.1) (ci := 2) (v := .int m_21_1) (C := RX2) (T := TX2) (N := 3) hx hb hts iX2 hown hK hP 3 rfl rfl 2 (by decide) fl_101 (fun _ h9 => h9) rfl dX5_undo_28 ?_
    have e_0 := Option.some.inj hE
    subst e_0
    rw [hQ]
    exact W.iret (v := m_21_1) hx hb hr (fun t ht _ => ⟨⟨_, (), rfl, rfl, by rw [ht]; exact hP, hD⟩, hS.F ht⟩) hS.2.2 dX5_undo_31
  · replace hE := (if_pos c_7).symm.trans hE
    refine lv_bipush (v := -2) hx hb dX5_undo_10 (by decide) ?_
    have e_0 := Option.some.inj hE
    subst e_0
    rw [hQ]
    exact W.iret (v := (-2 : Int32)) hx hb hr (fun t ht _ => ⟨⟨_, (), rfl, rfl, by rw [ht]; exact hP, hD⟩, hS.F ht⟩) hS.2.2 dX5_undo_12
def S_X5_keep (t_table_size : Int32) (t_table_corners : Nat → Int32) (t_other_corners : Nat → Int32) : Option (Int32 × Int32 × (Nat → Int32)) := (S_X3_copy t_other_corners t_table_size t_table_corners).bind (fun (y8 : Int32 × (Nat → Int32)) => some (y8.1, y8.1, y8.2))
theorem kd_X5_keep : yX5_keep.cls = RX5 ∧ yX5_keep.cls ≠ "java/lang/invoke/MethodHandle" ∧ yX5_keep.cls ≠ "java/lang/invoke/VarHandle" ∧ (parseMethodDescriptor yX5_keep.desc).map (fun d => d.parameters.length) = some 0 := by decide +kernel
set_option maxHeartbeats 4000000 in
set_option maxRecDepth 100000 in
theorem c_X5_keep {l : Launch} {G : kG} (sz : Nat) {q_t : Nat} {q_t_text : Nat} {q_t_table : Nat} {q_t_other : Nat} {q_t_spare : Nat} {q_t_past : Nat} {q_t_lines : Nat} {q_t_sizes : Nat} {t_table_size : Int32} {q_t_table_corners : Nat} {t_table_corners : Nat → Int32} {t_other_size : Int32} {q_t_other_corners : Nat} {t_other_corners : Nat → Int32} {res : Int32 × Int32 × (Nat → Int32)} (hE : S_X5_keep t_table_size t_table_corners t_other_corners = some res) : Met l yX5_keep wsX5_keep ({ frames := 2, cells := 0, slots := 0, locals := 61 }) (va_Pc [.ref q_t] (fun U => U.heap.size = sz ∧ va_P G.1 vwCl [oX5 q_t q_t_text q_t_table q_t_other q_t_spare q_t_past q_t_lines q_t_sizes, oX3 q_t_table t_table_size q_t_table_corners, aI (G.2 1) q_t_table_corners 49 t_table_corners, oX3 q_t_other t_other_size q_t_other_corners, aI (G.2 1) q_t_other_corners 49 t_other_corners] U.heap ∧ kw G U ∧ va_D (fun _ => True) [oX5 q_t q_t_text q_t_table q_t_other q_t_spare q_t_past q_t_lines q_t_sizes, oX3 q_t_table t_table_size q_t_table_corners, aI (G.2 1) q_t_table_corners 49 t_table_corners, oX3 q_t_other t_other_size q_t_other_corners, aI (G.2 1) q_t_other_corners 49 t_other_corners])) (va_Qi (fun r (_ : Unit) => r = res.1) (fun _ t => va_P G.1 vwCl [oX5 q_t q_t_text q_t_table q_t_other q_t_spare q_t_past q_t_lines q_t_sizes, oX3 q_t_table t_table_size q_t_table_corners, aI (G.2 1) q_t_table_corners 49 t_table_corners, oX3 q_t_other res.2.1 q_t_other_corners, aI (G.2 1) q_t_other_corners 49 res.2.2] t.heap ∧ va_D (va_A [oX5 q_t q_t_text q_t_table q_t_other q_t_spare q_t_past q_t_lines q_t_sizes, oX3 q_t_table t_table_size q_t_table_corners, aI (G.2 1) q_t_table_corners 49 t_table_corners, oX3 q_t_other t_other_size q_t_other_corners, aI (G.2 1) q_t_other_corners 49 t_other_corners] sz) [oX5 q_t q_t_text q_t_table q_t_other q_t_spare q_t_past q_t_lines q_t_sizes, oX3 q_t_table t_table_size q_t_table_corners, aI (G.2 1) q_t_table_corners 49 t_table_corners, oX3 q_t_other res.2.1 q_t_other_corners, aI (G.2 1) q_t_other_corners 49 res.2.2]) (va_A [oX5 q_t q_t_text q_t_table q_t_other q_t_spare q_t_past q_t_lines q_t_sizes, oX3 q_t_table t_table_size q_t_table_corners, aI (G.2 1) q_t_table_corners 49 t_table_corners, oX3 q_t_other t_other_size q_t_other_corners, aI (G.2 1) q_t_other_corners 49 t_other_corners] sz)) 0 0 (va_A [oX5 q_t q_t_text q_t_table q_t_other q_t_spare q_t_past q_t_lines q_t_sizes, oX3 q_t_table t_table_size q_t_table_corners, aI (G.2 1) q_t_table_corners 49 t_table_corners, oX3 q_t_other t_other_size q_t_other_corners, aI (G.2 1) q_t_other_corners 49 t_other_corners] sz) := by
  refine Met.ofQ (cc := cX5_keep) (maxL := 1) (ret := (some .int)) (by decide) rfl ?_
  intro p e s m args below meth c s₁ Q hQ B hml hv
  obtain ⟨rfl, hsz, hP, hKW, hD0⟩ := hv
  have hK := hKW.1
  have hx := B.exec
  have hb := B.bytes
  have hr := B.returns
  have hts := atoms_spec (ws := wsX5_keep) B.pre
  have hown : s.vm.findClass RX5 = some m.cls := findClass_of_methodNamed B.named
  have hlocks := B.notSynchronized
  have iX3 : ∀ w ∈ u_ws RX3 TX3 2, w ∈ wsX5_keep := by decide +kernel
  have iX5 : ∀ w ∈ u_ws RX5 TX5 7, w ∈ wsX5_keep := by decide +kernel
  have fl_23 := hts (.fieldLink RX5 23 "AlternateSigns" "other" "LAlternateSigns$Table;") (by decide +kernel)
  have fl_19 := hts (.fieldLink RX5 19 "AlternateSigns" "table" "LAlternateSigns$Table;") (by decide +kernel)
  have fl_84 := hts (.fieldLink RX5 84 "AlternateSigns$Table" "size" "I") (by decide +kernel)
  subst hsz
  have hD := hD0.self (sz := s.heap.size)
  generalize hAe : va_A [oX5 q_t q_t_text q_t_table q_t_other q_t_spare q_t_past q_t_lines q_t_sizes, oX3 q_t_table t_table_size q_t_table_corners, aI (G.2 1) q_t_table_corners 49 t_table_corners, oX3 q_t_other t_other_size q_t_other_corners, aI (G.2 1) q_t_other_corners 49 t_other_corners] s.heap.size = A at hD hQ
  have hA : ∀ q : Nat, s.heap.size ≤ q → A q := fun q h => by rw [← hAe]; exact Or.inr h
  have hS : va_S A s.heap s.heap [] := va_S.rf
  have hl := lv_entry ([.ref q_t]) (n := 1) (Nat.le_of_ble_eq_true rfl)
  rw [lg_entry_eq]
  generalize (lg_sl ([.ref q_t]) ++ List.replicate (1 - (lg_sl ([.ref q_t])).length) Slot.unset).toArray = ls at hl ⊢
  have hl : lv_has ls 1 [(0, .ref q_t)] := hl
  unfold S_X5_keep at hE
  refine lv_aload_n hx hb dX5_keep_0 rfl (lv_at hl 0 rfl) ?_
  refine va_get (D := G.1) (ci := 5) (v := .ref q_t_other) (C := RX5) (T := TX5) (N := 7) hx hb hts iX5 hown hK hP 0 rfl rfl 2 (by decide) fl_23 (fun _ h9 => h9) rfl dX5_keep_1 ?_
  refine lv_aload_n hx hb dX5_keep_4 rfl (lv_at hl 0 rfl) ?_
  refine va_get (D := G.1) (ci := 5) (v := .ref q_t_table) (C := RX5) (T := TX5) (N := 7) hx hb hts iX5 hown hK hP 0 rfl rfl 1 (by decide) fl_19 (fun _ h9 => h9) rfl dX5_keep_5 ?_
  obtain ⟨y8, hC_8, hE⟩ := Option.bind_eq_some_iff.mp hE
  obtain ⟨m_8_0, m_8_1⟩ := y8
  try dsimp only at hE
  have hPc := hP.sub (ws' := [oX3 q_t_other t_other_size q_t_other_corners, aI (G.2 1) q_t_other_corners 49 t_other_corners, oX3 q_t_table t_table_size q_t_table_corners, aI (G.2 1) q_t_table_corners 49 t_table_corners]) [3, 4, 1, 2] rfl
  have hDc := hD.sub (ws' := [oX3 q_t_other t_other_size q_t_other_corners, aI (G.2 1) q_t_other_corners 49 t_other_corners, oX3 q_t_table t_table_size q_t_table_corners, aI (G.2 1) q_t_table_corners 49 t_table_corners]) [3, 4, 1, 2] (by decide) rfl
  have hFc := va_free (wc := [oX3 q_t_other t_other_size q_t_other_corners, aI (G.2 1) q_t_other_corners 49 t_other_corners, oX3 q_t_table t_table_size q_t_table_corners, aI (G.2 1) q_t_table_corners 49 t_table_corners]) hD hS hA [3, 4, 1, 2] rfl
  refine va_callv (va_runV (As := [.ref q_t_table]) (rest := []) ⟨hx, hb, hml, hown, hts⟩ (c_X3_copy (l := l) (G := G) _ (q_t := q_t_other) (t_size := t_other_size) (q_t_corners := q_t_other_corners) (t_corners := t_other_corners) (q_p1 := q_t_table) (p1_size := t_table_size) (q_p1_corners := q_t_table_corners) (p1_corners := t_table_corners) hC_8) (cwV 1 hts gX5_keep_X3_copy rfl rfl rfl kd_X3_copy ⟨Nat.le_of_ble_eq_true rfl, Nat.le_of_ble_eq_true rfl⟩) (iv_V hKW hPc hDc (ci := 3) (q0 := 0) rfl rfl) rfl rfl hl.1 rfl (lv_room (Nat.le_of_ble_eq_true rfl)) dX5_keep_8 ⟨Nat.zero_le _, Nat.zero_le _⟩) hS (fun q _ h => hFc q h) hFc (fun u9 t9 H1 locs ht9 hvm9 hw9 hB9 hz9 hk9 hS => ?_)
  obtain ⟨hP1, hD1⟩ := hB9
  rw [ht9] at hP1
  obtain ⟨hP, hD⟩ := va_join (wr := [oX5 q_t q_t_text q_t_table q_t_other q_t_spare q_t_past q_t_lines q_t_sizes]) (w1 := [oX3 q_t_other m_8_0 q_t_other_corners, aI (G.2 1) q_t_other_corners 49 m_8_1, oX3 q_t_table t_table_size q_t_table_corners, aI (G.2 1) q_t_table_corners 49 t_table_corners]) hP hD [3, 4, 1, 2] [0] rfl rfl (by decide) (by decide) hk9 hFc hP1 hD1
  have hP := hP.sub (ws' := [oX5 q_t q_t_text q_t_table q_t_other q_t_spare q_t_past q_t_lines q_t_sizes, oX3 q_t_table t_table_size q_t_table_corners, aI (G.2 1) q_t_table_corners 49 t_table_corners, oX3 q_t_other m_8_0 q_t_other_corners, aI (G.2 1) q_t_other_corners 49 m_8_1]) [0, 3, 4, 1, 2] rfl
  have hD := hD.sub (ws' := [oX5 q_t q_t_text q_t_table q_t_other q_t_spare q_t_past q_t_lines q_t_sizes, oX3 q_t_table t_table_size q_t_table_corners, aI (G.2 1) q_t_table_corners 49 t_table_corners, oX3 q_t_other m_8_0 q_t_other_corners, aI (G.2 1) q_t_other_corners 49 m_8_1]) [0, 3, 4, 1, 2] (by decide) rfl
  clear hPc hDc hFc hP1 hD1 hk9 hz9 hvm9
  refine lv_aload_n hx hb dX5_keep_11 rfl (lv_at hl 0 rfl) ?_
  refine va_get (D := G.1) (ci := 5) (v := .ref q_t_other) (C := RX5) (T := TX5) (N := 7) hx hb hts iX5 hown hK hP 0 rfl rfl 2 (by decide) fl_23 (fun _ h9 => h9) rfl dX5_keep_12 ?_
  refine va_get (D := G.1) (ci := 3) (v := .int m_8_0) (C := RX3) (T := TX3) (N := 2) hx hb hts iX3 hown hK hP 3 rfl rfl 0 (by decide) fl_84 (fun _ h9 => h9) rfl dX5_keep_15 ?_
  have e_0 := Option.some.inj hE
  subst e_0
  rw [hQ]
  exact W.iret (v := m_8_0) hx hb hr (fun t ht _ => ⟨⟨_, (), rfl, rfl, by rw [ht]; exact hP, hD⟩, hS.F ht⟩) hS.2.2 dX5_keep_18
def S_X5_sign (p1 : Int32) (p2 : Int32) (t_table_size : Int32) (t_table_corners : Nat → Int32) : Option Int32 := (S_X5_isBetween p1 (0 : Int32) (t_table_size - (1 : Int32))).bind (fun (y11 : Int32) => if y11 = 0 then some (-1 : Int32) else (S_X5_isBetween p2 (0 : Int32) (t_table_size - (1 : Int32))).bind (fun (y28 : Int32) => if y28 = 0 then some (-1 : Int32) else (S_X3_signAt p1 p2 t_table_corners).bind (fun (y44 : Int32) => some ((100 : Int32) + y44))))
theorem kd_X5_sign : yX5_sign.cls = RX5 ∧ yX5_sign.cls ≠ "java/lang/invoke/MethodHandle" ∧ yX5_sign.cls ≠ "java/lang/invoke/VarHandle" ∧ (parseMethodDescriptor yX5_sign.desc).map (fun d => d.parameters.length) = some 2 := by decide +kernel
set_option maxHeartbeats 4000000 in
set_option maxRecDepth 100000 in
theorem c_X5_sign {l : Launch} {G : kG} {p1 : Int32} {p2 : Int32} {q_t : Nat} {q_t_text : Nat} {q_t_table : Nat} {q_t_other : Nat} {q_t_spare : Nat} {q_t_past : Nat} {q_t_lines : Nat} {q_t_sizes : Nat} {t_table_size : Int32} {q_t_table_corners : Nat} {t_table_corners : Nat → Int32} {res : Int32} (hE : S_X5_sign p1 p2 t_table_size t_table_corners = some res) : Met l yX5_sign wsX5_sign ({ frames := 3, cells := 0, slots := 0, locals := 66 }) (va_Pc [.ref q_t, .int p1, .int p2] (fun U => va_P G.1 vwCl [oX5 q_t q_t_text q_t_table q_t_other q_t_spare q_t_past q_t_lines q_t_sizes, oX3 q_t_table t_table_size q_t_table_corners, aI (G.2 1) q_t_table_corners 49 t_table_corners] U.heap ∧ kw G U)) (vp_Si (fun r => r = res)) 0 0 (fun _ => False) := by
  refine Met.ofQ (cc := cX5_sign) (maxL := 3) (ret := (some .int)) (by decide) rfl ?_
  intro p e s m args below meth c s₁ Q hQ B hml hv
  obtain ⟨rfl, hP, hKW⟩ := hv
  have hK := hKW.1
  have hx := B.exec
  have hb := B.bytes
  have hr := B.returns
  have hts := atoms_spec (ws := wsX5_sign) B.pre
  have hown : s.vm.findClass RX5 = some m.cls := findClass_of_methodNamed B.named
  have hlocks := B.notSynchronized
  have iX3 : ∀ w ∈ u_ws RX3 TX3 2, w ∈ wsX5_sign := by decide +kernel
  have iX5 : ∀ w ∈ u_ws RX5 TX5 7, w ∈ wsX5_sign := by decide +kernel
  have fl_19 := hts (.fieldLink RX5 19 "AlternateSigns" "table" "LAlternateSigns$Table;") (by decide +kernel)
  have fl_84 := hts (.fieldLink RX5 84 "AlternateSigns$Table" "size" "I") (by decide +kernel)
  have hl := lv_entry ([.ref q_t, .int p1, .int p2]) (n := 3) (Nat.le_of_ble_eq_true rfl)
  rw [lg_entry_eq]
  generalize (lg_sl ([.ref q_t, .int p1, .int p2]) ++ List.replicate (3 - (lg_sl ([.ref q_t, .int p1, .int p2])).length) Slot.unset).toArray = ls at hl ⊢
  have hl : lv_has ls 3 [(0, .ref q_t), (1, .int p1), (2, .int p2)] := hl
  unfold S_X5_sign at hE
  refine lv_iload_n hx hb dX5_sign_0 rfl (lv_at hl 1 rfl) ?_
  refine lv_iconst (v := 0) hx hb dX5_sign_1 (by decide) ?_
  refine lv_aload_n hx hb dX5_sign_2 rfl (lv_at hl 0 rfl) ?_
  refine va_get (D := G.1) (ci := 5) (v := .ref q_t_table) (C := RX5) (T := TX5) (N := 7) hx hb hts iX5 hown hK hP 0 rfl rfl 1 (by decide) fl_19 (fun _ h9 => h9) rfl dX5_sign_3 ?_
  refine va_get (D := G.1) (ci := 3) (v := .int t_table_size) (C := RX3) (T := TX3) (N := 2) hx hb hts iX3 hown hK hP 1 rfl rfl 0 (by decide) fl_84 (fun _ h9 => h9) rfl dX5_sign_6 ?_
  refine lv_iconst (v := 1) hx hb dX5_sign_9 (by decide) ?_
  refine lv_isub hx hb dX5_sign_10 ?_
  obtain ⟨y11, hC_11, hE⟩ := Option.bind_eq_some_iff.mp hE
  obtain ⟨r_11, ex9⟩ : ∃ z, z = y11 := ⟨_, rfl⟩
  subst ex9
  try dsimp only at hE
  refine vp_callSi (va_Run.run (va_runS (As := [.int p1, .int (0 : Int32), .int (t_table_size - (1 : Int32))]) (rest := []) ⟨hx, hb, hml, hown, hts⟩ (c_X5_isBetween (l := l) (G := G) (p1 := p1) (p2 := (0 : Int32)) (p3 := t_table_size - (1 : Int32)) hC_11) (va_cwS 3 hts gX5_sign_X5_isBetween rfl rfl rfl kd_X5_isBetween ⟨Nat.le_of_ble_eq_true rfl, Nat.le_of_ble_eq_true rfl⟩) (pv_S hKW (hP.sub (ws' := []) [] rfl)) rfl rfl hl.1 rfl (lv_room (Nat.le_of_ble_eq_true rfl)) dX5_sign_11 ⟨Nat.zero_le _, Nat.zero_le _⟩)) (fun r9 hr9 => ?_)
  subst r9
  refine lv_if_eq (tgt := 34) hx hb dX5_sign_14 (by decide) (fun c_14 => ?_) (fun c_14 => ?_)
  · replace hE := (if_pos c_14).symm.trans hE
    refine lv_iconst (v := -1) hx hb dX5_sign_34 (by decide) ?_
    have e_0 := Option.some.inj hE
    rw [hQ]
    exact W.iret (v := (-1 : Int32)) hx hb hr (fun t ht _ => ⟨_, rfl, e_0, ht⟩) (fun q h => by cases h) dX5_sign_35
  · replace hE := (if_neg c_14).symm.trans hE
    refine lv_iload_n hx hb dX5_sign_17 rfl (lv_at hl 2 rfl) ?_
    refine lv_iconst (v := 0) hx hb dX5_sign_18 (by decide) ?_
    refine lv_aload_n hx hb dX5_sign_19 rfl (lv_at hl 0 rfl) ?_
    refine va_get (D := G.1) (ci := 5) (v := .ref q_t_table) (C := RX5) (T := TX5) (N := 7) hx hb hts iX5 hown hK hP 0 rfl rfl 1 (by decide) fl_19 (fun _ h9 => h9) rfl dX5_sign_20 ?_
    refine va_get (D := G.1) (ci := 3) (v := .int t_table_size) (C := RX3) (T := TX3) (N := 2) hx hb hts iX3 hown hK hP 1 rfl rfl 0 (by decide) fl_84 (fun _ h9 => h9) rfl dX5_sign_23 ?_
    refine lv_iconst (v := 1) hx hb dX5_sign_26 (by decide) ?_
    refine lv_isub hx hb dX5_sign_27 ?_
    obtain ⟨y28, hC_28, hE⟩ := Option.bind_eq_some_iff.mp hE
    obtain ⟨r_28, ex9⟩ : ∃ z, z = y28 := ⟨_, rfl⟩
    subst ex9
    try dsimp only at hE
    refine vp_callSi (va_Run.run (va_runS (As := [.int p2, .int (0 : Int32), .int (t_table_size - (1 : Int32))]) (rest := []) ⟨hx, hb, hml, hown, hts⟩ (c_X5_isBetween (l := l) (G := G) (p1 := p2) (p2 := (0 : Int32)) (p3 := t_table_size - (1 : Int32)) hC_28) (va_cwS 3 hts gX5_sign_X5_isBetween rfl rfl rfl kd_X5_isBetween ⟨Nat.le_of_ble_eq_true rfl, Nat.le_of_ble_eq_true rfl⟩) (pv_S hKW (hP.sub (ws' := []) [] rfl)) rfl rfl hl.1 rfl (lv_room (Nat.le_of_ble_eq_true rfl)) dX5_sign_28 ⟨Nat.zero_le _, Nat.zero_le _⟩)) (fun r9 hr9 => ?_)
    subst r9
    refine lv_if_ne (tgt := 36) hx hb dX5_sign_31 (by decide) (fun c_31 => ?_) (fun c_31 => ?_)
    · replace hE := (if_neg c_31).symm.trans hE
      refine lv_bipush (v := 100) hx hb dX5_sign_36 (by decide) ?_
      refine lv_aload_n hx hb dX5_sign_38 rfl (lv_at hl 0 rfl) ?_
      refine va_get (D := G.1) (ci := 5) (v := .ref q_t_table) (C := RX5) (T := TX5) (N := 7) hx hb hts iX5 hown hK hP 0 rfl rfl 1 (by decide) fl_19 (fun _ h9 => h9) rfl dX5_sign_39 ?_
      refine lv_iload_n hx hb dX5_sign_42 rfl (lv_at hl 1 rfl) ?_
      refine lv_iload_n hx hb dX5_sign_43 rfl (lv_at hl 2 rfl) ?_
      obtain ⟨y44, hC_44, hE⟩ := Option.bind_eq_some_iff.mp hE
      obtain ⟨r_44, ex9⟩ : ∃ z, z = y44 := ⟨_, rfl⟩
      subst ex9
      try dsimp only at hE
      refine vp_callSi (va_Run.run (va_runV (As := [.int p1, .int p2]) (rest := [.int (100 : Int32)]) ⟨hx, hb, hml, hown, hts⟩ (c_X3_signAt (l := l) (G := G) (p1 := p1) (p2 := p2) (q_t := q_t_table) (t_size := t_table_size) (q_t_corners := q_t_table_corners) (t_corners := t_table_corners) hC_44) (cwV 2 hts gX5_sign_X3_signAt rfl rfl rfl kd_X3_signAt ⟨Nat.le_of_ble_eq_true rfl, Nat.le_of_ble_eq_true rfl⟩) (pv_V hKW (hP.sub (ws' := [oX3 q_t_table t_table_size q_t_table_corners, aI (G.2 1) q_t_table_corners 49 t_table_corners]) [1, 2] rfl) (ci := 3) (q0 := 0) rfl rfl) rfl rfl hl.1 rfl (lv_room (Nat.le_of_ble_eq_true rfl)) dX5_sign_44 ⟨Nat.zero_le _, Nat.zero_le _⟩)) (fun r9 hr9 => ?_)
      subst r9
      refine lv_iadd hx hb dX5_sign_47 ?_
      have e_0 := Option.some.inj hE
      rw [hQ]
      exact W.iret (v := (100 : Int32) + r_44) hx hb hr (fun t ht _ => ⟨_, rfl, e_0, ht⟩) (fun q h => by cases h) dX5_sign_48
    · replace hE := (if_pos c_31).symm.trans hE
      refine lv_iconst (v := -1) hx hb dX5_sign_34 (by decide) ?_
      have e_0 := Option.some.inj hE
      rw [hQ]
      exact W.iret (v := (-1 : Int32)) hx hb hr (fun t ht _ => ⟨_, rfl, e_0, ht⟩) (fun q h => by cases h) dX5_sign_35
def S_X5_isCorner (p1 : Int32) (p2 : Int32) (t_table_size : Int32) : Option Int32 := (S_X5_isBetween p1 (0 : Int32) t_table_size).bind (fun (y9 : Int32) => if y9 = 0 then some (0 : Int32) else (S_X5_isBetween p2 (0 : Int32) t_table_size).bind (fun (y24 : Int32) => if y24 = 0 then some (0 : Int32) else some (1 : Int32)))
theorem kd_X5_isCorner : yX5_isCorner.cls = RX5 ∧ yX5_isCorner.cls ≠ "java/lang/invoke/MethodHandle" ∧ yX5_isCorner.cls ≠ "java/lang/invoke/VarHandle" ∧ (parseMethodDescriptor yX5_isCorner.desc).map (fun d => d.parameters.length) = some 2 := by decide +kernel
set_option maxHeartbeats 4000000 in
set_option maxRecDepth 100000 in
theorem c_X5_isCorner {l : Launch} {G : kG} {p1 : Int32} {p2 : Int32} {q_t : Nat} {q_t_text : Nat} {q_t_table : Nat} {q_t_other : Nat} {q_t_spare : Nat} {q_t_past : Nat} {q_t_lines : Nat} {q_t_sizes : Nat} {t_table_size : Int32} {q_t_table_corners : Nat} {res : Int32} (hE : S_X5_isCorner p1 p2 t_table_size = some res) : Met l yX5_isCorner wsX5_isCorner ({ frames := 1, cells := 0, slots := 0, locals := 22 }) (va_Pc [.ref q_t, .int p1, .int p2] (fun U => va_P G.1 vwCl [oX5 q_t q_t_text q_t_table q_t_other q_t_spare q_t_past q_t_lines q_t_sizes, oX3 q_t_table t_table_size q_t_table_corners] U.heap ∧ kw G U)) (vp_Si (fun r => r = res)) 0 0 (fun _ => False) := by
  refine Met.ofQ (cc := cX5_isCorner) (maxL := 3) (ret := (some .boolean)) (by decide) rfl ?_
  intro p e s m args below meth c s₁ Q hQ B hml hv
  obtain ⟨rfl, hP, hKW⟩ := hv
  have hK := hKW.1
  have hx := B.exec
  have hb := B.bytes
  have hr := B.returns
  have hts := atoms_spec (ws := wsX5_isCorner) B.pre
  have hown : s.vm.findClass RX5 = some m.cls := findClass_of_methodNamed B.named
  have hlocks := B.notSynchronized
  have iX3 : ∀ w ∈ u_ws RX3 TX3 2, w ∈ wsX5_isCorner := by decide +kernel
  have iX5 : ∀ w ∈ u_ws RX5 TX5 7, w ∈ wsX5_isCorner := by decide +kernel
  have fl_19 := hts (.fieldLink RX5 19 "AlternateSigns" "table" "LAlternateSigns$Table;") (by decide +kernel)
  have fl_84 := hts (.fieldLink RX5 84 "AlternateSigns$Table" "size" "I") (by decide +kernel)
  have hl := lv_entry ([.ref q_t, .int p1, .int p2]) (n := 3) (Nat.le_of_ble_eq_true rfl)
  rw [lg_entry_eq]
  generalize (lg_sl ([.ref q_t, .int p1, .int p2]) ++ List.replicate (3 - (lg_sl ([.ref q_t, .int p1, .int p2])).length) Slot.unset).toArray = ls at hl ⊢
  have hl : lv_has ls 3 [(0, .ref q_t), (1, .int p1), (2, .int p2)] := hl
  unfold S_X5_isCorner at hE
  refine lv_iload_n hx hb dX5_isCorner_0 rfl (lv_at hl 1 rfl) ?_
  refine lv_iconst (v := 0) hx hb dX5_isCorner_1 (by decide) ?_
  refine lv_aload_n hx hb dX5_isCorner_2 rfl (lv_at hl 0 rfl) ?_
  refine va_get (D := G.1) (ci := 5) (v := .ref q_t_table) (C := RX5) (T := TX5) (N := 7) hx hb hts iX5 hown hK hP 0 rfl rfl 1 (by decide) fl_19 (fun _ h9 => h9) rfl dX5_isCorner_3 ?_
  refine va_get (D := G.1) (ci := 3) (v := .int t_table_size) (C := RX3) (T := TX3) (N := 2) hx hb hts iX3 hown hK hP 1 rfl rfl 0 (by decide) fl_84 (fun _ h9 => h9) rfl dX5_isCorner_6 ?_
  obtain ⟨y9, hC_9, hE⟩ := Option.bind_eq_some_iff.mp hE
  obtain ⟨r_9, ex9⟩ : ∃ z, z = y9 := ⟨_, rfl⟩
  subst ex9
  try dsimp only at hE
  refine vp_callSi (va_Run.run (va_runS (As := [.int p1, .int (0 : Int32), .int t_table_size]) (rest := []) ⟨hx, hb, hml, hown, hts⟩ (c_X5_isBetween (l := l) (G := G) (p1 := p1) (p2 := (0 : Int32)) (p3 := t_table_size) hC_9) (va_cwS 3 hts gX5_isCorner_X5_isBetween rfl rfl rfl kd_X5_isBetween ⟨Nat.le_of_ble_eq_true rfl, Nat.le_of_ble_eq_true rfl⟩) (pv_S hKW (hP.sub (ws' := []) [] rfl)) rfl rfl hl.1 rfl (lv_room (Nat.le_of_ble_eq_true rfl)) dX5_isCorner_9 ⟨Nat.zero_le _, Nat.zero_le _⟩)) (fun r9 hr9 => ?_)
  subst r9
  refine lv_if_eq (tgt := 34) hx hb dX5_isCorner_12 (by decide) (fun c_12 => ?_) (fun c_12 => ?_)
  · replace hE := (if_pos c_12).symm.trans hE
    refine lv_iconst (v := 0) hx hb dX5_isCorner_34 (by decide) ?_
    have e_0 := Option.some.inj hE
    rw [hQ]
    exact W.zret (v := (0 : Int32)) hx hb hr rfl (fun t ht _ => ⟨_, rfl, e_0, ht⟩) (fun q h => by cases h) dX5_isCorner_35
  · replace hE := (if_neg c_12).symm.trans hE
    refine lv_iload_n hx hb dX5_isCorner_15 rfl (lv_at hl 2 rfl) ?_
    refine lv_iconst (v := 0) hx hb dX5_isCorner_16 (by decide) ?_
    refine lv_aload_n hx hb dX5_isCorner_17 rfl (lv_at hl 0 rfl) ?_
    refine va_get (D := G.1) (ci := 5) (v := .ref q_t_table) (C := RX5) (T := TX5) (N := 7) hx hb hts iX5 hown hK hP 0 rfl rfl 1 (by decide) fl_19 (fun _ h9 => h9) rfl dX5_isCorner_18 ?_
    refine va_get (D := G.1) (ci := 3) (v := .int t_table_size) (C := RX3) (T := TX3) (N := 2) hx hb hts iX3 hown hK hP 1 rfl rfl 0 (by decide) fl_84 (fun _ h9 => h9) rfl dX5_isCorner_21 ?_
    obtain ⟨y24, hC_24, hE⟩ := Option.bind_eq_some_iff.mp hE
    obtain ⟨r_24, ex9⟩ : ∃ z, z = y24 := ⟨_, rfl⟩
    subst ex9
    try dsimp only at hE
    refine vp_callSi (va_Run.run (va_runS (As := [.int p2, .int (0 : Int32), .int t_table_size]) (rest := []) ⟨hx, hb, hml, hown, hts⟩ (c_X5_isBetween (l := l) (G := G) (p1 := p2) (p2 := (0 : Int32)) (p3 := t_table_size) hC_24) (va_cwS 3 hts gX5_isCorner_X5_isBetween rfl rfl rfl kd_X5_isBetween ⟨Nat.le_of_ble_eq_true rfl, Nat.le_of_ble_eq_true rfl⟩) (pv_S hKW (hP.sub (ws' := []) [] rfl)) rfl rfl hl.1 rfl (lv_room (Nat.le_of_ble_eq_true rfl)) dX5_isCorner_24 ⟨Nat.zero_le _, Nat.zero_le _⟩)) (fun r9 hr9 => ?_)
    subst r9
    refine lv_if_eq (tgt := 34) hx hb dX5_isCorner_27 (by decide) (fun c_27 => ?_) (fun c_27 => ?_)
    · replace hE := (if_pos c_27).symm.trans hE
      refine lv_iconst (v := 0) hx hb dX5_isCorner_34 (by decide) ?_
      have e_0 := Option.some.inj hE
      rw [hQ]
      exact W.zret (v := (0 : Int32)) hx hb hr rfl (fun t ht _ => ⟨_, rfl, e_0, ht⟩) (fun q h => by cases h) dX5_isCorner_35
    · replace hE := (if_neg c_27).symm.trans hE
      refine lv_iconst (v := 1) hx hb dX5_isCorner_30 (by decide) ?_
      refine lv_goto (tgt := 35) hx hb dX5_isCorner_31 (by decide) ?_
      have e_0 := Option.some.inj hE
      rw [hQ]
      exact W.zret (v := (1 : Int32)) hx hb hr rfl (fun t ht _ => ⟨_, rfl, e_0, ht⟩) (fun q h => by cases h) dX5_isCorner_35
def S_X5_corner (p1 : Int32) (p2 : Int32) (t_table_size : Int32) (t_table_corners : Nat → Int32) : Option Int32 := (S_X5_isCorner p1 p2 t_table_size).bind (fun (y3 : Int32) => if y3 = 0 then some (-1 : Int32) else (S_X3_cornerAt p1 p2 t_table_corners).bind (fun (y15 : Int32) => some y15))
theorem kd_X5_corner : yX5_corner.cls = RX5 ∧ yX5_corner.cls ≠ "java/lang/invoke/MethodHandle" ∧ yX5_corner.cls ≠ "java/lang/invoke/VarHandle" ∧ (parseMethodDescriptor yX5_corner.desc).map (fun d => d.parameters.length) = some 2 := by decide +kernel
set_option maxHeartbeats 4000000 in
set_option maxRecDepth 100000 in
theorem c_X5_corner {l : Launch} {G : kG} {p1 : Int32} {p2 : Int32} {q_t : Nat} {q_t_text : Nat} {q_t_table : Nat} {q_t_other : Nat} {q_t_spare : Nat} {q_t_past : Nat} {q_t_lines : Nat} {q_t_sizes : Nat} {t_table_size : Int32} {q_t_table_corners : Nat} {t_table_corners : Nat → Int32} {res : Int32} (hE : S_X5_corner p1 p2 t_table_size t_table_corners = some res) : Met l yX5_corner wsX5_corner ({ frames := 2, cells := 0, slots := 0, locals := 44 }) (va_Pc [.ref q_t, .int p1, .int p2] (fun U => va_P G.1 vwCl [oX5 q_t q_t_text q_t_table q_t_other q_t_spare q_t_past q_t_lines q_t_sizes, oX3 q_t_table t_table_size q_t_table_corners, aI (G.2 1) q_t_table_corners 49 t_table_corners] U.heap ∧ kw G U)) (vp_Si (fun r => r = res)) 0 0 (fun _ => False) := by
  refine Met.ofQ (cc := cX5_corner) (maxL := 3) (ret := (some .int)) (by decide) rfl ?_
  intro p e s m args below meth c s₁ Q hQ B hml hv
  obtain ⟨rfl, hP, hKW⟩ := hv
  have hK := hKW.1
  have hx := B.exec
  have hb := B.bytes
  have hr := B.returns
  have hts := atoms_spec (ws := wsX5_corner) B.pre
  have hown : s.vm.findClass RX5 = some m.cls := findClass_of_methodNamed B.named
  have hlocks := B.notSynchronized
  have iX5 : ∀ w ∈ u_ws RX5 TX5 7, w ∈ wsX5_corner := by decide +kernel
  have fl_19 := hts (.fieldLink RX5 19 "AlternateSigns" "table" "LAlternateSigns$Table;") (by decide +kernel)
  have hl := lv_entry ([.ref q_t, .int p1, .int p2]) (n := 3) (Nat.le_of_ble_eq_true rfl)
  rw [lg_entry_eq]
  generalize (lg_sl ([.ref q_t, .int p1, .int p2]) ++ List.replicate (3 - (lg_sl ([.ref q_t, .int p1, .int p2])).length) Slot.unset).toArray = ls at hl ⊢
  have hl : lv_has ls 3 [(0, .ref q_t), (1, .int p1), (2, .int p2)] := hl
  unfold S_X5_corner at hE
  refine lv_aload_n hx hb dX5_corner_0 rfl (lv_at hl 0 rfl) ?_
  refine lv_iload_n hx hb dX5_corner_1 rfl (lv_at hl 1 rfl) ?_
  refine lv_iload_n hx hb dX5_corner_2 rfl (lv_at hl 2 rfl) ?_
  obtain ⟨y3, hC_3, hE⟩ := Option.bind_eq_some_iff.mp hE
  obtain ⟨r_3, ex9⟩ : ∃ z, z = y3 := ⟨_, rfl⟩
  subst ex9
  try dsimp only at hE
  refine vp_callSi (va_Run.run (va_runV (As := [.int p1, .int p2]) (rest := []) ⟨hx, hb, hml, hown, hts⟩ (c_X5_isCorner (l := l) (G := G) (p1 := p1) (p2 := p2) (q_t := q_t) (q_t_text := q_t_text) (q_t_table := q_t_table) (q_t_other := q_t_other) (q_t_spare := q_t_spare) (q_t_past := q_t_past) (q_t_lines := q_t_lines) (q_t_sizes := q_t_sizes) (t_table_size := t_table_size) (q_t_table_corners := q_t_table_corners) hC_3) (cwV 2 hts gX5_corner_X5_isCorner rfl rfl rfl kd_X5_isCorner ⟨Nat.le_of_ble_eq_true rfl, Nat.le_of_ble_eq_true rfl⟩) (pv_V hKW (hP.sub (ws' := [oX5 q_t q_t_text q_t_table q_t_other q_t_spare q_t_past q_t_lines q_t_sizes, oX3 q_t_table t_table_size q_t_table_corners]) [0, 1] rfl) (ci := 5) (q0 := 0) rfl rfl) rfl rfl hl.1 rfl (lv_room (Nat.le_of_ble_eq_true rfl)) dX5_corner_3 ⟨Nat.zero_le _, Nat.zero_le _⟩)) (fun r9 hr9 => ?_)
  subst r9
  refine lv_if_eq (tgt := 21) hx hb dX5_corner_6 (by decide) (fun c_6 => ?_) (fun c_6 => ?_)
  · replace hE := (if_pos c_6).symm.trans hE
    refine lv_iconst (v := -1) hx hb dX5_corner_21 (by decide) ?_
    have e_0 := Option.some.inj hE
    rw [hQ]
    exact W.iret (v := (-1 : Int32)) hx hb hr (fun t ht _ => ⟨_, rfl, e_0, ht⟩) (fun q h => by cases h) dX5_corner_22
  · replace hE := (if_neg c_6).symm.trans hE
    refine lv_aload_n hx hb dX5_corner_9 rfl (lv_at hl 0 rfl) ?_
    refine va_get (D := G.1) (ci := 5) (v := .ref q_t_table) (C := RX5) (T := TX5) (N := 7) hx hb hts iX5 hown hK hP 0 rfl rfl 1 (by decide) fl_19 (fun _ h9 => h9) rfl dX5_corner_10 ?_
    refine lv_iload_n hx hb dX5_corner_13 rfl (lv_at hl 1 rfl) ?_
    refine lv_iload_n hx hb dX5_corner_14 rfl (lv_at hl 2 rfl) ?_
    obtain ⟨y15, hC_15, hE⟩ := Option.bind_eq_some_iff.mp hE
    obtain ⟨r_15, ex9⟩ : ∃ z, z = y15 := ⟨_, rfl⟩
    subst ex9
    try dsimp only at hE
    refine vp_callSi (va_Run.run (va_runV (As := [.int p1, .int p2]) (rest := []) ⟨hx, hb, hml, hown, hts⟩ (c_X3_cornerAt (l := l) (G := G) (p1 := p1) (p2 := p2) (q_t := q_t_table) (t_size := t_table_size) (q_t_corners := q_t_table_corners) (t_corners := t_table_corners) hC_15) (cwV 2 hts gX5_corner_X3_cornerAt rfl rfl rfl kd_X3_cornerAt ⟨Nat.le_of_ble_eq_true rfl, Nat.le_of_ble_eq_true rfl⟩) (pv_V hKW (hP.sub (ws' := [oX3 q_t_table t_table_size q_t_table_corners, aI (G.2 1) q_t_table_corners 49 t_table_corners]) [1, 2] rfl) (ci := 3) (q0 := 0) rfl rfl) rfl rfl hl.1 rfl (lv_room (Nat.le_of_ble_eq_true rfl)) dX5_corner_15 ⟨Nat.zero_le _, Nat.zero_le _⟩)) (fun r9 hr9 => ?_)
    subst r9
    refine lv_goto (tgt := 22) hx hb dX5_corner_18 (by decide) ?_
    have e_0 := Option.some.inj hE
    rw [hQ]
    exact W.iret (v := r_15) hx hb hr (fun t ht _ => ⟨_, rfl, e_0, ht⟩) (fun q h => by cases h) dX5_corner_22
def S_X5_height (p1 : Int32) (p2 : Int32) (t_table_size : Int32) (t_table_corners : Nat → Int32) : Option Int32 := (S_X5_isCorner p1 p2 t_table_size).bind (fun (y3 : Int32) => if y3 = 0 then some (-1 : Int32) else (S_X3_heightAt p1 p2 t_table_corners).bind (fun (y15 : Int32) => some y15))
theorem kd_X5_height : yX5_height.cls = RX5 ∧ yX5_height.cls ≠ "java/lang/invoke/MethodHandle" ∧ yX5_height.cls ≠ "java/lang/invoke/VarHandle" ∧ (parseMethodDescriptor yX5_height.desc).map (fun d => d.parameters.length) = some 2 := by decide +kernel
set_option maxHeartbeats 4000000 in
set_option maxRecDepth 100000 in
theorem c_X5_height {l : Launch} {G : kG} {p1 : Int32} {p2 : Int32} {q_t : Nat} {q_t_text : Nat} {q_t_table : Nat} {q_t_other : Nat} {q_t_spare : Nat} {q_t_past : Nat} {q_t_lines : Nat} {q_t_sizes : Nat} {t_table_size : Int32} {q_t_table_corners : Nat} {t_table_corners : Nat → Int32} {res : Int32} (hE : S_X5_height p1 p2 t_table_size t_table_corners = some res) : Met l yX5_height wsX5_height ({ frames := 2, cells := 0, slots := 0, locals := 44 }) (va_Pc [.ref q_t, .int p1, .int p2] (fun U => va_P G.1 vwCl [oX5 q_t q_t_text q_t_table q_t_other q_t_spare q_t_past q_t_lines q_t_sizes, oX3 q_t_table t_table_size q_t_table_corners, aI (G.2 1) q_t_table_corners 49 t_table_corners] U.heap ∧ kw G U)) (vp_Si (fun r => r = res)) 0 0 (fun _ => False) := by
  refine Met.ofQ (cc := cX5_height) (maxL := 3) (ret := (some .int)) (by decide) rfl ?_
  intro p e s m args below meth c s₁ Q hQ B hml hv
  obtain ⟨rfl, hP, hKW⟩ := hv
  have hK := hKW.1
  have hx := B.exec
  have hb := B.bytes
  have hr := B.returns
  have hts := atoms_spec (ws := wsX5_height) B.pre
  have hown : s.vm.findClass RX5 = some m.cls := findClass_of_methodNamed B.named
  have hlocks := B.notSynchronized
  have iX5 : ∀ w ∈ u_ws RX5 TX5 7, w ∈ wsX5_height := by decide +kernel
  have fl_19 := hts (.fieldLink RX5 19 "AlternateSigns" "table" "LAlternateSigns$Table;") (by decide +kernel)
  have hl := lv_entry ([.ref q_t, .int p1, .int p2]) (n := 3) (Nat.le_of_ble_eq_true rfl)
  rw [lg_entry_eq]
  generalize (lg_sl ([.ref q_t, .int p1, .int p2]) ++ List.replicate (3 - (lg_sl ([.ref q_t, .int p1, .int p2])).length) Slot.unset).toArray = ls at hl ⊢
  have hl : lv_has ls 3 [(0, .ref q_t), (1, .int p1), (2, .int p2)] := hl
  unfold S_X5_height at hE
  refine lv_aload_n hx hb dX5_height_0 rfl (lv_at hl 0 rfl) ?_
  refine lv_iload_n hx hb dX5_height_1 rfl (lv_at hl 1 rfl) ?_
  refine lv_iload_n hx hb dX5_height_2 rfl (lv_at hl 2 rfl) ?_
  obtain ⟨y3, hC_3, hE⟩ := Option.bind_eq_some_iff.mp hE
  obtain ⟨r_3, ex9⟩ : ∃ z, z = y3 := ⟨_, rfl⟩
  subst ex9
  try dsimp only at hE
  refine vp_callSi (va_Run.run (va_runV (As := [.int p1, .int p2]) (rest := []) ⟨hx, hb, hml, hown, hts⟩ (c_X5_isCorner (l := l) (G := G) (p1 := p1) (p2 := p2) (q_t := q_t) (q_t_text := q_t_text) (q_t_table := q_t_table) (q_t_other := q_t_other) (q_t_spare := q_t_spare) (q_t_past := q_t_past) (q_t_lines := q_t_lines) (q_t_sizes := q_t_sizes) (t_table_size := t_table_size) (q_t_table_corners := q_t_table_corners) hC_3) (cwV 2 hts gX5_height_X5_isCorner rfl rfl rfl kd_X5_isCorner ⟨Nat.le_of_ble_eq_true rfl, Nat.le_of_ble_eq_true rfl⟩) (pv_V hKW (hP.sub (ws' := [oX5 q_t q_t_text q_t_table q_t_other q_t_spare q_t_past q_t_lines q_t_sizes, oX3 q_t_table t_table_size q_t_table_corners]) [0, 1] rfl) (ci := 5) (q0 := 0) rfl rfl) rfl rfl hl.1 rfl (lv_room (Nat.le_of_ble_eq_true rfl)) dX5_height_3 ⟨Nat.zero_le _, Nat.zero_le _⟩)) (fun r9 hr9 => ?_)
  subst r9
  refine lv_if_eq (tgt := 21) hx hb dX5_height_6 (by decide) (fun c_6 => ?_) (fun c_6 => ?_)
  · replace hE := (if_pos c_6).symm.trans hE
    refine lv_iconst (v := -1) hx hb dX5_height_21 (by decide) ?_
    have e_0 := Option.some.inj hE
    rw [hQ]
    exact W.iret (v := (-1 : Int32)) hx hb hr (fun t ht _ => ⟨_, rfl, e_0, ht⟩) (fun q h => by cases h) dX5_height_22
  · replace hE := (if_neg c_6).symm.trans hE
    refine lv_aload_n hx hb dX5_height_9 rfl (lv_at hl 0 rfl) ?_
    refine va_get (D := G.1) (ci := 5) (v := .ref q_t_table) (C := RX5) (T := TX5) (N := 7) hx hb hts iX5 hown hK hP 0 rfl rfl 1 (by decide) fl_19 (fun _ h9 => h9) rfl dX5_height_10 ?_
    refine lv_iload_n hx hb dX5_height_13 rfl (lv_at hl 1 rfl) ?_
    refine lv_iload_n hx hb dX5_height_14 rfl (lv_at hl 2 rfl) ?_
    obtain ⟨y15, hC_15, hE⟩ := Option.bind_eq_some_iff.mp hE
    obtain ⟨r_15, ex9⟩ : ∃ z, z = y15 := ⟨_, rfl⟩
    subst ex9
    try dsimp only at hE
    refine vp_callSi (va_Run.run (va_runV (As := [.int p1, .int p2]) (rest := []) ⟨hx, hb, hml, hown, hts⟩ (c_X3_heightAt (l := l) (G := G) (p1 := p1) (p2 := p2) (q_t := q_t_table) (t_size := t_table_size) (q_t_corners := q_t_table_corners) (t_corners := t_table_corners) hC_15) (cwV 2 hts gX5_height_X3_heightAt rfl rfl rfl kd_X3_heightAt ⟨Nat.le_of_ble_eq_true rfl, Nat.le_of_ble_eq_true rfl⟩) (pv_V hKW (hP.sub (ws' := [oX3 q_t_table t_table_size q_t_table_corners, aI (G.2 1) q_t_table_corners 49 t_table_corners]) [1, 2] rfl) (ci := 3) (q0 := 0) rfl rfl) rfl rfl hl.1 rfl (lv_room (Nat.le_of_ble_eq_true rfl)) dX5_height_15 ⟨Nat.zero_le _, Nat.zero_le _⟩)) (fun r9 hr9 => ?_)
    subst r9
    refine lv_goto (tgt := 22) hx hb dX5_height_18 (by decide) ?_
    have e_0 := Option.some.inj hE
    rw [hQ]
    exact W.iret (v := r_15) hx hb hr (fun t ht _ => ⟨_, rfl, e_0, ht⟩) (fun q h => by cases h) dX5_height_22
def S_X5_isInner (p1 : Int32) (p2 : Int32) (t_table_size : Int32) : Option Int32 := (S_X5_isBetween p1 (1 : Int32) (t_table_size - (1 : Int32))).bind (fun (y11 : Int32) => if y11 = 0 then some (0 : Int32) else (S_X5_isBetween p2 (1 : Int32) (t_table_size - (1 : Int32))).bind (fun (y28 : Int32) => if y28 = 0 then some (0 : Int32) else some (1 : Int32)))
theorem kd_X5_isInner : yX5_isInner.cls = RX5 ∧ yX5_isInner.cls ≠ "java/lang/invoke/MethodHandle" ∧ yX5_isInner.cls ≠ "java/lang/invoke/VarHandle" ∧ (parseMethodDescriptor yX5_isInner.desc).map (fun d => d.parameters.length) = some 2 := by decide +kernel
set_option maxHeartbeats 4000000 in
set_option maxRecDepth 100000 in
theorem c_X5_isInner {l : Launch} {G : kG} {p1 : Int32} {p2 : Int32} {q_t : Nat} {q_t_text : Nat} {q_t_table : Nat} {q_t_other : Nat} {q_t_spare : Nat} {q_t_past : Nat} {q_t_lines : Nat} {q_t_sizes : Nat} {t_table_size : Int32} {q_t_table_corners : Nat} {res : Int32} (hE : S_X5_isInner p1 p2 t_table_size = some res) : Met l yX5_isInner wsX5_isInner ({ frames := 1, cells := 0, slots := 0, locals := 22 }) (va_Pc [.ref q_t, .int p1, .int p2] (fun U => va_P G.1 vwCl [oX5 q_t q_t_text q_t_table q_t_other q_t_spare q_t_past q_t_lines q_t_sizes, oX3 q_t_table t_table_size q_t_table_corners] U.heap ∧ kw G U)) (vp_Si (fun r => r = res)) 0 0 (fun _ => False) := by
  refine Met.ofQ (cc := cX5_isInner) (maxL := 3) (ret := (some .boolean)) (by decide) rfl ?_
  intro p e s m args below meth c s₁ Q hQ B hml hv
  obtain ⟨rfl, hP, hKW⟩ := hv
  have hK := hKW.1
  have hx := B.exec
  have hb := B.bytes
  have hr := B.returns
  have hts := atoms_spec (ws := wsX5_isInner) B.pre
  have hown : s.vm.findClass RX5 = some m.cls := findClass_of_methodNamed B.named
  have hlocks := B.notSynchronized
  have iX3 : ∀ w ∈ u_ws RX3 TX3 2, w ∈ wsX5_isInner := by decide +kernel
  have iX5 : ∀ w ∈ u_ws RX5 TX5 7, w ∈ wsX5_isInner := by decide +kernel
  have fl_19 := hts (.fieldLink RX5 19 "AlternateSigns" "table" "LAlternateSigns$Table;") (by decide +kernel)
  have fl_84 := hts (.fieldLink RX5 84 "AlternateSigns$Table" "size" "I") (by decide +kernel)
  have hl := lv_entry ([.ref q_t, .int p1, .int p2]) (n := 3) (Nat.le_of_ble_eq_true rfl)
  rw [lg_entry_eq]
  generalize (lg_sl ([.ref q_t, .int p1, .int p2]) ++ List.replicate (3 - (lg_sl ([.ref q_t, .int p1, .int p2])).length) Slot.unset).toArray = ls at hl ⊢
  have hl : lv_has ls 3 [(0, .ref q_t), (1, .int p1), (2, .int p2)] := hl
  unfold S_X5_isInner at hE
  refine lv_iload_n hx hb dX5_isInner_0 rfl (lv_at hl 1 rfl) ?_
  refine lv_iconst (v := 1) hx hb dX5_isInner_1 (by decide) ?_
  refine lv_aload_n hx hb dX5_isInner_2 rfl (lv_at hl 0 rfl) ?_
  refine va_get (D := G.1) (ci := 5) (v := .ref q_t_table) (C := RX5) (T := TX5) (N := 7) hx hb hts iX5 hown hK hP 0 rfl rfl 1 (by decide) fl_19 (fun _ h9 => h9) rfl dX5_isInner_3 ?_
  refine va_get (D := G.1) (ci := 3) (v := .int t_table_size) (C := RX3) (T := TX3) (N := 2) hx hb hts iX3 hown hK hP 1 rfl rfl 0 (by decide) fl_84 (fun _ h9 => h9) rfl dX5_isInner_6 ?_
  refine lv_iconst (v := 1) hx hb dX5_isInner_9 (by decide) ?_
  refine lv_isub hx hb dX5_isInner_10 ?_
  obtain ⟨y11, hC_11, hE⟩ := Option.bind_eq_some_iff.mp hE
  obtain ⟨r_11, ex9⟩ : ∃ z, z = y11 := ⟨_, rfl⟩
  subst ex9
  try dsimp only at hE
  refine vp_callSi (va_Run.run (va_runS (As := [.int p1, .int (1 : Int32), .int (t_table_size - (1 : Int32))]) (rest := []) ⟨hx, hb, hml, hown, hts⟩ (c_X5_isBetween (l := l) (G := G) (p1 := p1) (p2 := (1 : Int32)) (p3 := t_table_size - (1 : Int32)) hC_11) (va_cwS 3 hts gX5_isInner_X5_isBetween rfl rfl rfl kd_X5_isBetween ⟨Nat.le_of_ble_eq_true rfl, Nat.le_of_ble_eq_true rfl⟩) (pv_S hKW (hP.sub (ws' := []) [] rfl)) rfl rfl hl.1 rfl (lv_room (Nat.le_of_ble_eq_true rfl)) dX5_isInner_11 ⟨Nat.zero_le _, Nat.zero_le _⟩)) (fun r9 hr9 => ?_)
  subst r9
  refine lv_if_eq (tgt := 38) hx hb dX5_isInner_14 (by decide) (fun c_14 => ?_) (fun c_14 => ?_)
  · replace hE := (if_pos c_14).symm.trans hE
    refine lv_iconst (v := 0) hx hb dX5_isInner_38 (by decide) ?_
    have e_0 := Option.some.inj hE
    rw [hQ]
    exact W.zret (v := (0 : Int32)) hx hb hr rfl (fun t ht _ => ⟨_, rfl, e_0, ht⟩) (fun q h => by cases h) dX5_isInner_39
  · replace hE := (if_neg c_14).symm.trans hE
    refine lv_iload_n hx hb dX5_isInner_17 rfl (lv_at hl 2 rfl) ?_
    refine lv_iconst (v := 1) hx hb dX5_isInner_18 (by decide) ?_
    refine lv_aload_n hx hb dX5_isInner_19 rfl (lv_at hl 0 rfl) ?_
    refine va_get (D := G.1) (ci := 5) (v := .ref q_t_table) (C := RX5) (T := TX5) (N := 7) hx hb hts iX5 hown hK hP 0 rfl rfl 1 (by decide) fl_19 (fun _ h9 => h9) rfl dX5_isInner_20 ?_
    refine va_get (D := G.1) (ci := 3) (v := .int t_table_size) (C := RX3) (T := TX3) (N := 2) hx hb hts iX3 hown hK hP 1 rfl rfl 0 (by decide) fl_84 (fun _ h9 => h9) rfl dX5_isInner_23 ?_
    refine lv_iconst (v := 1) hx hb dX5_isInner_26 (by decide) ?_
    refine lv_isub hx hb dX5_isInner_27 ?_
    obtain ⟨y28, hC_28, hE⟩ := Option.bind_eq_some_iff.mp hE
    obtain ⟨r_28, ex9⟩ : ∃ z, z = y28 := ⟨_, rfl⟩
    subst ex9
    try dsimp only at hE
    refine vp_callSi (va_Run.run (va_runS (As := [.int p2, .int (1 : Int32), .int (t_table_size - (1 : Int32))]) (rest := []) ⟨hx, hb, hml, hown, hts⟩ (c_X5_isBetween (l := l) (G := G) (p1 := p2) (p2 := (1 : Int32)) (p3 := t_table_size - (1 : Int32)) hC_28) (va_cwS 3 hts gX5_isInner_X5_isBetween rfl rfl rfl kd_X5_isBetween ⟨Nat.le_of_ble_eq_true rfl, Nat.le_of_ble_eq_true rfl⟩) (pv_S hKW (hP.sub (ws' := []) [] rfl)) rfl rfl hl.1 rfl (lv_room (Nat.le_of_ble_eq_true rfl)) dX5_isInner_28 ⟨Nat.zero_le _, Nat.zero_le _⟩)) (fun r9 hr9 => ?_)
    subst r9
    refine lv_if_eq (tgt := 38) hx hb dX5_isInner_31 (by decide) (fun c_31 => ?_) (fun c_31 => ?_)
    · replace hE := (if_pos c_31).symm.trans hE
      refine lv_iconst (v := 0) hx hb dX5_isInner_38 (by decide) ?_
      have e_0 := Option.some.inj hE
      rw [hQ]
      exact W.zret (v := (0 : Int32)) hx hb hr rfl (fun t ht _ => ⟨_, rfl, e_0, ht⟩) (fun q h => by cases h) dX5_isInner_39
    · replace hE := (if_neg c_31).symm.trans hE
      refine lv_iconst (v := 1) hx hb dX5_isInner_34 (by decide) ?_
      refine lv_goto (tgt := 39) hx hb dX5_isInner_35 (by decide) ?_
      have e_0 := Option.some.inj hE
      rw [hQ]
      exact W.zret (v := (1 : Int32)) hx hb hr rfl (fun t ht _ => ⟨_, rfl, e_0, ht⟩) (fun q h => by cases h) dX5_isInner_39
def S_X5_may (p1 : Int32) (p2 : Int32) (t_table_size : Int32) (t_table_corners : Nat → Int32) : Option Int32 := (S_X5_isInner p1 p2 t_table_size).bind (fun (y3 : Int32) => if y3 = 0 then some (-1 : Int32) else (S_X3_flipKind p1 p2 t_table_corners).bind (fun (y15 : Int32) => some y15))
theorem kd_X5_may : yX5_may.cls = RX5 ∧ yX5_may.cls ≠ "java/lang/invoke/MethodHandle" ∧ yX5_may.cls ≠ "java/lang/invoke/VarHandle" ∧ (parseMethodDescriptor yX5_may.desc).map (fun d => d.parameters.length) = some 2 := by decide +kernel
set_option maxHeartbeats 4000000 in
set_option maxRecDepth 100000 in
theorem c_X5_may {l : Launch} {G : kG} {p1 : Int32} {p2 : Int32} {q_t : Nat} {q_t_text : Nat} {q_t_table : Nat} {q_t_other : Nat} {q_t_spare : Nat} {q_t_past : Nat} {q_t_lines : Nat} {q_t_sizes : Nat} {t_table_size : Int32} {q_t_table_corners : Nat} {t_table_corners : Nat → Int32} {res : Int32} (hE : S_X5_may p1 p2 t_table_size t_table_corners = some res) : Met l yX5_may wsX5_may ({ frames := 3, cells := 0, slots := 0, locals := 67 }) (va_Pc [.ref q_t, .int p1, .int p2] (fun U => va_P G.1 vwCl [oX5 q_t q_t_text q_t_table q_t_other q_t_spare q_t_past q_t_lines q_t_sizes, oX3 q_t_table t_table_size q_t_table_corners, aI (G.2 1) q_t_table_corners 49 t_table_corners] U.heap ∧ kw G U)) (vp_Si (fun r => r = res)) 0 0 (fun _ => False) := by
  refine Met.ofQ (cc := cX5_may) (maxL := 3) (ret := (some .int)) (by decide) rfl ?_
  intro p e s m args below meth c s₁ Q hQ B hml hv
  obtain ⟨rfl, hP, hKW⟩ := hv
  have hK := hKW.1
  have hx := B.exec
  have hb := B.bytes
  have hr := B.returns
  have hts := atoms_spec (ws := wsX5_may) B.pre
  have hown : s.vm.findClass RX5 = some m.cls := findClass_of_methodNamed B.named
  have hlocks := B.notSynchronized
  have iX5 : ∀ w ∈ u_ws RX5 TX5 7, w ∈ wsX5_may := by decide +kernel
  have fl_19 := hts (.fieldLink RX5 19 "AlternateSigns" "table" "LAlternateSigns$Table;") (by decide +kernel)
  have hl := lv_entry ([.ref q_t, .int p1, .int p2]) (n := 3) (Nat.le_of_ble_eq_true rfl)
  rw [lg_entry_eq]
  generalize (lg_sl ([.ref q_t, .int p1, .int p2]) ++ List.replicate (3 - (lg_sl ([.ref q_t, .int p1, .int p2])).length) Slot.unset).toArray = ls at hl ⊢
  have hl : lv_has ls 3 [(0, .ref q_t), (1, .int p1), (2, .int p2)] := hl
  unfold S_X5_may at hE
  refine lv_aload_n hx hb dX5_may_0 rfl (lv_at hl 0 rfl) ?_
  refine lv_iload_n hx hb dX5_may_1 rfl (lv_at hl 1 rfl) ?_
  refine lv_iload_n hx hb dX5_may_2 rfl (lv_at hl 2 rfl) ?_
  obtain ⟨y3, hC_3, hE⟩ := Option.bind_eq_some_iff.mp hE
  obtain ⟨r_3, ex9⟩ : ∃ z, z = y3 := ⟨_, rfl⟩
  subst ex9
  try dsimp only at hE
  refine vp_callSi (va_Run.run (va_runV (As := [.int p1, .int p2]) (rest := []) ⟨hx, hb, hml, hown, hts⟩ (c_X5_isInner (l := l) (G := G) (p1 := p1) (p2 := p2) (q_t := q_t) (q_t_text := q_t_text) (q_t_table := q_t_table) (q_t_other := q_t_other) (q_t_spare := q_t_spare) (q_t_past := q_t_past) (q_t_lines := q_t_lines) (q_t_sizes := q_t_sizes) (t_table_size := t_table_size) (q_t_table_corners := q_t_table_corners) hC_3) (cwV 2 hts gX5_may_X5_isInner rfl rfl rfl kd_X5_isInner ⟨Nat.le_of_ble_eq_true rfl, Nat.le_of_ble_eq_true rfl⟩) (pv_V hKW (hP.sub (ws' := [oX5 q_t q_t_text q_t_table q_t_other q_t_spare q_t_past q_t_lines q_t_sizes, oX3 q_t_table t_table_size q_t_table_corners]) [0, 1] rfl) (ci := 5) (q0 := 0) rfl rfl) rfl rfl hl.1 rfl (lv_room (Nat.le_of_ble_eq_true rfl)) dX5_may_3 ⟨Nat.zero_le _, Nat.zero_le _⟩)) (fun r9 hr9 => ?_)
  subst r9
  refine lv_if_eq (tgt := 21) hx hb dX5_may_6 (by decide) (fun c_6 => ?_) (fun c_6 => ?_)
  · replace hE := (if_pos c_6).symm.trans hE
    refine lv_iconst (v := -1) hx hb dX5_may_21 (by decide) ?_
    have e_0 := Option.some.inj hE
    rw [hQ]
    exact W.iret (v := (-1 : Int32)) hx hb hr (fun t ht _ => ⟨_, rfl, e_0, ht⟩) (fun q h => by cases h) dX5_may_22
  · replace hE := (if_neg c_6).symm.trans hE
    refine lv_aload_n hx hb dX5_may_9 rfl (lv_at hl 0 rfl) ?_
    refine va_get (D := G.1) (ci := 5) (v := .ref q_t_table) (C := RX5) (T := TX5) (N := 7) hx hb hts iX5 hown hK hP 0 rfl rfl 1 (by decide) fl_19 (fun _ h9 => h9) rfl dX5_may_10 ?_
    refine lv_iload_n hx hb dX5_may_13 rfl (lv_at hl 1 rfl) ?_
    refine lv_iload_n hx hb dX5_may_14 rfl (lv_at hl 2 rfl) ?_
    obtain ⟨y15, hC_15, hE⟩ := Option.bind_eq_some_iff.mp hE
    obtain ⟨r_15, ex9⟩ : ∃ z, z = y15 := ⟨_, rfl⟩
    subst ex9
    try dsimp only at hE
    refine vp_callSi (va_Run.run (va_runV (As := [.int p1, .int p2]) (rest := []) ⟨hx, hb, hml, hown, hts⟩ (c_X3_flipKind (l := l) (G := G) (p1 := p1) (p2 := p2) (q_t := q_t_table) (t_size := t_table_size) (q_t_corners := q_t_table_corners) (t_corners := t_table_corners) hC_15) (cwV 2 hts gX5_may_X3_flipKind rfl rfl rfl kd_X3_flipKind ⟨Nat.le_of_ble_eq_true rfl, Nat.le_of_ble_eq_true rfl⟩) (pv_V hKW (hP.sub (ws' := [oX3 q_t_table t_table_size q_t_table_corners, aI (G.2 1) q_t_table_corners 49 t_table_corners]) [1, 2] rfl) (ci := 3) (q0 := 0) rfl rfl) rfl rfl hl.1 rfl (lv_room (Nat.le_of_ble_eq_true rfl)) dX5_may_15 ⟨Nat.zero_le _, Nat.zero_le _⟩)) (fun r9 hr9 => ?_)
    subst r9
    refine lv_goto (tgt := 22) hx hb dX5_may_18 (by decide) ?_
    have e_0 := Option.some.inj hE
    rw [hQ]
    exact W.iret (v := r_15) hx hb hr (fun t ht _ => ⟨_, rfl, e_0, ht⟩) (fun q h => by cases h) dX5_may_22
def S_X5_count (p1 : Int32) (t_text_length : Int32) (t_table_size : Int32) (t_table_corners : Nat → Int32) (t_other_size : Int32) (t_past_held : Int32) (t_lines_ringEdges : Int32) (t_lines_rings : Int32) (t_lines_size : Int32) (t_lines_ends : Int32) (t_lines_row : Int32) (t_lines_column : Int32) (t_lines_side : Int32) (t_lines_partners : Nat → Int32) (t_lines_lengths : Nat → Int32) (t_lines_open : Nat → Int32) (t_lines_endAtRim : Nat → Int32) : Option (Int32 × Int32 × Int32 × Int32 × Int32 × Int32 × Int32 × Int32 × (Nat → Int32) × (Nat → Int32) × (Nat → Int32) × (Nat → Int32)) := if p1 = (0 : Int32) then some (t_table_size, t_lines_ringEdges, t_lines_rings, t_lines_size, t_lines_ends, t_lines_row, t_lines_column, t_lines_side, t_lines_partners, t_lines_lengths, t_lines_open, t_lines_endAtRim) else if p1 = (1 : Int32) then (S_X3_negatives t_table_size t_table_corners).bind (fun (y76 : Int32) => some (y76, t_lines_ringEdges, t_lines_rings, t_lines_size, t_lines_ends, t_lines_row, t_lines_column, t_lines_side, t_lines_partners, t_lines_lengths, t_lines_open, t_lines_endAtRim)) else if p1 = (2 : Int32) then (S_X3_flippable t_table_size t_table_corners).bind (fun (y84 : Int32) => some (y84, t_lines_ringEdges, t_lines_rings, t_lines_size, t_lines_ends, t_lines_row, t_lines_column, t_lines_side, t_lines_partners, t_lines_lengths, t_lines_open, t_lines_endAtRim)) else if p1 = (3 : Int32) then (S_X3_inversions t_table_size t_table_corners).bind (fun (y92 : Int32) => some (y92, t_lines_ringEdges, t_lines_rings, t_lines_size, t_lines_ends, t_lines_row, t_lines_column, t_lines_side, t_lines_partners, t_lines_lengths, t_lines_open, t_lines_endAtRim)) else if p1 = (4 : Int32) then (S_X3_heightsTogether t_table_size t_table_corners).bind (fun (y100 : Int32) => some (y100, t_lines_ringEdges, t_lines_rings, t_lines_size, t_lines_ends, t_lines_row, t_lines_column, t_lines_side, t_lines_partners, t_lines_lengths, t_lines_open, t_lines_endAtRim)) else if p1 = (5 : Int32) then some (t_past_held, t_lines_ringEdges, t_lines_rings, t_lines_size, t_lines_ends, t_lines_row, t_lines_column, t_lines_side, t_lines_partners, t_lines_lengths, t_lines_open, t_lines_endAtRim) else if p1 = (6 : Int32) then some (t_text_length, t_lines_ringEdges, t_lines_rings, t_lines_size, t_lines_ends, t_lines_row, t_lines_column, t_lines_side, t_lines_partners, t_lines_lengths, t_lines_open, t_lines_endAtRim) else if p1 = (7 : Int32) then some (t_other_size, t_lines_ringEdges, t_lines_rings, t_lines_size, t_lines_ends, t_lines_row, t_lines_column, t_lines_side, t_lines_partners, t_lines_lengths, t_lines_open, t_lines_endAtRim) else if p1 = (8 : Int32) then (S_X3_negatives t_table_size t_table_corners).bind (fun (y132 : Int32) => if y132 = 0 then some ((1 : Int32), t_lines_ringEdges, t_lines_rings, t_lines_size, t_lines_ends, t_lines_row, t_lines_column, t_lines_side, t_lines_partners, t_lines_lengths, t_lines_open, t_lines_endAtRim) else some ((0 : Int32), t_lines_ringEdges, t_lines_rings, t_lines_size, t_lines_ends, t_lines_row, t_lines_column, t_lines_side, t_lines_partners, t_lines_lengths, t_lines_open, t_lines_endAtRim)) else if p1 = (9 : Int32) then (S_X3_drawnEdges t_table_size t_table_corners).bind (fun (y148 : Int32) => some (y148, t_lines_ringEdges, t_lines_rings, t_lines_size, t_lines_ends, t_lines_row, t_lines_column, t_lines_side, t_lines_partners, t_lines_lengths, t_lines_open, t_lines_endAtRim)) else if p1 = (10 : Int32) then (S_X1_trace t_lines_row t_lines_column t_lines_side t_lines_partners t_lines_lengths t_lines_open t_lines_endAtRim t_table_size t_table_corners).bind (fun (y160 : Int32 × Int32 × Int32 × Int32 × Int32 × Int32 × Int32 × (Nat → Int32) × (Nat → Int32) × (Nat → Int32) × (Nat → Int32)) => some (y160.1, y160.1, y160.2.1, y160.2.2.1, y160.2.2.2.1, y160.2.2.2.2.1, y160.2.2.2.2.2.1, y160.2.2.2.2.2.2.1, y160.2.2.2.2.2.2.2.1, y160.2.2.2.2.2.2.2.2.1, y160.2.2.2.2.2.2.2.2.2.1, y160.2.2.2.2.2.2.2.2.2.2)) else if p1 = (11 : Int32) then (S_X1_trace t_lines_row t_lines_column t_lines_side t_lines_partners t_lines_lengths t_lines_open t_lines_endAtRim t_table_size t_table_corners).bind (fun (y179 : Int32 × Int32 × Int32 × Int32 × Int32 × Int32 × Int32 × (Nat → Int32) × (Nat → Int32) × (Nat → Int32) × (Nat → Int32)) => some (y179.2.1, y179.1, y179.2.1, y179.2.2.1, y179.2.2.2.1, y179.2.2.2.2.1, y179.2.2.2.2.2.1, y179.2.2.2.2.2.2.1, y179.2.2.2.2.2.2.2.1, y179.2.2.2.2.2.2.2.2.1, y179.2.2.2.2.2.2.2.2.2.1, y179.2.2.2.2.2.2.2.2.2.2)) else some ((-1 : Int32), t_lines_ringEdges, t_lines_rings, t_lines_size, t_lines_ends, t_lines_row, t_lines_column, t_lines_side, t_lines_partners, t_lines_lengths, t_lines_open, t_lines_endAtRim)
theorem kd_X5_count : yX5_count.cls = RX5 ∧ yX5_count.cls ≠ "java/lang/invoke/MethodHandle" ∧ yX5_count.cls ≠ "java/lang/invoke/VarHandle" ∧ (parseMethodDescriptor yX5_count.desc).map (fun d => d.parameters.length) = some 1 := by decide +kernel
set_option maxHeartbeats 4000000 in
set_option maxRecDepth 100000 in
theorem c_X5_count {l : Launch} {G : kG} (sz : Nat) {p1 : Int32} {q_t : Nat} {q_t_text : Nat} {q_t_table : Nat} {q_t_other : Nat} {q_t_spare : Nat} {q_t_past : Nat} {q_t_lines : Nat} {q_t_sizes : Nat} {q_t_text_letters : Nat} {t_text_length : Int32} {q_t_text_draft : Nat} {t_text_rowsEnded : Int32} {t_text_rowLength : Int32} {t_text_rowSum : Int32} {t_table_size : Int32} {q_t_table_corners : Nat} {t_table_corners : Nat → Int32} {t_other_size : Int32} {q_t_other_corners : Nat} {q_t_past_tables : Nat} {t_past_free : Int32} {t_past_held : Int32} {q_t_lines_partners : Nat} {q_t_lines_lengths : Nat} {t_lines_ringEdges : Int32} {t_lines_rings : Int32} {t_lines_size : Int32} {t_lines_ends : Int32} {q_t_lines_open : Nat} {q_t_lines_endAtRim : Nat} {t_lines_row : Int32} {t_lines_column : Int32} {t_lines_side : Int32} {t_lines_partners : Nat → Int32} {t_lines_lengths : Nat → Int32} {t_lines_open : Nat → Int32} {t_lines_endAtRim : Nat → Int32} {res : Int32 × Int32 × Int32 × Int32 × Int32 × Int32 × Int32 × Int32 × (Nat → Int32) × (Nat → Int32) × (Nat → Int32) × (Nat → Int32)} (hE : S_X5_count p1 t_text_length t_table_size t_table_corners t_other_size t_past_held t_lines_ringEdges t_lines_rings t_lines_size t_lines_ends t_lines_row t_lines_column t_lines_side t_lines_partners t_lines_lengths t_lines_open t_lines_endAtRim = some res) : Met l yX5_count wsX5_count ({ frames := 5, cells := 0, slots := 0, locals := 113 }) (va_Pc [.ref q_t, .int p1] (fun U => U.heap.size = sz ∧ va_P G.1 vwCl [oX5 q_t q_t_text q_t_table q_t_other q_t_spare q_t_past q_t_lines q_t_sizes, oX4 q_t_text q_t_text_letters t_text_length q_t_text_draft t_text_rowsEnded t_text_rowLength t_text_rowSum, oX3 q_t_table t_table_size q_t_table_corners, aI (G.2 1) q_t_table_corners 49 t_table_corners, oX3 q_t_other t_other_size q_t_other_corners, oX2 q_t_past q_t_past_tables t_past_free t_past_held, oX1 q_t_lines q_t_lines_partners q_t_lines_lengths t_lines_ringEdges t_lines_rings t_lines_size t_lines_ends q_t_lines_open q_t_lines_endAtRim t_lines_row t_lines_column t_lines_side, aI (G.2 1) q_t_lines_partners 12 t_lines_partners, aI (G.2 1) q_t_lines_lengths 12 t_lines_lengths, aI (G.2 1) q_t_lines_open 49 t_lines_open, aI (G.2 1) q_t_lines_endAtRim 24 t_lines_endAtRim] U.heap ∧ kw G U ∧ va_D (fun _ => True) [oX5 q_t q_t_text q_t_table q_t_other q_t_spare q_t_past q_t_lines q_t_sizes, oX4 q_t_text q_t_text_letters t_text_length q_t_text_draft t_text_rowsEnded t_text_rowLength t_text_rowSum, oX3 q_t_table t_table_size q_t_table_corners, aI (G.2 1) q_t_table_corners 49 t_table_corners, oX3 q_t_other t_other_size q_t_other_corners, oX2 q_t_past q_t_past_tables t_past_free t_past_held, oX1 q_t_lines q_t_lines_partners q_t_lines_lengths t_lines_ringEdges t_lines_rings t_lines_size t_lines_ends q_t_lines_open q_t_lines_endAtRim t_lines_row t_lines_column t_lines_side, aI (G.2 1) q_t_lines_partners 12 t_lines_partners, aI (G.2 1) q_t_lines_lengths 12 t_lines_lengths, aI (G.2 1) q_t_lines_open 49 t_lines_open, aI (G.2 1) q_t_lines_endAtRim 24 t_lines_endAtRim])) (va_Qi (fun r (_ : Unit) => r = res.1) (fun _ t => va_P G.1 vwCl [oX5 q_t q_t_text q_t_table q_t_other q_t_spare q_t_past q_t_lines q_t_sizes, oX4 q_t_text q_t_text_letters t_text_length q_t_text_draft t_text_rowsEnded t_text_rowLength t_text_rowSum, oX3 q_t_table t_table_size q_t_table_corners, aI (G.2 1) q_t_table_corners 49 t_table_corners, oX3 q_t_other t_other_size q_t_other_corners, oX2 q_t_past q_t_past_tables t_past_free t_past_held, oX1 q_t_lines q_t_lines_partners q_t_lines_lengths res.2.1 res.2.2.1 res.2.2.2.1 res.2.2.2.2.1 q_t_lines_open q_t_lines_endAtRim res.2.2.2.2.2.1 res.2.2.2.2.2.2.1 res.2.2.2.2.2.2.2.1, aI (G.2 1) q_t_lines_partners 12 res.2.2.2.2.2.2.2.2.1, aI (G.2 1) q_t_lines_lengths 12 res.2.2.2.2.2.2.2.2.2.1, aI (G.2 1) q_t_lines_open 49 res.2.2.2.2.2.2.2.2.2.2.1, aI (G.2 1) q_t_lines_endAtRim 24 res.2.2.2.2.2.2.2.2.2.2.2] t.heap ∧ va_D (va_A [oX5 q_t q_t_text q_t_table q_t_other q_t_spare q_t_past q_t_lines q_t_sizes, oX4 q_t_text q_t_text_letters t_text_length q_t_text_draft t_text_rowsEnded t_text_rowLength t_text_rowSum, oX3 q_t_table t_table_size q_t_table_corners, aI (G.2 1) q_t_table_corners 49 t_table_corners, oX3 q_t_other t_other_size q_t_other_corners, oX2 q_t_past q_t_past_tables t_past_free t_past_held, oX1 q_t_lines q_t_lines_partners q_t_lines_lengths t_lines_ringEdges t_lines_rings t_lines_size t_lines_ends q_t_lines_open q_t_lines_endAtRim t_lines_row t_lines_column t_lines_side, aI (G.2 1) q_t_lines_partners 12 t_lines_partners, aI (G.2 1) q_t_lines_lengths 12 t_lines_lengths, aI (G.2 1) q_t_lines_open 49 t_lines_open, aI (G.2 1) q_t_lines_endAtRim 24 t_lines_endAtRim] sz) [oX5 q_t q_t_text q_t_table q_t_other q_t_spare q_t_past q_t_lines q_t_sizes, oX4 q_t_text q_t_text_letters t_text_length q_t_text_draft t_text_rowsEnded t_text_rowLength t_text_rowSum, oX3 q_t_table t_table_size q_t_table_corners, aI (G.2 1) q_t_table_corners 49 t_table_corners, oX3 q_t_other t_other_size q_t_other_corners, oX2 q_t_past q_t_past_tables t_past_free t_past_held, oX1 q_t_lines q_t_lines_partners q_t_lines_lengths res.2.1 res.2.2.1 res.2.2.2.1 res.2.2.2.2.1 q_t_lines_open q_t_lines_endAtRim res.2.2.2.2.2.1 res.2.2.2.2.2.2.1 res.2.2.2.2.2.2.2.1, aI (G.2 1) q_t_lines_partners 12 res.2.2.2.2.2.2.2.2.1, aI (G.2 1) q_t_lines_lengths 12 res.2.2.2.2.2.2.2.2.2.1, aI (G.2 1) q_t_lines_open 49 res.2.2.2.2.2.2.2.2.2.2.1, aI (G.2 1) q_t_lines_endAtRim 24 res.2.2.2.2.2.2.2.2.2.2.2]) (va_A [oX5 q_t q_t_text q_t_table q_t_other q_t_spare q_t_past q_t_lines q_t_sizes, oX4 q_t_text q_t_text_letters t_text_length q_t_text_draft t_text_rowsEnded t_text_rowLength t_text_rowSum, oX3 q_t_table t_table_size q_t_table_corners, aI (G.2 1) q_t_table_corners 49 t_table_corners, oX3 q_t_other t_other_size q_t_other_corners, oX2 q_t_past q_t_past_tables t_past_free t_past_held, oX1 q_t_lines q_t_lines_partners q_t_lines_lengths t_lines_ringEdges t_lines_rings t_lines_size t_lines_ends q_t_lines_open q_t_lines_endAtRim t_lines_row t_lines_column t_lines_side, aI (G.2 1) q_t_lines_partners 12 t_lines_partners, aI (G.2 1) q_t_lines_lengths 12 t_lines_lengths, aI (G.2 1) q_t_lines_open 49 t_lines_open, aI (G.2 1) q_t_lines_endAtRim 24 t_lines_endAtRim] sz)) 0 0 (va_A [oX5 q_t q_t_text q_t_table q_t_other q_t_spare q_t_past q_t_lines q_t_sizes, oX4 q_t_text q_t_text_letters t_text_length q_t_text_draft t_text_rowsEnded t_text_rowLength t_text_rowSum, oX3 q_t_table t_table_size q_t_table_corners, aI (G.2 1) q_t_table_corners 49 t_table_corners, oX3 q_t_other t_other_size q_t_other_corners, oX2 q_t_past q_t_past_tables t_past_free t_past_held, oX1 q_t_lines q_t_lines_partners q_t_lines_lengths t_lines_ringEdges t_lines_rings t_lines_size t_lines_ends q_t_lines_open q_t_lines_endAtRim t_lines_row t_lines_column t_lines_side, aI (G.2 1) q_t_lines_partners 12 t_lines_partners, aI (G.2 1) q_t_lines_lengths 12 t_lines_lengths, aI (G.2 1) q_t_lines_open 49 t_lines_open, aI (G.2 1) q_t_lines_endAtRim 24 t_lines_endAtRim] sz) := by
  refine Met.ofQ (cc := cX5_count) (maxL := 2) (ret := (some .int)) (by decide) rfl ?_
  intro p e s m args below meth c s₁ Q hQ B hml hv
  obtain ⟨rfl, hsz, hP, hKW, hD0⟩ := hv
  have hK := hKW.1
  have hx := B.exec
  have hb := B.bytes
  have hr := B.returns
  have hts := atoms_spec (ws := wsX5_count) B.pre
  have hown : s.vm.findClass RX5 = some m.cls := findClass_of_methodNamed B.named
  have hlocks := B.notSynchronized
  have iX1 : ∀ w ∈ u_ws RX1 TX1 11, w ∈ wsX5_count := by decide +kernel
  have iX2 : ∀ w ∈ u_ws RX2 TX2 3, w ∈ wsX5_count := by decide +kernel
  have iX3 : ∀ w ∈ u_ws RX3 TX3 2, w ∈ wsX5_count := by decide +kernel
  have iX4 : ∀ w ∈ u_ws RX4 TX4 6, w ∈ wsX5_count := by decide +kernel
  have iX5 : ∀ w ∈ u_ws RX5 TX5 7, w ∈ wsX5_count := by decide +kernel
  have fl_39 := hts (.fieldLink RX5 39 "AlternateSigns" "lines" "LAlternateSigns$Lines;") (by decide +kernel)
  have fl_19 := hts (.fieldLink RX5 19 "AlternateSigns" "table" "LAlternateSigns$Table;") (by decide +kernel)
  have fl_152 := hts (.fieldLink RX5 152 "AlternateSigns$Lines" "rings" "I") (by decide +kernel)
  have fl_149 := hts (.fieldLink RX5 149 "AlternateSigns$Lines" "ringEdges" "I") (by decide +kernel)
  have fl_23 := hts (.fieldLink RX5 23 "AlternateSigns" "other" "LAlternateSigns$Table;") (by decide +kernel)
  have fl_84 := hts (.fieldLink RX5 84 "AlternateSigns$Table" "size" "I") (by decide +kernel)
  have fl_12 := hts (.fieldLink RX5 12 "AlternateSigns" "text" "LAlternateSigns$Text;") (by decide +kernel)
  have fl_78 := hts (.fieldLink RX5 78 "AlternateSigns$Text" "length" "I") (by decide +kernel)
  have fl_32 := hts (.fieldLink RX5 32 "AlternateSigns" "past" "LAlternateSigns$Past;") (by decide +kernel)
  have fl_101 := hts (.fieldLink RX5 101 "AlternateSigns$Past" "held" "I") (by decide +kernel)
  subst hsz
  have hD := hD0.self (sz := s.heap.size)
  generalize hAe : va_A [oX5 q_t q_t_text q_t_table q_t_other q_t_spare q_t_past q_t_lines q_t_sizes, oX4 q_t_text q_t_text_letters t_text_length q_t_text_draft t_text_rowsEnded t_text_rowLength t_text_rowSum, oX3 q_t_table t_table_size q_t_table_corners, aI (G.2 1) q_t_table_corners 49 t_table_corners, oX3 q_t_other t_other_size q_t_other_corners, oX2 q_t_past q_t_past_tables t_past_free t_past_held, oX1 q_t_lines q_t_lines_partners q_t_lines_lengths t_lines_ringEdges t_lines_rings t_lines_size t_lines_ends q_t_lines_open q_t_lines_endAtRim t_lines_row t_lines_column t_lines_side, aI (G.2 1) q_t_lines_partners 12 t_lines_partners, aI (G.2 1) q_t_lines_lengths 12 t_lines_lengths, aI (G.2 1) q_t_lines_open 49 t_lines_open, aI (G.2 1) q_t_lines_endAtRim 24 t_lines_endAtRim] s.heap.size = A at hD hQ
  have hA : ∀ q : Nat, s.heap.size ≤ q → A q := fun q h => by rw [← hAe]; exact Or.inr h
  have hS : va_S A s.heap s.heap [] := va_S.rf
  have hl := lv_entry ([.ref q_t, .int p1]) (n := 2) (Nat.le_of_ble_eq_true rfl)
  rw [lg_entry_eq]
  generalize (lg_sl ([.ref q_t, .int p1]) ++ List.replicate (2 - (lg_sl ([.ref q_t, .int p1])).length) Slot.unset).toArray = ls at hl ⊢
  have hl : lv_has ls 2 [(0, .ref q_t), (1, .int p1)] := hl
  unfold S_X5_count at hE
  refine lv_iload_n hx hb dX5_count_0 rfl (lv_at hl 1 rfl) ?_
  by_cases c_1_0 : p1 = (0 : Int32)
  · replace hE := (if_pos c_1_0).symm.trans hE
    refine lv_tableIn (tgt := 64) hx hb dX5_count_1 (by rw [c_1_0]; decide) (by rw [c_1_0]; decide) (by rw [c_1_0]; rfl) (by decide) ?_
    refine lv_aload_n hx hb dX5_count_64 rfl (lv_at hl 0 rfl) ?_
    refine va_get (D := G.1) (ci := 5) (v := .ref q_t_table) (C := RX5) (T := TX5) (N := 7) hx hb hts iX5 hown hK hP 0 rfl rfl 1 (by decide) fl_19 (fun _ h9 => h9) rfl dX5_count_65 ?_
    refine va_get (D := G.1) (ci := 3) (v := .int t_table_size) (C := RX3) (T := TX3) (N := 2) hx hb hts iX3 hown hK hP 2 rfl rfl 0 (by decide) fl_84 (fun _ h9 => h9) rfl dX5_count_68 ?_
    have e_0 := Option.some.inj hE
    subst e_0
    rw [hQ]
    exact W.iret (v := t_table_size) hx hb hr (fun t ht _ => ⟨⟨_, (), rfl, rfl, by rw [ht]; exact hP, hD⟩, hS.F ht⟩) hS.2.2 dX5_count_71
  · replace hE := (if_neg c_1_0).symm.trans hE
    by_cases c_1_1 : p1 = (1 : Int32)
    · replace hE := (if_pos c_1_1).symm.trans hE
      refine lv_tableIn (tgt := 72) hx hb dX5_count_1 (by rw [c_1_1]; decide) (by rw [c_1_1]; decide) (by rw [c_1_1]; rfl) (by decide) ?_
      refine lv_aload_n hx hb dX5_count_72 rfl (lv_at hl 0 rfl) ?_
      refine va_get (D := G.1) (ci := 5) (v := .ref q_t_table) (C := RX5) (T := TX5) (N := 7) hx hb hts iX5 hown hK hP 0 rfl rfl 1 (by decide) fl_19 (fun _ h9 => h9) rfl dX5_count_73 ?_
      obtain ⟨y76, hC_76, hE⟩ := Option.bind_eq_some_iff.mp hE
      obtain ⟨r_76, ex9⟩ : ∃ z, z = y76 := ⟨_, rfl⟩
      subst ex9
      try dsimp only at hE
      refine vp_callSi (va_Run.run (va_runV (As := []) (rest := []) ⟨hx, hb, hml, hown, hts⟩ (c_X3_negatives (l := l) (G := G) (q_t := q_t_table) (t_size := t_table_size) (q_t_corners := q_t_table_corners) (t_corners := t_table_corners) hC_76) (cwV 0 hts gX5_count_X3_negatives rfl rfl rfl kd_X3_negatives ⟨Nat.le_of_ble_eq_true rfl, Nat.le_of_ble_eq_true rfl⟩) (pv_V hKW (hP.sub (ws' := [oX3 q_t_table t_table_size q_t_table_corners, aI (G.2 1) q_t_table_corners 49 t_table_corners]) [2, 3] rfl) (ci := 3) (q0 := 0) rfl rfl) rfl rfl hl.1 rfl (lv_room (Nat.le_of_ble_eq_true rfl)) dX5_count_76 ⟨Nat.zero_le _, Nat.zero_le _⟩)) (fun r9 hr9 => ?_)
      subst r9
      have e_0 := Option.some.inj hE
      subst e_0
      rw [hQ]
      exact W.iret (v := r_76) hx hb hr (fun t ht _ => ⟨⟨_, (), rfl, rfl, by rw [ht]; exact hP, hD⟩, hS.F ht⟩) hS.2.2 dX5_count_79
    · replace hE := (if_neg c_1_1).symm.trans hE
      by_cases c_1_2 : p1 = (2 : Int32)
      · replace hE := (if_pos c_1_2).symm.trans hE
        refine lv_tableIn (tgt := 80) hx hb dX5_count_1 (by rw [c_1_2]; decide) (by rw [c_1_2]; decide) (by rw [c_1_2]; rfl) (by decide) ?_
        refine lv_aload_n hx hb dX5_count_80 rfl (lv_at hl 0 rfl) ?_
        refine va_get (D := G.1) (ci := 5) (v := .ref q_t_table) (C := RX5) (T := TX5) (N := 7) hx hb hts iX5 hown hK hP 0 rfl rfl 1 (by decide) fl_19 (fun _ h9 => h9) rfl dX5_count_81 ?_
        obtain ⟨y84, hC_84, hE⟩ := Option.bind_eq_some_iff.mp hE
        obtain ⟨r_84, ex9⟩ : ∃ z, z = y84 := ⟨_, rfl⟩
        subst ex9
        try dsimp only at hE
        refine vp_callSi (va_Run.run (va_runV (As := []) (rest := []) ⟨hx, hb, hml, hown, hts⟩ (c_X3_flippable (l := l) (G := G) (q_t := q_t_table) (t_size := t_table_size) (q_t_corners := q_t_table_corners) (t_corners := t_table_corners) hC_84) (cwV 0 hts gX5_count_X3_flippable rfl rfl rfl kd_X3_flippable ⟨Nat.le_of_ble_eq_true rfl, Nat.le_of_ble_eq_true rfl⟩) (pv_V hKW (hP.sub (ws' := [oX3 q_t_table t_table_size q_t_table_corners, aI (G.2 1) q_t_table_corners 49 t_table_corners]) [2, 3] rfl) (ci := 3) (q0 := 0) rfl rfl) rfl rfl hl.1 rfl (lv_room (Nat.le_of_ble_eq_true rfl)) dX5_count_84 ⟨Nat.zero_le _, Nat.zero_le _⟩)) (fun r9 hr9 => ?_)
        subst r9
        have e_0 := Option.some.inj hE
        subst e_0
        rw [hQ]
        exact W.iret (v := r_84) hx hb hr (fun t ht _ => ⟨⟨_, (), rfl, rfl, by rw [ht]; exact hP, hD⟩, hS.F ht⟩) hS.2.2 dX5_count_87
      · replace hE := (if_neg c_1_2).symm.trans hE
        by_cases c_1_3 : p1 = (3 : Int32)
        · replace hE := (if_pos c_1_3).symm.trans hE
          refine lv_tableIn (tgt := 88) hx hb dX5_count_1 (by rw [c_1_3]; decide) (by rw [c_1_3]; decide) (by rw [c_1_3]; rfl) (by decide) ?_
          refine lv_aload_n hx hb dX5_count_88 rfl (lv_at hl 0 rfl) ?_
          refine va_get (D := G.1) (ci := 5) (v := .ref q_t_table) (C := RX5) (T := TX5) (N := 7) hx hb hts iX5 hown hK hP 0 rfl rfl 1 (by decide) fl_19 (fun _ h9 => h9) rfl dX5_count_89 ?_
          obtain ⟨y92, hC_92, hE⟩ := Option.bind_eq_some_iff.mp hE
          obtain ⟨r_92, ex9⟩ : ∃ z, z = y92 := ⟨_, rfl⟩
          subst ex9
          try dsimp only at hE
          refine vp_callSi (va_Run.run (va_runV (As := []) (rest := []) ⟨hx, hb, hml, hown, hts⟩ (c_X3_inversions (l := l) (G := G) (q_t := q_t_table) (t_size := t_table_size) (q_t_corners := q_t_table_corners) (t_corners := t_table_corners) hC_92) (cwV 0 hts gX5_count_X3_inversions rfl rfl rfl kd_X3_inversions ⟨Nat.le_of_ble_eq_true rfl, Nat.le_of_ble_eq_true rfl⟩) (pv_V hKW (hP.sub (ws' := [oX3 q_t_table t_table_size q_t_table_corners, aI (G.2 1) q_t_table_corners 49 t_table_corners]) [2, 3] rfl) (ci := 3) (q0 := 0) rfl rfl) rfl rfl hl.1 rfl (lv_room (Nat.le_of_ble_eq_true rfl)) dX5_count_92 ⟨Nat.zero_le _, Nat.zero_le _⟩)) (fun r9 hr9 => ?_)
          subst r9
          have e_0 := Option.some.inj hE
          subst e_0
          rw [hQ]
          exact W.iret (v := r_92) hx hb hr (fun t ht _ => ⟨⟨_, (), rfl, rfl, by rw [ht]; exact hP, hD⟩, hS.F ht⟩) hS.2.2 dX5_count_95
        · replace hE := (if_neg c_1_3).symm.trans hE
          by_cases c_1_4 : p1 = (4 : Int32)
          · replace hE := (if_pos c_1_4).symm.trans hE
            refine lv_tableIn (tgt := 96) hx hb dX5_count_1 (by rw [c_1_4]; decide) (by rw [c_1_4]; decide) (by rw [c_1_4]; rfl) (by decide) ?_
            refine lv_aload_n hx hb dX5_count_96 rfl (lv_at hl 0 rfl) ?_
            refine va_get (D := G.1) (ci := 5) (v := .ref q_t_table) (C := RX5) (T := TX5) (N := 7) hx hb hts iX5 hown hK hP 0 rfl rfl 1 (by decide) fl_19 (fun _ h9 => h9) rfl dX5_count_97 ?_
            obtain ⟨y100, hC_100, hE⟩ := Option.bind_eq_some_iff.mp hE
            obtain ⟨r_100, ex9⟩ : ∃ z, z = y100 := ⟨_, rfl⟩
            subst ex9
            try dsimp only at hE
            refine vp_callSi (va_Run.run (va_runV (As := []) (rest := []) ⟨hx, hb, hml, hown, hts⟩ (c_X3_heightsTogether (l := l) (G := G) (q_t := q_t_table) (t_size := t_table_size) (q_t_corners := q_t_table_corners) (t_corners := t_table_corners) hC_100) (cwV 0 hts gX5_count_X3_heightsTogether rfl rfl rfl kd_X3_heightsTogether ⟨Nat.le_of_ble_eq_true rfl, Nat.le_of_ble_eq_true rfl⟩) (pv_V hKW (hP.sub (ws' := [oX3 q_t_table t_table_size q_t_table_corners, aI (G.2 1) q_t_table_corners 49 t_table_corners]) [2, 3] rfl) (ci := 3) (q0 := 0) rfl rfl) rfl rfl hl.1 rfl (lv_room (Nat.le_of_ble_eq_true rfl)) dX5_count_100 ⟨Nat.zero_le _, Nat.zero_le _⟩)) (fun r9 hr9 => ?_)
            subst r9
            have e_0 := Option.some.inj hE
            subst e_0
            rw [hQ]
            exact W.iret (v := r_100) hx hb hr (fun t ht _ => ⟨⟨_, (), rfl, rfl, by rw [ht]; exact hP, hD⟩, hS.F ht⟩) hS.2.2 dX5_count_103
          · replace hE := (if_neg c_1_4).symm.trans hE
            by_cases c_1_5 : p1 = (5 : Int32)
            · replace hE := (if_pos c_1_5).symm.trans hE
              refine lv_tableIn (tgt := 104) hx hb dX5_count_1 (by rw [c_1_5]; decide) (by rw [c_1_5]; decide) (by rw [c_1_5]; rfl) (by decide) ?_
              refine lv_aload_n hx hb dX5_count_104 rfl (lv_at hl 0 rfl) ?_
              refine va_get (D := G.1) (ci := 5) (v := .ref q_t_past) (C := RX5) (T := TX5) (N := 7) hx hb hts iX5 hown hK hP 0 rfl rfl 4 (by decide) fl_32 (fun _ h9 => h9) rfl dX5_count_105 ?_
              refine va_get (D := G.1) (ci := 2) (v := .int t_past_held) (C := RX2) (T := TX2) (N := 3) hx hb hts iX2 hown hK hP 5 rfl rfl 2 (by decide) fl_101 (fun _ h9 => h9) rfl dX5_count_108 ?_
              have e_0 := Option.some.inj hE
              subst e_0
              rw [hQ]
              exact W.iret (v := t_past_held) hx hb hr (fun t ht _ => ⟨⟨_, (), rfl, rfl, by rw [ht]; exact hP, hD⟩, hS.F ht⟩) hS.2.2 dX5_count_111
            · replace hE := (if_neg c_1_5).symm.trans hE
              by_cases c_1_6 : p1 = (6 : Int32)
              · replace hE := (if_pos c_1_6).symm.trans hE
                refine lv_tableIn (tgt := 112) hx hb dX5_count_1 (by rw [c_1_6]; decide) (by rw [c_1_6]; decide) (by rw [c_1_6]; rfl) (by decide) ?_
                refine lv_aload_n hx hb dX5_count_112 rfl (lv_at hl 0 rfl) ?_
                refine va_get (D := G.1) (ci := 5) (v := .ref q_t_text) (C := RX5) (T := TX5) (N := 7) hx hb hts iX5 hown hK hP 0 rfl rfl 0 (by decide) fl_12 (fun _ h9 => h9) rfl dX5_count_113 ?_
                refine va_get (D := G.1) (ci := 4) (v := .int t_text_length) (C := RX4) (T := TX4) (N := 6) hx hb hts iX4 hown hK hP 1 rfl rfl 1 (by decide) fl_78 (fun _ h9 => h9) rfl dX5_count_116 ?_
                have e_0 := Option.some.inj hE
                subst e_0
                rw [hQ]
                exact W.iret (v := t_text_length) hx hb hr (fun t ht _ => ⟨⟨_, (), rfl, rfl, by rw [ht]; exact hP, hD⟩, hS.F ht⟩) hS.2.2 dX5_count_119
              · replace hE := (if_neg c_1_6).symm.trans hE
                by_cases c_1_7 : p1 = (7 : Int32)
                · replace hE := (if_pos c_1_7).symm.trans hE
                  refine lv_tableIn (tgt := 120) hx hb dX5_count_1 (by rw [c_1_7]; decide) (by rw [c_1_7]; decide) (by rw [c_1_7]; rfl) (by decide) ?_
                  refine lv_aload_n hx hb dX5_count_120 rfl (lv_at hl 0 rfl) ?_
                  refine va_get (D := G.1) (ci := 5) (v := .ref q_t_other) (C := RX5) (T := TX5) (N := 7) hx hb hts iX5 hown hK hP 0 rfl rfl 2 (by decide) fl_23 (fun _ h9 => h9) rfl dX5_count_121 ?_
                  refine va_get (D := G.1) (ci := 3) (v := .int t_other_size) (C := RX3) (T := TX3) (N := 2) hx hb hts iX3 hown hK hP 4 rfl rfl 0 (by decide) fl_84 (fun _ h9 => h9) rfl dX5_count_124 ?_
                  have e_0 := Option.some.inj hE
                  subst e_0
                  rw [hQ]
                  exact W.iret (v := t_other_size) hx hb hr (fun t ht _ => ⟨⟨_, (), rfl, rfl, by rw [ht]; exact hP, hD⟩, hS.F ht⟩) hS.2.2 dX5_count_127
                · replace hE := (if_neg c_1_7).symm.trans hE
                  by_cases c_1_8 : p1 = (8 : Int32)
                  · replace hE := (if_pos c_1_8).symm.trans hE
                    refine lv_tableIn (tgt := 128) hx hb dX5_count_1 (by rw [c_1_8]; decide) (by rw [c_1_8]; decide) (by rw [c_1_8]; rfl) (by decide) ?_
                    refine lv_aload_n hx hb dX5_count_128 rfl (lv_at hl 0 rfl) ?_
                    refine va_get (D := G.1) (ci := 5) (v := .ref q_t_table) (C := RX5) (T := TX5) (N := 7) hx hb hts iX5 hown hK hP 0 rfl rfl 1 (by decide) fl_19 (fun _ h9 => h9) rfl dX5_count_129 ?_
                    obtain ⟨y132, hC_132, hE⟩ := Option.bind_eq_some_iff.mp hE
                    obtain ⟨r_132, ex9⟩ : ∃ z, z = y132 := ⟨_, rfl⟩
                    subst ex9
                    try dsimp only at hE
                    refine vp_callSi (va_Run.run (va_runV (As := []) (rest := []) ⟨hx, hb, hml, hown, hts⟩ (c_X3_negatives (l := l) (G := G) (q_t := q_t_table) (t_size := t_table_size) (q_t_corners := q_t_table_corners) (t_corners := t_table_corners) hC_132) (cwV 0 hts gX5_count_X3_negatives rfl rfl rfl kd_X3_negatives ⟨Nat.le_of_ble_eq_true rfl, Nat.le_of_ble_eq_true rfl⟩) (pv_V hKW (hP.sub (ws' := [oX3 q_t_table t_table_size q_t_table_corners, aI (G.2 1) q_t_table_corners 49 t_table_corners]) [2, 3] rfl) (ci := 3) (q0 := 0) rfl rfl) rfl rfl hl.1 rfl (lv_room (Nat.le_of_ble_eq_true rfl)) dX5_count_132 ⟨Nat.zero_le _, Nat.zero_le _⟩)) (fun r9 hr9 => ?_)
                    subst r9
                    refine lv_if_ne (tgt := 142) hx hb dX5_count_135 (by decide) (fun c_135 => ?_) (fun c_135 => ?_)
                    · replace hE := (if_neg c_135).symm.trans hE
                      refine lv_iconst (v := 0) hx hb dX5_count_142 (by decide) ?_
                      have e_0 := Option.some.inj hE
                      subst e_0
                      rw [hQ]
                      exact W.iret (v := (0 : Int32)) hx hb hr (fun t ht _ => ⟨⟨_, (), rfl, rfl, by rw [ht]; exact hP, hD⟩, hS.F ht⟩) hS.2.2 dX5_count_143
                    · replace hE := (if_pos c_135).symm.trans hE
                      refine lv_iconst (v := 1) hx hb dX5_count_138 (by decide) ?_
                      refine lv_goto (tgt := 143) hx hb dX5_count_139 (by decide) ?_
                      have e_0 := Option.some.inj hE
                      subst e_0
                      rw [hQ]
                      exact W.iret (v := (1 : Int32)) hx hb hr (fun t ht _ => ⟨⟨_, (), rfl, rfl, by rw [ht]; exact hP, hD⟩, hS.F ht⟩) hS.2.2 dX5_count_143
                  · replace hE := (if_neg c_1_8).symm.trans hE
                    by_cases c_1_9 : p1 = (9 : Int32)
                    · replace hE := (if_pos c_1_9).symm.trans hE
                      refine lv_tableIn (tgt := 144) hx hb dX5_count_1 (by rw [c_1_9]; decide) (by rw [c_1_9]; decide) (by rw [c_1_9]; rfl) (by decide) ?_
                      refine lv_aload_n hx hb dX5_count_144 rfl (lv_at hl 0 rfl) ?_
                      refine va_get (D := G.1) (ci := 5) (v := .ref q_t_table) (C := RX5) (T := TX5) (N := 7) hx hb hts iX5 hown hK hP 0 rfl rfl 1 (by decide) fl_19 (fun _ h9 => h9) rfl dX5_count_145 ?_
                      obtain ⟨y148, hC_148, hE⟩ := Option.bind_eq_some_iff.mp hE
                      obtain ⟨r_148, ex9⟩ : ∃ z, z = y148 := ⟨_, rfl⟩
                      subst ex9
                      try dsimp only at hE
                      refine vp_callSi (va_Run.run (va_runV (As := []) (rest := []) ⟨hx, hb, hml, hown, hts⟩ (c_X3_drawnEdges (l := l) (G := G) (q_t := q_t_table) (t_size := t_table_size) (q_t_corners := q_t_table_corners) (t_corners := t_table_corners) hC_148) (cwV 0 hts gX5_count_X3_drawnEdges rfl rfl rfl kd_X3_drawnEdges ⟨Nat.le_of_ble_eq_true rfl, Nat.le_of_ble_eq_true rfl⟩) (pv_V hKW (hP.sub (ws' := [oX3 q_t_table t_table_size q_t_table_corners, aI (G.2 1) q_t_table_corners 49 t_table_corners]) [2, 3] rfl) (ci := 3) (q0 := 0) rfl rfl) rfl rfl hl.1 rfl (lv_room (Nat.le_of_ble_eq_true rfl)) dX5_count_148 ⟨Nat.zero_le _, Nat.zero_le _⟩)) (fun r9 hr9 => ?_)
                      subst r9
                      have e_0 := Option.some.inj hE
                      subst e_0
                      rw [hQ]
                      exact W.iret (v := r_148) hx hb hr (fun t ht _ => ⟨⟨_, (), rfl, rfl, by rw [ht]; exact hP, hD⟩, hS.F ht⟩) hS.2.2 dX5_count_151
                    · replace hE := (if_neg c_1_9).symm.trans hE
                      by_cases c_1_10 : p1 = (10 : Int32)
                      · replace hE := (if_pos c_1_10).symm.trans hE
                        refine lv_tableIn (tgt := 152) hx hb dX5_count_1 (by rw [c_1_10]; decide) (by rw [c_1_10]; decide) (by rw [c_1_10]; rfl) (by decide) ?_
                        refine lv_aload_n hx hb dX5_count_152 rfl (lv_at hl 0 rfl) ?_
                        refine va_get (D := G.1) (ci := 5) (v := .ref q_t_lines) (C := RX5) (T := TX5) (N := 7) hx hb hts iX5 hown hK hP 0 rfl rfl 5 (by decide) fl_39 (fun _ h9 => h9) rfl dX5_count_153 ?_
                        refine lv_aload_n hx hb dX5_count_156 rfl (lv_at hl 0 rfl) ?_
                        refine va_get (D := G.1) (ci := 5) (v := .ref q_t_table) (C := RX5) (T := TX5) (N := 7) hx hb hts iX5 hown hK hP 0 rfl rfl 1 (by decide) fl_19 (fun _ h9 => h9) rfl dX5_count_157 ?_
                        obtain ⟨y160, hC_160, hE⟩ := Option.bind_eq_some_iff.mp hE
                        obtain ⟨m_160_0, m_160_1, m_160_2, m_160_3, m_160_4, m_160_5, m_160_6, m_160_7, m_160_8, m_160_9, m_160_10⟩ := y160
                        try dsimp only at hE
                        have hPc := hP.sub (ws' := [oX1 q_t_lines q_t_lines_partners q_t_lines_lengths t_lines_ringEdges t_lines_rings t_lines_size t_lines_ends q_t_lines_open q_t_lines_endAtRim t_lines_row t_lines_column t_lines_side, aI (G.2 1) q_t_lines_partners 12 t_lines_partners, aI (G.2 1) q_t_lines_lengths 12 t_lines_lengths, aI (G.2 1) q_t_lines_open 49 t_lines_open, aI (G.2 1) q_t_lines_endAtRim 24 t_lines_endAtRim, oX3 q_t_table t_table_size q_t_table_corners, aI (G.2 1) q_t_table_corners 49 t_table_corners]) [6, 7, 8, 9, 10, 2, 3] rfl
                        have hDc := hD.sub (ws' := [oX1 q_t_lines q_t_lines_partners q_t_lines_lengths t_lines_ringEdges t_lines_rings t_lines_size t_lines_ends q_t_lines_open q_t_lines_endAtRim t_lines_row t_lines_column t_lines_side, aI (G.2 1) q_t_lines_partners 12 t_lines_partners, aI (G.2 1) q_t_lines_lengths 12 t_lines_lengths, aI (G.2 1) q_t_lines_open 49 t_lines_open, aI (G.2 1) q_t_lines_endAtRim 24 t_lines_endAtRim, oX3 q_t_table t_table_size q_t_table_corners, aI (G.2 1) q_t_table_corners 49 t_table_corners]) [6, 7, 8, 9, 10, 2, 3] (by decide) rfl
                        have hFc := va_free (wc := [oX1 q_t_lines q_t_lines_partners q_t_lines_lengths t_lines_ringEdges t_lines_rings t_lines_size t_lines_ends q_t_lines_open q_t_lines_endAtRim t_lines_row t_lines_column t_lines_side, aI (G.2 1) q_t_lines_partners 12 t_lines_partners, aI (G.2 1) q_t_lines_lengths 12 t_lines_lengths, aI (G.2 1) q_t_lines_open 49 t_lines_open, aI (G.2 1) q_t_lines_endAtRim 24 t_lines_endAtRim, oX3 q_t_table t_table_size q_t_table_corners, aI (G.2 1) q_t_table_corners 49 t_table_corners]) hD hS hA [6, 7, 8, 9, 10, 2, 3] rfl
                        refine va_callv (va_runV (As := [.ref q_t_table]) (rest := []) ⟨hx, hb, hml, hown, hts⟩ (c_X1_trace (l := l) (G := G) _ (q_t := q_t_lines) (q_t_partners := q_t_lines_partners) (q_t_lengths := q_t_lines_lengths) (t_ringEdges := t_lines_ringEdges) (t_rings := t_lines_rings) (t_size := t_lines_size) (t_ends := t_lines_ends) (q_t_open := q_t_lines_open) (q_t_endAtRim := q_t_lines_endAtRim) (t_row := t_lines_row) (t_column := t_lines_column) (t_side := t_lines_side) (t_partners := t_lines_partners) (t_lengths := t_lines_lengths) (t_open := t_lines_open) (t_endAtRim := t_lines_endAtRim) (q_p1 := q_t_table) (p1_size := t_table_size) (q_p1_corners := q_t_table_corners) (p1_corners := t_table_corners) hC_160) (cwV 1 hts gX5_count_X1_trace rfl rfl rfl kd_X1_trace ⟨Nat.le_of_ble_eq_true rfl, Nat.le_of_ble_eq_true rfl⟩) (iv_V hKW hPc hDc (ci := 1) (q0 := 0) rfl rfl) rfl rfl hl.1 rfl (lv_room (Nat.le_of_ble_eq_true rfl)) dX5_count_160 ⟨Nat.zero_le _, Nat.zero_le _⟩) hS (fun q _ h => hFc q h) hFc (fun u9 t9 H1 locs ht9 hvm9 hw9 hB9 hz9 hk9 hS => ?_)
                        obtain ⟨hP1, hD1⟩ := hB9
                        rw [ht9] at hP1
                        obtain ⟨hP, hD⟩ := va_join (wr := [oX5 q_t q_t_text q_t_table q_t_other q_t_spare q_t_past q_t_lines q_t_sizes, oX4 q_t_text q_t_text_letters t_text_length q_t_text_draft t_text_rowsEnded t_text_rowLength t_text_rowSum, oX3 q_t_other t_other_size q_t_other_corners, oX2 q_t_past q_t_past_tables t_past_free t_past_held]) (w1 := [oX1 q_t_lines q_t_lines_partners q_t_lines_lengths m_160_0 m_160_1 m_160_2 m_160_3 q_t_lines_open q_t_lines_endAtRim m_160_4 m_160_5 m_160_6, aI (G.2 1) q_t_lines_partners 12 m_160_7, aI (G.2 1) q_t_lines_lengths 12 m_160_8, aI (G.2 1) q_t_lines_open 49 m_160_9, aI (G.2 1) q_t_lines_endAtRim 24 m_160_10, oX3 q_t_table t_table_size q_t_table_corners, aI (G.2 1) q_t_table_corners 49 t_table_corners]) hP hD [6, 7, 8, 9, 10, 2, 3] [0, 1, 4, 5] rfl rfl (by decide) (by decide) hk9 hFc hP1 hD1
                        have hP := hP.sub (ws' := [oX5 q_t q_t_text q_t_table q_t_other q_t_spare q_t_past q_t_lines q_t_sizes, oX4 q_t_text q_t_text_letters t_text_length q_t_text_draft t_text_rowsEnded t_text_rowLength t_text_rowSum, oX3 q_t_table t_table_size q_t_table_corners, aI (G.2 1) q_t_table_corners 49 t_table_corners, oX3 q_t_other t_other_size q_t_other_corners, oX2 q_t_past q_t_past_tables t_past_free t_past_held, oX1 q_t_lines q_t_lines_partners q_t_lines_lengths m_160_0 m_160_1 m_160_2 m_160_3 q_t_lines_open q_t_lines_endAtRim m_160_4 m_160_5 m_160_6, aI (G.2 1) q_t_lines_partners 12 m_160_7, aI (G.2 1) q_t_lines_lengths 12 m_160_8, aI (G.2 1) q_t_lines_open 49 m_160_9, aI (G.2 1) q_t_lines_endAtRim 24 m_160_10]) [0, 1, 9, 10, 2, 3, 4, 5, 6, 7, 8] rfl
                        have hD := hD.sub (ws' := [oX5 q_t q_t_text q_t_table q_t_other q_t_spare q_t_past q_t_lines q_t_sizes, oX4 q_t_text q_t_text_letters t_text_length q_t_text_draft t_text_rowsEnded t_text_rowLength t_text_rowSum, oX3 q_t_table t_table_size q_t_table_corners, aI (G.2 1) q_t_table_corners 49 t_table_corners, oX3 q_t_other t_other_size q_t_other_corners, oX2 q_t_past q_t_past_tables t_past_free t_past_held, oX1 q_t_lines q_t_lines_partners q_t_lines_lengths m_160_0 m_160_1 m_160_2 m_160_3 q_t_lines_open q_t_lines_endAtRim m_160_4 m_160_5 m_160_6, aI (G.2 1) q_t_lines_partners 12 m_160_7, aI (G.2 1) q_t_lines_lengths 12 m_160_8, aI (G.2 1) q_t_lines_open 49 m_160_9, aI (G.2 1) q_t_lines_endAtRim 24 m_160_10]) [0, 1, 9, 10, 2, 3, 4, 5, 6, 7, 8] (by decide) rfl
                        clear hPc hDc hFc hP1 hD1 hk9 hz9 hvm9
                        refine lv_aload_n hx hb dX5_count_163 rfl (lv_at hl 0 rfl) ?_
                        refine va_get (D := G.1) (ci := 5) (v := .ref q_t_lines) (C := RX5) (T := TX5) (N := 7) hx hb hts iX5 hown hK hP 0 rfl rfl 5 (by decide) fl_39 (fun _ h9 => h9) rfl dX5_count_164 ?_
                        refine va_get (D := G.1) (ci := 1) (v := .int m_160_0) (C := RX1) (T := TX1) (N := 11) hx hb hts iX1 hown hK hP 6 rfl rfl 2 (by decide) fl_149 (fun _ h9 => h9) rfl dX5_count_167 ?_
                        have e_0 := Option.some.inj hE
                        subst e_0
                        rw [hQ]
                        exact W.iret (v := m_160_0) hx hb hr (fun t ht _ => ⟨⟨_, (), rfl, rfl, by rw [ht]; exact hP, hD⟩, hS.F ht⟩) hS.2.2 dX5_count_170
                      · replace hE := (if_neg c_1_10).symm.trans hE
                        by_cases c_1_11 : p1 = (11 : Int32)
                        · replace hE := (if_pos c_1_11).symm.trans hE
                          refine lv_tableIn (tgt := 171) hx hb dX5_count_1 (by rw [c_1_11]; decide) (by rw [c_1_11]; decide) (by rw [c_1_11]; rfl) (by decide) ?_
                          refine lv_aload_n hx hb dX5_count_171 rfl (lv_at hl 0 rfl) ?_
                          refine va_get (D := G.1) (ci := 5) (v := .ref q_t_lines) (C := RX5) (T := TX5) (N := 7) hx hb hts iX5 hown hK hP 0 rfl rfl 5 (by decide) fl_39 (fun _ h9 => h9) rfl dX5_count_172 ?_
                          refine lv_aload_n hx hb dX5_count_175 rfl (lv_at hl 0 rfl) ?_
                          refine va_get (D := G.1) (ci := 5) (v := .ref q_t_table) (C := RX5) (T := TX5) (N := 7) hx hb hts iX5 hown hK hP 0 rfl rfl 1 (by decide) fl_19 (fun _ h9 => h9) rfl dX5_count_176 ?_
                          obtain ⟨y179, hC_179, hE⟩ := Option.bind_eq_some_iff.mp hE
                          obtain ⟨m_179_0, m_179_1, m_179_2, m_179_3, m_179_4, m_179_5, m_179_6, m_179_7, m_179_8, m_179_9, m_179_10⟩ := y179
                          try dsimp only at hE
                          have hPc := hP.sub (ws' := [oX1 q_t_lines q_t_lines_partners q_t_lines_lengths t_lines_ringEdges t_lines_rings t_lines_size t_lines_ends q_t_lines_open q_t_lines_endAtRim t_lines_row t_lines_column t_lines_side, aI (G.2 1) q_t_lines_partners 12 t_lines_partners, aI (G.2 1) q_t_lines_lengths 12 t_lines_lengths, aI (G.2 1) q_t_lines_open 49 t_lines_open, aI (G.2 1) q_t_lines_endAtRim 24 t_lines_endAtRim, oX3 q_t_table t_table_size q_t_table_corners, aI (G.2 1) q_t_table_corners 49 t_table_corners]) [6, 7, 8, 9, 10, 2, 3] rfl
                          have hDc := hD.sub (ws' := [oX1 q_t_lines q_t_lines_partners q_t_lines_lengths t_lines_ringEdges t_lines_rings t_lines_size t_lines_ends q_t_lines_open q_t_lines_endAtRim t_lines_row t_lines_column t_lines_side, aI (G.2 1) q_t_lines_partners 12 t_lines_partners, aI (G.2 1) q_t_lines_lengths 12 t_lines_lengths, aI (G.2 1) q_t_lines_open 49 t_lines_open, aI (G.2 1) q_t_lines_endAtRim 24 t_lines_endAtRim, oX3 q_t_table t_table_size q_t_table_corners, aI (G.2 1) q_t_table_corners 49 t_table_corners]) [6, 7, 8, 9, 10, 2, 3] (by decide) rfl
                          have hFc := va_free (wc := [oX1 q_t_lines q_t_lines_partners q_t_lines_lengths t_lines_ringEdges t_lines_rings t_lines_size t_lines_ends q_t_lines_open q_t_lines_endAtRim t_lines_row t_lines_column t_lines_side, aI (G.2 1) q_t_lines_partners 12 t_lines_partners, aI (G.2 1) q_t_lines_lengths 12 t_lines_lengths, aI (G.2 1) q_t_lines_open 49 t_lines_open, aI (G.2 1) q_t_lines_endAtRim 24 t_lines_endAtRim, oX3 q_t_table t_table_size q_t_table_corners, aI (G.2 1) q_t_table_corners 49 t_table_corners]) hD hS hA [6, 7, 8, 9, 10, 2, 3] rfl
                          refine va_callv (va_runV (As := [.ref q_t_table]) (rest := []) ⟨hx, hb, hml, hown, hts⟩ (c_X1_trace (l := l) (G := G) _ (q_t := q_t_lines) (q_t_partners := q_t_lines_partners) (q_t_lengths := q_t_lines_lengths) (t_ringEdges := t_lines_ringEdges) (t_rings := t_lines_rings) (t_size := t_lines_size) (t_ends := t_lines_ends) (q_t_open := q_t_lines_open) (q_t_endAtRim := q_t_lines_endAtRim) (t_row := t_lines_row) (t_column := t_lines_column) (t_side := t_lines_side) (t_partners := t_lines_partners) (t_lengths := t_lines_lengths) (t_open := t_lines_open) (t_endAtRim := t_lines_endAtRim) (q_p1 := q_t_table) (p1_size := t_table_size) (q_p1_corners := q_t_table_corners) (p1_corners := t_table_corners) hC_179) (cwV 1 hts gX5_count_X1_trace rfl rfl rfl kd_X1_trace ⟨Nat.le_of_ble_eq_true rfl, Nat.le_of_ble_eq_true rfl⟩) (iv_V hKW hPc hDc (ci := 1) (q0 := 0) rfl rfl) rfl rfl hl.1 rfl (lv_room (Nat.le_of_ble_eq_true rfl)) dX5_count_179 ⟨Nat.zero_le _, Nat.zero_le _⟩) hS (fun q _ h => hFc q h) hFc (fun u9 t9 H1 locs ht9 hvm9 hw9 hB9 hz9 hk9 hS => ?_)
                          obtain ⟨hP1, hD1⟩ := hB9
                          rw [ht9] at hP1
                          obtain ⟨hP, hD⟩ := va_join (wr := [oX5 q_t q_t_text q_t_table q_t_other q_t_spare q_t_past q_t_lines q_t_sizes, oX4 q_t_text q_t_text_letters t_text_length q_t_text_draft t_text_rowsEnded t_text_rowLength t_text_rowSum, oX3 q_t_other t_other_size q_t_other_corners, oX2 q_t_past q_t_past_tables t_past_free t_past_held]) (w1 := [oX1 q_t_lines q_t_lines_partners q_t_lines_lengths m_179_0 m_179_1 m_179_2 m_179_3 q_t_lines_open q_t_lines_endAtRim m_179_4 m_179_5 m_179_6, aI (G.2 1) q_t_lines_partners 12 m_179_7, aI (G.2 1) q_t_lines_lengths 12 m_179_8, aI (G.2 1) q_t_lines_open 49 m_179_9, aI (G.2 1) q_t_lines_endAtRim 24 m_179_10, oX3 q_t_table t_table_size q_t_table_corners, aI (G.2 1) q_t_table_corners 49 t_table_corners]) hP hD [6, 7, 8, 9, 10, 2, 3] [0, 1, 4, 5] rfl rfl (by decide) (by decide) hk9 hFc hP1 hD1
                          have hP := hP.sub (ws' := [oX5 q_t q_t_text q_t_table q_t_other q_t_spare q_t_past q_t_lines q_t_sizes, oX4 q_t_text q_t_text_letters t_text_length q_t_text_draft t_text_rowsEnded t_text_rowLength t_text_rowSum, oX3 q_t_table t_table_size q_t_table_corners, aI (G.2 1) q_t_table_corners 49 t_table_corners, oX3 q_t_other t_other_size q_t_other_corners, oX2 q_t_past q_t_past_tables t_past_free t_past_held, oX1 q_t_lines q_t_lines_partners q_t_lines_lengths m_179_0 m_179_1 m_179_2 m_179_3 q_t_lines_open q_t_lines_endAtRim m_179_4 m_179_5 m_179_6, aI (G.2 1) q_t_lines_partners 12 m_179_7, aI (G.2 1) q_t_lines_lengths 12 m_179_8, aI (G.2 1) q_t_lines_open 49 m_179_9, aI (G.2 1) q_t_lines_endAtRim 24 m_179_10]) [0, 1, 9, 10, 2, 3, 4, 5, 6, 7, 8] rfl
                          have hD := hD.sub (ws' := [oX5 q_t q_t_text q_t_table q_t_other q_t_spare q_t_past q_t_lines q_t_sizes, oX4 q_t_text q_t_text_letters t_text_length q_t_text_draft t_text_rowsEnded t_text_rowLength t_text_rowSum, oX3 q_t_table t_table_size q_t_table_corners, aI (G.2 1) q_t_table_corners 49 t_table_corners, oX3 q_t_other t_other_size q_t_other_corners, oX2 q_t_past q_t_past_tables t_past_free t_past_held, oX1 q_t_lines q_t_lines_partners q_t_lines_lengths m_179_0 m_179_1 m_179_2 m_179_3 q_t_lines_open q_t_lines_endAtRim m_179_4 m_179_5 m_179_6, aI (G.2 1) q_t_lines_partners 12 m_179_7, aI (G.2 1) q_t_lines_lengths 12 m_179_8, aI (G.2 1) q_t_lines_open 49 m_179_9, aI (G.2 1) q_t_lines_endAtRim 24 m_179_10]) [0, 1, 9, 10, 2, 3, 4, 5, 6, 7, 8] (by decide) rfl
                          clear hPc hDc hFc hP1 hD1 hk9 hz9 hvm9
                          refine lv_aload_n hx hb dX5_count_182 rfl (lv_at hl 0 rfl) ?_
                          refine va_get (D := G.1) (ci := 5) (v := .ref q_t_lines) (C := RX5) (T := TX5) (N := 7) hx hb hts iX5 hown hK hP 0 rfl rfl 5 (by decide) fl_39 (fun _ h9 => h9) rfl dX5_count_183 ?_
                          refine va_get (D := G.1) (ci := 1) (v := .int m_179_1) (C := RX1) (T := TX1) (N := 11) hx hb hts iX1 hown hK hP 6 rfl rfl 3 (by decide) fl_152 (fun _ h9 => h9) rfl dX5_count_186 ?_
                          have e_0 := Option.some.inj hE
                          subst e_0
                          rw [hQ]
                          exact W.iret (v := m_179_1) hx hb hr (fun t ht _ => ⟨⟨_, (), rfl, rfl, by rw [ht]; exact hP, hD⟩, hS.F ht⟩) hS.2.2 dX5_count_189
                        · replace hE := (if_neg c_1_11).symm.trans hE
                          refine lv_tableOut (tgt := 190) hx hb dX5_count_1 (by have n_0 := lv_neT c_1_0 (a := 0) (by decide); have n_1 := lv_neT c_1_1 (a := 1) (by decide); have n_2 := lv_neT c_1_2 (a := 2) (by decide); have n_3 := lv_neT c_1_3 (a := 3) (by decide); have n_4 := lv_neT c_1_4 (a := 4) (by decide); have n_5 := lv_neT c_1_5 (a := 5) (by decide); have n_6 := lv_neT c_1_6 (a := 6) (by decide); have n_7 := lv_neT c_1_7 (a := 7) (by decide); have n_8 := lv_neT c_1_8 (a := 8) (by decide); have n_9 := lv_neT c_1_9 (a := 9) (by decide); have n_10 := lv_neT c_1_10 (a := 10) (by decide); have n_11 := lv_neT c_1_11 (a := 11) (by decide); omega) (by decide) ?_
                          refine lv_iconst (v := -1) hx hb dX5_count_190 (by decide) ?_
                          have e_0 := Option.some.inj hE
                          subst e_0
                          rw [hQ]
                          exact W.iret (v := (-1 : Int32)) hx hb hr (fun t ht _ => ⟨⟨_, (), rfl, rfl, by rw [ht]; exact hP, hD⟩, hS.F ht⟩) hS.2.2 dX5_count_191
def S_X5_flip (p1 : Int32) (p2 : Int32) (t_table_size : Int32) (t_table_corners : Nat → Int32) (t_past_free : Int32) (t_past_held : Int32) (t_past_tables_e_size : Int32) (t_past_tables_e_corners : Nat → Int32) : Option (Int32 × (Nat → Int32) × Int32 × Int32 × Int32 × (Nat → Int32)) := (S_X5_isInner p1 p2 t_table_size).bind (fun (y3 : Int32) => if y3 = 0 then some ((-1 : Int32), t_table_corners, t_past_free, t_past_held, t_past_tables_e_size, t_past_tables_e_corners) else (S_X3_flipKind p1 p2 t_table_corners).bind (fun (y17 : Int32) => if y17 = 0 then some ((-2 : Int32), t_table_corners, t_past_free, t_past_held, t_past_tables_e_size, t_past_tables_e_corners) else (S_X2_remember t_past_free t_past_held t_past_tables_e_corners t_table_size t_table_corners).bind (fun (y34 : Int32 × Int32 × Int32 × (Nat → Int32)) => (S_X3_flipAt p1 p2 t_table_corners).bind (fun (y43 : Nat → Int32) => (S_X3_heightAt p1 p2 y43).bind (fun (y52 : Int32) => some (y52, y43, y34.1, y34.2.1, y34.2.2.1, y34.2.2.2))))))
theorem kd_X5_flip : yX5_flip.cls = RX5 ∧ yX5_flip.cls ≠ "java/lang/invoke/MethodHandle" ∧ yX5_flip.cls ≠ "java/lang/invoke/VarHandle" ∧ (parseMethodDescriptor yX5_flip.desc).map (fun d => d.parameters.length) = some 2 := by decide +kernel
set_option maxHeartbeats 4000000 in
set_option maxRecDepth 100000 in
theorem c_X5_flip {l : Launch} {G : kG} (sz : Nat) {p1 : Int32} {p2 : Int32} {q_t : Nat} {q_t_text : Nat} {q_t_table : Nat} {q_t_other : Nat} {q_t_spare : Nat} {q_t_past : Nat} {q_t_lines : Nat} {q_t_sizes : Nat} {t_table_size : Int32} {q_t_table_corners : Nat} {t_table_corners : Nat → Int32} {q_t_past_tables : Nat} {t_past_free : Int32} {t_past_held : Int32} {t_past_tables : Nat → Option Nat} {q_t_past_tables_e : Nat} {t_past_tables_e_size : Int32} {q_t_past_tables_e_corners : Nat} {t_past_tables_e_corners : Nat → Int32} {res : Int32 × (Nat → Int32) × Int32 × Int32 × Int32 × (Nat → Int32)} (he_0 : inb t_past_free 6 = true → t_past_tables t_past_free.toNatClampNeg = some q_t_past_tables_e) (hE : S_X5_flip p1 p2 t_table_size t_table_corners t_past_free t_past_held t_past_tables_e_size t_past_tables_e_corners = some res) : Met l yX5_flip wsX5_flip ({ frames := 4, cells := 0, slots := 0, locals := 90 }) (va_Pc [.ref q_t, .int p1, .int p2] (fun U => U.heap.size = sz ∧ va_P G.1 vwCl [oX5 q_t q_t_text q_t_table q_t_other q_t_spare q_t_past q_t_lines q_t_sizes, oX3 q_t_table t_table_size q_t_table_corners, aI (G.2 1) q_t_table_corners 49 t_table_corners, oX2 q_t_past q_t_past_tables t_past_free t_past_held, aQ (G.2 5) q_t_past_tables 6 t_past_tables, oX3 q_t_past_tables_e t_past_tables_e_size q_t_past_tables_e_corners, aI (G.2 1) q_t_past_tables_e_corners 49 t_past_tables_e_corners] U.heap ∧ kw G U ∧ va_D (fun _ => True) [oX5 q_t q_t_text q_t_table q_t_other q_t_spare q_t_past q_t_lines q_t_sizes, oX3 q_t_table t_table_size q_t_table_corners, aI (G.2 1) q_t_table_corners 49 t_table_corners, oX2 q_t_past q_t_past_tables t_past_free t_past_held, aQ (G.2 5) q_t_past_tables 6 t_past_tables, oX3 q_t_past_tables_e t_past_tables_e_size q_t_past_tables_e_corners, aI (G.2 1) q_t_past_tables_e_corners 49 t_past_tables_e_corners])) (va_Qi (fun r (_ : Unit) => r = res.1) (fun _ t => va_P G.1 vwCl [oX5 q_t q_t_text q_t_table q_t_other q_t_spare q_t_past q_t_lines q_t_sizes, oX3 q_t_table t_table_size q_t_table_corners, aI (G.2 1) q_t_table_corners 49 res.2.1, oX2 q_t_past q_t_past_tables res.2.2.1 res.2.2.2.1, aQ (G.2 5) q_t_past_tables 6 t_past_tables, oX3 q_t_past_tables_e res.2.2.2.2.1 q_t_past_tables_e_corners, aI (G.2 1) q_t_past_tables_e_corners 49 res.2.2.2.2.2] t.heap ∧ va_D (va_A [oX5 q_t q_t_text q_t_table q_t_other q_t_spare q_t_past q_t_lines q_t_sizes, oX3 q_t_table t_table_size q_t_table_corners, aI (G.2 1) q_t_table_corners 49 t_table_corners, oX2 q_t_past q_t_past_tables t_past_free t_past_held, aQ (G.2 5) q_t_past_tables 6 t_past_tables, oX3 q_t_past_tables_e t_past_tables_e_size q_t_past_tables_e_corners, aI (G.2 1) q_t_past_tables_e_corners 49 t_past_tables_e_corners] sz) [oX5 q_t q_t_text q_t_table q_t_other q_t_spare q_t_past q_t_lines q_t_sizes, oX3 q_t_table t_table_size q_t_table_corners, aI (G.2 1) q_t_table_corners 49 res.2.1, oX2 q_t_past q_t_past_tables res.2.2.1 res.2.2.2.1, aQ (G.2 5) q_t_past_tables 6 t_past_tables, oX3 q_t_past_tables_e res.2.2.2.2.1 q_t_past_tables_e_corners, aI (G.2 1) q_t_past_tables_e_corners 49 res.2.2.2.2.2]) (va_A [oX5 q_t q_t_text q_t_table q_t_other q_t_spare q_t_past q_t_lines q_t_sizes, oX3 q_t_table t_table_size q_t_table_corners, aI (G.2 1) q_t_table_corners 49 t_table_corners, oX2 q_t_past q_t_past_tables t_past_free t_past_held, aQ (G.2 5) q_t_past_tables 6 t_past_tables, oX3 q_t_past_tables_e t_past_tables_e_size q_t_past_tables_e_corners, aI (G.2 1) q_t_past_tables_e_corners 49 t_past_tables_e_corners] sz)) 0 0 (va_A [oX5 q_t q_t_text q_t_table q_t_other q_t_spare q_t_past q_t_lines q_t_sizes, oX3 q_t_table t_table_size q_t_table_corners, aI (G.2 1) q_t_table_corners 49 t_table_corners, oX2 q_t_past q_t_past_tables t_past_free t_past_held, aQ (G.2 5) q_t_past_tables 6 t_past_tables, oX3 q_t_past_tables_e t_past_tables_e_size q_t_past_tables_e_corners, aI (G.2 1) q_t_past_tables_e_corners 49 t_past_tables_e_corners] sz) := by
  refine Met.ofQ (cc := cX5_flip) (maxL := 3) (ret := (some .int)) (by decide) rfl ?_
  intro p e s m args below meth c s₁ Q hQ B hml hv
  obtain ⟨rfl, hsz, hP, hKW, hD0⟩ := hv
  have hK := hKW.1
  have hx := B.exec
  have hb := B.bytes
  have hr := B.returns
  have hts := atoms_spec (ws := wsX5_flip) B.pre
  have hown : s.vm.findClass RX5 = some m.cls := findClass_of_methodNamed B.named
  have hlocks := B.notSynchronized
  have iX5 : ∀ w ∈ u_ws RX5 TX5 7, w ∈ wsX5_flip := by decide +kernel
  have fl_19 := hts (.fieldLink RX5 19 "AlternateSigns" "table" "LAlternateSigns$Table;") (by decide +kernel)
  have fl_32 := hts (.fieldLink RX5 32 "AlternateSigns" "past" "LAlternateSigns$Past;") (by decide +kernel)
  subst hsz
  have hD := hD0.self (sz := s.heap.size)
  generalize hAe : va_A [oX5 q_t q_t_text q_t_table q_t_other q_t_spare q_t_past q_t_lines q_t_sizes, oX3 q_t_table t_table_size q_t_table_corners, aI (G.2 1) q_t_table_corners 49 t_table_corners, oX2 q_t_past q_t_past_tables t_past_free t_past_held, aQ (G.2 5) q_t_past_tables 6 t_past_tables, oX3 q_t_past_tables_e t_past_tables_e_size q_t_past_tables_e_corners, aI (G.2 1) q_t_past_tables_e_corners 49 t_past_tables_e_corners] s.heap.size = A at hD hQ
  have hA : ∀ q : Nat, s.heap.size ≤ q → A q := fun q h => by rw [← hAe]; exact Or.inr h
  have hS : va_S A s.heap s.heap [] := va_S.rf
  have hl := lv_entry ([.ref q_t, .int p1, .int p2]) (n := 3) (Nat.le_of_ble_eq_true rfl)
  rw [lg_entry_eq]
  generalize (lg_sl ([.ref q_t, .int p1, .int p2]) ++ List.replicate (3 - (lg_sl ([.ref q_t, .int p1, .int p2])).length) Slot.unset).toArray = ls at hl ⊢
  have hl : lv_has ls 3 [(0, .ref q_t), (1, .int p1), (2, .int p2)] := hl
  unfold S_X5_flip at hE
  refine lv_aload_n hx hb dX5_flip_0 rfl (lv_at hl 0 rfl) ?_
  refine lv_iload_n hx hb dX5_flip_1 rfl (lv_at hl 1 rfl) ?_
  refine lv_iload_n hx hb dX5_flip_2 rfl (lv_at hl 2 rfl) ?_
  obtain ⟨y3, hC_3, hE⟩ := Option.bind_eq_some_iff.mp hE
  obtain ⟨r_3, ex9⟩ : ∃ z, z = y3 := ⟨_, rfl⟩
  subst ex9
  try dsimp only at hE
  refine vp_callSi (va_Run.run (va_runV (As := [.int p1, .int p2]) (rest := []) ⟨hx, hb, hml, hown, hts⟩ (c_X5_isInner (l := l) (G := G) (p1 := p1) (p2 := p2) (q_t := q_t) (q_t_text := q_t_text) (q_t_table := q_t_table) (q_t_other := q_t_other) (q_t_spare := q_t_spare) (q_t_past := q_t_past) (q_t_lines := q_t_lines) (q_t_sizes := q_t_sizes) (t_table_size := t_table_size) (q_t_table_corners := q_t_table_corners) hC_3) (cwV 2 hts gX5_flip_X5_isInner rfl rfl rfl kd_X5_isInner ⟨Nat.le_of_ble_eq_true rfl, Nat.le_of_ble_eq_true rfl⟩) (pv_V hKW (hP.sub (ws' := [oX5 q_t q_t_text q_t_table q_t_other q_t_spare q_t_past q_t_lines q_t_sizes, oX3 q_t_table t_table_size q_t_table_corners]) [0, 1] rfl) (ci := 5) (q0 := 0) rfl rfl) rfl rfl hl.1 rfl (lv_room (Nat.le_of_ble_eq_true rfl)) dX5_flip_3 ⟨Nat.zero_le _, Nat.zero_le _⟩)) (fun r9 hr9 => ?_)
  subst r9
  refine lv_if_ne (tgt := 11) hx hb dX5_flip_6 (by decide) (fun c_6 => ?_) (fun c_6 => ?_)
  · replace hE := (if_neg c_6).symm.trans hE
    refine lv_aload_n hx hb dX5_flip_11 rfl (lv_at hl 0 rfl) ?_
    refine va_get (D := G.1) (ci := 5) (v := .ref q_t_table) (C := RX5) (T := TX5) (N := 7) hx hb hts iX5 hown hK hP 0 rfl rfl 1 (by decide) fl_19 (fun _ h9 => h9) rfl dX5_flip_12 ?_
    refine lv_iload_n hx hb dX5_flip_15 rfl (lv_at hl 1 rfl) ?_
    refine lv_iload_n hx hb dX5_flip_16 rfl (lv_at hl 2 rfl) ?_
    obtain ⟨y17, hC_17, hE⟩ := Option.bind_eq_some_iff.mp hE
    obtain ⟨r_17, ex9⟩ : ∃ z, z = y17 := ⟨_, rfl⟩
    subst ex9
    try dsimp only at hE
    refine vp_callSi (va_Run.run (va_runV (As := [.int p1, .int p2]) (rest := []) ⟨hx, hb, hml, hown, hts⟩ (c_X3_flipKind (l := l) (G := G) (p1 := p1) (p2 := p2) (q_t := q_t_table) (t_size := t_table_size) (q_t_corners := q_t_table_corners) (t_corners := t_table_corners) hC_17) (cwV 2 hts gX5_flip_X3_flipKind rfl rfl rfl kd_X3_flipKind ⟨Nat.le_of_ble_eq_true rfl, Nat.le_of_ble_eq_true rfl⟩) (pv_V hKW (hP.sub (ws' := [oX3 q_t_table t_table_size q_t_table_corners, aI (G.2 1) q_t_table_corners 49 t_table_corners]) [1, 2] rfl) (ci := 3) (q0 := 0) rfl rfl) rfl rfl hl.1 rfl (lv_room (Nat.le_of_ble_eq_true rfl)) dX5_flip_17 ⟨Nat.zero_le _, Nat.zero_le _⟩)) (fun r9 hr9 => ?_)
    subst r9
    refine lv_if_ne (tgt := 26) hx hb dX5_flip_20 (by decide) (fun c_20 => ?_) (fun c_20 => ?_)
    · replace hE := (if_neg c_20).symm.trans hE
      refine lv_aload_n hx hb dX5_flip_26 rfl (lv_at hl 0 rfl) ?_
      refine va_get (D := G.1) (ci := 5) (v := .ref q_t_past) (C := RX5) (T := TX5) (N := 7) hx hb hts iX5 hown hK hP 0 rfl rfl 4 (by decide) fl_32 (fun _ h9 => h9) rfl dX5_flip_27 ?_
      refine lv_aload_n hx hb dX5_flip_30 rfl (lv_at hl 0 rfl) ?_
      refine va_get (D := G.1) (ci := 5) (v := .ref q_t_table) (C := RX5) (T := TX5) (N := 7) hx hb hts iX5 hown hK hP 0 rfl rfl 1 (by decide) fl_19 (fun _ h9 => h9) rfl dX5_flip_31 ?_
      obtain ⟨y34, hC_34, hE⟩ := Option.bind_eq_some_iff.mp hE
      obtain ⟨m_34_0, m_34_1, m_34_2, m_34_3⟩ := y34
      try dsimp only at hE
      have hPc := hP.sub (ws' := [oX2 q_t_past q_t_past_tables t_past_free t_past_held, aQ (G.2 5) q_t_past_tables 6 t_past_tables, oX3 q_t_past_tables_e t_past_tables_e_size q_t_past_tables_e_corners, aI (G.2 1) q_t_past_tables_e_corners 49 t_past_tables_e_corners, oX3 q_t_table t_table_size q_t_table_corners, aI (G.2 1) q_t_table_corners 49 t_table_corners]) [3, 4, 5, 6, 1, 2] rfl
      have hDc := hD.sub (ws' := [oX2 q_t_past q_t_past_tables t_past_free t_past_held, aQ (G.2 5) q_t_past_tables 6 t_past_tables, oX3 q_t_past_tables_e t_past_tables_e_size q_t_past_tables_e_corners, aI (G.2 1) q_t_past_tables_e_corners 49 t_past_tables_e_corners, oX3 q_t_table t_table_size q_t_table_corners, aI (G.2 1) q_t_table_corners 49 t_table_corners]) [3, 4, 5, 6, 1, 2] (by decide) rfl
      have hFc := va_free (wc := [oX2 q_t_past q_t_past_tables t_past_free t_past_held, aQ (G.2 5) q_t_past_tables 6 t_past_tables, oX3 q_t_past_tables_e t_past_tables_e_size q_t_past_tables_e_corners, aI (G.2 1) q_t_past_tables_e_corners 49 t_past_tables_e_corners, oX3 q_t_table t_table_size q_t_table_corners, aI (G.2 1) q_t_table_corners 49 t_table_corners]) hD hS hA [3, 4, 5, 6, 1, 2] rfl
      refine va_callv (va_runV (As := [.ref q_t_table]) (rest := []) ⟨hx, hb, hml, hown, hts⟩ (c_X2_remember (l := l) (G := G) _ (q_t := q_t_past) (q_t_tables := q_t_past_tables) (t_free := t_past_free) (t_held := t_past_held) (t_tables := t_past_tables) (q_t_tables_e := q_t_past_tables_e) (t_tables_e_size := t_past_tables_e_size) (q_t_tables_e_corners := q_t_past_tables_e_corners) (t_tables_e_corners := t_past_tables_e_corners) (q_p1 := q_t_table) (p1_size := t_table_size) (q_p1_corners := q_t_table_corners) (p1_corners := t_table_corners) he_0 hC_34) (cwV 1 hts gX5_flip_X2_remember rfl rfl rfl kd_X2_remember ⟨Nat.le_of_ble_eq_true rfl, Nat.le_of_ble_eq_true rfl⟩) (iv_V hKW hPc hDc (ci := 2) (q0 := 0) rfl rfl) rfl rfl hl.1 rfl (lv_room (Nat.le_of_ble_eq_true rfl)) dX5_flip_34 ⟨Nat.zero_le _, Nat.zero_le _⟩) hS (fun q _ h => hFc q h) hFc (fun u9 t9 H1 locs ht9 hvm9 hw9 hB9 hz9 hk9 hS => ?_)
      obtain ⟨hP1, hD1⟩ := hB9
      rw [ht9] at hP1
      obtain ⟨hP, hD⟩ := va_join (wr := [oX5 q_t q_t_text q_t_table q_t_other q_t_spare q_t_past q_t_lines q_t_sizes]) (w1 := [oX2 q_t_past q_t_past_tables m_34_0 m_34_1, aQ (G.2 5) q_t_past_tables 6 t_past_tables, oX3 q_t_past_tables_e m_34_2 q_t_past_tables_e_corners, aI (G.2 1) q_t_past_tables_e_corners 49 m_34_3, oX3 q_t_table t_table_size q_t_table_corners, aI (G.2 1) q_t_table_corners 49 t_table_corners]) hP hD [3, 4, 5, 6, 1, 2] [0] rfl rfl (by decide) (by decide) hk9 hFc hP1 hD1
      have hP := hP.sub (ws' := [oX5 q_t q_t_text q_t_table q_t_other q_t_spare q_t_past q_t_lines q_t_sizes, oX3 q_t_table t_table_size q_t_table_corners, aI (G.2 1) q_t_table_corners 49 t_table_corners, oX2 q_t_past q_t_past_tables m_34_0 m_34_1, aQ (G.2 5) q_t_past_tables 6 t_past_tables, oX3 q_t_past_tables_e m_34_2 q_t_past_tables_e_corners, aI (G.2 1) q_t_past_tables_e_corners 49 m_34_3]) [0, 5, 6, 1, 2, 3, 4] rfl
      have hD := hD.sub (ws' := [oX5 q_t q_t_text q_t_table q_t_other q_t_spare q_t_past q_t_lines q_t_sizes, oX3 q_t_table t_table_size q_t_table_corners, aI (G.2 1) q_t_table_corners 49 t_table_corners, oX2 q_t_past q_t_past_tables m_34_0 m_34_1, aQ (G.2 5) q_t_past_tables 6 t_past_tables, oX3 q_t_past_tables_e m_34_2 q_t_past_tables_e_corners, aI (G.2 1) q_t_past_tables_e_corners 49 m_34_3]) [0, 5, 6, 1, 2, 3, 4] (by decide) rfl
      clear hPc hDc hFc hP1 hD1 hk9 hz9 hvm9
      refine lv_aload_n hx hb dX5_flip_37 rfl (lv_at hl 0 rfl) ?_
      refine va_get (D := G.1) (ci := 5) (v := .ref q_t_table) (C := RX5) (T := TX5) (N := 7) hx hb hts iX5 hown hK hP 0 rfl rfl 1 (by decide) fl_19 (fun _ h9 => h9) rfl dX5_flip_38 ?_
      refine lv_iload_n hx hb dX5_flip_41 rfl (lv_at hl 1 rfl) ?_
      refine lv_iload_n hx hb dX5_flip_42 rfl (lv_at hl 2 rfl) ?_
      obtain ⟨y43, hC_43, hE⟩ := Option.bind_eq_some_iff.mp hE
      obtain ⟨m_43_0, ex9⟩ : ∃ z, z = y43 := ⟨_, rfl⟩
      subst ex9
      try dsimp only at hE
      have hPc := hP.sub (ws' := [oX3 q_t_table t_table_size q_t_table_corners, aI (G.2 1) q_t_table_corners 49 t_table_corners]) [1, 2] rfl
      have hDc := hD.sub (ws' := [oX3 q_t_table t_table_size q_t_table_corners, aI (G.2 1) q_t_table_corners 49 t_table_corners]) [1, 2] (by decide) rfl
      have hFc := va_free (wc := [oX3 q_t_table t_table_size q_t_table_corners, aI (G.2 1) q_t_table_corners 49 t_table_corners]) hD hS hA [1, 2] rfl
      refine va_callv (va_runV (As := [.int p1, .int p2]) (rest := []) ⟨hx, hb, hml, hown, hts⟩ (c_X3_flipAt (l := l) (G := G) _ (p1 := p1) (p2 := p2) (q_t := q_t_table) (t_size := t_table_size) (q_t_corners := q_t_table_corners) (t_corners := t_table_corners) hC_43) (cwV 2 hts gX5_flip_X3_flipAt rfl rfl rfl kd_X3_flipAt ⟨Nat.le_of_ble_eq_true rfl, Nat.le_of_ble_eq_true rfl⟩) (iv_V hKW hPc hDc (ci := 3) (q0 := 0) rfl rfl) rfl rfl hl.1 rfl (lv_room (Nat.le_of_ble_eq_true rfl)) dX5_flip_43 ⟨Nat.zero_le _, Nat.zero_le _⟩) hS (fun q _ h => hFc q h) hFc (fun u9 t9 H1 locs ht9 hvm9 hw9 hB9 hz9 hk9 hS => ?_)
      obtain ⟨hP1, hD1⟩ := hB9
      rw [ht9] at hP1
      obtain ⟨hP, hD⟩ := va_join (wr := [oX5 q_t q_t_text q_t_table q_t_other q_t_spare q_t_past q_t_lines q_t_sizes, oX2 q_t_past q_t_past_tables m_34_0 m_34_1, aQ (G.2 5) q_t_past_tables 6 t_past_tables, oX3 q_t_past_tables_e m_34_2 q_t_past_tables_e_corners, aI (G.2 1) q_t_past_tables_e_corners 49 m_34_3]) (w1 := [oX3 q_t_table t_table_size q_t_table_corners, aI (G.2 1) q_t_table_corners 49 m_43_0]) hP hD [1, 2] [0, 3, 4, 5, 6] rfl rfl (by decide) (by decide) hk9 hFc hP1 hD1
      have hP := hP.sub (ws' := [oX5 q_t q_t_text q_t_table q_t_other q_t_spare q_t_past q_t_lines q_t_sizes, oX3 q_t_table t_table_size q_t_table_corners, aI (G.2 1) q_t_table_corners 49 m_43_0, oX2 q_t_past q_t_past_tables m_34_0 m_34_1, aQ (G.2 5) q_t_past_tables 6 t_past_tables, oX3 q_t_past_tables_e m_34_2 q_t_past_tables_e_corners, aI (G.2 1) q_t_past_tables_e_corners 49 m_34_3]) [0, 5, 6, 1, 2, 3, 4] rfl
      have hD := hD.sub (ws' := [oX5 q_t q_t_text q_t_table q_t_other q_t_spare q_t_past q_t_lines q_t_sizes, oX3 q_t_table t_table_size q_t_table_corners, aI (G.2 1) q_t_table_corners 49 m_43_0, oX2 q_t_past q_t_past_tables m_34_0 m_34_1, aQ (G.2 5) q_t_past_tables 6 t_past_tables, oX3 q_t_past_tables_e m_34_2 q_t_past_tables_e_corners, aI (G.2 1) q_t_past_tables_e_corners 49 m_34_3]) [0, 5, 6, 1, 2, 3, 4] (by decide) rfl
      clear hPc hDc hFc hP1 hD1 hk9 hz9 hvm9
      refine lv_aload_n hx hb dX5_flip_46 rfl (lv_at hl 0 rfl) ?_
      refine va_get (D := G.1) (ci := 5) (v := .ref q_t_table) (C := RX5) (T := TX5) (N := 7) hx hb hts iX5 hown hK hP 0 rfl rfl 1 (by decide) fl_19 (fun _ h9 => h9) rfl dX5_flip_47 ?_
      refine lv_iload_n hx hb dX5_flip_50 rfl (lv_at hl 1 rfl) ?_
      refine lv_iload_n hx hb dX5_flip_51 rfl (lv_at hl 2 rfl) ?_
      obtain ⟨y52, hC_52, hE⟩ := Option.bind_eq_some_iff.mp hE
      obtain ⟨r_52, ex9⟩ : ∃ z, z = y52 := ⟨_, rfl⟩
      subst ex9
      try dsimp only at hE
      refine vp_callSi (va_Run.run (va_runV (As := [.int p1, .int p2]) (rest := []) ⟨hx, hb, hml, hown, hts⟩ (c_X3_heightAt (l := l) (G := G) (p1 := p1) (p2 := p2) (q_t := q_t_table) (t_size := t_table_size) (q_t_corners := q_t_table_corners) (t_corners := m_43_0) hC_52) (cwV 2 hts gX5_flip_X3_heightAt rfl rfl rfl kd_X3_heightAt ⟨Nat.le_of_ble_eq_true rfl, Nat.le_of_ble_eq_true rfl⟩) (pv_V hKW (hP.sub (ws' := [oX3 q_t_table t_table_size q_t_table_corners, aI (G.2 1) q_t_table_corners 49 m_43_0]) [1, 2] rfl) (ci := 3) (q0 := 0) rfl rfl) rfl rfl hl.1 rfl (lv_room (Nat.le_of_ble_eq_true rfl)) dX5_flip_52 ⟨Nat.zero_le _, Nat.zero_le _⟩)) (fun r9 hr9 => ?_)
      subst r9
      have e_0 := Option.some.inj hE
      subst e_0
      rw [hQ]
      exact W.iret (v := r_52) hx hb hr (fun t ht _ => ⟨⟨_, (), rfl, rfl, by rw [ht]; exact hP, hD⟩, hS.F ht⟩) hS.2.2 dX5_flip_55
    · replace hE := (if_pos c_20).symm.trans hE
      refine lv_bipush (v := -2) hx hb dX5_flip_23 (by decide) ?_
      have e_0 := Option.some.inj hE
      subst e_0
      rw [hQ]
      exact W.iret (v := (-2 : Int32)) hx hb hr (fun t ht _ => ⟨⟨_, (), rfl, rfl, by rw [ht]; exact hP, hD⟩, hS.F ht⟩) hS.2.2 dX5_flip_25
  · replace hE := (if_pos c_6).symm.trans hE
    refine lv_iconst (v := -1) hx hb dX5_flip_9 (by decide) ?_
    have e_0 := Option.some.inj hE
    subst e_0
    rw [hQ]
    exact W.iret (v := (-1 : Int32)) hx hb hr (fun t ht _ => ⟨⟨_, (), rfl, rfl, by rw [ht]; exact hP, hD⟩, hS.F ht⟩) hS.2.2 dX5_flip_10
def S_X5_gyrate (p1 : Int32) (t_table_size : Int32) (t_table_corners : Nat → Int32) (t_past_free : Int32) (t_past_held : Int32) (t_past_tables_e_size : Int32) (t_past_tables_e_corners : Nat → Int32) : Option (Int32 × (Nat → Int32) × Int32 × Int32 × Int32 × (Nat → Int32)) := (S_X5_isBetween p1 (1 : Int32) (100 : Int32)).bind (fun (y4 : Int32) => if y4 = 0 then some ((-1 : Int32), t_table_corners, t_past_free, t_past_held, t_past_tables_e_size, t_past_tables_e_corners) else (S_X2_remember t_past_free t_past_held t_past_tables_e_corners t_table_size t_table_corners).bind (fun (y20 : Int32 × Int32 × Int32 × (Nat → Int32)) => itr (fun (x1 : Int32 × Int32 × (Nat → Int32)) => if p1 ≤ x1.2.1 then some (.inr (x1.1, x1.2.2, y20.1, y20.2.1, y20.2.2.1, y20.2.2.2)) else (S_X3_gyrateOnce t_table_size x1.2.2).bind (fun (y37 : Int32 × (Nat → Int32)) => some (.inl (x1.1 + y37.1, x1.2.1 + (1 : Int32), y37.2)))) 10000 ((0 : Int32), (0 : Int32), t_table_corners)))
theorem kd_X5_gyrate : yX5_gyrate.cls = RX5 ∧ yX5_gyrate.cls ≠ "java/lang/invoke/MethodHandle" ∧ yX5_gyrate.cls ≠ "java/lang/invoke/VarHandle" ∧ (parseMethodDescriptor yX5_gyrate.desc).map (fun d => d.parameters.length) = some 1 := by decide +kernel
set_option maxHeartbeats 4000000 in
set_option maxRecDepth 100000 in
theorem c_X5_gyrate {l : Launch} {G : kG} (sz : Nat) {p1 : Int32} {q_t : Nat} {q_t_text : Nat} {q_t_table : Nat} {q_t_other : Nat} {q_t_spare : Nat} {q_t_past : Nat} {q_t_lines : Nat} {q_t_sizes : Nat} {t_table_size : Int32} {q_t_table_corners : Nat} {t_table_corners : Nat → Int32} {q_t_past_tables : Nat} {t_past_free : Int32} {t_past_held : Int32} {t_past_tables : Nat → Option Nat} {q_t_past_tables_e : Nat} {t_past_tables_e_size : Int32} {q_t_past_tables_e_corners : Nat} {t_past_tables_e_corners : Nat → Int32} {res : Int32 × (Nat → Int32) × Int32 × Int32 × Int32 × (Nat → Int32)} (he_0 : inb t_past_free 6 = true → t_past_tables t_past_free.toNatClampNeg = some q_t_past_tables_e) (hE : S_X5_gyrate p1 t_table_size t_table_corners t_past_free t_past_held t_past_tables_e_size t_past_tables_e_corners = some res) : Met l yX5_gyrate wsX5_gyrate ({ frames := 6, cells := 0, slots := 0, locals := 134 }) (va_Pc [.ref q_t, .int p1] (fun U => U.heap.size = sz ∧ va_P G.1 vwCl [oX5 q_t q_t_text q_t_table q_t_other q_t_spare q_t_past q_t_lines q_t_sizes, oX3 q_t_table t_table_size q_t_table_corners, aI (G.2 1) q_t_table_corners 49 t_table_corners, oX2 q_t_past q_t_past_tables t_past_free t_past_held, aQ (G.2 5) q_t_past_tables 6 t_past_tables, oX3 q_t_past_tables_e t_past_tables_e_size q_t_past_tables_e_corners, aI (G.2 1) q_t_past_tables_e_corners 49 t_past_tables_e_corners] U.heap ∧ kw G U ∧ va_D (fun _ => True) [oX5 q_t q_t_text q_t_table q_t_other q_t_spare q_t_past q_t_lines q_t_sizes, oX3 q_t_table t_table_size q_t_table_corners, aI (G.2 1) q_t_table_corners 49 t_table_corners, oX2 q_t_past q_t_past_tables t_past_free t_past_held, aQ (G.2 5) q_t_past_tables 6 t_past_tables, oX3 q_t_past_tables_e t_past_tables_e_size q_t_past_tables_e_corners, aI (G.2 1) q_t_past_tables_e_corners 49 t_past_tables_e_corners])) (va_Qi (fun r (_ : Unit) => r = res.1) (fun _ t => va_P G.1 vwCl [oX5 q_t q_t_text q_t_table q_t_other q_t_spare q_t_past q_t_lines q_t_sizes, oX3 q_t_table t_table_size q_t_table_corners, aI (G.2 1) q_t_table_corners 49 res.2.1, oX2 q_t_past q_t_past_tables res.2.2.1 res.2.2.2.1, aQ (G.2 5) q_t_past_tables 6 t_past_tables, oX3 q_t_past_tables_e res.2.2.2.2.1 q_t_past_tables_e_corners, aI (G.2 1) q_t_past_tables_e_corners 49 res.2.2.2.2.2] t.heap ∧ va_D (va_A [oX5 q_t q_t_text q_t_table q_t_other q_t_spare q_t_past q_t_lines q_t_sizes, oX3 q_t_table t_table_size q_t_table_corners, aI (G.2 1) q_t_table_corners 49 t_table_corners, oX2 q_t_past q_t_past_tables t_past_free t_past_held, aQ (G.2 5) q_t_past_tables 6 t_past_tables, oX3 q_t_past_tables_e t_past_tables_e_size q_t_past_tables_e_corners, aI (G.2 1) q_t_past_tables_e_corners 49 t_past_tables_e_corners] sz) [oX5 q_t q_t_text q_t_table q_t_other q_t_spare q_t_past q_t_lines q_t_sizes, oX3 q_t_table t_table_size q_t_table_corners, aI (G.2 1) q_t_table_corners 49 res.2.1, oX2 q_t_past q_t_past_tables res.2.2.1 res.2.2.2.1, aQ (G.2 5) q_t_past_tables 6 t_past_tables, oX3 q_t_past_tables_e res.2.2.2.2.1 q_t_past_tables_e_corners, aI (G.2 1) q_t_past_tables_e_corners 49 res.2.2.2.2.2]) (va_A [oX5 q_t q_t_text q_t_table q_t_other q_t_spare q_t_past q_t_lines q_t_sizes, oX3 q_t_table t_table_size q_t_table_corners, aI (G.2 1) q_t_table_corners 49 t_table_corners, oX2 q_t_past q_t_past_tables t_past_free t_past_held, aQ (G.2 5) q_t_past_tables 6 t_past_tables, oX3 q_t_past_tables_e t_past_tables_e_size q_t_past_tables_e_corners, aI (G.2 1) q_t_past_tables_e_corners 49 t_past_tables_e_corners] sz)) 0 0 (va_A [oX5 q_t q_t_text q_t_table q_t_other q_t_spare q_t_past q_t_lines q_t_sizes, oX3 q_t_table t_table_size q_t_table_corners, aI (G.2 1) q_t_table_corners 49 t_table_corners, oX2 q_t_past q_t_past_tables t_past_free t_past_held, aQ (G.2 5) q_t_past_tables 6 t_past_tables, oX3 q_t_past_tables_e t_past_tables_e_size q_t_past_tables_e_corners, aI (G.2 1) q_t_past_tables_e_corners 49 t_past_tables_e_corners] sz) := by
  refine Met.ofQ (cc := cX5_gyrate) (maxL := 4) (ret := (some .int)) (by decide) rfl ?_
  intro p e s m args below meth c s₁ Q hQ B hml hv
  obtain ⟨rfl, hsz, hP, hKW, hD0⟩ := hv
  have hK := hKW.1
  have hx := B.exec
  have hb := B.bytes
  have hr := B.returns
  have hts := atoms_spec (ws := wsX5_gyrate) B.pre
  have hown : s.vm.findClass RX5 = some m.cls := findClass_of_methodNamed B.named
  have hlocks := B.notSynchronized
  have iX5 : ∀ w ∈ u_ws RX5 TX5 7, w ∈ wsX5_gyrate := by decide +kernel
  have fl_32 := hts (.fieldLink RX5 32 "AlternateSigns" "past" "LAlternateSigns$Past;") (by decide +kernel)
  have fl_19 := hts (.fieldLink RX5 19 "AlternateSigns" "table" "LAlternateSigns$Table;") (by decide +kernel)
  subst hsz
  have hD := hD0.self (sz := s.heap.size)
  generalize hAe : va_A [oX5 q_t q_t_text q_t_table q_t_other q_t_spare q_t_past q_t_lines q_t_sizes, oX3 q_t_table t_table_size q_t_table_corners, aI (G.2 1) q_t_table_corners 49 t_table_corners, oX2 q_t_past q_t_past_tables t_past_free t_past_held, aQ (G.2 5) q_t_past_tables 6 t_past_tables, oX3 q_t_past_tables_e t_past_tables_e_size q_t_past_tables_e_corners, aI (G.2 1) q_t_past_tables_e_corners 49 t_past_tables_e_corners] s.heap.size = A at hD hQ
  have hA : ∀ q : Nat, s.heap.size ≤ q → A q := fun q h => by rw [← hAe]; exact Or.inr h
  have hS : va_S A s.heap s.heap [] := va_S.rf
  have hl := lv_entry ([.ref q_t, .int p1]) (n := 4) (Nat.le_of_ble_eq_true rfl)
  rw [lg_entry_eq]
  generalize (lg_sl ([.ref q_t, .int p1]) ++ List.replicate (4 - (lg_sl ([.ref q_t, .int p1])).length) Slot.unset).toArray = ls at hl ⊢
  have hl : lv_has ls 4 [(0, .ref q_t), (1, .int p1)] := hl
  unfold S_X5_gyrate at hE
  refine lv_iload_n hx hb dX5_gyrate_0 rfl (lv_at hl 1 rfl) ?_
  refine lv_iconst (v := 1) hx hb dX5_gyrate_1 (by decide) ?_
  refine lv_bipush (v := 100) hx hb dX5_gyrate_2 (by decide) ?_
  obtain ⟨y4, hC_4, hE⟩ := Option.bind_eq_some_iff.mp hE
  obtain ⟨r_4, ex9⟩ : ∃ z, z = y4 := ⟨_, rfl⟩
  subst ex9
  try dsimp only at hE
  refine vp_callSi (va_Run.run (va_runS (As := [.int p1, .int (1 : Int32), .int (100 : Int32)]) (rest := []) ⟨hx, hb, hml, hown, hts⟩ (c_X5_isBetween (l := l) (G := G) (p1 := p1) (p2 := (1 : Int32)) (p3 := (100 : Int32)) hC_4) (va_cwS 3 hts gX5_gyrate_X5_isBetween rfl rfl rfl kd_X5_isBetween ⟨Nat.le_of_ble_eq_true rfl, Nat.le_of_ble_eq_true rfl⟩) (pv_S hKW (hP.sub (ws' := []) [] rfl)) rfl rfl hl.1 rfl (lv_room (Nat.le_of_ble_eq_true rfl)) dX5_gyrate_4 ⟨Nat.zero_le _, Nat.zero_le _⟩)) (fun r9 hr9 => ?_)
  subst r9
  refine lv_if_ne (tgt := 12) hx hb dX5_gyrate_7 (by decide) (fun c_7 => ?_) (fun c_7 => ?_)
  · replace hE := (if_neg c_7).symm.trans hE
    refine lv_aload_n hx hb dX5_gyrate_12 rfl (lv_at hl 0 rfl) ?_
    refine va_get (D := G.1) (ci := 5) (v := .ref q_t_past) (C := RX5) (T := TX5) (N := 7) hx hb hts iX5 hown hK hP 0 rfl rfl 4 (by decide) fl_32 (fun _ h9 => h9) rfl dX5_gyrate_13 ?_
    refine lv_aload_n hx hb dX5_gyrate_16 rfl (lv_at hl 0 rfl) ?_
    refine va_get (D := G.1) (ci := 5) (v := .ref q_t_table) (C := RX5) (T := TX5) (N := 7) hx hb hts iX5 hown hK hP 0 rfl rfl 1 (by decide) fl_19 (fun _ h9 => h9) rfl dX5_gyrate_17 ?_
    obtain ⟨y20, hC_20, hE⟩ := Option.bind_eq_some_iff.mp hE
    obtain ⟨m_20_0, m_20_1, m_20_2, m_20_3⟩ := y20
    try dsimp only at hE
    have hPc := hP.sub (ws' := [oX2 q_t_past q_t_past_tables t_past_free t_past_held, aQ (G.2 5) q_t_past_tables 6 t_past_tables, oX3 q_t_past_tables_e t_past_tables_e_size q_t_past_tables_e_corners, aI (G.2 1) q_t_past_tables_e_corners 49 t_past_tables_e_corners, oX3 q_t_table t_table_size q_t_table_corners, aI (G.2 1) q_t_table_corners 49 t_table_corners]) [3, 4, 5, 6, 1, 2] rfl
    have hDc := hD.sub (ws' := [oX2 q_t_past q_t_past_tables t_past_free t_past_held, aQ (G.2 5) q_t_past_tables 6 t_past_tables, oX3 q_t_past_tables_e t_past_tables_e_size q_t_past_tables_e_corners, aI (G.2 1) q_t_past_tables_e_corners 49 t_past_tables_e_corners, oX3 q_t_table t_table_size q_t_table_corners, aI (G.2 1) q_t_table_corners 49 t_table_corners]) [3, 4, 5, 6, 1, 2] (by decide) rfl
    have hFc := va_free (wc := [oX2 q_t_past q_t_past_tables t_past_free t_past_held, aQ (G.2 5) q_t_past_tables 6 t_past_tables, oX3 q_t_past_tables_e t_past_tables_e_size q_t_past_tables_e_corners, aI (G.2 1) q_t_past_tables_e_corners 49 t_past_tables_e_corners, oX3 q_t_table t_table_size q_t_table_corners, aI (G.2 1) q_t_table_corners 49 t_table_corners]) hD hS hA [3, 4, 5, 6, 1, 2] rfl
    refine va_callv (va_runV (As := [.ref q_t_table]) (rest := []) ⟨hx, hb, hml, hown, hts⟩ (c_X2_remember (l := l) (G := G) _ (q_t := q_t_past) (q_t_tables := q_t_past_tables) (t_free := t_past_free) (t_held := t_past_held) (t_tables := t_past_tables) (q_t_tables_e := q_t_past_tables_e) (t_tables_e_size := t_past_tables_e_size) (q_t_tables_e_corners := q_t_past_tables_e_corners) (t_tables_e_corners := t_past_tables_e_corners) (q_p1 := q_t_table) (p1_size := t_table_size) (q_p1_corners := q_t_table_corners) (p1_corners := t_table_corners) he_0 hC_20) (cwV 1 hts gX5_gyrate_X2_remember rfl rfl rfl kd_X2_remember ⟨Nat.le_of_ble_eq_true rfl, Nat.le_of_ble_eq_true rfl⟩) (iv_V hKW hPc hDc (ci := 2) (q0 := 0) rfl rfl) rfl rfl hl.1 rfl (lv_room (Nat.le_of_ble_eq_true rfl)) dX5_gyrate_20 ⟨Nat.zero_le _, Nat.zero_le _⟩) hS (fun q _ h => hFc q h) hFc (fun u9 t9 H1 locs ht9 hvm9 hw9 hB9 hz9 hk9 hS => ?_)
    obtain ⟨hP1, hD1⟩ := hB9
    rw [ht9] at hP1
    obtain ⟨hP, hD⟩ := va_join (wr := [oX5 q_t q_t_text q_t_table q_t_other q_t_spare q_t_past q_t_lines q_t_sizes]) (w1 := [oX2 q_t_past q_t_past_tables m_20_0 m_20_1, aQ (G.2 5) q_t_past_tables 6 t_past_tables, oX3 q_t_past_tables_e m_20_2 q_t_past_tables_e_corners, aI (G.2 1) q_t_past_tables_e_corners 49 m_20_3, oX3 q_t_table t_table_size q_t_table_corners, aI (G.2 1) q_t_table_corners 49 t_table_corners]) hP hD [3, 4, 5, 6, 1, 2] [0] rfl rfl (by decide) (by decide) hk9 hFc hP1 hD1
    have hP := hP.sub (ws' := [oX5 q_t q_t_text q_t_table q_t_other q_t_spare q_t_past q_t_lines q_t_sizes, oX3 q_t_table t_table_size q_t_table_corners, aI (G.2 1) q_t_table_corners 49 t_table_corners, oX2 q_t_past q_t_past_tables m_20_0 m_20_1, aQ (G.2 5) q_t_past_tables 6 t_past_tables, oX3 q_t_past_tables_e m_20_2 q_t_past_tables_e_corners, aI (G.2 1) q_t_past_tables_e_corners 49 m_20_3]) [0, 5, 6, 1, 2, 3, 4] rfl
    have hD := hD.sub (ws' := [oX5 q_t q_t_text q_t_table q_t_other q_t_spare q_t_past q_t_lines q_t_sizes, oX3 q_t_table t_table_size q_t_table_corners, aI (G.2 1) q_t_table_corners 49 t_table_corners, oX2 q_t_past q_t_past_tables m_20_0 m_20_1, aQ (G.2 5) q_t_past_tables 6 t_past_tables, oX3 q_t_past_tables_e m_20_2 q_t_past_tables_e_corners, aI (G.2 1) q_t_past_tables_e_corners 49 m_20_3]) [0, 5, 6, 1, 2, 3, 4] (by decide) rfl
    clear hPc hDc hFc hP1 hD1 hk9 hz9 hvm9
    refine lv_iconst (v := 0) hx hb dX5_gyrate_23 (by decide) ?_
    refine lv_istore_n (lv' := [(2, .int (0 : Int32)), (0, .ref q_t), (1, .int p1)]) hx hb dX5_gyrate_24 rfl hl (by decide) rfl (fun ls hl => ?_)
    refine lv_iconst (v := 0) hx hb dX5_gyrate_25 (by decide) ?_
    refine lv_istore_n (lv' := [(3, .int (0 : Int32)), (2, .int (0 : Int32)), (0, .ref q_t), (1, .int p1)]) hx hb dX5_gyrate_26 rfl hl (by decide) rfl (fun ls hl => ?_)
    refine itr_ind (fun (x1 : Int32 × Int32 × (Nat → Int32)) => ∀ (H : Heap) (locs : List Loc) (ls : Array Slot), va_P G.1 vwCl [oX5 q_t q_t_text q_t_table q_t_other q_t_spare q_t_past q_t_lines q_t_sizes, oX3 q_t_table t_table_size q_t_table_corners, aI (G.2 1) q_t_table_corners 49 x1.2.2, oX2 q_t_past q_t_past_tables m_20_0 m_20_1, aQ (G.2 5) q_t_past_tables 6 t_past_tables, oX3 q_t_past_tables_e m_20_2 q_t_past_tables_e_corners, aI (G.2 1) q_t_past_tables_e_corners 49 m_20_3] H → va_D A [oX5 q_t q_t_text q_t_table q_t_other q_t_spare q_t_past q_t_lines q_t_sizes, oX3 q_t_table t_table_size q_t_table_corners, aI (G.2 1) q_t_table_corners 49 x1.2.2, oX2 q_t_past q_t_past_tables m_20_0 m_20_1, aQ (G.2 5) q_t_past_tables 6 t_past_tables, oX3 q_t_past_tables_e m_20_2 q_t_past_tables_e_corners, aI (G.2 1) q_t_past_tables_e_corners 49 m_20_3] → va_S A s.heap H locs → lv_has ls 4 [(0, .ref q_t), (1, .int p1), (2, .int x1.1), (3, .int x1.2.1)] → W p l e (headSpec wsX5_gyrate ({ frames := 6, cells := 0, slots := 0, locals := 134 })).room s m ([.ref q_t, .int p1] : List Value).toArray below meth c H locs 0 0 Q (F0 m 27 ls [])) (fun x1 o_1 hE ih_1 hr_1 => ?_) _ _ hE _ _ ls hP hD hS (lv_sub hl [2, 3, 1, 0] rfl)
    obtain ⟨v2_1, v3_1, w_t_table_corners_1⟩ := x1
    try dsimp only at hE
    intro H locs ls hP hD hS hl
    try dsimp only at hP hD hl ⊢
    refine lv_iload_n hx hb dX5_gyrate_27 rfl (lv_at hl 3 rfl) ?_
    refine lv_iload_n hx hb dX5_gyrate_28 rfl (lv_at hl 1 rfl) ?_
    refine lv_icmp_ge (tgt := 48) hx hb dX5_gyrate_29 (by decide) (fun c_29 => ?_) (fun c_29 => ?_)
    · replace hE := (if_pos c_29).symm.trans hE
      refine lv_iload_n hx hb dX5_gyrate_48 rfl (lv_at hl 2 rfl) ?_
      have e_1 := Option.some.inj hE
      have e_0 := hr_1 _ e_1.symm
      subst e_0
      rw [hQ]
      exact W.iret (v := v2_1) hx hb hr (fun t ht _ => ⟨⟨_, (), rfl, rfl, by rw [ht]; exact hP, hD⟩, hS.F ht⟩) hS.2.2 dX5_gyrate_49
    · replace hE := (if_neg c_29).symm.trans hE
      refine lv_iload_n hx hb dX5_gyrate_32 rfl (lv_at hl 2 rfl) ?_
      refine lv_aload_n hx hb dX5_gyrate_33 rfl (lv_at hl 0 rfl) ?_
      refine va_get (D := G.1) (ci := 5) (v := .ref q_t_table) (C := RX5) (T := TX5) (N := 7) hx hb hts iX5 hown hK hP 0 rfl rfl 1 (by decide) fl_19 (fun _ h9 => h9) rfl dX5_gyrate_34 ?_
      obtain ⟨y37, hC_37, hE⟩ := Option.bind_eq_some_iff.mp hE
      obtain ⟨r_37, m_37_0⟩ := y37
      try dsimp only at hE
      have hPc := hP.sub (ws' := [oX3 q_t_table t_table_size q_t_table_corners, aI (G.2 1) q_t_table_corners 49 w_t_table_corners_1]) [1, 2] rfl
      have hDc := hD.sub (ws' := [oX3 q_t_table t_table_size q_t_table_corners, aI (G.2 1) q_t_table_corners 49 w_t_table_corners_1]) [1, 2] (by decide) rfl
      have hFc := va_free (wc := [oX3 q_t_table t_table_size q_t_table_corners, aI (G.2 1) q_t_table_corners 49 w_t_table_corners_1]) hD hS hA [1, 2] rfl
      refine va_calli (va_runV (As := []) (rest := [.int v2_1]) ⟨hx, hb, hml, hown, hts⟩ (c_X3_gyrateOnce (l := l) (G := G) _ (q_t := q_t_table) (t_size := t_table_size) (q_t_corners := q_t_table_corners) (t_corners := w_t_table_corners_1) hC_37) (cwV 0 hts gX5_gyrate_X3_gyrateOnce rfl rfl rfl kd_X3_gyrateOnce ⟨Nat.le_of_ble_eq_true rfl, Nat.le_of_ble_eq_true rfl⟩) (iv_V hKW hPc hDc (ci := 3) (q0 := 0) rfl rfl) rfl rfl hl.1 rfl (lv_room (Nat.le_of_ble_eq_true rfl)) dX5_gyrate_37 ⟨Nat.zero_le _, Nat.zero_le _⟩) hS (fun q _ h => hFc q h) hFc (fun r9 u9 t9 H1 locs ht9 hvm9 hw9 hB9 hz9 hk9 hS => ?_)
      subst r9
      obtain ⟨hP1, hD1⟩ := hB9
      rw [ht9] at hP1
      obtain ⟨hP, hD⟩ := va_join (wr := [oX5 q_t q_t_text q_t_table q_t_other q_t_spare q_t_past q_t_lines q_t_sizes, oX2 q_t_past q_t_past_tables m_20_0 m_20_1, aQ (G.2 5) q_t_past_tables 6 t_past_tables, oX3 q_t_past_tables_e m_20_2 q_t_past_tables_e_corners, aI (G.2 1) q_t_past_tables_e_corners 49 m_20_3]) (w1 := [oX3 q_t_table t_table_size q_t_table_corners, aI (G.2 1) q_t_table_corners 49 m_37_0]) hP hD [1, 2] [0, 3, 4, 5, 6] rfl rfl (by decide) (by decide) hk9 hFc hP1 hD1
      have hP := hP.sub (ws' := [oX5 q_t q_t_text q_t_table q_t_other q_t_spare q_t_past q_t_lines q_t_sizes, oX3 q_t_table t_table_size q_t_table_corners, aI (G.2 1) q_t_table_corners 49 m_37_0, oX2 q_t_past q_t_past_tables m_20_0 m_20_1, aQ (G.2 5) q_t_past_tables 6 t_past_tables, oX3 q_t_past_tables_e m_20_2 q_t_past_tables_e_corners, aI (G.2 1) q_t_past_tables_e_corners 49 m_20_3]) [0, 5, 6, 1, 2, 3, 4] rfl
      have hD := hD.sub (ws' := [oX5 q_t q_t_text q_t_table q_t_other q_t_spare q_t_past q_t_lines q_t_sizes, oX3 q_t_table t_table_size q_t_table_corners, aI (G.2 1) q_t_table_corners 49 m_37_0, oX2 q_t_past q_t_past_tables m_20_0 m_20_1, aQ (G.2 5) q_t_past_tables 6 t_past_tables, oX3 q_t_past_tables_e m_20_2 q_t_past_tables_e_corners, aI (G.2 1) q_t_past_tables_e_corners 49 m_20_3]) [0, 5, 6, 1, 2, 3, 4] (by decide) rfl
      clear hPc hDc hFc hP1 hD1 hk9 hz9 hvm9
      refine lv_iadd hx hb dX5_gyrate_40 ?_
      refine lv_istore_n (lv' := [(2, .int (v2_1 + r_37)), (0, .ref q_t), (1, .int p1), (3, .int v3_1)]) hx hb dX5_gyrate_41 rfl hl (by decide) rfl (fun ls hl => ?_)
      refine lv_iinc (v := v3_1 + (1 : Int32)) (lv' := [(3, .int (v3_1 + (1 : Int32))), (2, .int (v2_1 + r_37)), (0, .ref q_t), (1, .int p1)]) hx hb dX5_gyrate_42 hl (k := 3) rfl rfl (by decide) rfl (fun ls hl => ?_)
      refine lv_goto (tgt := 27) hx hb dX5_gyrate_45 (by decide) ?_
      have e_1 := Option.some.inj hE
      exact ih_1 _ e_1.symm _ _ ls hP hD hS (lv_sub hl [2, 3, 1, 0] rfl)
  · replace hE := (if_pos c_7).symm.trans hE
    refine lv_iconst (v := -1) hx hb dX5_gyrate_10 (by decide) ?_
    have e_0 := Option.some.inj hE
    subst e_0
    rw [hQ]
    exact W.iret (v := (-1 : Int32)) hx hb hr (fun t ht _ => ⟨⟨_, (), rfl, rfl, by rw [ht]; exact hP, hD⟩, hS.F ht⟩) hS.2.2 dX5_gyrate_11
def S_X5_orbit (t_table_size : Int32) (t_table_corners : Nat → Int32) (t_spare_corners : Nat → Int32) : Option (Int32 × Int32 × (Nat → Int32)) := (S_X3_copy t_spare_corners t_table_size t_table_corners).bind (fun (y8 : Int32 × (Nat → Int32)) => itr (fun (x1 : Int32 × (Nat → Int32)) => if (7436 : Int32) ≤ x1.1 then some (.inr ((7436 : Int32), y8.1, x1.2)) else (S_X3_gyrateOnce y8.1 x1.2).bind (fun (y24 : Int32 × (Nat → Int32)) => (S_X3_distance y8.1 y24.2 t_table_corners).bind (fun (y36 : Int32) => if y36 = 0 then some (.inr (x1.1, y8.1, y24.2)) else some (.inl (x1.1 + (1 : Int32), y24.2))))) 10000 ((1 : Int32), y8.2))
theorem kd_X5_orbit : yX5_orbit.cls = RX5 ∧ yX5_orbit.cls ≠ "java/lang/invoke/MethodHandle" ∧ yX5_orbit.cls ≠ "java/lang/invoke/VarHandle" ∧ (parseMethodDescriptor yX5_orbit.desc).map (fun d => d.parameters.length) = some 0 := by decide +kernel
set_option maxHeartbeats 4000000 in
set_option maxRecDepth 100000 in
theorem c_X5_orbit {l : Launch} {G : kG} (sz : Nat) {q_t : Nat} {q_t_text : Nat} {q_t_table : Nat} {q_t_other : Nat} {q_t_spare : Nat} {q_t_past : Nat} {q_t_lines : Nat} {q_t_sizes : Nat} {t_table_size : Int32} {q_t_table_corners : Nat} {t_table_corners : Nat → Int32} {t_spare_size : Int32} {q_t_spare_corners : Nat} {t_spare_corners : Nat → Int32} {res : Int32 × Int32 × (Nat → Int32)} (hE : S_X5_orbit t_table_size t_table_corners t_spare_corners = some res) : Met l yX5_orbit wsX5_orbit ({ frames := 6, cells := 0, slots := 0, locals := 134 }) (va_Pc [.ref q_t] (fun U => U.heap.size = sz ∧ va_P G.1 vwCl [oX5 q_t q_t_text q_t_table q_t_other q_t_spare q_t_past q_t_lines q_t_sizes, oX3 q_t_table t_table_size q_t_table_corners, aI (G.2 1) q_t_table_corners 49 t_table_corners, oX3 q_t_spare t_spare_size q_t_spare_corners, aI (G.2 1) q_t_spare_corners 49 t_spare_corners] U.heap ∧ kw G U ∧ va_D (fun _ => True) [oX5 q_t q_t_text q_t_table q_t_other q_t_spare q_t_past q_t_lines q_t_sizes, oX3 q_t_table t_table_size q_t_table_corners, aI (G.2 1) q_t_table_corners 49 t_table_corners, oX3 q_t_spare t_spare_size q_t_spare_corners, aI (G.2 1) q_t_spare_corners 49 t_spare_corners])) (va_Qi (fun r (_ : Unit) => r = res.1) (fun _ t => va_P G.1 vwCl [oX5 q_t q_t_text q_t_table q_t_other q_t_spare q_t_past q_t_lines q_t_sizes, oX3 q_t_table t_table_size q_t_table_corners, aI (G.2 1) q_t_table_corners 49 t_table_corners, oX3 q_t_spare res.2.1 q_t_spare_corners, aI (G.2 1) q_t_spare_corners 49 res.2.2] t.heap ∧ va_D (va_A [oX5 q_t q_t_text q_t_table q_t_other q_t_spare q_t_past q_t_lines q_t_sizes, oX3 q_t_table t_table_size q_t_table_corners, aI (G.2 1) q_t_table_corners 49 t_table_corners, oX3 q_t_spare t_spare_size q_t_spare_corners, aI (G.2 1) q_t_spare_corners 49 t_spare_corners] sz) [oX5 q_t q_t_text q_t_table q_t_other q_t_spare q_t_past q_t_lines q_t_sizes, oX3 q_t_table t_table_size q_t_table_corners, aI (G.2 1) q_t_table_corners 49 t_table_corners, oX3 q_t_spare res.2.1 q_t_spare_corners, aI (G.2 1) q_t_spare_corners 49 res.2.2]) (va_A [oX5 q_t q_t_text q_t_table q_t_other q_t_spare q_t_past q_t_lines q_t_sizes, oX3 q_t_table t_table_size q_t_table_corners, aI (G.2 1) q_t_table_corners 49 t_table_corners, oX3 q_t_spare t_spare_size q_t_spare_corners, aI (G.2 1) q_t_spare_corners 49 t_spare_corners] sz)) 0 0 (va_A [oX5 q_t q_t_text q_t_table q_t_other q_t_spare q_t_past q_t_lines q_t_sizes, oX3 q_t_table t_table_size q_t_table_corners, aI (G.2 1) q_t_table_corners 49 t_table_corners, oX3 q_t_spare t_spare_size q_t_spare_corners, aI (G.2 1) q_t_spare_corners 49 t_spare_corners] sz) := by
  refine Met.ofQ (cc := cX5_orbit) (maxL := 2) (ret := (some .int)) (by decide) rfl ?_
  intro p e s m args below meth c s₁ Q hQ B hml hv
  obtain ⟨rfl, hsz, hP, hKW, hD0⟩ := hv
  have hK := hKW.1
  have hx := B.exec
  have hb := B.bytes
  have hr := B.returns
  have hts := atoms_spec (ws := wsX5_orbit) B.pre
  have hown : s.vm.findClass RX5 = some m.cls := findClass_of_methodNamed B.named
  have hlocks := B.notSynchronized
  have iX5 : ∀ w ∈ u_ws RX5 TX5 7, w ∈ wsX5_orbit := by decide +kernel
  have fl_26 := hts (.fieldLink RX5 26 "AlternateSigns" "spare" "LAlternateSigns$Table;") (by decide +kernel)
  have fl_19 := hts (.fieldLink RX5 19 "AlternateSigns" "table" "LAlternateSigns$Table;") (by decide +kernel)
  subst hsz
  have hD := hD0.self (sz := s.heap.size)
  generalize hAe : va_A [oX5 q_t q_t_text q_t_table q_t_other q_t_spare q_t_past q_t_lines q_t_sizes, oX3 q_t_table t_table_size q_t_table_corners, aI (G.2 1) q_t_table_corners 49 t_table_corners, oX3 q_t_spare t_spare_size q_t_spare_corners, aI (G.2 1) q_t_spare_corners 49 t_spare_corners] s.heap.size = A at hD hQ
  have hA : ∀ q : Nat, s.heap.size ≤ q → A q := fun q h => by rw [← hAe]; exact Or.inr h
  have hS : va_S A s.heap s.heap [] := va_S.rf
  have hl := lv_entry ([.ref q_t]) (n := 2) (Nat.le_of_ble_eq_true rfl)
  rw [lg_entry_eq]
  generalize (lg_sl ([.ref q_t]) ++ List.replicate (2 - (lg_sl ([.ref q_t])).length) Slot.unset).toArray = ls at hl ⊢
  have hl : lv_has ls 2 [(0, .ref q_t)] := hl
  unfold S_X5_orbit at hE
  refine lv_aload_n hx hb dX5_orbit_0 rfl (lv_at hl 0 rfl) ?_
  refine va_get (D := G.1) (ci := 5) (v := .ref q_t_spare) (C := RX5) (T := TX5) (N := 7) hx hb hts iX5 hown hK hP 0 rfl rfl 3 (by decide) fl_26 (fun _ h9 => h9) rfl dX5_orbit_1 ?_
  refine lv_aload_n hx hb dX5_orbit_4 rfl (lv_at hl 0 rfl) ?_
  refine va_get (D := G.1) (ci := 5) (v := .ref q_t_table) (C := RX5) (T := TX5) (N := 7) hx hb hts iX5 hown hK hP 0 rfl rfl 1 (by decide) fl_19 (fun _ h9 => h9) rfl dX5_orbit_5 ?_
  obtain ⟨y8, hC_8, hE⟩ := Option.bind_eq_some_iff.mp hE
  obtain ⟨m_8_0, m_8_1⟩ := y8
  try dsimp only at hE
  have hPc := hP.sub (ws' := [oX3 q_t_spare t_spare_size q_t_spare_corners, aI (G.2 1) q_t_spare_corners 49 t_spare_corners, oX3 q_t_table t_table_size q_t_table_corners, aI (G.2 1) q_t_table_corners 49 t_table_corners]) [3, 4, 1, 2] rfl
  have hDc := hD.sub (ws' := [oX3 q_t_spare t_spare_size q_t_spare_corners, aI (G.2 1) q_t_spare_corners 49 t_spare_corners, oX3 q_t_table t_table_size q_t_table_corners, aI (G.2 1) q_t_table_corners 49 t_table_corners]) [3, 4, 1, 2] (by decide) rfl
  have hFc := va_free (wc := [oX3 q_t_spare t_spare_size q_t_spare_corners, aI (G.2 1) q_t_spare_corners 49 t_spare_corners, oX3 q_t_table t_table_size q_t_table_corners, aI (G.2 1) q_t_table_corners 49 t_table_corners]) hD hS hA [3, 4, 1, 2] rfl
  refine va_callv (va_runV (As := [.ref q_t_table]) (rest := []) ⟨hx, hb, hml, hown, hts⟩ (c_X3_copy (l := l) (G := G) _ (q_t := q_t_spare) (t_size := t_spare_size) (q_t_corners := q_t_spare_corners) (t_corners := t_spare_corners) (q_p1 := q_t_table) (p1_size := t_table_size) (q_p1_corners := q_t_table_corners) (p1_corners := t_table_corners) hC_8) (cwV 1 hts gX5_orbit_X3_copy rfl rfl rfl kd_X3_copy ⟨Nat.le_of_ble_eq_true rfl, Nat.le_of_ble_eq_true rfl⟩) (iv_V hKW hPc hDc (ci := 3) (q0 := 0) rfl rfl) rfl rfl hl.1 rfl (lv_room (Nat.le_of_ble_eq_true rfl)) dX5_orbit_8 ⟨Nat.zero_le _, Nat.zero_le _⟩) hS (fun q _ h => hFc q h) hFc (fun u9 t9 H1 locs ht9 hvm9 hw9 hB9 hz9 hk9 hS => ?_)
  obtain ⟨hP1, hD1⟩ := hB9
  rw [ht9] at hP1
  obtain ⟨hP, hD⟩ := va_join (wr := [oX5 q_t q_t_text q_t_table q_t_other q_t_spare q_t_past q_t_lines q_t_sizes]) (w1 := [oX3 q_t_spare m_8_0 q_t_spare_corners, aI (G.2 1) q_t_spare_corners 49 m_8_1, oX3 q_t_table t_table_size q_t_table_corners, aI (G.2 1) q_t_table_corners 49 t_table_corners]) hP hD [3, 4, 1, 2] [0] rfl rfl (by decide) (by decide) hk9 hFc hP1 hD1
  have hP := hP.sub (ws' := [oX5 q_t q_t_text q_t_table q_t_other q_t_spare q_t_past q_t_lines q_t_sizes, oX3 q_t_table t_table_size q_t_table_corners, aI (G.2 1) q_t_table_corners 49 t_table_corners, oX3 q_t_spare m_8_0 q_t_spare_corners, aI (G.2 1) q_t_spare_corners 49 m_8_1]) [0, 3, 4, 1, 2] rfl
  have hD := hD.sub (ws' := [oX5 q_t q_t_text q_t_table q_t_other q_t_spare q_t_past q_t_lines q_t_sizes, oX3 q_t_table t_table_size q_t_table_corners, aI (G.2 1) q_t_table_corners 49 t_table_corners, oX3 q_t_spare m_8_0 q_t_spare_corners, aI (G.2 1) q_t_spare_corners 49 m_8_1]) [0, 3, 4, 1, 2] (by decide) rfl
  clear hPc hDc hFc hP1 hD1 hk9 hz9 hvm9
  refine lv_iconst (v := 1) hx hb dX5_orbit_11 (by decide) ?_
  refine lv_istore_n (lv' := [(1, .int (1 : Int32)), (0, .ref q_t)]) hx hb dX5_orbit_12 rfl hl (by decide) rfl (fun ls hl => ?_)
  refine itr_ind (fun (x1 : Int32 × (Nat → Int32)) => ∀ (H : Heap) (locs : List Loc) (ls : Array Slot), va_P G.1 vwCl [oX5 q_t q_t_text q_t_table q_t_other q_t_spare q_t_past q_t_lines q_t_sizes, oX3 q_t_table t_table_size q_t_table_corners, aI (G.2 1) q_t_table_corners 49 t_table_corners, oX3 q_t_spare m_8_0 q_t_spare_corners, aI (G.2 1) q_t_spare_corners 49 x1.2] H → va_D A [oX5 q_t q_t_text q_t_table q_t_other q_t_spare q_t_past q_t_lines q_t_sizes, oX3 q_t_table t_table_size q_t_table_corners, aI (G.2 1) q_t_table_corners 49 t_table_corners, oX3 q_t_spare m_8_0 q_t_spare_corners, aI (G.2 1) q_t_spare_corners 49 x1.2] → va_S A s.heap H locs → lv_has ls 2 [(0, .ref q_t), (1, .int x1.1)] → W p l e (headSpec wsX5_orbit ({ frames := 6, cells := 0, slots := 0, locals := 134 })).room s m ([.ref q_t] : List Value).toArray below meth c H locs 0 0 Q (F0 m 13 ls [])) (fun x1 o_1 hE ih_1 hr_1 => ?_) _ _ hE _ _ ls hP hD hS (lv_sub hl [1, 0] rfl)
  obtain ⟨v1_1, w_t_spare_corners_1⟩ := x1
  try dsimp only at hE
  intro H locs ls hP hD hS hl
  try dsimp only at hP hD hl ⊢
  refine lv_iload_n hx hb dX5_orbit_13 rfl (lv_at hl 1 rfl) ?_
  refine lv_sipush (v := 7436) hx hb dX5_orbit_14 (by decide) ?_
  refine lv_icmp_ge (tgt := 50) hx hb dX5_orbit_17 (by decide) (fun c_17 => ?_) (fun c_17 => ?_)
  · replace hE := (if_pos c_17).symm.trans hE
    refine lv_sipush (v := 7436) hx hb dX5_orbit_50 (by decide) ?_
    have e_1 := Option.some.inj hE
    have e_0 := hr_1 _ e_1.symm
    subst e_0
    rw [hQ]
    exact W.iret (v := (7436 : Int32)) hx hb hr (fun t ht _ => ⟨⟨_, (), rfl, rfl, by rw [ht]; exact hP, hD⟩, hS.F ht⟩) hS.2.2 dX5_orbit_53
  · replace hE := (if_neg c_17).symm.trans hE
    refine lv_aload_n hx hb dX5_orbit_20 rfl (lv_at hl 0 rfl) ?_
    refine va_get (D := G.1) (ci := 5) (v := .ref q_t_spare) (C := RX5) (T := TX5) (N := 7) hx hb hts iX5 hown hK hP 0 rfl rfl 3 (by decide) fl_26 (fun _ h9 => h9) rfl dX5_orbit_21 ?_
    obtain ⟨y24, hC_24, hE⟩ := Option.bind_eq_some_iff.mp hE
    obtain ⟨r_24, m_24_0⟩ := y24
    try dsimp only at hE
    have hPc := hP.sub (ws' := [oX3 q_t_spare m_8_0 q_t_spare_corners, aI (G.2 1) q_t_spare_corners 49 w_t_spare_corners_1]) [3, 4] rfl
    have hDc := hD.sub (ws' := [oX3 q_t_spare m_8_0 q_t_spare_corners, aI (G.2 1) q_t_spare_corners 49 w_t_spare_corners_1]) [3, 4] (by decide) rfl
    have hFc := va_free (wc := [oX3 q_t_spare m_8_0 q_t_spare_corners, aI (G.2 1) q_t_spare_corners 49 w_t_spare_corners_1]) hD hS hA [3, 4] rfl
    refine va_calli (va_runV (As := []) (rest := []) ⟨hx, hb, hml, hown, hts⟩ (c_X3_gyrateOnce (l := l) (G := G) _ (q_t := q_t_spare) (t_size := m_8_0) (q_t_corners := q_t_spare_corners) (t_corners := w_t_spare_corners_1) hC_24) (cwV 0 hts gX5_orbit_X3_gyrateOnce rfl rfl rfl kd_X3_gyrateOnce ⟨Nat.le_of_ble_eq_true rfl, Nat.le_of_ble_eq_true rfl⟩) (iv_V hKW hPc hDc (ci := 3) (q0 := 0) rfl rfl) rfl rfl hl.1 rfl (lv_room (Nat.le_of_ble_eq_true rfl)) dX5_orbit_24 ⟨Nat.zero_le _, Nat.zero_le _⟩) hS (fun q _ h => hFc q h) hFc (fun r9 u9 t9 H1 locs ht9 hvm9 hw9 hB9 hz9 hk9 hS => ?_)
    subst r9
    obtain ⟨hP1, hD1⟩ := hB9
    rw [ht9] at hP1
    obtain ⟨hP, hD⟩ := va_join (wr := [oX5 q_t q_t_text q_t_table q_t_other q_t_spare q_t_past q_t_lines q_t_sizes, oX3 q_t_table t_table_size q_t_table_corners, aI (G.2 1) q_t_table_corners 49 t_table_corners]) (w1 := [oX3 q_t_spare m_8_0 q_t_spare_corners, aI (G.2 1) q_t_spare_corners 49 m_24_0]) hP hD [3, 4] [0, 1, 2] rfl rfl (by decide) (by decide) hk9 hFc hP1 hD1
    have hP := hP.sub (ws' := [oX5 q_t q_t_text q_t_table q_t_other q_t_spare q_t_past q_t_lines q_t_sizes, oX3 q_t_table t_table_size q_t_table_corners, aI (G.2 1) q_t_table_corners 49 t_table_corners, oX3 q_t_spare m_8_0 q_t_spare_corners, aI (G.2 1) q_t_spare_corners 49 m_24_0]) [0, 1, 2, 3, 4] rfl
    have hD := hD.sub (ws' := [oX5 q_t q_t_text q_t_table q_t_other q_t_spare q_t_past q_t_lines q_t_sizes, oX3 q_t_table t_table_size q_t_table_corners, aI (G.2 1) q_t_table_corners 49 t_table_corners, oX3 q_t_spare m_8_0 q_t_spare_corners, aI (G.2 1) q_t_spare_corners 49 m_24_0]) [0, 1, 2, 3, 4] (by decide) rfl
    clear hPc hDc hFc hP1 hD1 hk9 hz9 hvm9
    refine lv_pop hx hb dX5_orbit_27 rfl ?_
    refine lv_aload_n hx hb dX5_orbit_28 rfl (lv_at hl 0 rfl) ?_
    refine va_get (D := G.1) (ci := 5) (v := .ref q_t_spare) (C := RX5) (T := TX5) (N := 7) hx hb hts iX5 hown hK hP 0 rfl rfl 3 (by decide) fl_26 (fun _ h9 => h9) rfl dX5_orbit_29 ?_
    refine lv_aload_n hx hb dX5_orbit_32 rfl (lv_at hl 0 rfl) ?_
    refine va_get (D := G.1) (ci := 5) (v := .ref q_t_table) (C := RX5) (T := TX5) (N := 7) hx hb hts iX5 hown hK hP 0 rfl rfl 1 (by decide) fl_19 (fun _ h9 => h9) rfl dX5_orbit_33 ?_
    obtain ⟨y36, hC_36, hE⟩ := Option.bind_eq_some_iff.mp hE
    obtain ⟨r_36, ex9⟩ : ∃ z, z = y36 := ⟨_, rfl⟩
    subst ex9
    try dsimp only at hE
    refine vp_callSi (va_Run.run (va_runV (As := [.ref q_t_table]) (rest := []) ⟨hx, hb, hml, hown, hts⟩ (c_X3_distance (l := l) (G := G) (q_t := q_t_spare) (t_size := m_8_0) (q_t_corners := q_t_spare_corners) (t_corners := m_24_0) (q_p1 := q_t_table) (p1_size := t_table_size) (q_p1_corners := q_t_table_corners) (p1_corners := t_table_corners) hC_36) (cwV 1 hts gX5_orbit_X3_distance rfl rfl rfl kd_X3_distance ⟨Nat.le_of_ble_eq_true rfl, Nat.le_of_ble_eq_true rfl⟩) (pv_V hKW (hP.sub (ws' := [oX3 q_t_spare m_8_0 q_t_spare_corners, aI (G.2 1) q_t_spare_corners 49 m_24_0, oX3 q_t_table t_table_size q_t_table_corners, aI (G.2 1) q_t_table_corners 49 t_table_corners]) [3, 4, 1, 2] rfl) (ci := 3) (q0 := 0) rfl rfl) rfl rfl hl.1 rfl (lv_room (Nat.le_of_ble_eq_true rfl)) dX5_orbit_36 ⟨Nat.zero_le _, Nat.zero_le _⟩)) (fun r9 hr9 => ?_)
    subst r9
    refine lv_if_ne (tgt := 44) hx hb dX5_orbit_39 (by decide) (fun c_39 => ?_) (fun c_39 => ?_)
    · replace hE := (if_neg c_39).symm.trans hE
      refine lv_iinc (v := v1_1 + (1 : Int32)) (lv' := [(1, .int (v1_1 + (1 : Int32))), (0, .ref q_t)]) hx hb dX5_orbit_44 hl (k := 1) rfl rfl (by decide) rfl (fun ls hl => ?_)
      refine lv_goto (tgt := 13) hx hb dX5_orbit_47 (by decide) ?_
      have e_1 := Option.some.inj hE
      exact ih_1 _ e_1.symm _ _ ls hP hD hS (lv_sub hl [1, 0] rfl)
    · replace hE := (if_pos c_39).symm.trans hE
      refine lv_iload_n hx hb dX5_orbit_42 rfl (lv_at hl 1 rfl) ?_
      have e_1 := Option.some.inj hE
      have e_0 := hr_1 _ e_1.symm
      subst e_0
      rw [hQ]
      exact W.iret (v := v1_1) hx hb hr (fun t ht _ => ⟨⟨_, (), rfl, rfl, by rw [ht]; exact hP, hD⟩, hS.F ht⟩) hS.2.2 dX5_orbit_43
def S_X5_hasLikeOther (t_table_size : Int32) (t_other_size : Int32) : Option Int32 := if t_other_size = t_table_size then some (1 : Int32) else some (0 : Int32)
theorem kd_X5_hasLikeOther : yX5_hasLikeOther.cls = RX5 ∧ yX5_hasLikeOther.cls ≠ "java/lang/invoke/MethodHandle" ∧ yX5_hasLikeOther.cls ≠ "java/lang/invoke/VarHandle" ∧ (parseMethodDescriptor yX5_hasLikeOther.desc).map (fun d => d.parameters.length) = some 0 := by decide +kernel
set_option maxHeartbeats 4000000 in
set_option maxRecDepth 100000 in
theorem c_X5_hasLikeOther {l : Launch} {G : kG} {q_t : Nat} {q_t_text : Nat} {q_t_table : Nat} {q_t_other : Nat} {q_t_spare : Nat} {q_t_past : Nat} {q_t_lines : Nat} {q_t_sizes : Nat} {t_table_size : Int32} {q_t_table_corners : Nat} {t_other_size : Int32} {q_t_other_corners : Nat} {res : Int32} (hE : S_X5_hasLikeOther t_table_size t_other_size = some res) : Met l yX5_hasLikeOther wsX5_hasLikeOther ({ frames := 0, cells := 0, slots := 0, locals := 0 }) (va_Pc [.ref q_t] (fun U => va_P G.1 vwCl [oX5 q_t q_t_text q_t_table q_t_other q_t_spare q_t_past q_t_lines q_t_sizes, oX3 q_t_table t_table_size q_t_table_corners, oX3 q_t_other t_other_size q_t_other_corners] U.heap ∧ kw G U)) (vp_Si (fun r => r = res)) 0 0 (fun _ => False) := by
  refine Met.ofQ (cc := cX5_hasLikeOther) (maxL := 1) (ret := (some .boolean)) (by decide) rfl ?_
  intro p e s m args below meth c s₁ Q hQ B hml hv
  obtain ⟨rfl, hP, hKW⟩ := hv
  have hK := hKW.1
  have hx := B.exec
  have hb := B.bytes
  have hr := B.returns
  have hts := atoms_spec (ws := wsX5_hasLikeOther) B.pre
  have hown : s.vm.findClass RX5 = some m.cls := findClass_of_methodNamed B.named
  have hlocks := B.notSynchronized
  have iX3 : ∀ w ∈ u_ws RX3 TX3 2, w ∈ wsX5_hasLikeOther := by decide +kernel
  have iX5 : ∀ w ∈ u_ws RX5 TX5 7, w ∈ wsX5_hasLikeOther := by decide +kernel
  have fl_23 := hts (.fieldLink RX5 23 "AlternateSigns" "other" "LAlternateSigns$Table;") (by decide +kernel)
  have fl_84 := hts (.fieldLink RX5 84 "AlternateSigns$Table" "size" "I") (by decide +kernel)
  have fl_19 := hts (.fieldLink RX5 19 "AlternateSigns" "table" "LAlternateSigns$Table;") (by decide +kernel)
  have hl := lv_entry ([.ref q_t]) (n := 1) (Nat.le_of_ble_eq_true rfl)
  rw [lg_entry_eq]
  generalize (lg_sl ([.ref q_t]) ++ List.replicate (1 - (lg_sl ([.ref q_t])).length) Slot.unset).toArray = ls at hl ⊢
  have hl : lv_has ls 1 [(0, .ref q_t)] := hl
  unfold S_X5_hasLikeOther at hE
  refine lv_aload_n hx hb dX5_hasLikeOther_0 rfl (lv_at hl 0 rfl) ?_
  refine va_get (D := G.1) (ci := 5) (v := .ref q_t_other) (C := RX5) (T := TX5) (N := 7) hx hb hts iX5 hown hK hP 0 rfl rfl 2 (by decide) fl_23 (fun _ h9 => h9) rfl dX5_hasLikeOther_1 ?_
  refine va_get (D := G.1) (ci := 3) (v := .int t_other_size) (C := RX3) (T := TX3) (N := 2) hx hb hts iX3 hown hK hP 2 rfl rfl 0 (by decide) fl_84 (fun _ h9 => h9) rfl dX5_hasLikeOther_4 ?_
  refine lv_aload_n hx hb dX5_hasLikeOther_7 rfl (lv_at hl 0 rfl) ?_
  refine va_get (D := G.1) (ci := 5) (v := .ref q_t_table) (C := RX5) (T := TX5) (N := 7) hx hb hts iX5 hown hK hP 0 rfl rfl 1 (by decide) fl_19 (fun _ h9 => h9) rfl dX5_hasLikeOther_8 ?_
  refine va_get (D := G.1) (ci := 3) (v := .int t_table_size) (C := RX3) (T := TX3) (N := 2) hx hb hts iX3 hown hK hP 1 rfl rfl 0 (by decide) fl_84 (fun _ h9 => h9) rfl dX5_hasLikeOther_11 ?_
  refine lv_icmp_ne (tgt := 21) hx hb dX5_hasLikeOther_14 (by decide) (fun c_14 => ?_) (fun c_14 => ?_)
  · replace hE := (if_neg c_14).symm.trans hE
    refine lv_iconst (v := 0) hx hb dX5_hasLikeOther_21 (by decide) ?_
    have e_0 := Option.some.inj hE
    rw [hQ]
    exact W.zret (v := (0 : Int32)) hx hb hr rfl (fun t ht _ => ⟨_, rfl, e_0, ht⟩) (fun q h => by cases h) dX5_hasLikeOther_22
  · replace hE := (if_pos c_14).symm.trans hE
    refine lv_iconst (v := 1) hx hb dX5_hasLikeOther_17 (by decide) ?_
    refine lv_goto (tgt := 22) hx hb dX5_hasLikeOther_18 (by decide) ?_
    have e_0 := Option.some.inj hE
    rw [hQ]
    exact W.zret (v := (1 : Int32)) hx hb hr rfl (fun t ht _ => ⟨_, rfl, e_0, ht⟩) (fun q h => by cases h) dX5_hasLikeOther_22
def S_X5_apart (t_table_size : Int32) (t_table_corners : Nat → Int32) (t_other_size : Int32) (t_other_corners : Nat → Int32) : Option Int32 := (S_X5_hasLikeOther t_table_size t_other_size).bind (fun (y1 : Int32) => if y1 = 0 then some (-2 : Int32) else (S_X3_distance t_table_size t_table_corners t_other_corners).bind (fun (y15 : Int32) => some y15))
theorem kd_X5_apart : yX5_apart.cls = RX5 ∧ yX5_apart.cls ≠ "java/lang/invoke/MethodHandle" ∧ yX5_apart.cls ≠ "java/lang/invoke/VarHandle" ∧ (parseMethodDescriptor yX5_apart.desc).map (fun d => d.parameters.length) = some 0 := by decide +kernel
set_option maxHeartbeats 4000000 in
set_option maxRecDepth 100000 in
theorem c_X5_apart {l : Launch} {G : kG} {q_t : Nat} {q_t_text : Nat} {q_t_table : Nat} {q_t_other : Nat} {q_t_spare : Nat} {q_t_past : Nat} {q_t_lines : Nat} {q_t_sizes : Nat} {t_table_size : Int32} {q_t_table_corners : Nat} {t_table_corners : Nat → Int32} {t_other_size : Int32} {q_t_other_corners : Nat} {t_other_corners : Nat → Int32} {res : Int32} (hE : S_X5_apart t_table_size t_table_corners t_other_size t_other_corners = some res) : Met l yX5_apart wsX5_apart ({ frames := 2, cells := 0, slots := 0, locals := 46 }) (va_Pc [.ref q_t] (fun U => va_P G.1 vwCl [oX5 q_t q_t_text q_t_table q_t_other q_t_spare q_t_past q_t_lines q_t_sizes, oX3 q_t_table t_table_size q_t_table_corners, aI (G.2 1) q_t_table_corners 49 t_table_corners, oX3 q_t_other t_other_size q_t_other_corners, aI (G.2 1) q_t_other_corners 49 t_other_corners] U.heap ∧ kw G U)) (vp_Si (fun r => r = res)) 0 0 (fun _ => False) := by
  refine Met.ofQ (cc := cX5_apart) (maxL := 1) (ret := (some .int)) (by decide) rfl ?_
  intro p e s m args below meth c s₁ Q hQ B hml hv
  obtain ⟨rfl, hP, hKW⟩ := hv
  have hK := hKW.1
  have hx := B.exec
  have hb := B.bytes
  have hr := B.returns
  have hts := atoms_spec (ws := wsX5_apart) B.pre
  have hown : s.vm.findClass RX5 = some m.cls := findClass_of_methodNamed B.named
  have hlocks := B.notSynchronized
  have iX5 : ∀ w ∈ u_ws RX5 TX5 7, w ∈ wsX5_apart := by decide +kernel
  have fl_19 := hts (.fieldLink RX5 19 "AlternateSigns" "table" "LAlternateSigns$Table;") (by decide +kernel)
  have fl_23 := hts (.fieldLink RX5 23 "AlternateSigns" "other" "LAlternateSigns$Table;") (by decide +kernel)
  have hl := lv_entry ([.ref q_t]) (n := 1) (Nat.le_of_ble_eq_true rfl)
  rw [lg_entry_eq]
  generalize (lg_sl ([.ref q_t]) ++ List.replicate (1 - (lg_sl ([.ref q_t])).length) Slot.unset).toArray = ls at hl ⊢
  have hl : lv_has ls 1 [(0, .ref q_t)] := hl
  unfold S_X5_apart at hE
  refine lv_aload_n hx hb dX5_apart_0 rfl (lv_at hl 0 rfl) ?_
  obtain ⟨y1, hC_1, hE⟩ := Option.bind_eq_some_iff.mp hE
  obtain ⟨r_1, ex9⟩ : ∃ z, z = y1 := ⟨_, rfl⟩
  subst ex9
  try dsimp only at hE
  refine vp_callSi (va_Run.run (va_runV (As := []) (rest := []) ⟨hx, hb, hml, hown, hts⟩ (c_X5_hasLikeOther (l := l) (G := G) (q_t := q_t) (q_t_text := q_t_text) (q_t_table := q_t_table) (q_t_other := q_t_other) (q_t_spare := q_t_spare) (q_t_past := q_t_past) (q_t_lines := q_t_lines) (q_t_sizes := q_t_sizes) (t_table_size := t_table_size) (q_t_table_corners := q_t_table_corners) (t_other_size := t_other_size) (q_t_other_corners := q_t_other_corners) hC_1) (cwV 0 hts gX5_apart_X5_hasLikeOther rfl rfl rfl kd_X5_hasLikeOther ⟨Nat.le_of_ble_eq_true rfl, Nat.le_of_ble_eq_true rfl⟩) (pv_V hKW (hP.sub (ws' := [oX5 q_t q_t_text q_t_table q_t_other q_t_spare q_t_past q_t_lines q_t_sizes, oX3 q_t_table t_table_size q_t_table_corners, oX3 q_t_other t_other_size q_t_other_corners]) [0, 1, 3] rfl) (ci := 5) (q0 := 0) rfl rfl) rfl rfl hl.1 rfl (lv_room (Nat.le_of_ble_eq_true rfl)) dX5_apart_1 ⟨Nat.zero_le _, Nat.zero_le _⟩)) (fun r9 hr9 => ?_)
  subst r9
  refine lv_if_eq (tgt := 21) hx hb dX5_apart_4 (by decide) (fun c_4 => ?_) (fun c_4 => ?_)
  · replace hE := (if_pos c_4).symm.trans hE
    refine lv_bipush (v := -2) hx hb dX5_apart_21 (by decide) ?_
    have e_0 := Option.some.inj hE
    rw [hQ]
    exact W.iret (v := (-2 : Int32)) hx hb hr (fun t ht _ => ⟨_, rfl, e_0, ht⟩) (fun q h => by cases h) dX5_apart_23
  · replace hE := (if_neg c_4).symm.trans hE
    refine lv_aload_n hx hb dX5_apart_7 rfl (lv_at hl 0 rfl) ?_
    refine va_get (D := G.1) (ci := 5) (v := .ref q_t_table) (C := RX5) (T := TX5) (N := 7) hx hb hts iX5 hown hK hP 0 rfl rfl 1 (by decide) fl_19 (fun _ h9 => h9) rfl dX5_apart_8 ?_
    refine lv_aload_n hx hb dX5_apart_11 rfl (lv_at hl 0 rfl) ?_
    refine va_get (D := G.1) (ci := 5) (v := .ref q_t_other) (C := RX5) (T := TX5) (N := 7) hx hb hts iX5 hown hK hP 0 rfl rfl 2 (by decide) fl_23 (fun _ h9 => h9) rfl dX5_apart_12 ?_
    obtain ⟨y15, hC_15, hE⟩ := Option.bind_eq_some_iff.mp hE
    obtain ⟨r_15, ex9⟩ : ∃ z, z = y15 := ⟨_, rfl⟩
    subst ex9
    try dsimp only at hE
    refine vp_callSi (va_Run.run (va_runV (As := [.ref q_t_other]) (rest := []) ⟨hx, hb, hml, hown, hts⟩ (c_X3_distance (l := l) (G := G) (q_t := q_t_table) (t_size := t_table_size) (q_t_corners := q_t_table_corners) (t_corners := t_table_corners) (q_p1 := q_t_other) (p1_size := t_other_size) (q_p1_corners := q_t_other_corners) (p1_corners := t_other_corners) hC_15) (cwV 1 hts gX5_apart_X3_distance rfl rfl rfl kd_X3_distance ⟨Nat.le_of_ble_eq_true rfl, Nat.le_of_ble_eq_true rfl⟩) (pv_V hKW (hP.sub (ws' := [oX3 q_t_table t_table_size q_t_table_corners, aI (G.2 1) q_t_table_corners 49 t_table_corners, oX3 q_t_other t_other_size q_t_other_corners, aI (G.2 1) q_t_other_corners 49 t_other_corners]) [1, 2, 3, 4] rfl) (ci := 3) (q0 := 0) rfl rfl) rfl rfl hl.1 rfl (lv_room (Nat.le_of_ble_eq_true rfl)) dX5_apart_15 ⟨Nat.zero_le _, Nat.zero_le _⟩)) (fun r9 hr9 => ?_)
    subst r9
    refine lv_goto (tgt := 23) hx hb dX5_apart_18 (by decide) ?_
    have e_0 := Option.some.inj hE
    rw [hQ]
    exact W.iret (v := r_15) hx hb hr (fun t ht _ => ⟨_, rfl, e_0, ht⟩) (fun q h => by cases h) dX5_apart_23
def S_X5_next (t_table_size : Int32) (t_table_corners : Nat → Int32) (t_other_size : Int32) (t_other_corners : Nat → Int32) : Option Int32 := (S_X5_hasLikeOther t_table_size t_other_size).bind (fun (y1 : Int32) => if y1 = 0 then some (-2 : Int32) else itr (fun (x1 : Int32) => if t_table_size ≤ x1 then some (.inr (-4 : Int32)) else itr (fun (x2 : Int32) => if t_table_size ≤ x2 then some (.inr (.inl (x1 + (1 : Int32)))) else (S_X3_comesNearer x1 x2 t_table_corners t_other_corners).bind (fun (y46 : Int32) => if y46 = 0 then some (.inl (x2 + (1 : Int32))) else some (.inr (.inr (((10 : Int32) * x1) + x2))))) 10000 (1 : Int32)) 10000 (1 : Int32))
theorem kd_X5_next : yX5_next.cls = RX5 ∧ yX5_next.cls ≠ "java/lang/invoke/MethodHandle" ∧ yX5_next.cls ≠ "java/lang/invoke/VarHandle" ∧ (parseMethodDescriptor yX5_next.desc).map (fun d => d.parameters.length) = some 0 := by decide +kernel
set_option maxHeartbeats 4000000 in
set_option maxRecDepth 100000 in
theorem c_X5_next {l : Launch} {G : kG} {q_t : Nat} {q_t_text : Nat} {q_t_table : Nat} {q_t_other : Nat} {q_t_spare : Nat} {q_t_past : Nat} {q_t_lines : Nat} {q_t_sizes : Nat} {t_table_size : Int32} {q_t_table_corners : Nat} {t_table_corners : Nat → Int32} {t_other_size : Int32} {q_t_other_corners : Nat} {t_other_corners : Nat → Int32} {res : Int32} (hE : S_X5_next t_table_size t_table_corners t_other_size t_other_corners = some res) : Met l yX5_next wsX5_next ({ frames := 4, cells := 0, slots := 0, locals := 92 }) (va_Pc [.ref q_t] (fun U => va_P G.1 vwCl [oX5 q_t q_t_text q_t_table q_t_other q_t_spare q_t_past q_t_lines q_t_sizes, oX3 q_t_table t_table_size q_t_table_corners, aI (G.2 1) q_t_table_corners 49 t_table_corners, oX3 q_t_other t_other_size q_t_other_corners, aI (G.2 1) q_t_other_corners 49 t_other_corners] U.heap ∧ kw G U)) (vp_Si (fun r => r = res)) 0 0 (fun _ => False) := by
  refine Met.ofQ (cc := cX5_next) (maxL := 3) (ret := (some .int)) (by decide) rfl ?_
  intro p e s m args below meth c s₁ Q hQ B hml hv
  obtain ⟨rfl, hP, hKW⟩ := hv
  have hK := hKW.1
  have hx := B.exec
  have hb := B.bytes
  have hr := B.returns
  have hts := atoms_spec (ws := wsX5_next) B.pre
  have hown : s.vm.findClass RX5 = some m.cls := findClass_of_methodNamed B.named
  have hlocks := B.notSynchronized
  have iX3 : ∀ w ∈ u_ws RX3 TX3 2, w ∈ wsX5_next := by decide +kernel
  have iX5 : ∀ w ∈ u_ws RX5 TX5 7, w ∈ wsX5_next := by decide +kernel
  have fl_19 := hts (.fieldLink RX5 19 "AlternateSigns" "table" "LAlternateSigns$Table;") (by decide +kernel)
  have fl_84 := hts (.fieldLink RX5 84 "AlternateSigns$Table" "size" "I") (by decide +kernel)
  have fl_23 := hts (.fieldLink RX5 23 "AlternateSigns" "other" "LAlternateSigns$Table;") (by decide +kernel)
  have hl := lv_entry ([.ref q_t]) (n := 3) (Nat.le_of_ble_eq_true rfl)
  rw [lg_entry_eq]
  generalize (lg_sl ([.ref q_t]) ++ List.replicate (3 - (lg_sl ([.ref q_t])).length) Slot.unset).toArray = ls at hl ⊢
  have hl : lv_has ls 3 [(0, .ref q_t)] := hl
  unfold S_X5_next at hE
  refine lv_aload_n hx hb dX5_next_0 rfl (lv_at hl 0 rfl) ?_
  obtain ⟨y1, hC_1, hE⟩ := Option.bind_eq_some_iff.mp hE
  obtain ⟨r_1, ex9⟩ : ∃ z, z = y1 := ⟨_, rfl⟩
  subst ex9
  try dsimp only at hE
  refine vp_callSi (va_Run.run (va_runV (As := []) (rest := []) ⟨hx, hb, hml, hown, hts⟩ (c_X5_hasLikeOther (l := l) (G := G) (q_t := q_t) (q_t_text := q_t_text) (q_t_table := q_t_table) (q_t_other := q_t_other) (q_t_spare := q_t_spare) (q_t_past := q_t_past) (q_t_lines := q_t_lines) (q_t_sizes := q_t_sizes) (t_table_size := t_table_size) (q_t_table_corners := q_t_table_corners) (t_other_size := t_other_size) (q_t_other_corners := q_t_other_corners) hC_1) (cwV 0 hts gX5_next_X5_hasLikeOther rfl rfl rfl kd_X5_hasLikeOther ⟨Nat.le_of_ble_eq_true rfl, Nat.le_of_ble_eq_true rfl⟩) (pv_V hKW (hP.sub (ws' := [oX5 q_t q_t_text q_t_table q_t_other q_t_spare q_t_past q_t_lines q_t_sizes, oX3 q_t_table t_table_size q_t_table_corners, oX3 q_t_other t_other_size q_t_other_corners]) [0, 1, 3] rfl) (ci := 5) (q0 := 0) rfl rfl) rfl rfl hl.1 rfl (lv_room (Nat.le_of_ble_eq_true rfl)) dX5_next_1 ⟨Nat.zero_le _, Nat.zero_le _⟩)) (fun r9 hr9 => ?_)
  subst r9
  refine lv_if_ne (tgt := 10) hx hb dX5_next_4 (by decide) (fun c_4 => ?_) (fun c_4 => ?_)
  · replace hE := (if_neg c_4).symm.trans hE
    refine lv_iconst (v := 1) hx hb dX5_next_10 (by decide) ?_
    refine lv_istore_n (lv' := [(1, .int (1 : Int32)), (0, .ref q_t)]) hx hb dX5_next_11 rfl hl (by decide) rfl (fun ls hl => ?_)
    refine itr_ind (fun (x1 : Int32) => ∀ (ls : Array Slot), lv_has ls 3 [(0, .ref q_t), (1, .int x1)] → W p l e (headSpec wsX5_next ({ frames := 4, cells := 0, slots := 0, locals := 92 })).room s m ([.ref q_t] : List Value).toArray below meth c s.heap [] 0 0 Q (F0 m 12 ls [])) (fun x1 o_1 hE ih_1 hr_1 => ?_) _ _ hE ls (lv_sub hl [1, 0] rfl)
    obtain ⟨v1_1, ex9⟩ : ∃ z, z = x1 := ⟨_, rfl⟩
    subst ex9
    try dsimp only at hE
    intro ls hl
    try dsimp only at hl ⊢
    refine lv_iload_n hx hb dX5_next_12 rfl (lv_at hl 1 rfl) ?_
    refine lv_aload_n hx hb dX5_next_13 rfl (lv_at hl 0 rfl) ?_
    refine va_get (D := G.1) (ci := 5) (v := .ref q_t_table) (C := RX5) (T := TX5) (N := 7) hx hb hts iX5 hown hK hP 0 rfl rfl 1 (by decide) fl_19 (fun _ h9 => h9) rfl dX5_next_14 ?_
    refine va_get (D := G.1) (ci := 3) (v := .int t_table_size) (C := RX3) (T := TX3) (N := 2) hx hb hts iX3 hown hK hP 1 rfl rfl 0 (by decide) fl_84 (fun _ h9 => h9) rfl dX5_next_17 ?_
    refine lv_icmp_ge (tgt := 71) hx hb dX5_next_20 (by decide) (fun c_20 => ?_) (fun c_20 => ?_)
    · replace hE := (if_pos c_20).symm.trans hE
      refine lv_bipush (v := -4) hx hb dX5_next_71 (by decide) ?_
      have e_1 := Option.some.inj hE
      have e_0 := hr_1 _ e_1.symm
      rw [hQ]
      exact W.iret (v := (-4 : Int32)) hx hb hr (fun t ht _ => ⟨_, rfl, e_0, ht⟩) (fun q h => by cases h) dX5_next_73
    · replace hE := (if_neg c_20).symm.trans hE
      refine lv_iconst (v := 1) hx hb dX5_next_23 (by decide) ?_
      refine lv_istore_n (lv' := [(2, .int (1 : Int32)), (0, .ref q_t), (1, .int v1_1)]) hx hb dX5_next_24 rfl hl (by decide) rfl (fun ls hl => ?_)
      refine itr_ind (fun (x2 : Int32) => ∀ (ls : Array Slot), lv_has ls 3 [(0, .ref q_t), (1, .int v1_1), (2, .int x2)] → W p l e (headSpec wsX5_next ({ frames := 4, cells := 0, slots := 0, locals := 92 })).room s m ([.ref q_t] : List Value).toArray below meth c s.heap [] 0 0 Q (F0 m 25 ls [])) (fun x2 o_2 hE ih_2 hr_2 => ?_) _ _ hE ls (lv_sub hl [1, 2, 0] rfl)
      obtain ⟨v2_2, ex9⟩ : ∃ z, z = x2 := ⟨_, rfl⟩
      subst ex9
      try dsimp only at hE
      intro ls hl
      try dsimp only at hl ⊢
      refine lv_iload_n hx hb dX5_next_25 rfl (lv_at hl 2 rfl) ?_
      refine lv_aload_n hx hb dX5_next_26 rfl (lv_at hl 0 rfl) ?_
      refine va_get (D := G.1) (ci := 5) (v := .ref q_t_table) (C := RX5) (T := TX5) (N := 7) hx hb hts iX5 hown hK hP 0 rfl rfl 1 (by decide) fl_19 (fun _ h9 => h9) rfl dX5_next_27 ?_
      refine va_get (D := G.1) (ci := 3) (v := .int t_table_size) (C := RX3) (T := TX3) (N := 2) hx hb hts iX3 hown hK hP 1 rfl rfl 0 (by decide) fl_84 (fun _ h9 => h9) rfl dX5_next_30 ?_
      refine lv_icmp_ge (tgt := 65) hx hb dX5_next_33 (by decide) (fun c_33 => ?_) (fun c_33 => ?_)
      · replace hE := (if_pos c_33).symm.trans hE
        refine lv_iinc (v := v1_1 + (1 : Int32)) (lv' := [(1, .int (v1_1 + (1 : Int32))), (0, .ref q_t), (2, .int v2_2)]) hx hb dX5_next_65 hl (k := 1) rfl rfl (by decide) rfl (fun ls hl => ?_)
        refine lv_goto (tgt := 12) hx hb dX5_next_68 (by decide) ?_
        have e_2 := Option.some.inj hE
        have e_1 := hr_2 _ e_2.symm
        exact ih_1 _ e_1.symm ls (lv_sub hl [1, 0] rfl)
      · replace hE := (if_neg c_33).symm.trans hE
        refine lv_aload_n hx hb dX5_next_36 rfl (lv_at hl 0 rfl) ?_
        refine va_get (D := G.1) (ci := 5) (v := .ref q_t_table) (C := RX5) (T := TX5) (N := 7) hx hb hts iX5 hown hK hP 0 rfl rfl 1 (by decide) fl_19 (fun _ h9 => h9) rfl dX5_next_37 ?_
        refine lv_iload_n hx hb dX5_next_40 rfl (lv_at hl 1 rfl) ?_
        refine lv_iload_n hx hb dX5_next_41 rfl (lv_at hl 2 rfl) ?_
        refine lv_aload_n hx hb dX5_next_42 rfl (lv_at hl 0 rfl) ?_
        refine va_get (D := G.1) (ci := 5) (v := .ref q_t_other) (C := RX5) (T := TX5) (N := 7) hx hb hts iX5 hown hK hP 0 rfl rfl 2 (by decide) fl_23 (fun _ h9 => h9) rfl dX5_next_43 ?_
        obtain ⟨y46, hC_46, hE⟩ := Option.bind_eq_some_iff.mp hE
        obtain ⟨r_46, ex9⟩ : ∃ z, z = y46 := ⟨_, rfl⟩
        subst ex9
        try dsimp only at hE
        refine vp_callSi (va_Run.run (va_runV (As := [.int v1_1, .int v2_2, .ref q_t_other]) (rest := []) ⟨hx, hb, hml, hown, hts⟩ (c_X3_comesNearer (l := l) (G := G) (p1 := v1_1) (p2 := v2_2) (q_t := q_t_table) (t_size := t_table_size) (q_t_corners := q_t_table_corners) (t_corners := t_table_corners) (q_p3 := q_t_other) (p3_size := t_other_size) (q_p3_corners := q_t_other_corners) (p3_corners := t_other_corners) hC_46) (cwV 3 hts gX5_next_X3_comesNearer rfl rfl rfl kd_X3_comesNearer ⟨Nat.le_of_ble_eq_true rfl, Nat.le_of_ble_eq_true rfl⟩) (pv_V hKW (hP.sub (ws' := [oX3 q_t_table t_table_size q_t_table_corners, aI (G.2 1) q_t_table_corners 49 t_table_corners, oX3 q_t_other t_other_size q_t_other_corners, aI (G.2 1) q_t_other_corners 49 t_other_corners]) [1, 2, 3, 4] rfl) (ci := 3) (q0 := 0) rfl rfl) rfl rfl hl.1 rfl (lv_room (Nat.le_of_ble_eq_true rfl)) dX5_next_46 ⟨Nat.zero_le _, Nat.zero_le _⟩)) (fun r9 hr9 => ?_)
        subst r9
        refine lv_if_eq (tgt := 59) hx hb dX5_next_49 (by decide) (fun c_49 => ?_) (fun c_49 => ?_)
        · replace hE := (if_pos c_49).symm.trans hE
          refine lv_iinc (v := v2_2 + (1 : Int32)) (lv' := [(2, .int (v2_2 + (1 : Int32))), (0, .ref q_t), (1, .int v1_1)]) hx hb dX5_next_59 hl (k := 2) rfl rfl (by decide) rfl (fun ls hl => ?_)
          refine lv_goto (tgt := 25) hx hb dX5_next_62 (by decide) ?_
          have e_2 := Option.some.inj hE
          exact ih_2 _ e_2.symm ls (lv_sub hl [1, 2, 0] rfl)
        · replace hE := (if_neg c_49).symm.trans hE
          refine lv_bipush (v := 10) hx hb dX5_next_52 (by decide) ?_
          refine lv_iload_n hx hb dX5_next_54 rfl (lv_at hl 1 rfl) ?_
          refine lv_imul hx hb dX5_next_55 ?_
          refine lv_iload_n hx hb dX5_next_56 rfl (lv_at hl 2 rfl) ?_
          refine lv_iadd hx hb dX5_next_57 ?_
          have e_2 := Option.some.inj hE
          have e_1 := hr_2 _ e_2.symm
          have e_0 := hr_1 _ e_1.symm
          rw [hQ]
          exact W.iret (v := ((10 : Int32) * v1_1) + v2_2) hx hb hr (fun t ht _ => ⟨_, rfl, e_0, ht⟩) (fun q h => by cases h) dX5_next_58
  · replace hE := (if_pos c_4).symm.trans hE
    refine lv_bipush (v := -2) hx hb dX5_next_7 (by decide) ?_
    have e_0 := Option.some.inj hE
    rw [hQ]
    exact W.iret (v := (-2 : Int32)) hx hb hr (fun t ht _ => ⟨_, rfl, e_0, ht⟩) (fun q h => by cases h) dX5_next_9
def S_X5_both (p1 : Int32) (t_table_size : Int32) (t_table_corners : Nat → Int32) (t_other_size : Int32) (t_other_corners : Nat → Int32) (t_past_free : Int32) (t_past_held : Int32) (t_past_tables_e_size : Int32) (t_past_tables_e_corners : Nat → Int32) : Option (Int32 × (Nat → Int32) × Int32 × Int32 × Int32 × (Nat → Int32)) := (S_X5_isBetween p1 (0 : Int32) (1 : Int32)).bind (fun (y3 : Int32) => if y3 = 0 then some ((-1 : Int32), t_table_corners, t_past_free, t_past_held, t_past_tables_e_size, t_past_tables_e_corners) else (S_X5_hasLikeOther t_table_size t_other_size).bind (fun (y12 : Int32) => if y12 = 0 then some ((-2 : Int32), t_table_corners, t_past_free, t_past_held, t_past_tables_e_size, t_past_tables_e_corners) else (S_X2_remember t_past_free t_past_held t_past_tables_e_corners t_table_size t_table_corners).bind (fun (y29 : Int32 × Int32 × Int32 × (Nat → Int32)) => jn (if p1 = 0 then some (.inl (2 : Int32)) else some (.inl (1 : Int32))) (fun (x1 : Int32) => (S_X3_takeHeights x1 t_table_size t_table_corners t_other_corners).bind (fun (y49 : Int32 × (Nat → Int32)) => some (y49.1, y49.2, y29.1, y29.2.1, y29.2.2.1, y29.2.2.2))))))
theorem kd_X5_both : yX5_both.cls = RX5 ∧ yX5_both.cls ≠ "java/lang/invoke/MethodHandle" ∧ yX5_both.cls ≠ "java/lang/invoke/VarHandle" ∧ (parseMethodDescriptor yX5_both.desc).map (fun d => d.parameters.length) = some 1 := by decide +kernel
set_option maxHeartbeats 4000000 in
set_option maxRecDepth 100000 in
theorem c_X5_both {l : Launch} {G : kG} (sz : Nat) {p1 : Int32} {q_t : Nat} {q_t_text : Nat} {q_t_table : Nat} {q_t_other : Nat} {q_t_spare : Nat} {q_t_past : Nat} {q_t_lines : Nat} {q_t_sizes : Nat} {t_table_size : Int32} {q_t_table_corners : Nat} {t_table_corners : Nat → Int32} {t_other_size : Int32} {q_t_other_corners : Nat} {t_other_corners : Nat → Int32} {q_t_past_tables : Nat} {t_past_free : Int32} {t_past_held : Int32} {t_past_tables : Nat → Option Nat} {q_t_past_tables_e : Nat} {t_past_tables_e_size : Int32} {q_t_past_tables_e_corners : Nat} {t_past_tables_e_corners : Nat → Int32} {res : Int32 × (Nat → Int32) × Int32 × Int32 × Int32 × (Nat → Int32)} (he_0 : inb t_past_free 6 = true → t_past_tables t_past_free.toNatClampNeg = some q_t_past_tables_e) (hE : S_X5_both p1 t_table_size t_table_corners t_other_size t_other_corners t_past_free t_past_held t_past_tables_e_size t_past_tables_e_corners = some res) : Met l yX5_both wsX5_both ({ frames := 4, cells := 0, slots := 0, locals := 93 }) (va_Pc [.ref q_t, .int p1] (fun U => U.heap.size = sz ∧ va_P G.1 vwCl [oX5 q_t q_t_text q_t_table q_t_other q_t_spare q_t_past q_t_lines q_t_sizes, oX3 q_t_table t_table_size q_t_table_corners, aI (G.2 1) q_t_table_corners 49 t_table_corners, oX3 q_t_other t_other_size q_t_other_corners, aI (G.2 1) q_t_other_corners 49 t_other_corners, oX2 q_t_past q_t_past_tables t_past_free t_past_held, aQ (G.2 5) q_t_past_tables 6 t_past_tables, oX3 q_t_past_tables_e t_past_tables_e_size q_t_past_tables_e_corners, aI (G.2 1) q_t_past_tables_e_corners 49 t_past_tables_e_corners] U.heap ∧ kw G U ∧ va_D (fun _ => True) [oX5 q_t q_t_text q_t_table q_t_other q_t_spare q_t_past q_t_lines q_t_sizes, oX3 q_t_table t_table_size q_t_table_corners, aI (G.2 1) q_t_table_corners 49 t_table_corners, oX3 q_t_other t_other_size q_t_other_corners, aI (G.2 1) q_t_other_corners 49 t_other_corners, oX2 q_t_past q_t_past_tables t_past_free t_past_held, aQ (G.2 5) q_t_past_tables 6 t_past_tables, oX3 q_t_past_tables_e t_past_tables_e_size q_t_past_tables_e_corners, aI (G.2 1) q_t_past_tables_e_corners 49 t_past_tables_e_corners])) (va_Qi (fun r (_ : Unit) => r = res.1) (fun _ t => va_P G.1 vwCl [oX5 q_t q_t_text q_t_table q_t_other q_t_spare q_t_past q_t_lines q_t_sizes, oX3 q_t_table t_table_size q_t_table_corners, aI (G.2 1) q_t_table_corners 49 res.2.1, oX3 q_t_other t_other_size q_t_other_corners, aI (G.2 1) q_t_other_corners 49 t_other_corners, oX2 q_t_past q_t_past_tables res.2.2.1 res.2.2.2.1, aQ (G.2 5) q_t_past_tables 6 t_past_tables, oX3 q_t_past_tables_e res.2.2.2.2.1 q_t_past_tables_e_corners, aI (G.2 1) q_t_past_tables_e_corners 49 res.2.2.2.2.2] t.heap ∧ va_D (va_A [oX5 q_t q_t_text q_t_table q_t_other q_t_spare q_t_past q_t_lines q_t_sizes, oX3 q_t_table t_table_size q_t_table_corners, aI (G.2 1) q_t_table_corners 49 t_table_corners, oX3 q_t_other t_other_size q_t_other_corners, aI (G.2 1) q_t_other_corners 49 t_other_corners, oX2 q_t_past q_t_past_tables t_past_free t_past_held, aQ (G.2 5) q_t_past_tables 6 t_past_tables, oX3 q_t_past_tables_e t_past_tables_e_size q_t_past_tables_e_corners, aI (G.2 1) q_t_past_tables_e_corners 49 t_past_tables_e_corners] sz) [oX5 q_t q_t_text q_t_table q_t_other q_t_spare q_t_past q_t_lines q_t_sizes, oX3 q_t_table t_table_size q_t_table_corners, aI (G.2 1) q_t_table_corners 49 res.2.1, oX3 q_t_other t_other_size q_t_other_corners, aI (G.2 1) q_t_other_corners 49 t_other_corners, oX2 q_t_past q_t_past_tables res.2.2.1 res.2.2.2.1, aQ (G.2 5) q_t_past_tables 6 t_past_tables, oX3 q_t_past_tables_e res.2.2.2.2.1 q_t_past_tables_e_corners, aI (G.2 1) q_t_past_tables_e_corners 49 res.2.2.2.2.2]) (va_A [oX5 q_t q_t_text q_t_table q_t_other q_t_spare q_t_past q_t_lines q_t_sizes, oX3 q_t_table t_table_size q_t_table_corners, aI (G.2 1) q_t_table_corners 49 t_table_corners, oX3 q_t_other t_other_size q_t_other_corners, aI (G.2 1) q_t_other_corners 49 t_other_corners, oX2 q_t_past q_t_past_tables t_past_free t_past_held, aQ (G.2 5) q_t_past_tables 6 t_past_tables, oX3 q_t_past_tables_e t_past_tables_e_size q_t_past_tables_e_corners, aI (G.2 1) q_t_past_tables_e_corners 49 t_past_tables_e_corners] sz)) 0 0 (va_A [oX5 q_t q_t_text q_t_table q_t_other q_t_spare q_t_past q_t_lines q_t_sizes, oX3 q_t_table t_table_size q_t_table_corners, aI (G.2 1) q_t_table_corners 49 t_table_corners, oX3 q_t_other t_other_size q_t_other_corners, aI (G.2 1) q_t_other_corners 49 t_other_corners, oX2 q_t_past q_t_past_tables t_past_free t_past_held, aQ (G.2 5) q_t_past_tables 6 t_past_tables, oX3 q_t_past_tables_e t_past_tables_e_size q_t_past_tables_e_corners, aI (G.2 1) q_t_past_tables_e_corners 49 t_past_tables_e_corners] sz) := by
  refine Met.ofQ (cc := cX5_both) (maxL := 2) (ret := (some .int)) (by decide) rfl ?_
  intro p e s m args below meth c s₁ Q hQ B hml hv
  obtain ⟨rfl, hsz, hP, hKW, hD0⟩ := hv
  have hK := hKW.1
  have hx := B.exec
  have hb := B.bytes
  have hr := B.returns
  have hts := atoms_spec (ws := wsX5_both) B.pre
  have hown : s.vm.findClass RX5 = some m.cls := findClass_of_methodNamed B.named
  have hlocks := B.notSynchronized
  have iX5 : ∀ w ∈ u_ws RX5 TX5 7, w ∈ wsX5_both := by decide +kernel
  have fl_32 := hts (.fieldLink RX5 32 "AlternateSigns" "past" "LAlternateSigns$Past;") (by decide +kernel)
  have fl_19 := hts (.fieldLink RX5 19 "AlternateSigns" "table" "LAlternateSigns$Table;") (by decide +kernel)
  have fl_23 := hts (.fieldLink RX5 23 "AlternateSigns" "other" "LAlternateSigns$Table;") (by decide +kernel)
  subst hsz
  have hD := hD0.self (sz := s.heap.size)
  generalize hAe : va_A [oX5 q_t q_t_text q_t_table q_t_other q_t_spare q_t_past q_t_lines q_t_sizes, oX3 q_t_table t_table_size q_t_table_corners, aI (G.2 1) q_t_table_corners 49 t_table_corners, oX3 q_t_other t_other_size q_t_other_corners, aI (G.2 1) q_t_other_corners 49 t_other_corners, oX2 q_t_past q_t_past_tables t_past_free t_past_held, aQ (G.2 5) q_t_past_tables 6 t_past_tables, oX3 q_t_past_tables_e t_past_tables_e_size q_t_past_tables_e_corners, aI (G.2 1) q_t_past_tables_e_corners 49 t_past_tables_e_corners] s.heap.size = A at hD hQ
  have hA : ∀ q : Nat, s.heap.size ≤ q → A q := fun q h => by rw [← hAe]; exact Or.inr h
  have hS : va_S A s.heap s.heap [] := va_S.rf
  have hl := lv_entry ([.ref q_t, .int p1]) (n := 2) (Nat.le_of_ble_eq_true rfl)
  rw [lg_entry_eq]
  generalize (lg_sl ([.ref q_t, .int p1]) ++ List.replicate (2 - (lg_sl ([.ref q_t, .int p1])).length) Slot.unset).toArray = ls at hl ⊢
  have hl : lv_has ls 2 [(0, .ref q_t), (1, .int p1)] := hl
  unfold S_X5_both at hE
  refine lv_iload_n hx hb dX5_both_0 rfl (lv_at hl 1 rfl) ?_
  refine lv_iconst (v := 0) hx hb dX5_both_1 (by decide) ?_
  refine lv_iconst (v := 1) hx hb dX5_both_2 (by decide) ?_
  obtain ⟨y3, hC_3, hE⟩ := Option.bind_eq_some_iff.mp hE
  obtain ⟨r_3, ex9⟩ : ∃ z, z = y3 := ⟨_, rfl⟩
  subst ex9
  try dsimp only at hE
  refine vp_callSi (va_Run.run (va_runS (As := [.int p1, .int (0 : Int32), .int (1 : Int32)]) (rest := []) ⟨hx, hb, hml, hown, hts⟩ (c_X5_isBetween (l := l) (G := G) (p1 := p1) (p2 := (0 : Int32)) (p3 := (1 : Int32)) hC_3) (va_cwS 3 hts gX5_both_X5_isBetween rfl rfl rfl kd_X5_isBetween ⟨Nat.le_of_ble_eq_true rfl, Nat.le_of_ble_eq_true rfl⟩) (pv_S hKW (hP.sub (ws' := []) [] rfl)) rfl rfl hl.1 rfl (lv_room (Nat.le_of_ble_eq_true rfl)) dX5_both_3 ⟨Nat.zero_le _, Nat.zero_le _⟩)) (fun r9 hr9 => ?_)
  subst r9
  refine lv_if_ne (tgt := 11) hx hb dX5_both_6 (by decide) (fun c_6 => ?_) (fun c_6 => ?_)
  · replace hE := (if_neg c_6).symm.trans hE
    refine lv_aload_n hx hb dX5_both_11 rfl (lv_at hl 0 rfl) ?_
    obtain ⟨y12, hC_12, hE⟩ := Option.bind_eq_some_iff.mp hE
    obtain ⟨r_12, ex9⟩ : ∃ z, z = y12 := ⟨_, rfl⟩
    subst ex9
    try dsimp only at hE
    refine vp_callSi (va_Run.run (va_runV (As := []) (rest := []) ⟨hx, hb, hml, hown, hts⟩ (c_X5_hasLikeOther (l := l) (G := G) (q_t := q_t) (q_t_text := q_t_text) (q_t_table := q_t_table) (q_t_other := q_t_other) (q_t_spare := q_t_spare) (q_t_past := q_t_past) (q_t_lines := q_t_lines) (q_t_sizes := q_t_sizes) (t_table_size := t_table_size) (q_t_table_corners := q_t_table_corners) (t_other_size := t_other_size) (q_t_other_corners := q_t_other_corners) hC_12) (cwV 0 hts gX5_both_X5_hasLikeOther rfl rfl rfl kd_X5_hasLikeOther ⟨Nat.le_of_ble_eq_true rfl, Nat.le_of_ble_eq_true rfl⟩) (pv_V hKW (hP.sub (ws' := [oX5 q_t q_t_text q_t_table q_t_other q_t_spare q_t_past q_t_lines q_t_sizes, oX3 q_t_table t_table_size q_t_table_corners, oX3 q_t_other t_other_size q_t_other_corners]) [0, 1, 3] rfl) (ci := 5) (q0 := 0) rfl rfl) rfl rfl hl.1 rfl (lv_room (Nat.le_of_ble_eq_true rfl)) dX5_both_12 ⟨Nat.zero_le _, Nat.zero_le _⟩)) (fun r9 hr9 => ?_)
    subst r9
    refine lv_if_ne (tgt := 21) hx hb dX5_both_15 (by decide) (fun c_15 => ?_) (fun c_15 => ?_)
    · replace hE := (if_neg c_15).symm.trans hE
      refine lv_aload_n hx hb dX5_both_21 rfl (lv_at hl 0 rfl) ?_
      refine va_get (D := G.1) (ci := 5) (v := .ref q_t_past) (C := RX5) (T := TX5) (N := 7) hx hb hts iX5 hown hK hP 0 rfl rfl 4 (by decide) fl_32 (fun _ h9 => h9) rfl dX5_both_22 ?_
      refine lv_aload_n hx hb dX5_both_25 rfl (lv_at hl 0 rfl) ?_
      refine va_get (D := G.1) (ci := 5) (v := .ref q_t_table) (C := RX5) (T := TX5) (N := 7) hx hb hts iX5 hown hK hP 0 rfl rfl 1 (by decide) fl_19 (fun _ h9 => h9) rfl dX5_both_26 ?_
      obtain ⟨y29, hC_29, hE⟩ := Option.bind_eq_some_iff.mp hE
      obtain ⟨m_29_0, m_29_1, m_29_2, m_29_3⟩ := y29
      try dsimp only at hE
      have hPc := hP.sub (ws' := [oX2 q_t_past q_t_past_tables t_past_free t_past_held, aQ (G.2 5) q_t_past_tables 6 t_past_tables, oX3 q_t_past_tables_e t_past_tables_e_size q_t_past_tables_e_corners, aI (G.2 1) q_t_past_tables_e_corners 49 t_past_tables_e_corners, oX3 q_t_table t_table_size q_t_table_corners, aI (G.2 1) q_t_table_corners 49 t_table_corners]) [5, 6, 7, 8, 1, 2] rfl
      have hDc := hD.sub (ws' := [oX2 q_t_past q_t_past_tables t_past_free t_past_held, aQ (G.2 5) q_t_past_tables 6 t_past_tables, oX3 q_t_past_tables_e t_past_tables_e_size q_t_past_tables_e_corners, aI (G.2 1) q_t_past_tables_e_corners 49 t_past_tables_e_corners, oX3 q_t_table t_table_size q_t_table_corners, aI (G.2 1) q_t_table_corners 49 t_table_corners]) [5, 6, 7, 8, 1, 2] (by decide) rfl
      have hFc := va_free (wc := [oX2 q_t_past q_t_past_tables t_past_free t_past_held, aQ (G.2 5) q_t_past_tables 6 t_past_tables, oX3 q_t_past_tables_e t_past_tables_e_size q_t_past_tables_e_corners, aI (G.2 1) q_t_past_tables_e_corners 49 t_past_tables_e_corners, oX3 q_t_table t_table_size q_t_table_corners, aI (G.2 1) q_t_table_corners 49 t_table_corners]) hD hS hA [5, 6, 7, 8, 1, 2] rfl
      refine va_callv (va_runV (As := [.ref q_t_table]) (rest := []) ⟨hx, hb, hml, hown, hts⟩ (c_X2_remember (l := l) (G := G) _ (q_t := q_t_past) (q_t_tables := q_t_past_tables) (t_free := t_past_free) (t_held := t_past_held) (t_tables := t_past_tables) (q_t_tables_e := q_t_past_tables_e) (t_tables_e_size := t_past_tables_e_size) (q_t_tables_e_corners := q_t_past_tables_e_corners) (t_tables_e_corners := t_past_tables_e_corners) (q_p1 := q_t_table) (p1_size := t_table_size) (q_p1_corners := q_t_table_corners) (p1_corners := t_table_corners) he_0 hC_29) (cwV 1 hts gX5_both_X2_remember rfl rfl rfl kd_X2_remember ⟨Nat.le_of_ble_eq_true rfl, Nat.le_of_ble_eq_true rfl⟩) (iv_V hKW hPc hDc (ci := 2) (q0 := 0) rfl rfl) rfl rfl hl.1 rfl (lv_room (Nat.le_of_ble_eq_true rfl)) dX5_both_29 ⟨Nat.zero_le _, Nat.zero_le _⟩) hS (fun q _ h => hFc q h) hFc (fun u9 t9 H1 locs ht9 hvm9 hw9 hB9 hz9 hk9 hS => ?_)
      obtain ⟨hP1, hD1⟩ := hB9
      rw [ht9] at hP1
      obtain ⟨hP, hD⟩ := va_join (wr := [oX5 q_t q_t_text q_t_table q_t_other q_t_spare q_t_past q_t_lines q_t_sizes, oX3 q_t_other t_other_size q_t_other_corners, aI (G.2 1) q_t_other_corners 49 t_other_corners]) (w1 := [oX2 q_t_past q_t_past_tables m_29_0 m_29_1, aQ (G.2 5) q_t_past_tables 6 t_past_tables, oX3 q_t_past_tables_e m_29_2 q_t_past_tables_e_corners, aI (G.2 1) q_t_past_tables_e_corners 49 m_29_3, oX3 q_t_table t_table_size q_t_table_corners, aI (G.2 1) q_t_table_corners 49 t_table_corners]) hP hD [5, 6, 7, 8, 1, 2] [0, 3, 4] rfl rfl (by decide) (by decide) hk9 hFc hP1 hD1
      have hP := hP.sub (ws' := [oX5 q_t q_t_text q_t_table q_t_other q_t_spare q_t_past q_t_lines q_t_sizes, oX3 q_t_table t_table_size q_t_table_corners, aI (G.2 1) q_t_table_corners 49 t_table_corners, oX3 q_t_other t_other_size q_t_other_corners, aI (G.2 1) q_t_other_corners 49 t_other_corners, oX2 q_t_past q_t_past_tables m_29_0 m_29_1, aQ (G.2 5) q_t_past_tables 6 t_past_tables, oX3 q_t_past_tables_e m_29_2 q_t_past_tables_e_corners, aI (G.2 1) q_t_past_tables_e_corners 49 m_29_3]) [0, 7, 8, 1, 2, 3, 4, 5, 6] rfl
      have hD := hD.sub (ws' := [oX5 q_t q_t_text q_t_table q_t_other q_t_spare q_t_past q_t_lines q_t_sizes, oX3 q_t_table t_table_size q_t_table_corners, aI (G.2 1) q_t_table_corners 49 t_table_corners, oX3 q_t_other t_other_size q_t_other_corners, aI (G.2 1) q_t_other_corners 49 t_other_corners, oX2 q_t_past q_t_past_tables m_29_0 m_29_1, aQ (G.2 5) q_t_past_tables 6 t_past_tables, oX3 q_t_past_tables_e m_29_2 q_t_past_tables_e_corners, aI (G.2 1) q_t_past_tables_e_corners 49 m_29_3]) [0, 7, 8, 1, 2, 3, 4, 5, 6] (by decide) rfl
      clear hPc hDc hFc hP1 hD1 hk9 hz9 hvm9
      refine lv_aload_n hx hb dX5_both_32 rfl (lv_at hl 0 rfl) ?_
      refine va_get (D := G.1) (ci := 5) (v := .ref q_t_table) (C := RX5) (T := TX5) (N := 7) hx hb hts iX5 hown hK hP 0 rfl rfl 1 (by decide) fl_19 (fun _ h9 => h9) rfl dX5_both_33 ?_
      refine lv_iload_n hx hb dX5_both_36 rfl (lv_at hl 1 rfl) ?_
      obtain ⟨o_1, hEp, hk9, hr_1⟩ := jn_some hE
      have ih_1 : ∀ (x1 : Int32), o_1 = .inl x1 → ∀ (H : Heap) (locs : List Loc) (ls : Array Slot), va_P G.1 vwCl [oX5 q_t q_t_text q_t_table q_t_other q_t_spare q_t_past q_t_lines q_t_sizes, oX3 q_t_table t_table_size q_t_table_corners, aI (G.2 1) q_t_table_corners 49 t_table_corners, oX3 q_t_other t_other_size q_t_other_corners, aI (G.2 1) q_t_other_corners 49 t_other_corners, oX2 q_t_past q_t_past_tables m_29_0 m_29_1, aQ (G.2 5) q_t_past_tables 6 t_past_tables, oX3 q_t_past_tables_e m_29_2 q_t_past_tables_e_corners, aI (G.2 1) q_t_past_tables_e_corners 49 m_29_3] H → va_D A [oX5 q_t q_t_text q_t_table q_t_other q_t_spare q_t_past q_t_lines q_t_sizes, oX3 q_t_table t_table_size q_t_table_corners, aI (G.2 1) q_t_table_corners 49 t_table_corners, oX3 q_t_other t_other_size q_t_other_corners, aI (G.2 1) q_t_other_corners 49 t_other_corners, oX2 q_t_past q_t_past_tables m_29_0 m_29_1, aQ (G.2 5) q_t_past_tables 6 t_past_tables, oX3 q_t_past_tables_e m_29_2 q_t_past_tables_e_corners, aI (G.2 1) q_t_past_tables_e_corners 49 m_29_3] → va_S A s.heap H locs → lv_has ls 2 [(0, .ref q_t)] → W p l e (headSpec wsX5_both ({ frames := 4, cells := 0, slots := 0, locals := 93 })).room s m ([.ref q_t, .int p1] : List Value).toArray below meth c H locs 0 0 Q (F0 m 45 ls [.int x1, .ref q_t_table]) := by
        intro x1 ho9
        have hE := hk9 _ ho9
        obtain ⟨k1_1, ex9⟩ : ∃ z, z = x1 := ⟨_, rfl⟩
        subst ex9
        try dsimp only at hE
        intro H locs ls hP hD hS hl
        try dsimp only at hP hD hl ⊢
        refine lv_aload_n hx hb dX5_both_45 rfl (lv_at hl 0 rfl) ?_
        refine va_get (D := G.1) (ci := 5) (v := .ref q_t_other) (C := RX5) (T := TX5) (N := 7) hx hb hts iX5 hown hK hP 0 rfl rfl 2 (by decide) fl_23 (fun _ h9 => h9) rfl dX5_both_46 ?_
        obtain ⟨y49, hC_49, hE⟩ := Option.bind_eq_some_iff.mp hE
        obtain ⟨r_49, m_49_0⟩ := y49
        try dsimp only at hE
        have hPc := hP.sub (ws' := [oX3 q_t_table t_table_size q_t_table_corners, aI (G.2 1) q_t_table_corners 49 t_table_corners, oX3 q_t_other t_other_size q_t_other_corners, aI (G.2 1) q_t_other_corners 49 t_other_corners]) [1, 2, 3, 4] rfl
        have hDc := hD.sub (ws' := [oX3 q_t_table t_table_size q_t_table_corners, aI (G.2 1) q_t_table_corners 49 t_table_corners, oX3 q_t_other t_other_size q_t_other_corners, aI (G.2 1) q_t_other_corners 49 t_other_corners]) [1, 2, 3, 4] (by decide) rfl
        have hFc := va_free (wc := [oX3 q_t_table t_table_size q_t_table_corners, aI (G.2 1) q_t_table_corners 49 t_table_corners, oX3 q_t_other t_other_size q_t_other_corners, aI (G.2 1) q_t_other_corners 49 t_other_corners]) hD hS hA [1, 2, 3, 4] rfl
        refine va_calli (va_runV (As := [.int k1_1, .ref q_t_other]) (rest := []) ⟨hx, hb, hml, hown, hts⟩ (c_X3_takeHeights (l := l) (G := G) _ (p1 := k1_1) (q_t := q_t_table) (t_size := t_table_size) (q_t_corners := q_t_table_corners) (t_corners := t_table_corners) (q_p2 := q_t_other) (p2_size := t_other_size) (q_p2_corners := q_t_other_corners) (p2_corners := t_other_corners) hC_49) (cwV 2 hts gX5_both_X3_takeHeights rfl rfl rfl kd_X3_takeHeights ⟨Nat.le_of_ble_eq_true rfl, Nat.le_of_ble_eq_true rfl⟩) (iv_V hKW hPc hDc (ci := 3) (q0 := 0) rfl rfl) rfl rfl hl.1 rfl (lv_room (Nat.le_of_ble_eq_true rfl)) dX5_both_49 ⟨Nat.zero_le _, Nat.zero_le _⟩) hS (fun q _ h => hFc q h) hFc (fun r9 u9 t9 H1 locs ht9 hvm9 hw9 hB9 hz9 hk9 hS => ?_)
        subst r9
        obtain ⟨hP1, hD1⟩ := hB9
        rw [ht9] at hP1
        obtain ⟨hP, hD⟩ := va_join (wr := [oX5 q_t q_t_text q_t_table q_t_other q_t_spare q_t_past q_t_lines q_t_sizes, oX2 q_t_past q_t_past_tables m_29_0 m_29_1, aQ (G.2 5) q_t_past_tables 6 t_past_tables, oX3 q_t_past_tables_e m_29_2 q_t_past_tables_e_corners, aI (G.2 1) q_t_past_tables_e_corners 49 m_29_3]) (w1 := [oX3 q_t_table t_table_size q_t_table_corners, aI (G.2 1) q_t_table_corners 49 m_49_0, oX3 q_t_other t_other_size q_t_other_corners, aI (G.2 1) q_t_other_corners 49 t_other_corners]) hP hD [1, 2, 3, 4] [0, 5, 6, 7, 8] rfl rfl (by decide) (by decide) hk9 hFc hP1 hD1
        have hP := hP.sub (ws' := [oX5 q_t q_t_text q_t_table q_t_other q_t_spare q_t_past q_t_lines q_t_sizes, oX3 q_t_table t_table_size q_t_table_corners, aI (G.2 1) q_t_table_corners 49 m_49_0, oX3 q_t_other t_other_size q_t_other_corners, aI (G.2 1) q_t_other_corners 49 t_other_corners, oX2 q_t_past q_t_past_tables m_29_0 m_29_1, aQ (G.2 5) q_t_past_tables 6 t_past_tables, oX3 q_t_past_tables_e m_29_2 q_t_past_tables_e_corners, aI (G.2 1) q_t_past_tables_e_corners 49 m_29_3]) [0, 5, 6, 7, 8, 1, 2, 3, 4] rfl
        have hD := hD.sub (ws' := [oX5 q_t q_t_text q_t_table q_t_other q_t_spare q_t_past q_t_lines q_t_sizes, oX3 q_t_table t_table_size q_t_table_corners, aI (G.2 1) q_t_table_corners 49 m_49_0, oX3 q_t_other t_other_size q_t_other_corners, aI (G.2 1) q_t_other_corners 49 t_other_corners, oX2 q_t_past q_t_past_tables m_29_0 m_29_1, aQ (G.2 5) q_t_past_tables 6 t_past_tables, oX3 q_t_past_tables_e m_29_2 q_t_past_tables_e_corners, aI (G.2 1) q_t_past_tables_e_corners 49 m_29_3]) [0, 5, 6, 7, 8, 1, 2, 3, 4] (by decide) rfl
        clear hPc hDc hFc hP1 hD1 hk9 hz9 hvm9
        have e_0 := Option.some.inj hE
        subst e_0
        rw [hQ]
        exact W.iret (v := r_49) hx hb hr (fun t ht _ => ⟨⟨_, (), rfl, rfl, by rw [ht]; exact hP, hD⟩, hS.F ht⟩) hS.2.2 dX5_both_52
      clear hE hk9
      have hE := hEp
      clear hEp
      refine lv_if_ne (tgt := 44) hx hb dX5_both_37 (by decide) (fun c_37 => ?_) (fun c_37 => ?_)
      · replace hE := (if_neg c_37).symm.trans hE
        refine lv_iconst (v := 1) hx hb dX5_both_44 (by decide) ?_
        have e_1 := Option.some.inj hE
        exact ih_1 _ e_1.symm _ _ ls hP hD hS (lv_sub hl [0] rfl)
      · replace hE := (if_pos c_37).symm.trans hE
        refine lv_iconst (v := 2) hx hb dX5_both_40 (by decide) ?_
        refine lv_goto (tgt := 45) hx hb dX5_both_41 (by decide) ?_
        have e_1 := Option.some.inj hE
        exact ih_1 _ e_1.symm _ _ ls hP hD hS (lv_sub hl [0] rfl)
    · replace hE := (if_pos c_15).symm.trans hE
      refine lv_bipush (v := -2) hx hb dX5_both_18 (by decide) ?_
      have e_0 := Option.some.inj hE
      subst e_0
      rw [hQ]
      exact W.iret (v := (-2 : Int32)) hx hb hr (fun t ht _ => ⟨⟨_, (), rfl, rfl, by rw [ht]; exact hP, hD⟩, hS.F ht⟩) hS.2.2 dX5_both_20
  · replace hE := (if_pos c_6).symm.trans hE
    refine lv_iconst (v := -1) hx hb dX5_both_9 (by decide) ?_
    have e_0 := Option.some.inj hE
    subst e_0
    rw [hQ]
    exact W.iret (v := (-1 : Int32)) hx hb hr (fun t ht _ => ⟨⟨_, (), rfl, rfl, by rw [ht]; exact hP, hD⟩, hS.F ht⟩) hS.2.2 dX5_both_10
def S_X5_turn (p1 : Int32) (t_table_size : Int32) (t_table_corners : Nat → Int32) (t_spare_size : Int32) (t_spare_corners : Nat → Int32) (t_past_free : Int32) (t_past_held : Int32) (t_past_tables_e_size : Int32) (t_past_tables_e_corners : Nat → Int32) : Option (Int32 × (Nat → Int32) × Int32 × (Nat → Int32) × Int32 × Int32 × Int32 × (Nat → Int32)) := (S_X5_isBetween p1 (1 : Int32) (6 : Int32)).bind (fun (y4 : Int32) => if y4 = 0 then some ((-1 : Int32), t_table_corners, t_spare_size, t_spare_corners, t_past_free, t_past_held, t_past_tables_e_size, t_past_tables_e_corners) else (S_X2_remember t_past_free t_past_held t_past_tables_e_corners t_table_size t_table_corners).bind (fun (y20 : Int32 × Int32 × Int32 × (Nat → Int32)) => (S_X3_copy t_spare_corners t_table_size t_table_corners).bind (fun (y31 : Int32 × (Nat → Int32)) => (S_X3_putTurned p1 t_table_size t_table_corners y31.1 y31.2).bind (fun (y43 : Nat → Int32) => (S_X3_unlikeSigns t_table_size y43 y31.2).bind (fun (y54 : Int32) => some (y54, y43, y31.1, y31.2, y20.1, y20.2.1, y20.2.2.1, y20.2.2.2))))))
theorem kd_X5_turn : yX5_turn.cls = RX5 ∧ yX5_turn.cls ≠ "java/lang/invoke/MethodHandle" ∧ yX5_turn.cls ≠ "java/lang/invoke/VarHandle" ∧ (parseMethodDescriptor yX5_turn.desc).map (fun d => d.parameters.length) = some 1 := by decide +kernel
set_option maxHeartbeats 4000000 in
set_option maxRecDepth 100000 in
theorem c_X5_turn {l : Launch} {G : kG} (sz : Nat) {p1 : Int32} {q_t : Nat} {q_t_text : Nat} {q_t_table : Nat} {q_t_other : Nat} {q_t_spare : Nat} {q_t_past : Nat} {q_t_lines : Nat} {q_t_sizes : Nat} {t_table_size : Int32} {q_t_table_corners : Nat} {t_table_corners : Nat → Int32} {t_spare_size : Int32} {q_t_spare_corners : Nat} {t_spare_corners : Nat → Int32} {q_t_past_tables : Nat} {t_past_free : Int32} {t_past_held : Int32} {t_past_tables : Nat → Option Nat} {q_t_past_tables_e : Nat} {t_past_tables_e_size : Int32} {q_t_past_tables_e_corners : Nat} {t_past_tables_e_corners : Nat → Int32} {res : Int32 × (Nat → Int32) × Int32 × (Nat → Int32) × Int32 × Int32 × Int32 × (Nat → Int32)} (he_0 : inb t_past_free 6 = true → t_past_tables t_past_free.toNatClampNeg = some q_t_past_tables_e) (hE : S_X5_turn p1 t_table_size t_table_corners t_spare_size t_spare_corners t_past_free t_past_held t_past_tables_e_size t_past_tables_e_corners = some res) : Met l yX5_turn wsX5_turn ({ frames := 5, cells := 0, slots := 0, locals := 115 }) (va_Pc [.ref q_t, .int p1] (fun U => U.heap.size = sz ∧ va_P G.1 vwCl [oX5 q_t q_t_text q_t_table q_t_other q_t_spare q_t_past q_t_lines q_t_sizes, oX3 q_t_table t_table_size q_t_table_corners, aI (G.2 1) q_t_table_corners 49 t_table_corners, oX3 q_t_spare t_spare_size q_t_spare_corners, aI (G.2 1) q_t_spare_corners 49 t_spare_corners, oX2 q_t_past q_t_past_tables t_past_free t_past_held, aQ (G.2 5) q_t_past_tables 6 t_past_tables, oX3 q_t_past_tables_e t_past_tables_e_size q_t_past_tables_e_corners, aI (G.2 1) q_t_past_tables_e_corners 49 t_past_tables_e_corners] U.heap ∧ kw G U ∧ va_D (fun _ => True) [oX5 q_t q_t_text q_t_table q_t_other q_t_spare q_t_past q_t_lines q_t_sizes, oX3 q_t_table t_table_size q_t_table_corners, aI (G.2 1) q_t_table_corners 49 t_table_corners, oX3 q_t_spare t_spare_size q_t_spare_corners, aI (G.2 1) q_t_spare_corners 49 t_spare_corners, oX2 q_t_past q_t_past_tables t_past_free t_past_held, aQ (G.2 5) q_t_past_tables 6 t_past_tables, oX3 q_t_past_tables_e t_past_tables_e_size q_t_past_tables_e_corners, aI (G.2 1) q_t_past_tables_e_corners 49 t_past_tables_e_corners])) (va_Qi (fun r (_ : Unit) => r = res.1) (fun _ t => va_P G.1 vwCl [oX5 q_t q_t_text q_t_table q_t_other q_t_spare q_t_past q_t_lines q_t_sizes, oX3 q_t_table t_table_size q_t_table_corners, aI (G.2 1) q_t_table_corners 49 res.2.1, oX3 q_t_spare res.2.2.1 q_t_spare_corners, aI (G.2 1) q_t_spare_corners 49 res.2.2.2.1, oX2 q_t_past q_t_past_tables res.2.2.2.2.1 res.2.2.2.2.2.1, aQ (G.2 5) q_t_past_tables 6 t_past_tables, oX3 q_t_past_tables_e res.2.2.2.2.2.2.1 q_t_past_tables_e_corners, aI (G.2 1) q_t_past_tables_e_corners 49 res.2.2.2.2.2.2.2] t.heap ∧ va_D (va_A [oX5 q_t q_t_text q_t_table q_t_other q_t_spare q_t_past q_t_lines q_t_sizes, oX3 q_t_table t_table_size q_t_table_corners, aI (G.2 1) q_t_table_corners 49 t_table_corners, oX3 q_t_spare t_spare_size q_t_spare_corners, aI (G.2 1) q_t_spare_corners 49 t_spare_corners, oX2 q_t_past q_t_past_tables t_past_free t_past_held, aQ (G.2 5) q_t_past_tables 6 t_past_tables, oX3 q_t_past_tables_e t_past_tables_e_size q_t_past_tables_e_corners, aI (G.2 1) q_t_past_tables_e_corners 49 t_past_tables_e_corners] sz) [oX5 q_t q_t_text q_t_table q_t_other q_t_spare q_t_past q_t_lines q_t_sizes, oX3 q_t_table t_table_size q_t_table_corners, aI (G.2 1) q_t_table_corners 49 res.2.1, oX3 q_t_spare res.2.2.1 q_t_spare_corners, aI (G.2 1) q_t_spare_corners 49 res.2.2.2.1, oX2 q_t_past q_t_past_tables res.2.2.2.2.1 res.2.2.2.2.2.1, aQ (G.2 5) q_t_past_tables 6 t_past_tables, oX3 q_t_past_tables_e res.2.2.2.2.2.2.1 q_t_past_tables_e_corners, aI (G.2 1) q_t_past_tables_e_corners 49 res.2.2.2.2.2.2.2]) (va_A [oX5 q_t q_t_text q_t_table q_t_other q_t_spare q_t_past q_t_lines q_t_sizes, oX3 q_t_table t_table_size q_t_table_corners, aI (G.2 1) q_t_table_corners 49 t_table_corners, oX3 q_t_spare t_spare_size q_t_spare_corners, aI (G.2 1) q_t_spare_corners 49 t_spare_corners, oX2 q_t_past q_t_past_tables t_past_free t_past_held, aQ (G.2 5) q_t_past_tables 6 t_past_tables, oX3 q_t_past_tables_e t_past_tables_e_size q_t_past_tables_e_corners, aI (G.2 1) q_t_past_tables_e_corners 49 t_past_tables_e_corners] sz)) 0 0 (va_A [oX5 q_t q_t_text q_t_table q_t_other q_t_spare q_t_past q_t_lines q_t_sizes, oX3 q_t_table t_table_size q_t_table_corners, aI (G.2 1) q_t_table_corners 49 t_table_corners, oX3 q_t_spare t_spare_size q_t_spare_corners, aI (G.2 1) q_t_spare_corners 49 t_spare_corners, oX2 q_t_past q_t_past_tables t_past_free t_past_held, aQ (G.2 5) q_t_past_tables 6 t_past_tables, oX3 q_t_past_tables_e t_past_tables_e_size q_t_past_tables_e_corners, aI (G.2 1) q_t_past_tables_e_corners 49 t_past_tables_e_corners] sz) := by
  refine Met.ofQ (cc := cX5_turn) (maxL := 2) (ret := (some .int)) (by decide) rfl ?_
  intro p e s m args below meth c s₁ Q hQ B hml hv
  obtain ⟨rfl, hsz, hP, hKW, hD0⟩ := hv
  have hK := hKW.1
  have hx := B.exec
  have hb := B.bytes
  have hr := B.returns
  have hts := atoms_spec (ws := wsX5_turn) B.pre
  have hown : s.vm.findClass RX5 = some m.cls := findClass_of_methodNamed B.named
  have hlocks := B.notSynchronized
  have iX5 : ∀ w ∈ u_ws RX5 TX5 7, w ∈ wsX5_turn := by decide +kernel
  have fl_32 := hts (.fieldLink RX5 32 "AlternateSigns" "past" "LAlternateSigns$Past;") (by decide +kernel)
  have fl_19 := hts (.fieldLink RX5 19 "AlternateSigns" "table" "LAlternateSigns$Table;") (by decide +kernel)
  have fl_26 := hts (.fieldLink RX5 26 "AlternateSigns" "spare" "LAlternateSigns$Table;") (by decide +kernel)
  subst hsz
  have hD := hD0.self (sz := s.heap.size)
  generalize hAe : va_A [oX5 q_t q_t_text q_t_table q_t_other q_t_spare q_t_past q_t_lines q_t_sizes, oX3 q_t_table t_table_size q_t_table_corners, aI (G.2 1) q_t_table_corners 49 t_table_corners, oX3 q_t_spare t_spare_size q_t_spare_corners, aI (G.2 1) q_t_spare_corners 49 t_spare_corners, oX2 q_t_past q_t_past_tables t_past_free t_past_held, aQ (G.2 5) q_t_past_tables 6 t_past_tables, oX3 q_t_past_tables_e t_past_tables_e_size q_t_past_tables_e_corners, aI (G.2 1) q_t_past_tables_e_corners 49 t_past_tables_e_corners] s.heap.size = A at hD hQ
  have hA : ∀ q : Nat, s.heap.size ≤ q → A q := fun q h => by rw [← hAe]; exact Or.inr h
  have hS : va_S A s.heap s.heap [] := va_S.rf
  have hl := lv_entry ([.ref q_t, .int p1]) (n := 2) (Nat.le_of_ble_eq_true rfl)
  rw [lg_entry_eq]
  generalize (lg_sl ([.ref q_t, .int p1]) ++ List.replicate (2 - (lg_sl ([.ref q_t, .int p1])).length) Slot.unset).toArray = ls at hl ⊢
  have hl : lv_has ls 2 [(0, .ref q_t), (1, .int p1)] := hl
  unfold S_X5_turn at hE
  refine lv_iload_n hx hb dX5_turn_0 rfl (lv_at hl 1 rfl) ?_
  refine lv_iconst (v := 1) hx hb dX5_turn_1 (by decide) ?_
  refine lv_bipush (v := 6) hx hb dX5_turn_2 (by decide) ?_
  obtain ⟨y4, hC_4, hE⟩ := Option.bind_eq_some_iff.mp hE
  obtain ⟨r_4, ex9⟩ : ∃ z, z = y4 := ⟨_, rfl⟩
  subst ex9
  try dsimp only at hE
  refine vp_callSi (va_Run.run (va_runS (As := [.int p1, .int (1 : Int32), .int (6 : Int32)]) (rest := []) ⟨hx, hb, hml, hown, hts⟩ (c_X5_isBetween (l := l) (G := G) (p1 := p1) (p2 := (1 : Int32)) (p3 := (6 : Int32)) hC_4) (va_cwS 3 hts gX5_turn_X5_isBetween rfl rfl rfl kd_X5_isBetween ⟨Nat.le_of_ble_eq_true rfl, Nat.le_of_ble_eq_true rfl⟩) (pv_S hKW (hP.sub (ws' := []) [] rfl)) rfl rfl hl.1 rfl (lv_room (Nat.le_of_ble_eq_true rfl)) dX5_turn_4 ⟨Nat.zero_le _, Nat.zero_le _⟩)) (fun r9 hr9 => ?_)
  subst r9
  refine lv_if_ne (tgt := 12) hx hb dX5_turn_7 (by decide) (fun c_7 => ?_) (fun c_7 => ?_)
  · replace hE := (if_neg c_7).symm.trans hE
    refine lv_aload_n hx hb dX5_turn_12 rfl (lv_at hl 0 rfl) ?_
    refine va_get (D := G.1) (ci := 5) (v := .ref q_t_past) (C := RX5) (T := TX5) (N := 7) hx hb hts iX5 hown hK hP 0 rfl rfl 4 (by decide) fl_32 (fun _ h9 => h9) rfl dX5_turn_13 ?_
    refine lv_aload_n hx hb dX5_turn_16 rfl (lv_at hl 0 rfl) ?_
    refine va_get (D := G.1) (ci := 5) (v := .ref q_t_table) (C := RX5) (T := TX5) (N := 7) hx hb hts iX5 hown hK hP 0 rfl rfl 1 (by decide) fl_19 (fun _ h9 => h9) rfl dX5_turn_17 ?_
    obtain ⟨y20, hC_20, hE⟩ := Option.bind_eq_some_iff.mp hE
    obtain ⟨m_20_0, m_20_1, m_20_2, m_20_3⟩ := y20
    try dsimp only at hE
    have hPc := hP.sub (ws' := [oX2 q_t_past q_t_past_tables t_past_free t_past_held, aQ (G.2 5) q_t_past_tables 6 t_past_tables, oX3 q_t_past_tables_e t_past_tables_e_size q_t_past_tables_e_corners, aI (G.2 1) q_t_past_tables_e_corners 49 t_past_tables_e_corners, oX3 q_t_table t_table_size q_t_table_corners, aI (G.2 1) q_t_table_corners 49 t_table_corners]) [5, 6, 7, 8, 1, 2] rfl
    have hDc := hD.sub (ws' := [oX2 q_t_past q_t_past_tables t_past_free t_past_held, aQ (G.2 5) q_t_past_tables 6 t_past_tables, oX3 q_t_past_tables_e t_past_tables_e_size q_t_past_tables_e_corners, aI (G.2 1) q_t_past_tables_e_corners 49 t_past_tables_e_corners, oX3 q_t_table t_table_size q_t_table_corners, aI (G.2 1) q_t_table_corners 49 t_table_corners]) [5, 6, 7, 8, 1, 2] (by decide) rfl
    have hFc := va_free (wc := [oX2 q_t_past q_t_past_tables t_past_free t_past_held, aQ (G.2 5) q_t_past_tables 6 t_past_tables, oX3 q_t_past_tables_e t_past_tables_e_size q_t_past_tables_e_corners, aI (G.2 1) q_t_past_tables_e_corners 49 t_past_tables_e_corners, oX3 q_t_table t_table_size q_t_table_corners, aI (G.2 1) q_t_table_corners 49 t_table_corners]) hD hS hA [5, 6, 7, 8, 1, 2] rfl
    refine va_callv (va_runV (As := [.ref q_t_table]) (rest := []) ⟨hx, hb, hml, hown, hts⟩ (c_X2_remember (l := l) (G := G) _ (q_t := q_t_past) (q_t_tables := q_t_past_tables) (t_free := t_past_free) (t_held := t_past_held) (t_tables := t_past_tables) (q_t_tables_e := q_t_past_tables_e) (t_tables_e_size := t_past_tables_e_size) (q_t_tables_e_corners := q_t_past_tables_e_corners) (t_tables_e_corners := t_past_tables_e_corners) (q_p1 := q_t_table) (p1_size := t_table_size) (q_p1_corners := q_t_table_corners) (p1_corners := t_table_corners) he_0 hC_20) (cwV 1 hts gX5_turn_X2_remember rfl rfl rfl kd_X2_remember ⟨Nat.le_of_ble_eq_true rfl, Nat.le_of_ble_eq_true rfl⟩) (iv_V hKW hPc hDc (ci := 2) (q0 := 0) rfl rfl) rfl rfl hl.1 rfl (lv_room (Nat.le_of_ble_eq_true rfl)) dX5_turn_20 ⟨Nat.zero_le _, Nat.zero_le _⟩) hS (fun q _ h => hFc q h) hFc (fun u9 t9 H1 locs ht9 hvm9 hw9 hB9 hz9 hk9 hS => ?_)
    obtain ⟨hP1, hD1⟩ := hB9
    rw [ht9] at hP1
    obtain ⟨hP, hD⟩ := va_join (wr := [oX5 q_t q_t_text q_t_table q_t_other q_t_spare q_t_past q_t_lines q_t_sizes, oX3 q_t_spare t_spare_size q_t_spare_corners, aI (G.2 1) q_t_spare_corners 49 t_spare_corners]) (w1 := [oX2 q_t_past q_t_past_tables m_20_0 m_20_1, aQ (G.2 5) q_t_past_tables 6 t_past_tables, oX3 q_t_past_tables_e m_20_2 q_t_past_tables_e_corners, aI (G.2 1) q_t_past_tables_e_corners 49 m_20_3, oX3 q_t_table t_table_size q_t_table_corners, aI (G.2 1) q_t_table_corners 49 t_table_corners]) hP hD [5, 6, 7, 8, 1, 2] [0, 3, 4] rfl rfl (by decide) (by decide) hk9 hFc hP1 hD1
    have hP := hP.sub (ws' := [oX5 q_t q_t_text q_t_table q_t_other q_t_spare q_t_past q_t_lines q_t_sizes, oX3 q_t_table t_table_size q_t_table_corners, aI (G.2 1) q_t_table_corners 49 t_table_corners, oX3 q_t_spare t_spare_size q_t_spare_corners, aI (G.2 1) q_t_spare_corners 49 t_spare_corners, oX2 q_t_past q_t_past_tables m_20_0 m_20_1, aQ (G.2 5) q_t_past_tables 6 t_past_tables, oX3 q_t_past_tables_e m_20_2 q_t_past_tables_e_corners, aI (G.2 1) q_t_past_tables_e_corners 49 m_20_3]) [0, 7, 8, 1, 2, 3, 4, 5, 6] rfl
    have hD := hD.sub (ws' := [oX5 q_t q_t_text q_t_table q_t_other q_t_spare q_t_past q_t_lines q_t_sizes, oX3 q_t_table t_table_size q_t_table_corners, aI (G.2 1) q_t_table_corners 49 t_table_corners, oX3 q_t_spare t_spare_size q_t_spare_corners, aI (G.2 1) q_t_spare_corners 49 t_spare_corners, oX2 q_t_past q_t_past_tables m_20_0 m_20_1, aQ (G.2 5) q_t_past_tables 6 t_past_tables, oX3 q_t_past_tables_e m_20_2 q_t_past_tables_e_corners, aI (G.2 1) q_t_past_tables_e_corners 49 m_20_3]) [0, 7, 8, 1, 2, 3, 4, 5, 6] (by decide) rfl
    clear hPc hDc hFc hP1 hD1 hk9 hz9 hvm9
    refine lv_aload_n hx hb dX5_turn_23 rfl (lv_at hl 0 rfl) ?_
    refine va_get (D := G.1) (ci := 5) (v := .ref q_t_spare) (C := RX5) (T := TX5) (N := 7) hx hb hts iX5 hown hK hP 0 rfl rfl 3 (by decide) fl_26 (fun _ h9 => h9) rfl dX5_turn_24 ?_
    refine lv_aload_n hx hb dX5_turn_27 rfl (lv_at hl 0 rfl) ?_
    refine va_get (D := G.1) (ci := 5) (v := .ref q_t_table) (C := RX5) (T := TX5) (N := 7) hx hb hts iX5 hown hK hP 0 rfl rfl 1 (by decide) fl_19 (fun _ h9 => h9) rfl dX5_turn_28 ?_
    obtain ⟨y31, hC_31, hE⟩ := Option.bind_eq_some_iff.mp hE
    obtain ⟨m_31_0, m_31_1⟩ := y31
    try dsimp only at hE
    have hPc := hP.sub (ws' := [oX3 q_t_spare t_spare_size q_t_spare_corners, aI (G.2 1) q_t_spare_corners 49 t_spare_corners, oX3 q_t_table t_table_size q_t_table_corners, aI (G.2 1) q_t_table_corners 49 t_table_corners]) [3, 4, 1, 2] rfl
    have hDc := hD.sub (ws' := [oX3 q_t_spare t_spare_size q_t_spare_corners, aI (G.2 1) q_t_spare_corners 49 t_spare_corners, oX3 q_t_table t_table_size q_t_table_corners, aI (G.2 1) q_t_table_corners 49 t_table_corners]) [3, 4, 1, 2] (by decide) rfl
    have hFc := va_free (wc := [oX3 q_t_spare t_spare_size q_t_spare_corners, aI (G.2 1) q_t_spare_corners 49 t_spare_corners, oX3 q_t_table t_table_size q_t_table_corners, aI (G.2 1) q_t_table_corners 49 t_table_corners]) hD hS hA [3, 4, 1, 2] rfl
    refine va_callv (va_runV (As := [.ref q_t_table]) (rest := []) ⟨hx, hb, hml, hown, hts⟩ (c_X3_copy (l := l) (G := G) _ (q_t := q_t_spare) (t_size := t_spare_size) (q_t_corners := q_t_spare_corners) (t_corners := t_spare_corners) (q_p1 := q_t_table) (p1_size := t_table_size) (q_p1_corners := q_t_table_corners) (p1_corners := t_table_corners) hC_31) (cwV 1 hts gX5_turn_X3_copy rfl rfl rfl kd_X3_copy ⟨Nat.le_of_ble_eq_true rfl, Nat.le_of_ble_eq_true rfl⟩) (iv_V hKW hPc hDc (ci := 3) (q0 := 0) rfl rfl) rfl rfl hl.1 rfl (lv_room (Nat.le_of_ble_eq_true rfl)) dX5_turn_31 ⟨Nat.zero_le _, Nat.zero_le _⟩) hS (fun q _ h => hFc q h) hFc (fun u9 t9 H1 locs ht9 hvm9 hw9 hB9 hz9 hk9 hS => ?_)
    obtain ⟨hP1, hD1⟩ := hB9
    rw [ht9] at hP1
    obtain ⟨hP, hD⟩ := va_join (wr := [oX5 q_t q_t_text q_t_table q_t_other q_t_spare q_t_past q_t_lines q_t_sizes, oX2 q_t_past q_t_past_tables m_20_0 m_20_1, aQ (G.2 5) q_t_past_tables 6 t_past_tables, oX3 q_t_past_tables_e m_20_2 q_t_past_tables_e_corners, aI (G.2 1) q_t_past_tables_e_corners 49 m_20_3]) (w1 := [oX3 q_t_spare m_31_0 q_t_spare_corners, aI (G.2 1) q_t_spare_corners 49 m_31_1, oX3 q_t_table t_table_size q_t_table_corners, aI (G.2 1) q_t_table_corners 49 t_table_corners]) hP hD [3, 4, 1, 2] [0, 5, 6, 7, 8] rfl rfl (by decide) (by decide) hk9 hFc hP1 hD1
    have hP := hP.sub (ws' := [oX5 q_t q_t_text q_t_table q_t_other q_t_spare q_t_past q_t_lines q_t_sizes, oX3 q_t_table t_table_size q_t_table_corners, aI (G.2 1) q_t_table_corners 49 t_table_corners, oX3 q_t_spare m_31_0 q_t_spare_corners, aI (G.2 1) q_t_spare_corners 49 m_31_1, oX2 q_t_past q_t_past_tables m_20_0 m_20_1, aQ (G.2 5) q_t_past_tables 6 t_past_tables, oX3 q_t_past_tables_e m_20_2 q_t_past_tables_e_corners, aI (G.2 1) q_t_past_tables_e_corners 49 m_20_3]) [0, 7, 8, 5, 6, 1, 2, 3, 4] rfl
    have hD := hD.sub (ws' := [oX5 q_t q_t_text q_t_table q_t_other q_t_spare q_t_past q_t_lines q_t_sizes, oX3 q_t_table t_table_size q_t_table_corners, aI (G.2 1) q_t_table_corners 49 t_table_corners, oX3 q_t_spare m_31_0 q_t_spare_corners, aI (G.2 1) q_t_spare_corners 49 m_31_1, oX2 q_t_past q_t_past_tables m_20_0 m_20_1, aQ (G.2 5) q_t_past_tables 6 t_past_tables, oX3 q_t_past_tables_e m_20_2 q_t_past_tables_e_corners, aI (G.2 1) q_t_past_tables_e_corners 49 m_20_3]) [0, 7, 8, 5, 6, 1, 2, 3, 4] (by decide) rfl
    clear hPc hDc hFc hP1 hD1 hk9 hz9 hvm9
    refine lv_aload_n hx hb dX5_turn_34 rfl (lv_at hl 0 rfl) ?_
    refine va_get (D := G.1) (ci := 5) (v := .ref q_t_table) (C := RX5) (T := TX5) (N := 7) hx hb hts iX5 hown hK hP 0 rfl rfl 1 (by decide) fl_19 (fun _ h9 => h9) rfl dX5_turn_35 ?_
    refine lv_iload_n hx hb dX5_turn_38 rfl (lv_at hl 1 rfl) ?_
    refine lv_aload_n hx hb dX5_turn_39 rfl (lv_at hl 0 rfl) ?_
    refine va_get (D := G.1) (ci := 5) (v := .ref q_t_spare) (C := RX5) (T := TX5) (N := 7) hx hb hts iX5 hown hK hP 0 rfl rfl 3 (by decide) fl_26 (fun _ h9 => h9) rfl dX5_turn_40 ?_
    obtain ⟨y43, hC_43, hE⟩ := Option.bind_eq_some_iff.mp hE
    obtain ⟨m_43_0, ex9⟩ : ∃ z, z = y43 := ⟨_, rfl⟩
    subst ex9
    try dsimp only at hE
    have hPc := hP.sub (ws' := [oX3 q_t_table t_table_size q_t_table_corners, aI (G.2 1) q_t_table_corners 49 t_table_corners, oX3 q_t_spare m_31_0 q_t_spare_corners, aI (G.2 1) q_t_spare_corners 49 m_31_1]) [1, 2, 3, 4] rfl
    have hDc := hD.sub (ws' := [oX3 q_t_table t_table_size q_t_table_corners, aI (G.2 1) q_t_table_corners 49 t_table_corners, oX3 q_t_spare m_31_0 q_t_spare_corners, aI (G.2 1) q_t_spare_corners 49 m_31_1]) [1, 2, 3, 4] (by decide) rfl
    have hFc := va_free (wc := [oX3 q_t_table t_table_size q_t_table_corners, aI (G.2 1) q_t_table_corners 49 t_table_corners, oX3 q_t_spare m_31_0 q_t_spare_corners, aI (G.2 1) q_t_spare_corners 49 m_31_1]) hD hS hA [1, 2, 3, 4] rfl
    refine va_callv (va_runV (As := [.int p1, .ref q_t_spare]) (rest := []) ⟨hx, hb, hml, hown, hts⟩ (c_X3_putTurned (l := l) (G := G) _ (p1 := p1) (q_t := q_t_table) (t_size := t_table_size) (q_t_corners := q_t_table_corners) (t_corners := t_table_corners) (q_p2 := q_t_spare) (p2_size := m_31_0) (q_p2_corners := q_t_spare_corners) (p2_corners := m_31_1) hC_43) (cwV 2 hts gX5_turn_X3_putTurned rfl rfl rfl kd_X3_putTurned ⟨Nat.le_of_ble_eq_true rfl, Nat.le_of_ble_eq_true rfl⟩) (iv_V hKW hPc hDc (ci := 3) (q0 := 0) rfl rfl) rfl rfl hl.1 rfl (lv_room (Nat.le_of_ble_eq_true rfl)) dX5_turn_43 ⟨Nat.zero_le _, Nat.zero_le _⟩) hS (fun q _ h => hFc q h) hFc (fun u9 t9 H1 locs ht9 hvm9 hw9 hB9 hz9 hk9 hS => ?_)
    obtain ⟨hP1, hD1⟩ := hB9
    rw [ht9] at hP1
    obtain ⟨hP, hD⟩ := va_join (wr := [oX5 q_t q_t_text q_t_table q_t_other q_t_spare q_t_past q_t_lines q_t_sizes, oX2 q_t_past q_t_past_tables m_20_0 m_20_1, aQ (G.2 5) q_t_past_tables 6 t_past_tables, oX3 q_t_past_tables_e m_20_2 q_t_past_tables_e_corners, aI (G.2 1) q_t_past_tables_e_corners 49 m_20_3]) (w1 := [oX3 q_t_table t_table_size q_t_table_corners, aI (G.2 1) q_t_table_corners 49 m_43_0, oX3 q_t_spare m_31_0 q_t_spare_corners, aI (G.2 1) q_t_spare_corners 49 m_31_1]) hP hD [1, 2, 3, 4] [0, 5, 6, 7, 8] rfl rfl (by decide) (by decide) hk9 hFc hP1 hD1
    have hP := hP.sub (ws' := [oX5 q_t q_t_text q_t_table q_t_other q_t_spare q_t_past q_t_lines q_t_sizes, oX3 q_t_table t_table_size q_t_table_corners, aI (G.2 1) q_t_table_corners 49 m_43_0, oX3 q_t_spare m_31_0 q_t_spare_corners, aI (G.2 1) q_t_spare_corners 49 m_31_1, oX2 q_t_past q_t_past_tables m_20_0 m_20_1, aQ (G.2 5) q_t_past_tables 6 t_past_tables, oX3 q_t_past_tables_e m_20_2 q_t_past_tables_e_corners, aI (G.2 1) q_t_past_tables_e_corners 49 m_20_3]) [0, 5, 6, 7, 8, 1, 2, 3, 4] rfl
    have hD := hD.sub (ws' := [oX5 q_t q_t_text q_t_table q_t_other q_t_spare q_t_past q_t_lines q_t_sizes, oX3 q_t_table t_table_size q_t_table_corners, aI (G.2 1) q_t_table_corners 49 m_43_0, oX3 q_t_spare m_31_0 q_t_spare_corners, aI (G.2 1) q_t_spare_corners 49 m_31_1, oX2 q_t_past q_t_past_tables m_20_0 m_20_1, aQ (G.2 5) q_t_past_tables 6 t_past_tables, oX3 q_t_past_tables_e m_20_2 q_t_past_tables_e_corners, aI (G.2 1) q_t_past_tables_e_corners 49 m_20_3]) [0, 5, 6, 7, 8, 1, 2, 3, 4] (by decide) rfl
    clear hPc hDc hFc hP1 hD1 hk9 hz9 hvm9
    refine lv_aload_n hx hb dX5_turn_46 rfl (lv_at hl 0 rfl) ?_
    refine va_get (D := G.1) (ci := 5) (v := .ref q_t_table) (C := RX5) (T := TX5) (N := 7) hx hb hts iX5 hown hK hP 0 rfl rfl 1 (by decide) fl_19 (fun _ h9 => h9) rfl dX5_turn_47 ?_
    refine lv_aload_n hx hb dX5_turn_50 rfl (lv_at hl 0 rfl) ?_
    refine va_get (D := G.1) (ci := 5) (v := .ref q_t_spare) (C := RX5) (T := TX5) (N := 7) hx hb hts iX5 hown hK hP 0 rfl rfl 3 (by decide) fl_26 (fun _ h9 => h9) rfl dX5_turn_51 ?_
    obtain ⟨y54, hC_54, hE⟩ := Option.bind_eq_some_iff.mp hE
    obtain ⟨r_54, ex9⟩ : ∃ z, z = y54 := ⟨_, rfl⟩
    subst ex9
    try dsimp only at hE
    refine vp_callSi (va_Run.run (va_runV (As := [.ref q_t_spare]) (rest := []) ⟨hx, hb, hml, hown, hts⟩ (c_X3_unlikeSigns (l := l) (G := G) (q_t := q_t_table) (t_size := t_table_size) (q_t_corners := q_t_table_corners) (t_corners := m_43_0) (q_p1 := q_t_spare) (p1_size := m_31_0) (q_p1_corners := q_t_spare_corners) (p1_corners := m_31_1) hC_54) (cwV 1 hts gX5_turn_X3_unlikeSigns rfl rfl rfl kd_X3_unlikeSigns ⟨Nat.le_of_ble_eq_true rfl, Nat.le_of_ble_eq_true rfl⟩) (pv_V hKW (hP.sub (ws' := [oX3 q_t_table t_table_size q_t_table_corners, aI (G.2 1) q_t_table_corners 49 m_43_0, oX3 q_t_spare m_31_0 q_t_spare_corners, aI (G.2 1) q_t_spare_corners 49 m_31_1]) [1, 2, 3, 4] rfl) (ci := 3) (q0 := 0) rfl rfl) rfl rfl hl.1 rfl (lv_room (Nat.le_of_ble_eq_true rfl)) dX5_turn_54 ⟨Nat.zero_le _, Nat.zero_le _⟩)) (fun r9 hr9 => ?_)
    subst r9
    have e_0 := Option.some.inj hE
    subst e_0
    rw [hQ]
    exact W.iret (v := r_54) hx hb hr (fun t ht _ => ⟨⟨_, (), rfl, rfl, by rw [ht]; exact hP, hD⟩, hS.F ht⟩) hS.2.2 dX5_turn_57
  · replace hE := (if_pos c_7).symm.trans hE
    refine lv_iconst (v := -1) hx hb dX5_turn_10 (by decide) ?_
    have e_0 := Option.some.inj hE
    subst e_0
    rw [hQ]
    exact W.iret (v := (-1 : Int32)) hx hb hr (fun t ht _ => ⟨⟨_, (), rfl, rfl, by rw [ht]; exact hP, hD⟩, hS.F ht⟩) hS.2.2 dX5_turn_11
def S_X5_across (p1 : Int32) (p2 : Int32) (t_table_size : Int32) (t_table_corners : Nat → Int32) : Option Int32 := (S_X5_isBetween p1 (1 : Int32) t_table_size).bind (fun (y9 : Int32) => if y9 = 0 then some (-1 : Int32) else (S_X5_isBetween p2 (0 : Int32) t_table_size).bind (fun (y24 : Int32) => if y24 = 0 then some (-1 : Int32) else (S_X3_isDrawnAcross p1 p2 t_table_corners).bind (fun (y38 : Int32) => if y38 = 0 then some (0 : Int32) else some (1 : Int32))))
theorem kd_X5_across : yX5_across.cls = RX5 ∧ yX5_across.cls ≠ "java/lang/invoke/MethodHandle" ∧ yX5_across.cls ≠ "java/lang/invoke/VarHandle" ∧ (parseMethodDescriptor yX5_across.desc).map (fun d => d.parameters.length) = some 2 := by decide +kernel
set_option maxHeartbeats 4000000 in
set_option maxRecDepth 100000 in
theorem c_X5_across {l : Launch} {G : kG} {p1 : Int32} {p2 : Int32} {q_t : Nat} {q_t_text : Nat} {q_t_table : Nat} {q_t_other : Nat} {q_t_spare : Nat} {q_t_past : Nat} {q_t_lines : Nat} {q_t_sizes : Nat} {t_table_size : Int32} {q_t_table_corners : Nat} {t_table_corners : Nat → Int32} {res : Int32} (hE : S_X5_across p1 p2 t_table_size t_table_corners = some res) : Met l yX5_across wsX5_across ({ frames := 3, cells := 0, slots := 0, locals := 66 }) (va_Pc [.ref q_t, .int p1, .int p2] (fun U => va_P G.1 vwCl [oX5 q_t q_t_text q_t_table q_t_other q_t_spare q_t_past q_t_lines q_t_sizes, oX3 q_t_table t_table_size q_t_table_corners, aI (G.2 1) q_t_table_corners 49 t_table_corners] U.heap ∧ kw G U)) (vp_Si (fun r => r = res)) 0 0 (fun _ => False) := by
  refine Met.ofQ (cc := cX5_across) (maxL := 3) (ret := (some .int)) (by decide) rfl ?_
  intro p e s m args below meth c s₁ Q hQ B hml hv
  obtain ⟨rfl, hP, hKW⟩ := hv
  have hK := hKW.1
  have hx := B.exec
  have hb := B.bytes
  have hr := B.returns
  have hts := atoms_spec (ws := wsX5_across) B.pre
  have hown : s.vm.findClass RX5 = some m.cls := findClass_of_methodNamed B.named
  have hlocks := B.notSynchronized
  have iX3 : ∀ w ∈ u_ws RX3 TX3 2, w ∈ wsX5_across := by decide +kernel
  have iX5 : ∀ w ∈ u_ws RX5 TX5 7, w ∈ wsX5_across := by decide +kernel
  have fl_19 := hts (.fieldLink RX5 19 "AlternateSigns" "table" "LAlternateSigns$Table;") (by decide +kernel)
  have fl_84 := hts (.fieldLink RX5 84 "AlternateSigns$Table" "size" "I") (by decide +kernel)
  have hl := lv_entry ([.ref q_t, .int p1, .int p2]) (n := 3) (Nat.le_of_ble_eq_true rfl)
  rw [lg_entry_eq]
  generalize (lg_sl ([.ref q_t, .int p1, .int p2]) ++ List.replicate (3 - (lg_sl ([.ref q_t, .int p1, .int p2])).length) Slot.unset).toArray = ls at hl ⊢
  have hl : lv_has ls 3 [(0, .ref q_t), (1, .int p1), (2, .int p2)] := hl
  unfold S_X5_across at hE
  refine lv_iload_n hx hb dX5_across_0 rfl (lv_at hl 1 rfl) ?_
  refine lv_iconst (v := 1) hx hb dX5_across_1 (by decide) ?_
  refine lv_aload_n hx hb dX5_across_2 rfl (lv_at hl 0 rfl) ?_
  refine va_get (D := G.1) (ci := 5) (v := .ref q_t_table) (C := RX5) (T := TX5) (N := 7) hx hb hts iX5 hown hK hP 0 rfl rfl 1 (by decide) fl_19 (fun _ h9 => h9) rfl dX5_across_3 ?_
  refine va_get (D := G.1) (ci := 3) (v := .int t_table_size) (C := RX3) (T := TX3) (N := 2) hx hb hts iX3 hown hK hP 1 rfl rfl 0 (by decide) fl_84 (fun _ h9 => h9) rfl dX5_across_6 ?_
  obtain ⟨y9, hC_9, hE⟩ := Option.bind_eq_some_iff.mp hE
  obtain ⟨r_9, ex9⟩ : ∃ z, z = y9 := ⟨_, rfl⟩
  subst ex9
  try dsimp only at hE
  refine vp_callSi (va_Run.run (va_runS (As := [.int p1, .int (1 : Int32), .int t_table_size]) (rest := []) ⟨hx, hb, hml, hown, hts⟩ (c_X5_isBetween (l := l) (G := G) (p1 := p1) (p2 := (1 : Int32)) (p3 := t_table_size) hC_9) (va_cwS 3 hts gX5_across_X5_isBetween rfl rfl rfl kd_X5_isBetween ⟨Nat.le_of_ble_eq_true rfl, Nat.le_of_ble_eq_true rfl⟩) (pv_S hKW (hP.sub (ws' := []) [] rfl)) rfl rfl hl.1 rfl (lv_room (Nat.le_of_ble_eq_true rfl)) dX5_across_9 ⟨Nat.zero_le _, Nat.zero_le _⟩)) (fun r9 hr9 => ?_)
  subst r9
  refine lv_if_eq (tgt := 30) hx hb dX5_across_12 (by decide) (fun c_12 => ?_) (fun c_12 => ?_)
  · replace hE := (if_pos c_12).symm.trans hE
    refine lv_iconst (v := -1) hx hb dX5_across_30 (by decide) ?_
    have e_0 := Option.some.inj hE
    rw [hQ]
    exact W.iret (v := (-1 : Int32)) hx hb hr (fun t ht _ => ⟨_, rfl, e_0, ht⟩) (fun q h => by cases h) dX5_across_31
  · replace hE := (if_neg c_12).symm.trans hE
    refine lv_iload_n hx hb dX5_across_15 rfl (lv_at hl 2 rfl) ?_
    refine lv_iconst (v := 0) hx hb dX5_across_16 (by decide) ?_
    refine lv_aload_n hx hb dX5_across_17 rfl (lv_at hl 0 rfl) ?_
    refine va_get (D := G.1) (ci := 5) (v := .ref q_t_table) (C := RX5) (T := TX5) (N := 7) hx hb hts iX5 hown hK hP 0 rfl rfl 1 (by decide) fl_19 (fun _ h9 => h9) rfl dX5_across_18 ?_
    refine va_get (D := G.1) (ci := 3) (v := .int t_table_size) (C := RX3) (T := TX3) (N := 2) hx hb hts iX3 hown hK hP 1 rfl rfl 0 (by decide) fl_84 (fun _ h9 => h9) rfl dX5_across_21 ?_
    obtain ⟨y24, hC_24, hE⟩ := Option.bind_eq_some_iff.mp hE
    obtain ⟨r_24, ex9⟩ : ∃ z, z = y24 := ⟨_, rfl⟩
    subst ex9
    try dsimp only at hE
    refine vp_callSi (va_Run.run (va_runS (As := [.int p2, .int (0 : Int32), .int t_table_size]) (rest := []) ⟨hx, hb, hml, hown, hts⟩ (c_X5_isBetween (l := l) (G := G) (p1 := p2) (p2 := (0 : Int32)) (p3 := t_table_size) hC_24) (va_cwS 3 hts gX5_across_X5_isBetween rfl rfl rfl kd_X5_isBetween ⟨Nat.le_of_ble_eq_true rfl, Nat.le_of_ble_eq_true rfl⟩) (pv_S hKW (hP.sub (ws' := []) [] rfl)) rfl rfl hl.1 rfl (lv_room (Nat.le_of_ble_eq_true rfl)) dX5_across_24 ⟨Nat.zero_le _, Nat.zero_le _⟩)) (fun r9 hr9 => ?_)
    subst r9
    refine lv_if_ne (tgt := 32) hx hb dX5_across_27 (by decide) (fun c_27 => ?_) (fun c_27 => ?_)
    · replace hE := (if_neg c_27).symm.trans hE
      refine lv_aload_n hx hb dX5_across_32 rfl (lv_at hl 0 rfl) ?_
      refine va_get (D := G.1) (ci := 5) (v := .ref q_t_table) (C := RX5) (T := TX5) (N := 7) hx hb hts iX5 hown hK hP 0 rfl rfl 1 (by decide) fl_19 (fun _ h9 => h9) rfl dX5_across_33 ?_
      refine lv_iload_n hx hb dX5_across_36 rfl (lv_at hl 1 rfl) ?_
      refine lv_iload_n hx hb dX5_across_37 rfl (lv_at hl 2 rfl) ?_
      obtain ⟨y38, hC_38, hE⟩ := Option.bind_eq_some_iff.mp hE
      obtain ⟨r_38, ex9⟩ : ∃ z, z = y38 := ⟨_, rfl⟩
      subst ex9
      try dsimp only at hE
      refine vp_callSi (va_Run.run (va_runV (As := [.int p1, .int p2]) (rest := []) ⟨hx, hb, hml, hown, hts⟩ (c_X3_isDrawnAcross (l := l) (G := G) (p1 := p1) (p2 := p2) (q_t := q_t_table) (t_size := t_table_size) (q_t_corners := q_t_table_corners) (t_corners := t_table_corners) hC_38) (cwV 2 hts gX5_across_X3_isDrawnAcross rfl rfl rfl kd_X3_isDrawnAcross ⟨Nat.le_of_ble_eq_true rfl, Nat.le_of_ble_eq_true rfl⟩) (pv_V hKW (hP.sub (ws' := [oX3 q_t_table t_table_size q_t_table_corners, aI (G.2 1) q_t_table_corners 49 t_table_corners]) [1, 2] rfl) (ci := 3) (q0 := 0) rfl rfl) rfl rfl hl.1 rfl (lv_room (Nat.le_of_ble_eq_true rfl)) dX5_across_38 ⟨Nat.zero_le _, Nat.zero_le _⟩)) (fun r9 hr9 => ?_)
      subst r9
      refine lv_if_eq (tgt := 48) hx hb dX5_across_41 (by decide) (fun c_41 => ?_) (fun c_41 => ?_)
      · replace hE := (if_pos c_41).symm.trans hE
        refine lv_iconst (v := 0) hx hb dX5_across_48 (by decide) ?_
        have e_0 := Option.some.inj hE
        rw [hQ]
        exact W.iret (v := (0 : Int32)) hx hb hr (fun t ht _ => ⟨_, rfl, e_0, ht⟩) (fun q h => by cases h) dX5_across_49
      · replace hE := (if_neg c_41).symm.trans hE
        refine lv_iconst (v := 1) hx hb dX5_across_44 (by decide) ?_
        refine lv_goto (tgt := 49) hx hb dX5_across_45 (by decide) ?_
        have e_0 := Option.some.inj hE
        rw [hQ]
        exact W.iret (v := (1 : Int32)) hx hb hr (fun t ht _ => ⟨_, rfl, e_0, ht⟩) (fun q h => by cases h) dX5_across_49
    · replace hE := (if_pos c_27).symm.trans hE
      refine lv_iconst (v := -1) hx hb dX5_across_30 (by decide) ?_
      have e_0 := Option.some.inj hE
      rw [hQ]
      exact W.iret (v := (-1 : Int32)) hx hb hr (fun t ht _ => ⟨_, rfl, e_0, ht⟩) (fun q h => by cases h) dX5_across_31
def S_X5_down (p1 : Int32) (p2 : Int32) (t_table_size : Int32) (t_table_corners : Nat → Int32) : Option Int32 := (S_X5_isBetween p1 (0 : Int32) t_table_size).bind (fun (y9 : Int32) => if y9 = 0 then some (-1 : Int32) else (S_X5_isBetween p2 (1 : Int32) t_table_size).bind (fun (y24 : Int32) => if y24 = 0 then some (-1 : Int32) else (S_X3_isDrawnDown p1 p2 t_table_corners).bind (fun (y38 : Int32) => if y38 = 0 then some (0 : Int32) else some (1 : Int32))))
theorem kd_X5_down : yX5_down.cls = RX5 ∧ yX5_down.cls ≠ "java/lang/invoke/MethodHandle" ∧ yX5_down.cls ≠ "java/lang/invoke/VarHandle" ∧ (parseMethodDescriptor yX5_down.desc).map (fun d => d.parameters.length) = some 2 := by decide +kernel
set_option maxHeartbeats 4000000 in
set_option maxRecDepth 100000 in
theorem c_X5_down {l : Launch} {G : kG} {p1 : Int32} {p2 : Int32} {q_t : Nat} {q_t_text : Nat} {q_t_table : Nat} {q_t_other : Nat} {q_t_spare : Nat} {q_t_past : Nat} {q_t_lines : Nat} {q_t_sizes : Nat} {t_table_size : Int32} {q_t_table_corners : Nat} {t_table_corners : Nat → Int32} {res : Int32} (hE : S_X5_down p1 p2 t_table_size t_table_corners = some res) : Met l yX5_down wsX5_down ({ frames := 3, cells := 0, slots := 0, locals := 66 }) (va_Pc [.ref q_t, .int p1, .int p2] (fun U => va_P G.1 vwCl [oX5 q_t q_t_text q_t_table q_t_other q_t_spare q_t_past q_t_lines q_t_sizes, oX3 q_t_table t_table_size q_t_table_corners, aI (G.2 1) q_t_table_corners 49 t_table_corners] U.heap ∧ kw G U)) (vp_Si (fun r => r = res)) 0 0 (fun _ => False) := by
  refine Met.ofQ (cc := cX5_down) (maxL := 3) (ret := (some .int)) (by decide) rfl ?_
  intro p e s m args below meth c s₁ Q hQ B hml hv
  obtain ⟨rfl, hP, hKW⟩ := hv
  have hK := hKW.1
  have hx := B.exec
  have hb := B.bytes
  have hr := B.returns
  have hts := atoms_spec (ws := wsX5_down) B.pre
  have hown : s.vm.findClass RX5 = some m.cls := findClass_of_methodNamed B.named
  have hlocks := B.notSynchronized
  have iX3 : ∀ w ∈ u_ws RX3 TX3 2, w ∈ wsX5_down := by decide +kernel
  have iX5 : ∀ w ∈ u_ws RX5 TX5 7, w ∈ wsX5_down := by decide +kernel
  have fl_19 := hts (.fieldLink RX5 19 "AlternateSigns" "table" "LAlternateSigns$Table;") (by decide +kernel)
  have fl_84 := hts (.fieldLink RX5 84 "AlternateSigns$Table" "size" "I") (by decide +kernel)
  have hl := lv_entry ([.ref q_t, .int p1, .int p2]) (n := 3) (Nat.le_of_ble_eq_true rfl)
  rw [lg_entry_eq]
  generalize (lg_sl ([.ref q_t, .int p1, .int p2]) ++ List.replicate (3 - (lg_sl ([.ref q_t, .int p1, .int p2])).length) Slot.unset).toArray = ls at hl ⊢
  have hl : lv_has ls 3 [(0, .ref q_t), (1, .int p1), (2, .int p2)] := hl
  unfold S_X5_down at hE
  refine lv_iload_n hx hb dX5_down_0 rfl (lv_at hl 1 rfl) ?_
  refine lv_iconst (v := 0) hx hb dX5_down_1 (by decide) ?_
  refine lv_aload_n hx hb dX5_down_2 rfl (lv_at hl 0 rfl) ?_
  refine va_get (D := G.1) (ci := 5) (v := .ref q_t_table) (C := RX5) (T := TX5) (N := 7) hx hb hts iX5 hown hK hP 0 rfl rfl 1 (by decide) fl_19 (fun _ h9 => h9) rfl dX5_down_3 ?_
  refine va_get (D := G.1) (ci := 3) (v := .int t_table_size) (C := RX3) (T := TX3) (N := 2) hx hb hts iX3 hown hK hP 1 rfl rfl 0 (by decide) fl_84 (fun _ h9 => h9) rfl dX5_down_6 ?_
  obtain ⟨y9, hC_9, hE⟩ := Option.bind_eq_some_iff.mp hE
  obtain ⟨r_9, ex9⟩ : ∃ z, z = y9 := ⟨_, rfl⟩
  subst ex9
  try dsimp only at hE
  refine vp_callSi (va_Run.run (va_runS (As := [.int p1, .int (0 : Int32), .int t_table_size]) (rest := []) ⟨hx, hb, hml, hown, hts⟩ (c_X5_isBetween (l := l) (G := G) (p1 := p1) (p2 := (0 : Int32)) (p3 := t_table_size) hC_9) (va_cwS 3 hts gX5_down_X5_isBetween rfl rfl rfl kd_X5_isBetween ⟨Nat.le_of_ble_eq_true rfl, Nat.le_of_ble_eq_true rfl⟩) (pv_S hKW (hP.sub (ws' := []) [] rfl)) rfl rfl hl.1 rfl (lv_room (Nat.le_of_ble_eq_true rfl)) dX5_down_9 ⟨Nat.zero_le _, Nat.zero_le _⟩)) (fun r9 hr9 => ?_)
  subst r9
  refine lv_if_eq (tgt := 30) hx hb dX5_down_12 (by decide) (fun c_12 => ?_) (fun c_12 => ?_)
  · replace hE := (if_pos c_12).symm.trans hE
    refine lv_iconst (v := -1) hx hb dX5_down_30 (by decide) ?_
    have e_0 := Option.some.inj hE
    rw [hQ]
    exact W.iret (v := (-1 : Int32)) hx hb hr (fun t ht _ => ⟨_, rfl, e_0, ht⟩) (fun q h => by cases h) dX5_down_31
  · replace hE := (if_neg c_12).symm.trans hE
    refine lv_iload_n hx hb dX5_down_15 rfl (lv_at hl 2 rfl) ?_
    refine lv_iconst (v := 1) hx hb dX5_down_16 (by decide) ?_
    refine lv_aload_n hx hb dX5_down_17 rfl (lv_at hl 0 rfl) ?_
    refine va_get (D := G.1) (ci := 5) (v := .ref q_t_table) (C := RX5) (T := TX5) (N := 7) hx hb hts iX5 hown hK hP 0 rfl rfl 1 (by decide) fl_19 (fun _ h9 => h9) rfl dX5_down_18 ?_
    refine va_get (D := G.1) (ci := 3) (v := .int t_table_size) (C := RX3) (T := TX3) (N := 2) hx hb hts iX3 hown hK hP 1 rfl rfl 0 (by decide) fl_84 (fun _ h9 => h9) rfl dX5_down_21 ?_
    obtain ⟨y24, hC_24, hE⟩ := Option.bind_eq_some_iff.mp hE
    obtain ⟨r_24, ex9⟩ : ∃ z, z = y24 := ⟨_, rfl⟩
    subst ex9
    try dsimp only at hE
    refine vp_callSi (va_Run.run (va_runS (As := [.int p2, .int (1 : Int32), .int t_table_size]) (rest := []) ⟨hx, hb, hml, hown, hts⟩ (c_X5_isBetween (l := l) (G := G) (p1 := p2) (p2 := (1 : Int32)) (p3 := t_table_size) hC_24) (va_cwS 3 hts gX5_down_X5_isBetween rfl rfl rfl kd_X5_isBetween ⟨Nat.le_of_ble_eq_true rfl, Nat.le_of_ble_eq_true rfl⟩) (pv_S hKW (hP.sub (ws' := []) [] rfl)) rfl rfl hl.1 rfl (lv_room (Nat.le_of_ble_eq_true rfl)) dX5_down_24 ⟨Nat.zero_le _, Nat.zero_le _⟩)) (fun r9 hr9 => ?_)
    subst r9
    refine lv_if_ne (tgt := 32) hx hb dX5_down_27 (by decide) (fun c_27 => ?_) (fun c_27 => ?_)
    · replace hE := (if_neg c_27).symm.trans hE
      refine lv_aload_n hx hb dX5_down_32 rfl (lv_at hl 0 rfl) ?_
      refine va_get (D := G.1) (ci := 5) (v := .ref q_t_table) (C := RX5) (T := TX5) (N := 7) hx hb hts iX5 hown hK hP 0 rfl rfl 1 (by decide) fl_19 (fun _ h9 => h9) rfl dX5_down_33 ?_
      refine lv_iload_n hx hb dX5_down_36 rfl (lv_at hl 1 rfl) ?_
      refine lv_iload_n hx hb dX5_down_37 rfl (lv_at hl 2 rfl) ?_
      obtain ⟨y38, hC_38, hE⟩ := Option.bind_eq_some_iff.mp hE
      obtain ⟨r_38, ex9⟩ : ∃ z, z = y38 := ⟨_, rfl⟩
      subst ex9
      try dsimp only at hE
      refine vp_callSi (va_Run.run (va_runV (As := [.int p1, .int p2]) (rest := []) ⟨hx, hb, hml, hown, hts⟩ (c_X3_isDrawnDown (l := l) (G := G) (p1 := p1) (p2 := p2) (q_t := q_t_table) (t_size := t_table_size) (q_t_corners := q_t_table_corners) (t_corners := t_table_corners) hC_38) (cwV 2 hts gX5_down_X3_isDrawnDown rfl rfl rfl kd_X3_isDrawnDown ⟨Nat.le_of_ble_eq_true rfl, Nat.le_of_ble_eq_true rfl⟩) (pv_V hKW (hP.sub (ws' := [oX3 q_t_table t_table_size q_t_table_corners, aI (G.2 1) q_t_table_corners 49 t_table_corners]) [1, 2] rfl) (ci := 3) (q0 := 0) rfl rfl) rfl rfl hl.1 rfl (lv_room (Nat.le_of_ble_eq_true rfl)) dX5_down_38 ⟨Nat.zero_le _, Nat.zero_le _⟩)) (fun r9 hr9 => ?_)
      subst r9
      refine lv_if_eq (tgt := 48) hx hb dX5_down_41 (by decide) (fun c_41 => ?_) (fun c_41 => ?_)
      · replace hE := (if_pos c_41).symm.trans hE
        refine lv_iconst (v := 0) hx hb dX5_down_48 (by decide) ?_
        have e_0 := Option.some.inj hE
        rw [hQ]
        exact W.iret (v := (0 : Int32)) hx hb hr (fun t ht _ => ⟨_, rfl, e_0, ht⟩) (fun q h => by cases h) dX5_down_49
      · replace hE := (if_neg c_41).symm.trans hE
        refine lv_iconst (v := 1) hx hb dX5_down_44 (by decide) ?_
        refine lv_goto (tgt := 49) hx hb dX5_down_45 (by decide) ?_
        have e_0 := Option.some.inj hE
        rw [hQ]
        exact W.iret (v := (1 : Int32)) hx hb hr (fun t ht _ => ⟨_, rfl, e_0, ht⟩) (fun q h => by cases h) dX5_down_49
    · replace hE := (if_pos c_27).symm.trans hE
      refine lv_iconst (v := -1) hx hb dX5_down_30 (by decide) ?_
      have e_0 := Option.some.inj hE
      rw [hQ]
      exact W.iret (v := (-1 : Int32)) hx hb hr (fun t ht _ => ⟨_, rfl, e_0, ht⟩) (fun q h => by cases h) dX5_down_31
def S_X5_partner (p1 : Int32) (t_table_size : Int32) (t_table_corners : Nat → Int32) (t_lines_ringEdges : Int32) (t_lines_rings : Int32) (t_lines_size : Int32) (t_lines_ends : Int32) (t_lines_row : Int32) (t_lines_column : Int32) (t_lines_side : Int32) (t_lines_partners : Nat → Int32) (t_lines_lengths : Nat → Int32) (t_lines_open : Nat → Int32) (t_lines_endAtRim : Nat → Int32) : Option (Int32 × Int32 × Int32 × Int32 × Int32 × Int32 × Int32 × Int32 × (Nat → Int32) × (Nat → Int32) × (Nat → Int32) × (Nat → Int32)) := (S_X5_isBetween p1 (0 : Int32) (((2 : Int32) * t_table_size) - (1 : Int32))).bind (fun (y13 : Int32) => if y13 = 0 then some ((-1 : Int32), t_lines_ringEdges, t_lines_rings, t_lines_size, t_lines_ends, t_lines_row, t_lines_column, t_lines_side, t_lines_partners, t_lines_lengths, t_lines_open, t_lines_endAtRim) else (S_X1_trace t_lines_row t_lines_column t_lines_side t_lines_partners t_lines_lengths t_lines_open t_lines_endAtRim t_table_size t_table_corners).bind (fun (y29 : Int32 × Int32 × Int32 × Int32 × Int32 × Int32 × Int32 × (Nat → Int32) × (Nat → Int32) × (Nat → Int32) × (Nat → Int32)) => ck (inb p1 12) (some (y29.2.2.2.2.2.2.2.1 p1.toNatClampNeg, y29.1, y29.2.1, y29.2.2.1, y29.2.2.2.1, y29.2.2.2.2.1, y29.2.2.2.2.2.1, y29.2.2.2.2.2.2.1, y29.2.2.2.2.2.2.2.1, y29.2.2.2.2.2.2.2.2.1, y29.2.2.2.2.2.2.2.2.2.1, y29.2.2.2.2.2.2.2.2.2.2))))
theorem kd_X5_partner : yX5_partner.cls = RX5 ∧ yX5_partner.cls ≠ "java/lang/invoke/MethodHandle" ∧ yX5_partner.cls ≠ "java/lang/invoke/VarHandle" ∧ (parseMethodDescriptor yX5_partner.desc).map (fun d => d.parameters.length) = some 1 := by decide +kernel
set_option maxHeartbeats 4000000 in
set_option maxRecDepth 100000 in
theorem c_X5_partner {l : Launch} {G : kG} (sz : Nat) {p1 : Int32} {q_t : Nat} {q_t_text : Nat} {q_t_table : Nat} {q_t_other : Nat} {q_t_spare : Nat} {q_t_past : Nat} {q_t_lines : Nat} {q_t_sizes : Nat} {t_table_size : Int32} {q_t_table_corners : Nat} {t_table_corners : Nat → Int32} {q_t_lines_partners : Nat} {q_t_lines_lengths : Nat} {t_lines_ringEdges : Int32} {t_lines_rings : Int32} {t_lines_size : Int32} {t_lines_ends : Int32} {q_t_lines_open : Nat} {q_t_lines_endAtRim : Nat} {t_lines_row : Int32} {t_lines_column : Int32} {t_lines_side : Int32} {t_lines_partners : Nat → Int32} {t_lines_lengths : Nat → Int32} {t_lines_open : Nat → Int32} {t_lines_endAtRim : Nat → Int32} {res : Int32 × Int32 × Int32 × Int32 × Int32 × Int32 × Int32 × Int32 × (Nat → Int32) × (Nat → Int32) × (Nat → Int32) × (Nat → Int32)} (hE : S_X5_partner p1 t_table_size t_table_corners t_lines_ringEdges t_lines_rings t_lines_size t_lines_ends t_lines_row t_lines_column t_lines_side t_lines_partners t_lines_lengths t_lines_open t_lines_endAtRim = some res) : Met l yX5_partner wsX5_partner ({ frames := 5, cells := 0, slots := 0, locals := 113 }) (va_Pc [.ref q_t, .int p1] (fun U => U.heap.size = sz ∧ va_P G.1 vwCl [oX5 q_t q_t_text q_t_table q_t_other q_t_spare q_t_past q_t_lines q_t_sizes, oX3 q_t_table t_table_size q_t_table_corners, aI (G.2 1) q_t_table_corners 49 t_table_corners, oX1 q_t_lines q_t_lines_partners q_t_lines_lengths t_lines_ringEdges t_lines_rings t_lines_size t_lines_ends q_t_lines_open q_t_lines_endAtRim t_lines_row t_lines_column t_lines_side, aI (G.2 1) q_t_lines_partners 12 t_lines_partners, aI (G.2 1) q_t_lines_lengths 12 t_lines_lengths, aI (G.2 1) q_t_lines_open 49 t_lines_open, aI (G.2 1) q_t_lines_endAtRim 24 t_lines_endAtRim] U.heap ∧ kw G U ∧ va_D (fun _ => True) [oX5 q_t q_t_text q_t_table q_t_other q_t_spare q_t_past q_t_lines q_t_sizes, oX3 q_t_table t_table_size q_t_table_corners, aI (G.2 1) q_t_table_corners 49 t_table_corners, oX1 q_t_lines q_t_lines_partners q_t_lines_lengths t_lines_ringEdges t_lines_rings t_lines_size t_lines_ends q_t_lines_open q_t_lines_endAtRim t_lines_row t_lines_column t_lines_side, aI (G.2 1) q_t_lines_partners 12 t_lines_partners, aI (G.2 1) q_t_lines_lengths 12 t_lines_lengths, aI (G.2 1) q_t_lines_open 49 t_lines_open, aI (G.2 1) q_t_lines_endAtRim 24 t_lines_endAtRim])) (va_Qi (fun r (_ : Unit) => r = res.1) (fun _ t => va_P G.1 vwCl [oX5 q_t q_t_text q_t_table q_t_other q_t_spare q_t_past q_t_lines q_t_sizes, oX3 q_t_table t_table_size q_t_table_corners, aI (G.2 1) q_t_table_corners 49 t_table_corners, oX1 q_t_lines q_t_lines_partners q_t_lines_lengths res.2.1 res.2.2.1 res.2.2.2.1 res.2.2.2.2.1 q_t_lines_open q_t_lines_endAtRim res.2.2.2.2.2.1 res.2.2.2.2.2.2.1 res.2.2.2.2.2.2.2.1, aI (G.2 1) q_t_lines_partners 12 res.2.2.2.2.2.2.2.2.1, aI (G.2 1) q_t_lines_lengths 12 res.2.2.2.2.2.2.2.2.2.1, aI (G.2 1) q_t_lines_open 49 res.2.2.2.2.2.2.2.2.2.2.1, aI (G.2 1) q_t_lines_endAtRim 24 res.2.2.2.2.2.2.2.2.2.2.2] t.heap ∧ va_D (va_A [oX5 q_t q_t_text q_t_table q_t_other q_t_spare q_t_past q_t_lines q_t_sizes, oX3 q_t_table t_table_size q_t_table_corners, aI (G.2 1) q_t_table_corners 49 t_table_corners, oX1 q_t_lines q_t_lines_partners q_t_lines_lengths t_lines_ringEdges t_lines_rings t_lines_size t_lines_ends q_t_lines_open q_t_lines_endAtRim t_lines_row t_lines_column t_lines_side, aI (G.2 1) q_t_lines_partners 12 t_lines_partners, aI (G.2 1) q_t_lines_lengths 12 t_lines_lengths, aI (G.2 1) q_t_lines_open 49 t_lines_open, aI (G.2 1) q_t_lines_endAtRim 24 t_lines_endAtRim] sz) [oX5 q_t q_t_text q_t_table q_t_other q_t_spare q_t_past q_t_lines q_t_sizes, oX3 q_t_table t_table_size q_t_table_corners, aI (G.2 1) q_t_table_corners 49 t_table_corners, oX1 q_t_lines q_t_lines_partners q_t_lines_lengths res.2.1 res.2.2.1 res.2.2.2.1 res.2.2.2.2.1 q_t_lines_open q_t_lines_endAtRim res.2.2.2.2.2.1 res.2.2.2.2.2.2.1 res.2.2.2.2.2.2.2.1, aI (G.2 1) q_t_lines_partners 12 res.2.2.2.2.2.2.2.2.1, aI (G.2 1) q_t_lines_lengths 12 res.2.2.2.2.2.2.2.2.2.1, aI (G.2 1) q_t_lines_open 49 res.2.2.2.2.2.2.2.2.2.2.1, aI (G.2 1) q_t_lines_endAtRim 24 res.2.2.2.2.2.2.2.2.2.2.2]) (va_A [oX5 q_t q_t_text q_t_table q_t_other q_t_spare q_t_past q_t_lines q_t_sizes, oX3 q_t_table t_table_size q_t_table_corners, aI (G.2 1) q_t_table_corners 49 t_table_corners, oX1 q_t_lines q_t_lines_partners q_t_lines_lengths t_lines_ringEdges t_lines_rings t_lines_size t_lines_ends q_t_lines_open q_t_lines_endAtRim t_lines_row t_lines_column t_lines_side, aI (G.2 1) q_t_lines_partners 12 t_lines_partners, aI (G.2 1) q_t_lines_lengths 12 t_lines_lengths, aI (G.2 1) q_t_lines_open 49 t_lines_open, aI (G.2 1) q_t_lines_endAtRim 24 t_lines_endAtRim] sz)) 0 0 (va_A [oX5 q_t q_t_text q_t_table q_t_other q_t_spare q_t_past q_t_lines q_t_sizes, oX3 q_t_table t_table_size q_t_table_corners, aI (G.2 1) q_t_table_corners 49 t_table_corners, oX1 q_t_lines q_t_lines_partners q_t_lines_lengths t_lines_ringEdges t_lines_rings t_lines_size t_lines_ends q_t_lines_open q_t_lines_endAtRim t_lines_row t_lines_column t_lines_side, aI (G.2 1) q_t_lines_partners 12 t_lines_partners, aI (G.2 1) q_t_lines_lengths 12 t_lines_lengths, aI (G.2 1) q_t_lines_open 49 t_lines_open, aI (G.2 1) q_t_lines_endAtRim 24 t_lines_endAtRim] sz) := by
  refine Met.ofQ (cc := cX5_partner) (maxL := 2) (ret := (some .int)) (by decide) rfl ?_
  intro p e s m args below meth c s₁ Q hQ B hml hv
  obtain ⟨rfl, hsz, hP, hKW, hD0⟩ := hv
  have hK := hKW.1
  have hx := B.exec
  have hb := B.bytes
  have hr := B.returns
  have hts := atoms_spec (ws := wsX5_partner) B.pre
  have hown : s.vm.findClass RX5 = some m.cls := findClass_of_methodNamed B.named
  have hlocks := B.notSynchronized
  have iX1 : ∀ w ∈ u_ws RX1 TX1 11, w ∈ wsX5_partner := by decide +kernel
  have iX3 : ∀ w ∈ u_ws RX3 TX3 2, w ∈ wsX5_partner := by decide +kernel
  have iX5 : ∀ w ∈ u_ws RX5 TX5 7, w ∈ wsX5_partner := by decide +kernel
  have fl_19 := hts (.fieldLink RX5 19 "AlternateSigns" "table" "LAlternateSigns$Table;") (by decide +kernel)
  have fl_84 := hts (.fieldLink RX5 84 "AlternateSigns$Table" "size" "I") (by decide +kernel)
  have fl_39 := hts (.fieldLink RX5 39 "AlternateSigns" "lines" "LAlternateSigns$Lines;") (by decide +kernel)
  have fl_190 := hts (.fieldLink RX5 190 "AlternateSigns$Lines" "partners" "[I") (by decide +kernel)
  subst hsz
  have hD := hD0.self (sz := s.heap.size)
  generalize hAe : va_A [oX5 q_t q_t_text q_t_table q_t_other q_t_spare q_t_past q_t_lines q_t_sizes, oX3 q_t_table t_table_size q_t_table_corners, aI (G.2 1) q_t_table_corners 49 t_table_corners, oX1 q_t_lines q_t_lines_partners q_t_lines_lengths t_lines_ringEdges t_lines_rings t_lines_size t_lines_ends q_t_lines_open q_t_lines_endAtRim t_lines_row t_lines_column t_lines_side, aI (G.2 1) q_t_lines_partners 12 t_lines_partners, aI (G.2 1) q_t_lines_lengths 12 t_lines_lengths, aI (G.2 1) q_t_lines_open 49 t_lines_open, aI (G.2 1) q_t_lines_endAtRim 24 t_lines_endAtRim] s.heap.size = A at hD hQ
  have hA : ∀ q : Nat, s.heap.size ≤ q → A q := fun q h => by rw [← hAe]; exact Or.inr h
  have hS : va_S A s.heap s.heap [] := va_S.rf
  have hl := lv_entry ([.ref q_t, .int p1]) (n := 2) (Nat.le_of_ble_eq_true rfl)
  rw [lg_entry_eq]
  generalize (lg_sl ([.ref q_t, .int p1]) ++ List.replicate (2 - (lg_sl ([.ref q_t, .int p1])).length) Slot.unset).toArray = ls at hl ⊢
  have hl : lv_has ls 2 [(0, .ref q_t), (1, .int p1)] := hl
  unfold S_X5_partner at hE
  refine lv_iload_n hx hb dX5_partner_0 rfl (lv_at hl 1 rfl) ?_
  refine lv_iconst (v := 0) hx hb dX5_partner_1 (by decide) ?_
  refine lv_iconst (v := 2) hx hb dX5_partner_2 (by decide) ?_
  refine lv_aload_n hx hb dX5_partner_3 rfl (lv_at hl 0 rfl) ?_
  refine va_get (D := G.1) (ci := 5) (v := .ref q_t_table) (C := RX5) (T := TX5) (N := 7) hx hb hts iX5 hown hK hP 0 rfl rfl 1 (by decide) fl_19 (fun _ h9 => h9) rfl dX5_partner_4 ?_
  refine va_get (D := G.1) (ci := 3) (v := .int t_table_size) (C := RX3) (T := TX3) (N := 2) hx hb hts iX3 hown hK hP 1 rfl rfl 0 (by decide) fl_84 (fun _ h9 => h9) rfl dX5_partner_7 ?_
  refine lv_imul hx hb dX5_partner_10 ?_
  refine lv_iconst (v := 1) hx hb dX5_partner_11 (by decide) ?_
  refine lv_isub hx hb dX5_partner_12 ?_
  obtain ⟨y13, hC_13, hE⟩ := Option.bind_eq_some_iff.mp hE
  obtain ⟨r_13, ex9⟩ : ∃ z, z = y13 := ⟨_, rfl⟩
  subst ex9
  try dsimp only at hE
  refine vp_callSi (va_Run.run (va_runS (As := [.int p1, .int (0 : Int32), .int (((2 : Int32) * t_table_size) - (1 : Int32))]) (rest := []) ⟨hx, hb, hml, hown, hts⟩ (c_X5_isBetween (l := l) (G := G) (p1 := p1) (p2 := (0 : Int32)) (p3 := ((2 : Int32) * t_table_size) - (1 : Int32)) hC_13) (va_cwS 3 hts gX5_partner_X5_isBetween rfl rfl rfl kd_X5_isBetween ⟨Nat.le_of_ble_eq_true rfl, Nat.le_of_ble_eq_true rfl⟩) (pv_S hKW (hP.sub (ws' := []) [] rfl)) rfl rfl hl.1 rfl (lv_room (Nat.le_of_ble_eq_true rfl)) dX5_partner_13 ⟨Nat.zero_le _, Nat.zero_le _⟩)) (fun r9 hr9 => ?_)
  subst r9
  refine lv_if_ne (tgt := 21) hx hb dX5_partner_16 (by decide) (fun c_16 => ?_) (fun c_16 => ?_)
  · replace hE := (if_neg c_16).symm.trans hE
    refine lv_aload_n hx hb dX5_partner_21 rfl (lv_at hl 0 rfl) ?_
    refine va_get (D := G.1) (ci := 5) (v := .ref q_t_lines) (C := RX5) (T := TX5) (N := 7) hx hb hts iX5 hown hK hP 0 rfl rfl 5 (by decide) fl_39 (fun _ h9 => h9) rfl dX5_partner_22 ?_
    refine lv_aload_n hx hb dX5_partner_25 rfl (lv_at hl 0 rfl) ?_
    refine va_get (D := G.1) (ci := 5) (v := .ref q_t_table) (C := RX5) (T := TX5) (N := 7) hx hb hts iX5 hown hK hP 0 rfl rfl 1 (by decide) fl_19 (fun _ h9 => h9) rfl dX5_partner_26 ?_
    obtain ⟨y29, hC_29, hE⟩ := Option.bind_eq_some_iff.mp hE
    obtain ⟨m_29_0, m_29_1, m_29_2, m_29_3, m_29_4, m_29_5, m_29_6, m_29_7, m_29_8, m_29_9, m_29_10⟩ := y29
    try dsimp only at hE
    have hPc := hP.sub (ws' := [oX1 q_t_lines q_t_lines_partners q_t_lines_lengths t_lines_ringEdges t_lines_rings t_lines_size t_lines_ends q_t_lines_open q_t_lines_endAtRim t_lines_row t_lines_column t_lines_side, aI (G.2 1) q_t_lines_partners 12 t_lines_partners, aI (G.2 1) q_t_lines_lengths 12 t_lines_lengths, aI (G.2 1) q_t_lines_open 49 t_lines_open, aI (G.2 1) q_t_lines_endAtRim 24 t_lines_endAtRim, oX3 q_t_table t_table_size q_t_table_corners, aI (G.2 1) q_t_table_corners 49 t_table_corners]) [3, 4, 5, 6, 7, 1, 2] rfl
    have hDc := hD.sub (ws' := [oX1 q_t_lines q_t_lines_partners q_t_lines_lengths t_lines_ringEdges t_lines_rings t_lines_size t_lines_ends q_t_lines_open q_t_lines_endAtRim t_lines_row t_lines_column t_lines_side, aI (G.2 1) q_t_lines_partners 12 t_lines_partners, aI (G.2 1) q_t_lines_lengths 12 t_lines_lengths, aI (G.2 1) q_t_lines_open 49 t_lines_open, aI (G.2 1) q_t_lines_endAtRim 24 t_lines_endAtRim, oX3 q_t_table t_table_size q_t_table_corners, aI (G.2 1) q_t_table_corners 49 t_table_corners]) [3, 4, 5, 6, 7, 1, 2] (by decide) rfl
    have hFc := va_free (wc := [oX1 q_t_lines q_t_lines_partners q_t_lines_lengths t_lines_ringEdges t_lines_rings t_lines_size t_lines_ends q_t_lines_open q_t_lines_endAtRim t_lines_row t_lines_column t_lines_side, aI (G.2 1) q_t_lines_partners 12 t_lines_partners, aI (G.2 1) q_t_lines_lengths 12 t_lines_lengths, aI (G.2 1) q_t_lines_open 49 t_lines_open, aI (G.2 1) q_t_lines_endAtRim 24 t_lines_endAtRim, oX3 q_t_table t_table_size q_t_table_corners, aI (G.2 1) q_t_table_corners 49 t_table_corners]) hD hS hA [3, 4, 5, 6, 7, 1, 2] rfl
    refine va_callv (va_runV (As := [.ref q_t_table]) (rest := []) ⟨hx, hb, hml, hown, hts⟩ (c_X1_trace (l := l) (G := G) _ (q_t := q_t_lines) (q_t_partners := q_t_lines_partners) (q_t_lengths := q_t_lines_lengths) (t_ringEdges := t_lines_ringEdges) (t_rings := t_lines_rings) (t_size := t_lines_size) (t_ends := t_lines_ends) (q_t_open := q_t_lines_open) (q_t_endAtRim := q_t_lines_endAtRim) (t_row := t_lines_row) (t_column := t_lines_column) (t_side := t_lines_side) (t_partners := t_lines_partners) (t_lengths := t_lines_lengths) (t_open := t_lines_open) (t_endAtRim := t_lines_endAtRim) (q_p1 := q_t_table) (p1_size := t_table_size) (q_p1_corners := q_t_table_corners) (p1_corners := t_table_corners) hC_29) (cwV 1 hts gX5_partner_X1_trace rfl rfl rfl kd_X1_trace ⟨Nat.le_of_ble_eq_true rfl, Nat.le_of_ble_eq_true rfl⟩) (iv_V hKW hPc hDc (ci := 1) (q0 := 0) rfl rfl) rfl rfl hl.1 rfl (lv_room (Nat.le_of_ble_eq_true rfl)) dX5_partner_29 ⟨Nat.zero_le _, Nat.zero_le _⟩) hS (fun q _ h => hFc q h) hFc (fun u9 t9 H1 locs ht9 hvm9 hw9 hB9 hz9 hk9 hS => ?_)
    obtain ⟨hP1, hD1⟩ := hB9
    rw [ht9] at hP1
    obtain ⟨hP, hD⟩ := va_join (wr := [oX5 q_t q_t_text q_t_table q_t_other q_t_spare q_t_past q_t_lines q_t_sizes]) (w1 := [oX1 q_t_lines q_t_lines_partners q_t_lines_lengths m_29_0 m_29_1 m_29_2 m_29_3 q_t_lines_open q_t_lines_endAtRim m_29_4 m_29_5 m_29_6, aI (G.2 1) q_t_lines_partners 12 m_29_7, aI (G.2 1) q_t_lines_lengths 12 m_29_8, aI (G.2 1) q_t_lines_open 49 m_29_9, aI (G.2 1) q_t_lines_endAtRim 24 m_29_10, oX3 q_t_table t_table_size q_t_table_corners, aI (G.2 1) q_t_table_corners 49 t_table_corners]) hP hD [3, 4, 5, 6, 7, 1, 2] [0] rfl rfl (by decide) (by decide) hk9 hFc hP1 hD1
    have hP := hP.sub (ws' := [oX5 q_t q_t_text q_t_table q_t_other q_t_spare q_t_past q_t_lines q_t_sizes, oX3 q_t_table t_table_size q_t_table_corners, aI (G.2 1) q_t_table_corners 49 t_table_corners, oX1 q_t_lines q_t_lines_partners q_t_lines_lengths m_29_0 m_29_1 m_29_2 m_29_3 q_t_lines_open q_t_lines_endAtRim m_29_4 m_29_5 m_29_6, aI (G.2 1) q_t_lines_partners 12 m_29_7, aI (G.2 1) q_t_lines_lengths 12 m_29_8, aI (G.2 1) q_t_lines_open 49 m_29_9, aI (G.2 1) q_t_lines_endAtRim 24 m_29_10]) [0, 6, 7, 1, 2, 3, 4, 5] rfl
    have hD := hD.sub (ws' := [oX5 q_t q_t_text q_t_table q_t_other q_t_spare q_t_past q_t_lines q_t_sizes, oX3 q_t_table t_table_size q_t_table_corners, aI (G.2 1) q_t_table_corners 49 t_table_corners, oX1 q_t_lines q_t_lines_partners q_t_lines_lengths m_29_0 m_29_1 m_29_2 m_29_3 q_t_lines_open q_t_lines_endAtRim m_29_4 m_29_5 m_29_6, aI (G.2 1) q_t_lines_partners 12 m_29_7, aI (G.2 1) q_t_lines_lengths 12 m_29_8, aI (G.2 1) q_t_lines_open 49 m_29_9, aI (G.2 1) q_t_lines_endAtRim 24 m_29_10]) [0, 6, 7, 1, 2, 3, 4, 5] (by decide) rfl
    clear hPc hDc hFc hP1 hD1 hk9 hz9 hvm9
    refine lv_aload_n hx hb dX5_partner_32 rfl (lv_at hl 0 rfl) ?_
    refine va_get (D := G.1) (ci := 5) (v := .ref q_t_lines) (C := RX5) (T := TX5) (N := 7) hx hb hts iX5 hown hK hP 0 rfl rfl 5 (by decide) fl_39 (fun _ h9 => h9) rfl dX5_partner_33 ?_
    refine va_get (D := G.1) (ci := 1) (v := .ref q_t_lines_partners) (C := RX1) (T := TX1) (N := 11) hx hb hts iX1 hown hK hP 3 rfl rfl 0 (by decide) fl_190 (fun _ h9 => h9) rfl dX5_partner_36 ?_
    refine lv_iload_n hx hb dX5_partner_39 rfl (lv_at hl 1 rfl) ?_
    obtain ⟨hi_40, hE⟩ := ck_some hE
    refine va_iald hx hb hK hP 4 1 rfl rfl (inb_in hi_40) dX5_partner_40 ?_
    have e_0 := Option.some.inj hE
    subst e_0
    rw [hQ]
    exact W.iret (v := m_29_7 p1.toNatClampNeg) hx hb hr (fun t ht _ => ⟨⟨_, (), rfl, rfl, by rw [ht]; exact hP, hD⟩, hS.F ht⟩) hS.2.2 dX5_partner_41
  · replace hE := (if_pos c_16).symm.trans hE
    refine lv_iconst (v := -1) hx hb dX5_partner_19 (by decide) ?_
    have e_0 := Option.some.inj hE
    subst e_0
    rw [hQ]
    exact W.iret (v := (-1 : Int32)) hx hb hr (fun t ht _ => ⟨⟨_, (), rfl, rfl, by rw [ht]; exact hP, hD⟩, hS.F ht⟩) hS.2.2 dX5_partner_20
def S_X5_line (p1 : Int32) (t_table_size : Int32) (t_table_corners : Nat → Int32) (t_lines_ringEdges : Int32) (t_lines_rings : Int32) (t_lines_size : Int32) (t_lines_ends : Int32) (t_lines_row : Int32) (t_lines_column : Int32) (t_lines_side : Int32) (t_lines_partners : Nat → Int32) (t_lines_lengths : Nat → Int32) (t_lines_open : Nat → Int32) (t_lines_endAtRim : Nat → Int32) : Option (Int32 × Int32 × Int32 × Int32 × Int32 × Int32 × Int32 × Int32 × (Nat → Int32) × (Nat → Int32) × (Nat → Int32) × (Nat → Int32)) := (S_X5_isBetween p1 (0 : Int32) (((2 : Int32) * t_table_size) - (1 : Int32))).bind (fun (y13 : Int32) => if y13 = 0 then some ((-1 : Int32), t_lines_ringEdges, t_lines_rings, t_lines_size, t_lines_ends, t_lines_row, t_lines_column, t_lines_side, t_lines_partners, t_lines_lengths, t_lines_open, t_lines_endAtRim) else (S_X1_trace t_lines_row t_lines_column t_lines_side t_lines_partners t_lines_lengths t_lines_open t_lines_endAtRim t_table_size t_table_corners).bind (fun (y29 : Int32 × Int32 × Int32 × Int32 × Int32 × Int32 × Int32 × (Nat → Int32) × (Nat → Int32) × (Nat → Int32) × (Nat → Int32)) => ck (inb p1 12) (some (y29.2.2.2.2.2.2.2.2.1 p1.toNatClampNeg, y29.1, y29.2.1, y29.2.2.1, y29.2.2.2.1, y29.2.2.2.2.1, y29.2.2.2.2.2.1, y29.2.2.2.2.2.2.1, y29.2.2.2.2.2.2.2.1, y29.2.2.2.2.2.2.2.2.1, y29.2.2.2.2.2.2.2.2.2.1, y29.2.2.2.2.2.2.2.2.2.2))))
theorem kd_X5_line : yX5_line.cls = RX5 ∧ yX5_line.cls ≠ "java/lang/invoke/MethodHandle" ∧ yX5_line.cls ≠ "java/lang/invoke/VarHandle" ∧ (parseMethodDescriptor yX5_line.desc).map (fun d => d.parameters.length) = some 1 := by decide +kernel
set_option maxHeartbeats 4000000 in
set_option maxRecDepth 100000 in
theorem c_X5_line {l : Launch} {G : kG} (sz : Nat) {p1 : Int32} {q_t : Nat} {q_t_text : Nat} {q_t_table : Nat} {q_t_other : Nat} {q_t_spare : Nat} {q_t_past : Nat} {q_t_lines : Nat} {q_t_sizes : Nat} {t_table_size : Int32} {q_t_table_corners : Nat} {t_table_corners : Nat → Int32} {q_t_lines_partners : Nat} {q_t_lines_lengths : Nat} {t_lines_ringEdges : Int32} {t_lines_rings : Int32} {t_lines_size : Int32} {t_lines_ends : Int32} {q_t_lines_open : Nat} {q_t_lines_endAtRim : Nat} {t_lines_row : Int32} {t_lines_column : Int32} {t_lines_side : Int32} {t_lines_partners : Nat → Int32} {t_lines_lengths : Nat → Int32} {t_lines_open : Nat → Int32} {t_lines_endAtRim : Nat → Int32} {res : Int32 × Int32 × Int32 × Int32 × Int32 × Int32 × Int32 × Int32 × (Nat → Int32) × (Nat → Int32) × (Nat → Int32) × (Nat → Int32)} (hE : S_X5_line p1 t_table_size t_table_corners t_lines_ringEdges t_lines_rings t_lines_size t_lines_ends t_lines_row t_lines_column t_lines_side t_lines_partners t_lines_lengths t_lines_open t_lines_endAtRim = some res) : Met l yX5_line wsX5_line ({ frames := 5, cells := 0, slots := 0, locals := 113 }) (va_Pc [.ref q_t, .int p1] (fun U => U.heap.size = sz ∧ va_P G.1 vwCl [oX5 q_t q_t_text q_t_table q_t_other q_t_spare q_t_past q_t_lines q_t_sizes, oX3 q_t_table t_table_size q_t_table_corners, aI (G.2 1) q_t_table_corners 49 t_table_corners, oX1 q_t_lines q_t_lines_partners q_t_lines_lengths t_lines_ringEdges t_lines_rings t_lines_size t_lines_ends q_t_lines_open q_t_lines_endAtRim t_lines_row t_lines_column t_lines_side, aI (G.2 1) q_t_lines_partners 12 t_lines_partners, aI (G.2 1) q_t_lines_lengths 12 t_lines_lengths, aI (G.2 1) q_t_lines_open 49 t_lines_open, aI (G.2 1) q_t_lines_endAtRim 24 t_lines_endAtRim] U.heap ∧ kw G U ∧ va_D (fun _ => True) [oX5 q_t q_t_text q_t_table q_t_other q_t_spare q_t_past q_t_lines q_t_sizes, oX3 q_t_table t_table_size q_t_table_corners, aI (G.2 1) q_t_table_corners 49 t_table_corners, oX1 q_t_lines q_t_lines_partners q_t_lines_lengths t_lines_ringEdges t_lines_rings t_lines_size t_lines_ends q_t_lines_open q_t_lines_endAtRim t_lines_row t_lines_column t_lines_side, aI (G.2 1) q_t_lines_partners 12 t_lines_partners, aI (G.2 1) q_t_lines_lengths 12 t_lines_lengths, aI (G.2 1) q_t_lines_open 49 t_lines_open, aI (G.2 1) q_t_lines_endAtRim 24 t_lines_endAtRim])) (va_Qi (fun r (_ : Unit) => r = res.1) (fun _ t => va_P G.1 vwCl [oX5 q_t q_t_text q_t_table q_t_other q_t_spare q_t_past q_t_lines q_t_sizes, oX3 q_t_table t_table_size q_t_table_corners, aI (G.2 1) q_t_table_corners 49 t_table_corners, oX1 q_t_lines q_t_lines_partners q_t_lines_lengths res.2.1 res.2.2.1 res.2.2.2.1 res.2.2.2.2.1 q_t_lines_open q_t_lines_endAtRim res.2.2.2.2.2.1 res.2.2.2.2.2.2.1 res.2.2.2.2.2.2.2.1, aI (G.2 1) q_t_lines_partners 12 res.2.2.2.2.2.2.2.2.1, aI (G.2 1) q_t_lines_lengths 12 res.2.2.2.2.2.2.2.2.2.1, aI (G.2 1) q_t_lines_open 49 res.2.2.2.2.2.2.2.2.2.2.1, aI (G.2 1) q_t_lines_endAtRim 24 res.2.2.2.2.2.2.2.2.2.2.2] t.heap ∧ va_D (va_A [oX5 q_t q_t_text q_t_table q_t_other q_t_spare q_t_past q_t_lines q_t_sizes, oX3 q_t_table t_table_size q_t_table_corners, aI (G.2 1) q_t_table_corners 49 t_table_corners, oX1 q_t_lines q_t_lines_partners q_t_lines_lengths t_lines_ringEdges t_lines_rings t_lines_size t_lines_ends q_t_lines_open q_t_lines_endAtRim t_lines_row t_lines_column t_lines_side, aI (G.2 1) q_t_lines_partners 12 t_lines_partners, aI (G.2 1) q_t_lines_lengths 12 t_lines_lengths, aI (G.2 1) q_t_lines_open 49 t_lines_open, aI (G.2 1) q_t_lines_endAtRim 24 t_lines_endAtRim] sz) [oX5 q_t q_t_text q_t_table q_t_other q_t_spare q_t_past q_t_lines q_t_sizes, oX3 q_t_table t_table_size q_t_table_corners, aI (G.2 1) q_t_table_corners 49 t_table_corners, oX1 q_t_lines q_t_lines_partners q_t_lines_lengths res.2.1 res.2.2.1 res.2.2.2.1 res.2.2.2.2.1 q_t_lines_open q_t_lines_endAtRim res.2.2.2.2.2.1 res.2.2.2.2.2.2.1 res.2.2.2.2.2.2.2.1, aI (G.2 1) q_t_lines_partners 12 res.2.2.2.2.2.2.2.2.1, aI (G.2 1) q_t_lines_lengths 12 res.2.2.2.2.2.2.2.2.2.1, aI (G.2 1) q_t_lines_open 49 res.2.2.2.2.2.2.2.2.2.2.1, aI (G.2 1) q_t_lines_endAtRim 24 res.2.2.2.2.2.2.2.2.2.2.2]) (va_A [oX5 q_t q_t_text q_t_table q_t_other q_t_spare q_t_past q_t_lines q_t_sizes, oX3 q_t_table t_table_size q_t_table_corners, aI (G.2 1) q_t_table_corners 49 t_table_corners, oX1 q_t_lines q_t_lines_partners q_t_lines_lengths t_lines_ringEdges t_lines_rings t_lines_size t_lines_ends q_t_lines_open q_t_lines_endAtRim t_lines_row t_lines_column t_lines_side, aI (G.2 1) q_t_lines_partners 12 t_lines_partners, aI (G.2 1) q_t_lines_lengths 12 t_lines_lengths, aI (G.2 1) q_t_lines_open 49 t_lines_open, aI (G.2 1) q_t_lines_endAtRim 24 t_lines_endAtRim] sz)) 0 0 (va_A [oX5 q_t q_t_text q_t_table q_t_other q_t_spare q_t_past q_t_lines q_t_sizes, oX3 q_t_table t_table_size q_t_table_corners, aI (G.2 1) q_t_table_corners 49 t_table_corners, oX1 q_t_lines q_t_lines_partners q_t_lines_lengths t_lines_ringEdges t_lines_rings t_lines_size t_lines_ends q_t_lines_open q_t_lines_endAtRim t_lines_row t_lines_column t_lines_side, aI (G.2 1) q_t_lines_partners 12 t_lines_partners, aI (G.2 1) q_t_lines_lengths 12 t_lines_lengths, aI (G.2 1) q_t_lines_open 49 t_lines_open, aI (G.2 1) q_t_lines_endAtRim 24 t_lines_endAtRim] sz) := by
  refine Met.ofQ (cc := cX5_line) (maxL := 2) (ret := (some .int)) (by decide) rfl ?_
  intro p e s m args below meth c s₁ Q hQ B hml hv
  obtain ⟨rfl, hsz, hP, hKW, hD0⟩ := hv
  have hK := hKW.1
  have hx := B.exec
  have hb := B.bytes
  have hr := B.returns
  have hts := atoms_spec (ws := wsX5_line) B.pre
  have hown : s.vm.findClass RX5 = some m.cls := findClass_of_methodNamed B.named
  have hlocks := B.notSynchronized
  have iX1 : ∀ w ∈ u_ws RX1 TX1 11, w ∈ wsX5_line := by decide +kernel
  have iX3 : ∀ w ∈ u_ws RX3 TX3 2, w ∈ wsX5_line := by decide +kernel
  have iX5 : ∀ w ∈ u_ws RX5 TX5 7, w ∈ wsX5_line := by decide +kernel
  have fl_19 := hts (.fieldLink RX5 19 "AlternateSigns" "table" "LAlternateSigns$Table;") (by decide +kernel)
  have fl_84 := hts (.fieldLink RX5 84 "AlternateSigns$Table" "size" "I") (by decide +kernel)
  have fl_39 := hts (.fieldLink RX5 39 "AlternateSigns" "lines" "LAlternateSigns$Lines;") (by decide +kernel)
  have fl_194 := hts (.fieldLink RX5 194 "AlternateSigns$Lines" "lengths" "[I") (by decide +kernel)
  subst hsz
  have hD := hD0.self (sz := s.heap.size)
  generalize hAe : va_A [oX5 q_t q_t_text q_t_table q_t_other q_t_spare q_t_past q_t_lines q_t_sizes, oX3 q_t_table t_table_size q_t_table_corners, aI (G.2 1) q_t_table_corners 49 t_table_corners, oX1 q_t_lines q_t_lines_partners q_t_lines_lengths t_lines_ringEdges t_lines_rings t_lines_size t_lines_ends q_t_lines_open q_t_lines_endAtRim t_lines_row t_lines_column t_lines_side, aI (G.2 1) q_t_lines_partners 12 t_lines_partners, aI (G.2 1) q_t_lines_lengths 12 t_lines_lengths, aI (G.2 1) q_t_lines_open 49 t_lines_open, aI (G.2 1) q_t_lines_endAtRim 24 t_lines_endAtRim] s.heap.size = A at hD hQ
  have hA : ∀ q : Nat, s.heap.size ≤ q → A q := fun q h => by rw [← hAe]; exact Or.inr h
  have hS : va_S A s.heap s.heap [] := va_S.rf
  have hl := lv_entry ([.ref q_t, .int p1]) (n := 2) (Nat.le_of_ble_eq_true rfl)
  rw [lg_entry_eq]
  generalize (lg_sl ([.ref q_t, .int p1]) ++ List.replicate (2 - (lg_sl ([.ref q_t, .int p1])).length) Slot.unset).toArray = ls at hl ⊢
  have hl : lv_has ls 2 [(0, .ref q_t), (1, .int p1)] := hl
  unfold S_X5_line at hE
  refine lv_iload_n hx hb dX5_line_0 rfl (lv_at hl 1 rfl) ?_
  refine lv_iconst (v := 0) hx hb dX5_line_1 (by decide) ?_
  refine lv_iconst (v := 2) hx hb dX5_line_2 (by decide) ?_
  refine lv_aload_n hx hb dX5_line_3 rfl (lv_at hl 0 rfl) ?_
  refine va_get (D := G.1) (ci := 5) (v := .ref q_t_table) (C := RX5) (T := TX5) (N := 7) hx hb hts iX5 hown hK hP 0 rfl rfl 1 (by decide) fl_19 (fun _ h9 => h9) rfl dX5_line_4 ?_
  refine va_get (D := G.1) (ci := 3) (v := .int t_table_size) (C := RX3) (T := TX3) (N := 2) hx hb hts iX3 hown hK hP 1 rfl rfl 0 (by decide) fl_84 (fun _ h9 => h9) rfl dX5_line_7 ?_
  refine lv_imul hx hb dX5_line_10 ?_
  refine lv_iconst (v := 1) hx hb dX5_line_11 (by decide) ?_
  refine lv_isub hx hb dX5_line_12 ?_
  obtain ⟨y13, hC_13, hE⟩ := Option.bind_eq_some_iff.mp hE
  obtain ⟨r_13, ex9⟩ : ∃ z, z = y13 := ⟨_, rfl⟩
  subst ex9
  try dsimp only at hE
  refine vp_callSi (va_Run.run (va_runS (As := [.int p1, .int (0 : Int32), .int (((2 : Int32) * t_table_size) - (1 : Int32))]) (rest := []) ⟨hx, hb, hml, hown, hts⟩ (c_X5_isBetween (l := l) (G := G) (p1 := p1) (p2 := (0 : Int32)) (p3 := ((2 : Int32) * t_table_size) - (1 : Int32)) hC_13) (va_cwS 3 hts gX5_line_X5_isBetween rfl rfl rfl kd_X5_isBetween ⟨Nat.le_of_ble_eq_true rfl, Nat.le_of_ble_eq_true rfl⟩) (pv_S hKW (hP.sub (ws' := []) [] rfl)) rfl rfl hl.1 rfl (lv_room (Nat.le_of_ble_eq_true rfl)) dX5_line_13 ⟨Nat.zero_le _, Nat.zero_le _⟩)) (fun r9 hr9 => ?_)
  subst r9
  refine lv_if_ne (tgt := 21) hx hb dX5_line_16 (by decide) (fun c_16 => ?_) (fun c_16 => ?_)
  · replace hE := (if_neg c_16).symm.trans hE
    refine lv_aload_n hx hb dX5_line_21 rfl (lv_at hl 0 rfl) ?_
    refine va_get (D := G.1) (ci := 5) (v := .ref q_t_lines) (C := RX5) (T := TX5) (N := 7) hx hb hts iX5 hown hK hP 0 rfl rfl 5 (by decide) fl_39 (fun _ h9 => h9) rfl dX5_line_22 ?_
    refine lv_aload_n hx hb dX5_line_25 rfl (lv_at hl 0 rfl) ?_
    refine va_get (D := G.1) (ci := 5) (v := .ref q_t_table) (C := RX5) (T := TX5) (N := 7) hx hb hts iX5 hown hK hP 0 rfl rfl 1 (by decide) fl_19 (fun _ h9 => h9) rfl dX5_line_26 ?_
    obtain ⟨y29, hC_29, hE⟩ := Option.bind_eq_some_iff.mp hE
    obtain ⟨m_29_0, m_29_1, m_29_2, m_29_3, m_29_4, m_29_5, m_29_6, m_29_7, m_29_8, m_29_9, m_29_10⟩ := y29
    try dsimp only at hE
    have hPc := hP.sub (ws' := [oX1 q_t_lines q_t_lines_partners q_t_lines_lengths t_lines_ringEdges t_lines_rings t_lines_size t_lines_ends q_t_lines_open q_t_lines_endAtRim t_lines_row t_lines_column t_lines_side, aI (G.2 1) q_t_lines_partners 12 t_lines_partners, aI (G.2 1) q_t_lines_lengths 12 t_lines_lengths, aI (G.2 1) q_t_lines_open 49 t_lines_open, aI (G.2 1) q_t_lines_endAtRim 24 t_lines_endAtRim, oX3 q_t_table t_table_size q_t_table_corners, aI (G.2 1) q_t_table_corners 49 t_table_corners]) [3, 4, 5, 6, 7, 1, 2] rfl
    have hDc := hD.sub (ws' := [oX1 q_t_lines q_t_lines_partners q_t_lines_lengths t_lines_ringEdges t_lines_rings t_lines_size t_lines_ends q_t_lines_open q_t_lines_endAtRim t_lines_row t_lines_column t_lines_side, aI (G.2 1) q_t_lines_partners 12 t_lines_partners, aI (G.2 1) q_t_lines_lengths 12 t_lines_lengths, aI (G.2 1) q_t_lines_open 49 t_lines_open, aI (G.2 1) q_t_lines_endAtRim 24 t_lines_endAtRim, oX3 q_t_table t_table_size q_t_table_corners, aI (G.2 1) q_t_table_corners 49 t_table_corners]) [3, 4, 5, 6, 7, 1, 2] (by decide) rfl
    have hFc := va_free (wc := [oX1 q_t_lines q_t_lines_partners q_t_lines_lengths t_lines_ringEdges t_lines_rings t_lines_size t_lines_ends q_t_lines_open q_t_lines_endAtRim t_lines_row t_lines_column t_lines_side, aI (G.2 1) q_t_lines_partners 12 t_lines_partners, aI (G.2 1) q_t_lines_lengths 12 t_lines_lengths, aI (G.2 1) q_t_lines_open 49 t_lines_open, aI (G.2 1) q_t_lines_endAtRim 24 t_lines_endAtRim, oX3 q_t_table t_table_size q_t_table_corners, aI (G.2 1) q_t_table_corners 49 t_table_corners]) hD hS hA [3, 4, 5, 6, 7, 1, 2] rfl
    refine va_callv (va_runV (As := [.ref q_t_table]) (rest := []) ⟨hx, hb, hml, hown, hts⟩ (c_X1_trace (l := l) (G := G) _ (q_t := q_t_lines) (q_t_partners := q_t_lines_partners) (q_t_lengths := q_t_lines_lengths) (t_ringEdges := t_lines_ringEdges) (t_rings := t_lines_rings) (t_size := t_lines_size) (t_ends := t_lines_ends) (q_t_open := q_t_lines_open) (q_t_endAtRim := q_t_lines_endAtRim) (t_row := t_lines_row) (t_column := t_lines_column) (t_side := t_lines_side) (t_partners := t_lines_partners) (t_lengths := t_lines_lengths) (t_open := t_lines_open) (t_endAtRim := t_lines_endAtRim) (q_p1 := q_t_table) (p1_size := t_table_size) (q_p1_corners := q_t_table_corners) (p1_corners := t_table_corners) hC_29) (cwV 1 hts gX5_line_X1_trace rfl rfl rfl kd_X1_trace ⟨Nat.le_of_ble_eq_true rfl, Nat.le_of_ble_eq_true rfl⟩) (iv_V hKW hPc hDc (ci := 1) (q0 := 0) rfl rfl) rfl rfl hl.1 rfl (lv_room (Nat.le_of_ble_eq_true rfl)) dX5_line_29 ⟨Nat.zero_le _, Nat.zero_le _⟩) hS (fun q _ h => hFc q h) hFc (fun u9 t9 H1 locs ht9 hvm9 hw9 hB9 hz9 hk9 hS => ?_)
    obtain ⟨hP1, hD1⟩ := hB9
    rw [ht9] at hP1
    obtain ⟨hP, hD⟩ := va_join (wr := [oX5 q_t q_t_text q_t_table q_t_other q_t_spare q_t_past q_t_lines q_t_sizes]) (w1 := [oX1 q_t_lines q_t_lines_partners q_t_lines_lengths m_29_0 m_29_1 m_29_2 m_29_3 q_t_lines_open q_t_lines_endAtRim m_29_4 m_29_5 m_29_6, aI (G.2 1) q_t_lines_partners 12 m_29_7, aI (G.2 1) q_t_lines_lengths 12 m_29_8, aI (G.2 1) q_t_lines_open 49 m_29_9, aI (G.2 1) q_t_lines_endAtRim 24 m_29_10, oX3 q_t_table t_table_size q_t_table_corners, aI (G.2 1) q_t_table_corners 49 t_table_corners]) hP hD [3, 4, 5, 6, 7, 1, 2] [0] rfl rfl (by decide) (by decide) hk9 hFc hP1 hD1
    have hP := hP.sub (ws' := [oX5 q_t q_t_text q_t_table q_t_other q_t_spare q_t_past q_t_lines q_t_sizes, oX3 q_t_table t_table_size q_t_table_corners, aI (G.2 1) q_t_table_corners 49 t_table_corners, oX1 q_t_lines q_t_lines_partners q_t_lines_lengths m_29_0 m_29_1 m_29_2 m_29_3 q_t_lines_open q_t_lines_endAtRim m_29_4 m_29_5 m_29_6, aI (G.2 1) q_t_lines_partners 12 m_29_7, aI (G.2 1) q_t_lines_lengths 12 m_29_8, aI (G.2 1) q_t_lines_open 49 m_29_9, aI (G.2 1) q_t_lines_endAtRim 24 m_29_10]) [0, 6, 7, 1, 2, 3, 4, 5] rfl
    have hD := hD.sub (ws' := [oX5 q_t q_t_text q_t_table q_t_other q_t_spare q_t_past q_t_lines q_t_sizes, oX3 q_t_table t_table_size q_t_table_corners, aI (G.2 1) q_t_table_corners 49 t_table_corners, oX1 q_t_lines q_t_lines_partners q_t_lines_lengths m_29_0 m_29_1 m_29_2 m_29_3 q_t_lines_open q_t_lines_endAtRim m_29_4 m_29_5 m_29_6, aI (G.2 1) q_t_lines_partners 12 m_29_7, aI (G.2 1) q_t_lines_lengths 12 m_29_8, aI (G.2 1) q_t_lines_open 49 m_29_9, aI (G.2 1) q_t_lines_endAtRim 24 m_29_10]) [0, 6, 7, 1, 2, 3, 4, 5] (by decide) rfl
    clear hPc hDc hFc hP1 hD1 hk9 hz9 hvm9
    refine lv_aload_n hx hb dX5_line_32 rfl (lv_at hl 0 rfl) ?_
    refine va_get (D := G.1) (ci := 5) (v := .ref q_t_lines) (C := RX5) (T := TX5) (N := 7) hx hb hts iX5 hown hK hP 0 rfl rfl 5 (by decide) fl_39 (fun _ h9 => h9) rfl dX5_line_33 ?_
    refine va_get (D := G.1) (ci := 1) (v := .ref q_t_lines_lengths) (C := RX1) (T := TX1) (N := 11) hx hb hts iX1 hown hK hP 3 rfl rfl 1 (by decide) fl_194 (fun _ h9 => h9) rfl dX5_line_36 ?_
    refine lv_iload_n hx hb dX5_line_39 rfl (lv_at hl 1 rfl) ?_
    obtain ⟨hi_40, hE⟩ := ck_some hE
    refine va_iald hx hb hK hP 5 1 rfl rfl (inb_in hi_40) dX5_line_40 ?_
    have e_0 := Option.some.inj hE
    subst e_0
    rw [hQ]
    exact W.iret (v := m_29_8 p1.toNatClampNeg) hx hb hr (fun t ht _ => ⟨⟨_, (), rfl, rfl, by rw [ht]; exact hP, hD⟩, hS.F ht⟩) hS.2.2 dX5_line_41
  · replace hE := (if_pos c_16).symm.trans hE
    refine lv_iconst (v := -1) hx hb dX5_line_19 (by decide) ?_
    have e_0 := Option.some.inj hE
    subst e_0
    rw [hQ]
    exact W.iret (v := (-1 : Int32)) hx hb hr (fun t ht _ => ⟨⟨_, (), rfl, rfl, by rw [ht]; exact hP, hD⟩, hS.F ht⟩) hS.2.2 dX5_line_20
def S_X5_rank (t_table_size : Int32) (t_table_corners : Nat → Int32) (t_sizes_e_size : Int32) (t_sizes_e_masks : Int32) (t_sizes_e_areEndingsCounted : Int32) (t_sizes_e_endings : Nat → Int32) : Option (Int32 × Int32 × (Nat → Int32)) := ck (inb (t_table_size - (1 : Int32)) 6) ((S_X0_rankOf t_sizes_e_size t_sizes_e_masks t_sizes_e_areEndingsCounted t_sizes_e_endings t_table_size t_table_corners).bind (fun (y18 : Int32 × Int32 × (Nat → Int32)) => some (y18.1, y18.2.1, y18.2.2)))
theorem kd_X5_rank : yX5_rank.cls = RX5 ∧ yX5_rank.cls ≠ "java/lang/invoke/MethodHandle" ∧ yX5_rank.cls ≠ "java/lang/invoke/VarHandle" ∧ (parseMethodDescriptor yX5_rank.desc).map (fun d => d.parameters.length) = some 0 := by decide +kernel
set_option maxHeartbeats 4000000 in
set_option maxRecDepth 100000 in
theorem c_X5_rank {l : Launch} {G : kG} (sz : Nat) {q_t : Nat} {q_t_text : Nat} {q_t_table : Nat} {q_t_other : Nat} {q_t_spare : Nat} {q_t_past : Nat} {q_t_lines : Nat} {q_t_sizes : Nat} {t_table_size : Int32} {q_t_table_corners : Nat} {t_table_corners : Nat → Int32} {t_sizes : Nat → Option Nat} {q_t_sizes_e : Nat} {t_sizes_e_size : Int32} {t_sizes_e_masks : Int32} {q_t_sizes_e_endings : Nat} {t_sizes_e_areEndingsCounted : Int32} {q_t_sizes_e_codes : Nat} {q_t_sizes_e_tally : Nat} {t_sizes_e_ways : Int32} {t_sizes_e_endings : Nat → Int32} {res : Int32 × Int32 × (Nat → Int32)} (he_0 : inb (t_table_size - (1 : Int32)) 6 = true → t_sizes (t_table_size - (1 : Int32)).toNatClampNeg = some q_t_sizes_e) (hE : S_X5_rank t_table_size t_table_corners t_sizes_e_size t_sizes_e_masks t_sizes_e_areEndingsCounted t_sizes_e_endings = some res) : Met l yX5_rank wsX5_rank ({ frames := 4, cells := 0, slots := 0, locals := 95 }) (va_Pc [.ref q_t] (fun U => U.heap.size = sz ∧ va_P G.1 vwCl [oX5 q_t q_t_text q_t_table q_t_other q_t_spare q_t_past q_t_lines q_t_sizes, oX3 q_t_table t_table_size q_t_table_corners, aI (G.2 1) q_t_table_corners 49 t_table_corners, aQ (G.2 4) q_t_sizes 6 t_sizes, oX0 q_t_sizes_e t_sizes_e_size t_sizes_e_masks q_t_sizes_e_endings t_sizes_e_areEndingsCounted q_t_sizes_e_codes q_t_sizes_e_tally t_sizes_e_ways, aI (G.2 1) q_t_sizes_e_endings 64 t_sizes_e_endings] U.heap ∧ kw G U ∧ va_D (fun _ => True) [oX5 q_t q_t_text q_t_table q_t_other q_t_spare q_t_past q_t_lines q_t_sizes, oX3 q_t_table t_table_size q_t_table_corners, aI (G.2 1) q_t_table_corners 49 t_table_corners, aQ (G.2 4) q_t_sizes 6 t_sizes, oX0 q_t_sizes_e t_sizes_e_size t_sizes_e_masks q_t_sizes_e_endings t_sizes_e_areEndingsCounted q_t_sizes_e_codes q_t_sizes_e_tally t_sizes_e_ways, aI (G.2 1) q_t_sizes_e_endings 64 t_sizes_e_endings])) (va_Qi (fun r (_ : Unit) => r = res.1) (fun _ t => va_P G.1 vwCl [oX5 q_t q_t_text q_t_table q_t_other q_t_spare q_t_past q_t_lines q_t_sizes, oX3 q_t_table t_table_size q_t_table_corners, aI (G.2 1) q_t_table_corners 49 t_table_corners, aQ (G.2 4) q_t_sizes 6 t_sizes, oX0 q_t_sizes_e t_sizes_e_size t_sizes_e_masks q_t_sizes_e_endings res.2.1 q_t_sizes_e_codes q_t_sizes_e_tally t_sizes_e_ways, aI (G.2 1) q_t_sizes_e_endings 64 res.2.2] t.heap ∧ va_D (va_A [oX5 q_t q_t_text q_t_table q_t_other q_t_spare q_t_past q_t_lines q_t_sizes, oX3 q_t_table t_table_size q_t_table_corners, aI (G.2 1) q_t_table_corners 49 t_table_corners, aQ (G.2 4) q_t_sizes 6 t_sizes, oX0 q_t_sizes_e t_sizes_e_size t_sizes_e_masks q_t_sizes_e_endings t_sizes_e_areEndingsCounted q_t_sizes_e_codes q_t_sizes_e_tally t_sizes_e_ways, aI (G.2 1) q_t_sizes_e_endings 64 t_sizes_e_endings] sz) [oX5 q_t q_t_text q_t_table q_t_other q_t_spare q_t_past q_t_lines q_t_sizes, oX3 q_t_table t_table_size q_t_table_corners, aI (G.2 1) q_t_table_corners 49 t_table_corners, aQ (G.2 4) q_t_sizes 6 t_sizes, oX0 q_t_sizes_e t_sizes_e_size t_sizes_e_masks q_t_sizes_e_endings res.2.1 q_t_sizes_e_codes q_t_sizes_e_tally t_sizes_e_ways, aI (G.2 1) q_t_sizes_e_endings 64 res.2.2]) (va_A [oX5 q_t q_t_text q_t_table q_t_other q_t_spare q_t_past q_t_lines q_t_sizes, oX3 q_t_table t_table_size q_t_table_corners, aI (G.2 1) q_t_table_corners 49 t_table_corners, aQ (G.2 4) q_t_sizes 6 t_sizes, oX0 q_t_sizes_e t_sizes_e_size t_sizes_e_masks q_t_sizes_e_endings t_sizes_e_areEndingsCounted q_t_sizes_e_codes q_t_sizes_e_tally t_sizes_e_ways, aI (G.2 1) q_t_sizes_e_endings 64 t_sizes_e_endings] sz)) 0 0 (va_A [oX5 q_t q_t_text q_t_table q_t_other q_t_spare q_t_past q_t_lines q_t_sizes, oX3 q_t_table t_table_size q_t_table_corners, aI (G.2 1) q_t_table_corners 49 t_table_corners, aQ (G.2 4) q_t_sizes 6 t_sizes, oX0 q_t_sizes_e t_sizes_e_size t_sizes_e_masks q_t_sizes_e_endings t_sizes_e_areEndingsCounted q_t_sizes_e_codes q_t_sizes_e_tally t_sizes_e_ways, aI (G.2 1) q_t_sizes_e_endings 64 t_sizes_e_endings] sz) := by
  refine Met.ofQ (cc := cX5_rank) (maxL := 1) (ret := (some .int)) (by decide) rfl ?_
  intro p e s m args below meth c s₁ Q hQ B hml hv
  obtain ⟨rfl, hsz, hP, hKW, hD0⟩ := hv
  have hK := hKW.1
  have hx := B.exec
  have hb := B.bytes
  have hr := B.returns
  have hts := atoms_spec (ws := wsX5_rank) B.pre
  have hown : s.vm.findClass RX5 = some m.cls := findClass_of_methodNamed B.named
  have hlocks := B.notSynchronized
  have iX3 : ∀ w ∈ u_ws RX3 TX3 2, w ∈ wsX5_rank := by decide +kernel
  have iX5 : ∀ w ∈ u_ws RX5 TX5 7, w ∈ wsX5_rank := by decide +kernel
  have fl_45 := hts (.fieldLink RX5 45 "AlternateSigns" "sizes" "[LAlternateSigns$AllOfSize;") (by decide +kernel)
  have fl_19 := hts (.fieldLink RX5 19 "AlternateSigns" "table" "LAlternateSigns$Table;") (by decide +kernel)
  have fl_84 := hts (.fieldLink RX5 84 "AlternateSigns$Table" "size" "I") (by decide +kernel)
  subst hsz
  have hD := hD0.self (sz := s.heap.size)
  generalize hAe : va_A [oX5 q_t q_t_text q_t_table q_t_other q_t_spare q_t_past q_t_lines q_t_sizes, oX3 q_t_table t_table_size q_t_table_corners, aI (G.2 1) q_t_table_corners 49 t_table_corners, aQ (G.2 4) q_t_sizes 6 t_sizes, oX0 q_t_sizes_e t_sizes_e_size t_sizes_e_masks q_t_sizes_e_endings t_sizes_e_areEndingsCounted q_t_sizes_e_codes q_t_sizes_e_tally t_sizes_e_ways, aI (G.2 1) q_t_sizes_e_endings 64 t_sizes_e_endings] s.heap.size = A at hD hQ
  have hA : ∀ q : Nat, s.heap.size ≤ q → A q := fun q h => by rw [← hAe]; exact Or.inr h
  have hS : va_S A s.heap s.heap [] := va_S.rf
  have hl := lv_entry ([.ref q_t]) (n := 1) (Nat.le_of_ble_eq_true rfl)
  rw [lg_entry_eq]
  generalize (lg_sl ([.ref q_t]) ++ List.replicate (1 - (lg_sl ([.ref q_t])).length) Slot.unset).toArray = ls at hl ⊢
  have hl : lv_has ls 1 [(0, .ref q_t)] := hl
  unfold S_X5_rank at hE
  refine lv_aload_n hx hb dX5_rank_0 rfl (lv_at hl 0 rfl) ?_
  refine va_get (D := G.1) (ci := 5) (v := .ref q_t_sizes) (C := RX5) (T := TX5) (N := 7) hx hb hts iX5 hown hK hP 0 rfl rfl 6 (by decide) fl_45 (fun _ h9 => h9) rfl dX5_rank_1 ?_
  refine lv_aload_n hx hb dX5_rank_4 rfl (lv_at hl 0 rfl) ?_
  refine va_get (D := G.1) (ci := 5) (v := .ref q_t_table) (C := RX5) (T := TX5) (N := 7) hx hb hts iX5 hown hK hP 0 rfl rfl 1 (by decide) fl_19 (fun _ h9 => h9) rfl dX5_rank_5 ?_
  refine va_get (D := G.1) (ci := 3) (v := .int t_table_size) (C := RX3) (T := TX3) (N := 2) hx hb hts iX3 hown hK hP 1 rfl rfl 0 (by decide) fl_84 (fun _ h9 => h9) rfl dX5_rank_8 ?_
  refine lv_iconst (v := 1) hx hb dX5_rank_11 (by decide) ?_
  refine lv_isub hx hb dX5_rank_12 ?_
  obtain ⟨hi_13, hE⟩ := ck_some hE
  refine va_aldq (C := RX0) hx hb hK hP 3 4 rfl rfl (inb_in hi_13) dX5_rank_13 ?_
  rw [he_0 hi_13]
  refine W.eq (g2 := F0 m 14 ls [.ref q_t_sizes_e]) rfl ?_
  refine lv_aload_n hx hb dX5_rank_14 rfl (lv_at hl 0 rfl) ?_
  refine va_get (D := G.1) (ci := 5) (v := .ref q_t_table) (C := RX5) (T := TX5) (N := 7) hx hb hts iX5 hown hK hP 0 rfl rfl 1 (by decide) fl_19 (fun _ h9 => h9) rfl dX5_rank_15 ?_
  obtain ⟨y18, hC_18, hE⟩ := Option.bind_eq_some_iff.mp hE
  obtain ⟨r_18, m_18_0, m_18_1⟩ := y18
  try dsimp only at hE
  have hPc := hP.sub (ws' := [oX0 q_t_sizes_e t_sizes_e_size t_sizes_e_masks q_t_sizes_e_endings t_sizes_e_areEndingsCounted q_t_sizes_e_codes q_t_sizes_e_tally t_sizes_e_ways, aI (G.2 1) q_t_sizes_e_endings 64 t_sizes_e_endings, oX3 q_t_table t_table_size q_t_table_corners, aI (G.2 1) q_t_table_corners 49 t_table_corners]) [4, 5, 1, 2] rfl
  have hDc := hD.sub (ws' := [oX0 q_t_sizes_e t_sizes_e_size t_sizes_e_masks q_t_sizes_e_endings t_sizes_e_areEndingsCounted q_t_sizes_e_codes q_t_sizes_e_tally t_sizes_e_ways, aI (G.2 1) q_t_sizes_e_endings 64 t_sizes_e_endings, oX3 q_t_table t_table_size q_t_table_corners, aI (G.2 1) q_t_table_corners 49 t_table_corners]) [4, 5, 1, 2] (by decide) rfl
  have hFc := va_free (wc := [oX0 q_t_sizes_e t_sizes_e_size t_sizes_e_masks q_t_sizes_e_endings t_sizes_e_areEndingsCounted q_t_sizes_e_codes q_t_sizes_e_tally t_sizes_e_ways, aI (G.2 1) q_t_sizes_e_endings 64 t_sizes_e_endings, oX3 q_t_table t_table_size q_t_table_corners, aI (G.2 1) q_t_table_corners 49 t_table_corners]) hD hS hA [4, 5, 1, 2] rfl
  refine va_calli (va_runV (As := [.ref q_t_table]) (rest := []) ⟨hx, hb, hml, hown, hts⟩ (c_X0_rankOf (l := l) (G := G) _ (q_t := q_t_sizes_e) (t_size := t_sizes_e_size) (t_masks := t_sizes_e_masks) (q_t_endings := q_t_sizes_e_endings) (t_areEndingsCounted := t_sizes_e_areEndingsCounted) (q_t_codes := q_t_sizes_e_codes) (q_t_tally := q_t_sizes_e_tally) (t_ways := t_sizes_e_ways) (t_endings := t_sizes_e_endings) (q_p1 := q_t_table) (p1_size := t_table_size) (q_p1_corners := q_t_table_corners) (p1_corners := t_table_corners) hC_18) (cwV 1 hts gX5_rank_X0_rankOf rfl rfl rfl kd_X0_rankOf ⟨Nat.le_of_ble_eq_true rfl, Nat.le_of_ble_eq_true rfl⟩) (iv_V hKW hPc hDc (ci := 0) (q0 := 0) rfl rfl) rfl rfl hl.1 rfl (lv_room (Nat.le_of_ble_eq_true rfl)) dX5_rank_18 ⟨Nat.zero_le _, Nat.zero_le _⟩) hS (fun q _ h => hFc q h) hFc (fun r9 u9 t9 H1 locs ht9 hvm9 hw9 hB9 hz9 hk9 hS => ?_)
  subst r9
  obtain ⟨hP1, hD1⟩ := hB9
  rw [ht9] at hP1
  obtain ⟨hP, hD⟩ := va_join (wr := [oX5 q_t q_t_text q_t_table q_t_other q_t_spare q_t_past q_t_lines q_t_sizes, aQ (G.2 4) q_t_sizes 6 t_sizes]) (w1 := [oX0 q_t_sizes_e t_sizes_e_size t_sizes_e_masks q_t_sizes_e_endings m_18_0 q_t_sizes_e_codes q_t_sizes_e_tally t_sizes_e_ways, aI (G.2 1) q_t_sizes_e_endings 64 m_18_1, oX3 q_t_table t_table_size q_t_table_corners, aI (G.2 1) q_t_table_corners 49 t_table_corners]) hP hD [4, 5, 1, 2] [0, 3] rfl rfl (by decide) (by decide) hk9 hFc hP1 hD1
  have hP := hP.sub (ws' := [oX5 q_t q_t_text q_t_table q_t_other q_t_spare q_t_past q_t_lines q_t_sizes, oX3 q_t_table t_table_size q_t_table_corners, aI (G.2 1) q_t_table_corners 49 t_table_corners, aQ (G.2 4) q_t_sizes 6 t_sizes, oX0 q_t_sizes_e t_sizes_e_size t_sizes_e_masks q_t_sizes_e_endings m_18_0 q_t_sizes_e_codes q_t_sizes_e_tally t_sizes_e_ways, aI (G.2 1) q_t_sizes_e_endings 64 m_18_1]) [0, 4, 5, 1, 2, 3] rfl
  have hD := hD.sub (ws' := [oX5 q_t q_t_text q_t_table q_t_other q_t_spare q_t_past q_t_lines q_t_sizes, oX3 q_t_table t_table_size q_t_table_corners, aI (G.2 1) q_t_table_corners 49 t_table_corners, aQ (G.2 4) q_t_sizes 6 t_sizes, oX0 q_t_sizes_e t_sizes_e_size t_sizes_e_masks q_t_sizes_e_endings m_18_0 q_t_sizes_e_codes q_t_sizes_e_tally t_sizes_e_ways, aI (G.2 1) q_t_sizes_e_endings 64 m_18_1]) [0, 4, 5, 1, 2, 3] (by decide) rfl
  clear hPc hDc hFc hP1 hD1 hk9 hz9 hvm9
  have e_0 := Option.some.inj hE
  subst e_0
  rw [hQ]
  exact W.iret (v := r_18) hx hb hr (fun t ht _ => ⟨⟨_, (), rfl, rfl, by rw [ht]; exact hP, hD⟩, hS.F ht⟩) hS.2.2 dX5_rank_21
def S_X5_many (p1 : Int32) (p2 : Int32) (t_sizes_e_size : Int32) (t_sizes_e_masks : Int32) (t_sizes_e_areEndingsCounted : Int32) (t_sizes_e_endings : Nat → Int32) : Option (Int32 × Int32 × (Nat → Int32)) := (S_X5_isSize p1).bind (fun (y1 : Int32) => if y1 = 0 then some ((-1 : Int32), t_sizes_e_areEndingsCounted, t_sizes_e_endings) else (S_X5_isBetween p2 (-1 : Int32) (p1 - (1 : Int32))).bind (fun (y12 : Int32) => if y12 = 0 then some ((-1 : Int32), t_sizes_e_areEndingsCounted, t_sizes_e_endings) else ck (inb (p1 - (1 : Int32)) 6) (if 0 ≤ p2 then (S_X0_withFirstOne p2 t_sizes_e_size t_sizes_e_masks t_sizes_e_areEndingsCounted t_sizes_e_endings).bind (fun (y42 : Int32 × Int32 × (Nat → Int32)) => some (y42.1, y42.2.1, y42.2.2)) else (S_X0_total t_sizes_e_size t_sizes_e_masks t_sizes_e_areEndingsCounted t_sizes_e_endings).bind (fun (y34 : Int32 × Int32 × (Nat → Int32)) => some (y34.1, y34.2.1, y34.2.2)))))
theorem kd_X5_many : yX5_many.cls = RX5 ∧ yX5_many.cls ≠ "java/lang/invoke/MethodHandle" ∧ yX5_many.cls ≠ "java/lang/invoke/VarHandle" ∧ (parseMethodDescriptor yX5_many.desc).map (fun d => d.parameters.length) = some 2 := by decide +kernel
set_option maxHeartbeats 4000000 in
set_option maxRecDepth 100000 in
theorem c_X5_many {l : Launch} {G : kG} (sz : Nat) {p1 : Int32} {p2 : Int32} {q_t : Nat} {q_t_text : Nat} {q_t_table : Nat} {q_t_other : Nat} {q_t_spare : Nat} {q_t_past : Nat} {q_t_lines : Nat} {q_t_sizes : Nat} {t_sizes : Nat → Option Nat} {q_t_sizes_e : Nat} {t_sizes_e_size : Int32} {t_sizes_e_masks : Int32} {q_t_sizes_e_endings : Nat} {t_sizes_e_areEndingsCounted : Int32} {q_t_sizes_e_codes : Nat} {q_t_sizes_e_tally : Nat} {t_sizes_e_ways : Int32} {t_sizes_e_endings : Nat → Int32} {res : Int32 × Int32 × (Nat → Int32)} (he_0 : inb (p1 - (1 : Int32)) 6 = true → t_sizes (p1 - (1 : Int32)).toNatClampNeg = some q_t_sizes_e) (hE : S_X5_many p1 p2 t_sizes_e_size t_sizes_e_masks t_sizes_e_areEndingsCounted t_sizes_e_endings = some res) : Met l yX5_many wsX5_many ({ frames := 4, cells := 0, slots := 0, locals := 91 }) (va_Pc [.ref q_t, .int p1, .int p2] (fun U => U.heap.size = sz ∧ va_P G.1 vwCl [oX5 q_t q_t_text q_t_table q_t_other q_t_spare q_t_past q_t_lines q_t_sizes, aQ (G.2 4) q_t_sizes 6 t_sizes, oX0 q_t_sizes_e t_sizes_e_size t_sizes_e_masks q_t_sizes_e_endings t_sizes_e_areEndingsCounted q_t_sizes_e_codes q_t_sizes_e_tally t_sizes_e_ways, aI (G.2 1) q_t_sizes_e_endings 64 t_sizes_e_endings] U.heap ∧ kw G U ∧ va_D (fun _ => True) [oX5 q_t q_t_text q_t_table q_t_other q_t_spare q_t_past q_t_lines q_t_sizes, aQ (G.2 4) q_t_sizes 6 t_sizes, oX0 q_t_sizes_e t_sizes_e_size t_sizes_e_masks q_t_sizes_e_endings t_sizes_e_areEndingsCounted q_t_sizes_e_codes q_t_sizes_e_tally t_sizes_e_ways, aI (G.2 1) q_t_sizes_e_endings 64 t_sizes_e_endings])) (va_Qi (fun r (_ : Unit) => r = res.1) (fun _ t => va_P G.1 vwCl [oX5 q_t q_t_text q_t_table q_t_other q_t_spare q_t_past q_t_lines q_t_sizes, aQ (G.2 4) q_t_sizes 6 t_sizes, oX0 q_t_sizes_e t_sizes_e_size t_sizes_e_masks q_t_sizes_e_endings res.2.1 q_t_sizes_e_codes q_t_sizes_e_tally t_sizes_e_ways, aI (G.2 1) q_t_sizes_e_endings 64 res.2.2] t.heap ∧ va_D (va_A [oX5 q_t q_t_text q_t_table q_t_other q_t_spare q_t_past q_t_lines q_t_sizes, aQ (G.2 4) q_t_sizes 6 t_sizes, oX0 q_t_sizes_e t_sizes_e_size t_sizes_e_masks q_t_sizes_e_endings t_sizes_e_areEndingsCounted q_t_sizes_e_codes q_t_sizes_e_tally t_sizes_e_ways, aI (G.2 1) q_t_sizes_e_endings 64 t_sizes_e_endings] sz) [oX5 q_t q_t_text q_t_table q_t_other q_t_spare q_t_past q_t_lines q_t_sizes, aQ (G.2 4) q_t_sizes 6 t_sizes, oX0 q_t_sizes_e t_sizes_e_size t_sizes_e_masks q_t_sizes_e_endings res.2.1 q_t_sizes_e_codes q_t_sizes_e_tally t_sizes_e_ways, aI (G.2 1) q_t_sizes_e_endings 64 res.2.2]) (va_A [oX5 q_t q_t_text q_t_table q_t_other q_t_spare q_t_past q_t_lines q_t_sizes, aQ (G.2 4) q_t_sizes 6 t_sizes, oX0 q_t_sizes_e t_sizes_e_size t_sizes_e_masks q_t_sizes_e_endings t_sizes_e_areEndingsCounted q_t_sizes_e_codes q_t_sizes_e_tally t_sizes_e_ways, aI (G.2 1) q_t_sizes_e_endings 64 t_sizes_e_endings] sz)) 0 0 (va_A [oX5 q_t q_t_text q_t_table q_t_other q_t_spare q_t_past q_t_lines q_t_sizes, aQ (G.2 4) q_t_sizes 6 t_sizes, oX0 q_t_sizes_e t_sizes_e_size t_sizes_e_masks q_t_sizes_e_endings t_sizes_e_areEndingsCounted q_t_sizes_e_codes q_t_sizes_e_tally t_sizes_e_ways, aI (G.2 1) q_t_sizes_e_endings 64 t_sizes_e_endings] sz) := by
  refine Met.ofQ (cc := cX5_many) (maxL := 4) (ret := (some .int)) (by decide) rfl ?_
  intro p e s m args below meth c s₁ Q hQ B hml hv
  obtain ⟨rfl, hsz, hP, hKW, hD0⟩ := hv
  have hK := hKW.1
  have hx := B.exec
  have hb := B.bytes
  have hr := B.returns
  have hts := atoms_spec (ws := wsX5_many) B.pre
  have hown : s.vm.findClass RX5 = some m.cls := findClass_of_methodNamed B.named
  have hlocks := B.notSynchronized
  have iX5 : ∀ w ∈ u_ws RX5 TX5 7, w ∈ wsX5_many := by decide +kernel
  have fl_45 := hts (.fieldLink RX5 45 "AlternateSigns" "sizes" "[LAlternateSigns$AllOfSize;") (by decide +kernel)
  subst hsz
  have hD := hD0.self (sz := s.heap.size)
  generalize hAe : va_A [oX5 q_t q_t_text q_t_table q_t_other q_t_spare q_t_past q_t_lines q_t_sizes, aQ (G.2 4) q_t_sizes 6 t_sizes, oX0 q_t_sizes_e t_sizes_e_size t_sizes_e_masks q_t_sizes_e_endings t_sizes_e_areEndingsCounted q_t_sizes_e_codes q_t_sizes_e_tally t_sizes_e_ways, aI (G.2 1) q_t_sizes_e_endings 64 t_sizes_e_endings] s.heap.size = A at hD hQ
  have hA : ∀ q : Nat, s.heap.size ≤ q → A q := fun q h => by rw [← hAe]; exact Or.inr h
  have hS : va_S A s.heap s.heap [] := va_S.rf
  have hl := lv_entry ([.ref q_t, .int p1, .int p2]) (n := 4) (Nat.le_of_ble_eq_true rfl)
  rw [lg_entry_eq]
  generalize (lg_sl ([.ref q_t, .int p1, .int p2]) ++ List.replicate (4 - (lg_sl ([.ref q_t, .int p1, .int p2])).length) Slot.unset).toArray = ls at hl ⊢
  have hl : lv_has ls 4 [(0, .ref q_t), (1, .int p1), (2, .int p2)] := hl
  unfold S_X5_many at hE
  refine lv_iload_n hx hb dX5_many_0 rfl (lv_at hl 1 rfl) ?_
  obtain ⟨y1, hC_1, hE⟩ := Option.bind_eq_some_iff.mp hE
  obtain ⟨r_1, ex9⟩ : ∃ z, z = y1 := ⟨_, rfl⟩
  subst ex9
  try dsimp only at hE
  refine vp_callSi (va_Run.run (va_runS (As := [.int p1]) (rest := []) ⟨hx, hb, hml, hown, hts⟩ (c_X5_isSize (l := l) (G := G) (p1 := p1) hC_1) (va_cwS 1 hts gX5_many_X5_isSize rfl rfl rfl kd_X5_isSize ⟨Nat.le_of_ble_eq_true rfl, Nat.le_of_ble_eq_true rfl⟩) (pv_S hKW (hP.sub (ws' := []) [] rfl)) rfl rfl hl.1 rfl (lv_room (Nat.le_of_ble_eq_true rfl)) dX5_many_1 ⟨Nat.zero_le _, Nat.zero_le _⟩)) (fun r9 hr9 => ?_)
  subst r9
  refine lv_if_eq (tgt := 18) hx hb dX5_many_4 (by decide) (fun c_4 => ?_) (fun c_4 => ?_)
  · replace hE := (if_pos c_4).symm.trans hE
    refine lv_iconst (v := -1) hx hb dX5_many_18 (by decide) ?_
    have e_0 := Option.some.inj hE
    subst e_0
    rw [hQ]
    exact W.iret (v := (-1 : Int32)) hx hb hr (fun t ht _ => ⟨⟨_, (), rfl, rfl, by rw [ht]; exact hP, hD⟩, hS.F ht⟩) hS.2.2 dX5_many_19
  · replace hE := (if_neg c_4).symm.trans hE
    refine lv_iload_n hx hb dX5_many_7 rfl (lv_at hl 2 rfl) ?_
    refine lv_iconst (v := -1) hx hb dX5_many_8 (by decide) ?_
    refine lv_iload_n hx hb dX5_many_9 rfl (lv_at hl 1 rfl) ?_
    refine lv_iconst (v := 1) hx hb dX5_many_10 (by decide) ?_
    refine lv_isub hx hb dX5_many_11 ?_
    obtain ⟨y12, hC_12, hE⟩ := Option.bind_eq_some_iff.mp hE
    obtain ⟨r_12, ex9⟩ : ∃ z, z = y12 := ⟨_, rfl⟩
    subst ex9
    try dsimp only at hE
    refine vp_callSi (va_Run.run (va_runS (As := [.int p2, .int (-1 : Int32), .int (p1 - (1 : Int32))]) (rest := []) ⟨hx, hb, hml, hown, hts⟩ (c_X5_isBetween (l := l) (G := G) (p1 := p2) (p2 := (-1 : Int32)) (p3 := p1 - (1 : Int32)) hC_12) (va_cwS 3 hts gX5_many_X5_isBetween rfl rfl rfl kd_X5_isBetween ⟨Nat.le_of_ble_eq_true rfl, Nat.le_of_ble_eq_true rfl⟩) (pv_S hKW (hP.sub (ws' := []) [] rfl)) rfl rfl hl.1 rfl (lv_room (Nat.le_of_ble_eq_true rfl)) dX5_many_12 ⟨Nat.zero_le _, Nat.zero_le _⟩)) (fun r9 hr9 => ?_)
    subst r9
    refine lv_if_ne (tgt := 20) hx hb dX5_many_15 (by decide) (fun c_15 => ?_) (fun c_15 => ?_)
    · replace hE := (if_neg c_15).symm.trans hE
      refine lv_aload_n hx hb dX5_many_20 rfl (lv_at hl 0 rfl) ?_
      refine va_get (D := G.1) (ci := 5) (v := .ref q_t_sizes) (C := RX5) (T := TX5) (N := 7) hx hb hts iX5 hown hK hP 0 rfl rfl 6 (by decide) fl_45 (fun _ h9 => h9) rfl dX5_many_21 ?_
      refine lv_iload_n hx hb dX5_many_24 rfl (lv_at hl 1 rfl) ?_
      refine lv_iconst (v := 1) hx hb dX5_many_25 (by decide) ?_
      refine lv_isub hx hb dX5_many_26 ?_
      obtain ⟨hi_27, hE⟩ := ck_some hE
      refine va_aldq (C := RX0) hx hb hK hP 1 4 rfl rfl (inb_in hi_27) dX5_many_27 ?_
      rw [he_0 hi_27]
      refine W.eq (g2 := F0 m 28 ls [.ref q_t_sizes_e]) rfl ?_
      refine lv_astore_n (lv' := [(3, .ref q_t_sizes_e), (0, .ref q_t), (1, .int p1), (2, .int p2)]) hx hb dX5_many_28 rfl hl (by decide) rfl (fun ls hl => ?_)
      refine lv_iload_n hx hb dX5_many_29 rfl (lv_at hl 3 rfl) ?_
      refine lv_if_ge (tgt := 40) hx hb dX5_many_30 (by decide) (fun c_30 => ?_) (fun c_30 => ?_)
      · replace hE := (if_pos c_30).symm.trans hE
        refine lv_aload_n hx hb dX5_many_40 rfl (lv_at hl 0 rfl) ?_
        refine lv_iload_n hx hb dX5_many_41 rfl (lv_at hl 3 rfl) ?_
        obtain ⟨y42, hC_42, hE⟩ := Option.bind_eq_some_iff.mp hE
        obtain ⟨r_42, m_42_0, m_42_1⟩ := y42
        try dsimp only at hE
        have hPc := hP.sub (ws' := [oX0 q_t_sizes_e t_sizes_e_size t_sizes_e_masks q_t_sizes_e_endings t_sizes_e_areEndingsCounted q_t_sizes_e_codes q_t_sizes_e_tally t_sizes_e_ways, aI (G.2 1) q_t_sizes_e_endings 64 t_sizes_e_endings]) [2, 3] rfl
        have hDc := hD.sub (ws' := [oX0 q_t_sizes_e t_sizes_e_size t_sizes_e_masks q_t_sizes_e_endings t_sizes_e_areEndingsCounted q_t_sizes_e_codes q_t_sizes_e_tally t_sizes_e_ways, aI (G.2 1) q_t_sizes_e_endings 64 t_sizes_e_endings]) [2, 3] (by decide) rfl
        have hFc := va_free (wc := [oX0 q_t_sizes_e t_sizes_e_size t_sizes_e_masks q_t_sizes_e_endings t_sizes_e_areEndingsCounted q_t_sizes_e_codes q_t_sizes_e_tally t_sizes_e_ways, aI (G.2 1) q_t_sizes_e_endings 64 t_sizes_e_endings]) hD hS hA [2, 3] rfl
        refine va_calli (va_runV (As := [.int p2]) (rest := []) ⟨hx, hb, hml, hown, hts⟩ (c_X0_withFirstOne (l := l) (G := G) _ (p1 := p2) (q_t := q_t_sizes_e) (t_size := t_sizes_e_size) (t_masks := t_sizes_e_masks) (q_t_endings := q_t_sizes_e_endings) (t_areEndingsCounted := t_sizes_e_areEndingsCounted) (q_t_codes := q_t_sizes_e_codes) (q_t_tally := q_t_sizes_e_tally) (t_ways := t_sizes_e_ways) (t_endings := t_sizes_e_endings) hC_42) (cwV 1 hts gX5_many_X0_withFirstOne rfl rfl rfl kd_X0_withFirstOne ⟨Nat.le_of_ble_eq_true rfl, Nat.le_of_ble_eq_true rfl⟩) (iv_V hKW hPc hDc (ci := 0) (q0 := 0) rfl rfl) rfl rfl hl.1 rfl (lv_room (Nat.le_of_ble_eq_true rfl)) dX5_many_42 ⟨Nat.zero_le _, Nat.zero_le _⟩) hS (fun q _ h => hFc q h) hFc (fun r9 u9 t9 H1 locs ht9 hvm9 hw9 hB9 hz9 hk9 hS => ?_)
        subst r9
        obtain ⟨hP1, hD1⟩ := hB9
        rw [ht9] at hP1
        obtain ⟨hP, hD⟩ := va_join (wr := [oX5 q_t q_t_text q_t_table q_t_other q_t_spare q_t_past q_t_lines q_t_sizes, aQ (G.2 4) q_t_sizes 6 t_sizes]) (w1 := [oX0 q_t_sizes_e t_sizes_e_size t_sizes_e_masks q_t_sizes_e_endings m_42_0 q_t_sizes_e_codes q_t_sizes_e_tally t_sizes_e_ways, aI (G.2 1) q_t_sizes_e_endings 64 m_42_1]) hP hD [2, 3] [0, 1] rfl rfl (by decide) (by decide) hk9 hFc hP1 hD1
        have hP := hP.sub (ws' := [oX5 q_t q_t_text q_t_table q_t_other q_t_spare q_t_past q_t_lines q_t_sizes, aQ (G.2 4) q_t_sizes 6 t_sizes, oX0 q_t_sizes_e t_sizes_e_size t_sizes_e_masks q_t_sizes_e_endings m_42_0 q_t_sizes_e_codes q_t_sizes_e_tally t_sizes_e_ways, aI (G.2 1) q_t_sizes_e_endings 64 m_42_1]) [0, 1, 2, 3] rfl
        have hD := hD.sub (ws' := [oX5 q_t q_t_text q_t_table q_t_other q_t_spare q_t_past q_t_lines q_t_sizes, aQ (G.2 4) q_t_sizes 6 t_sizes, oX0 q_t_sizes_e t_sizes_e_size t_sizes_e_masks q_t_sizes_e_endings m_42_0 q_t_sizes_e_codes q_t_sizes_e_tally t_sizes_e_ways, aI (G.2 1) q_t_sizes_e_endings 64 m_42_1]) [0, 1, 2, 3] (by decide) rfl
        clear hPc hDc hFc hP1 hD1 hk9 hz9 hvm9
        have e_0 := Option.some.inj hE
        subst e_0
        rw [hQ]
        exact W.iret (v := r_42) hx hb hr (fun t ht _ => ⟨⟨_, (), rfl, rfl, by rw [ht]; exact hP, hD⟩, hS.F ht⟩) hS.2.2 dX5_many_45
      · replace hE := (if_neg c_30).symm.trans hE
        refine lv_aload_n hx hb dX5_many_33 rfl (lv_at hl 0 rfl) ?_
        obtain ⟨y34, hC_34, hE⟩ := Option.bind_eq_some_iff.mp hE
        obtain ⟨r_34, m_34_0, m_34_1⟩ := y34
        try dsimp only at hE
        have hPc := hP.sub (ws' := [oX0 q_t_sizes_e t_sizes_e_size t_sizes_e_masks q_t_sizes_e_endings t_sizes_e_areEndingsCounted q_t_sizes_e_codes q_t_sizes_e_tally t_sizes_e_ways, aI (G.2 1) q_t_sizes_e_endings 64 t_sizes_e_endings]) [2, 3] rfl
        have hDc := hD.sub (ws' := [oX0 q_t_sizes_e t_sizes_e_size t_sizes_e_masks q_t_sizes_e_endings t_sizes_e_areEndingsCounted q_t_sizes_e_codes q_t_sizes_e_tally t_sizes_e_ways, aI (G.2 1) q_t_sizes_e_endings 64 t_sizes_e_endings]) [2, 3] (by decide) rfl
        have hFc := va_free (wc := [oX0 q_t_sizes_e t_sizes_e_size t_sizes_e_masks q_t_sizes_e_endings t_sizes_e_areEndingsCounted q_t_sizes_e_codes q_t_sizes_e_tally t_sizes_e_ways, aI (G.2 1) q_t_sizes_e_endings 64 t_sizes_e_endings]) hD hS hA [2, 3] rfl
        refine va_calli (va_runV (As := []) (rest := []) ⟨hx, hb, hml, hown, hts⟩ (c_X0_total (l := l) (G := G) _ (q_t := q_t_sizes_e) (t_size := t_sizes_e_size) (t_masks := t_sizes_e_masks) (q_t_endings := q_t_sizes_e_endings) (t_areEndingsCounted := t_sizes_e_areEndingsCounted) (q_t_codes := q_t_sizes_e_codes) (q_t_tally := q_t_sizes_e_tally) (t_ways := t_sizes_e_ways) (t_endings := t_sizes_e_endings) hC_34) (cwV 0 hts gX5_many_X0_total rfl rfl rfl kd_X0_total ⟨Nat.le_of_ble_eq_true rfl, Nat.le_of_ble_eq_true rfl⟩) (iv_V hKW hPc hDc (ci := 0) (q0 := 0) rfl rfl) rfl rfl hl.1 rfl (lv_room (Nat.le_of_ble_eq_true rfl)) dX5_many_34 ⟨Nat.zero_le _, Nat.zero_le _⟩) hS (fun q _ h => hFc q h) hFc (fun r9 u9 t9 H1 locs ht9 hvm9 hw9 hB9 hz9 hk9 hS => ?_)
        subst r9
        obtain ⟨hP1, hD1⟩ := hB9
        rw [ht9] at hP1
        obtain ⟨hP, hD⟩ := va_join (wr := [oX5 q_t q_t_text q_t_table q_t_other q_t_spare q_t_past q_t_lines q_t_sizes, aQ (G.2 4) q_t_sizes 6 t_sizes]) (w1 := [oX0 q_t_sizes_e t_sizes_e_size t_sizes_e_masks q_t_sizes_e_endings m_34_0 q_t_sizes_e_codes q_t_sizes_e_tally t_sizes_e_ways, aI (G.2 1) q_t_sizes_e_endings 64 m_34_1]) hP hD [2, 3] [0, 1] rfl rfl (by decide) (by decide) hk9 hFc hP1 hD1
        have hP := hP.sub (ws' := [oX5 q_t q_t_text q_t_table q_t_other q_t_spare q_t_past q_t_lines q_t_sizes, aQ (G.2 4) q_t_sizes 6 t_sizes, oX0 q_t_sizes_e t_sizes_e_size t_sizes_e_masks q_t_sizes_e_endings m_34_0 q_t_sizes_e_codes q_t_sizes_e_tally t_sizes_e_ways, aI (G.2 1) q_t_sizes_e_endings 64 m_34_1]) [0, 1, 2, 3] rfl
        have hD := hD.sub (ws' := [oX5 q_t q_t_text q_t_table q_t_other q_t_spare q_t_past q_t_lines q_t_sizes, aQ (G.2 4) q_t_sizes 6 t_sizes, oX0 q_t_sizes_e t_sizes_e_size t_sizes_e_masks q_t_sizes_e_endings m_34_0 q_t_sizes_e_codes q_t_sizes_e_tally t_sizes_e_ways, aI (G.2 1) q_t_sizes_e_endings 64 m_34_1]) [0, 1, 2, 3] (by decide) rfl
        clear hPc hDc hFc hP1 hD1 hk9 hz9 hvm9
        refine lv_goto (tgt := 45) hx hb dX5_many_37 (by decide) ?_
        have e_0 := Option.some.inj hE
        subst e_0
        rw [hQ]
        exact W.iret (v := r_34) hx hb hr (fun t ht _ => ⟨⟨_, (), rfl, rfl, by rw [ht]; exact hP, hD⟩, hS.F ht⟩) hS.2.2 dX5_many_45
    · replace hE := (if_pos c_15).symm.trans hE
      refine lv_iconst (v := -1) hx hb dX5_many_18 (by decide) ?_
      have e_0 := Option.some.inj hE
      subst e_0
      rw [hQ]
      exact W.iret (v := (-1 : Int32)) hx hb hr (fun t ht _ => ⟨⟨_, (), rfl, rfl, by rw [ht]; exact hP, hD⟩, hS.F ht⟩) hS.2.2 dX5_many_19
def S_X5_alike (t_table_size : Int32) (t_table_corners : Nat → Int32) (t_spare_size : Int32) (t_spare_corners : Nat → Int32) (t_lines_ringEdges : Int32) (t_lines_rings : Int32) (t_lines_size : Int32) (t_lines_ends : Int32) (t_lines_row : Int32) (t_lines_column : Int32) (t_lines_side : Int32) (t_lines_partners : Nat → Int32) (t_lines_lengths : Nat → Int32) (t_lines_open : Nat → Int32) (t_lines_endAtRim : Nat → Int32) (t_sizes_e_size : Int32) (t_sizes_e_masks : Int32) (t_sizes_e_areEndingsCounted : Int32) (t_sizes_e_ways : Int32) (t_sizes_e_endings : Nat → Int32) (t_sizes_e_codes : Nat → Int64) (t_sizes_e_tally : Nat → Int32) : Option (Int32 × Int32 × (Nat → Int32) × Int32 × Int32 × Int32 × Int32 × Int32 × Int32 × Int32 × (Nat → Int32) × (Nat → Int32) × (Nat → Int32) × (Nat → Int32) × Int32 × Int32 × (Nat → Int32) × (Nat → Int64) × (Nat → Int32)) := if t_table_size ≤ (5 : Int32) then ck (inb (t_table_size - (1 : Int32)) 6) ((S_X0_sortByPartners t_sizes_e_size t_sizes_e_masks t_sizes_e_areEndingsCounted t_sizes_e_ways t_sizes_e_endings t_sizes_e_codes t_sizes_e_tally t_lines_ringEdges t_lines_rings t_lines_size t_lines_ends t_lines_row t_lines_column t_lines_side t_lines_partners t_lines_lengths t_lines_open t_lines_endAtRim t_spare_size t_spare_corners).bind (fun (y38 : Int32 × Int32 × (Nat → Int32) × (Nat → Int64) × (Nat → Int32) × Int32 × Int32 × Int32 × Int32 × Int32 × Int32 × Int32 × (Nat → Int32) × (Nat → Int32) × (Nat → Int32) × (Nat → Int32) × Int32 × (Nat → Int32)) => (S_X1_trace y38.2.2.2.2.2.2.2.2.2.1 y38.2.2.2.2.2.2.2.2.2.2.1 y38.2.2.2.2.2.2.2.2.2.2.2.1 y38.2.2.2.2.2.2.2.2.2.2.2.2.1 y38.2.2.2.2.2.2.2.2.2.2.2.2.2.1 y38.2.2.2.2.2.2.2.2.2.2.2.2.2.2.1 y38.2.2.2.2.2.2.2.2.2.2.2.2.2.2.2.1 t_table_size t_table_corners).bind (fun (y49 : Int32 × Int32 × Int32 × Int32 × Int32 × Int32 × Int32 × (Nat → Int32) × (Nat → Int32) × (Nat → Int32) × (Nat → Int32)) => (S_X1_partnersCode y49.2.2.2.1 y49.2.2.2.2.2.2.2.1).bind (fun (y57 : Int64) => (S_X0_wayOf y57 y38.2.1 y38.2.2.2.1).bind (fun (y60 : Int32) => (S_X5_isBetween y60 (0 : Int32) (41 : Int32)).bind (fun (y68 : Int32) => if y68 = 0 then some ((0 : Int32), y38.2.2.2.2.2.2.2.2.2.2.2.2.2.2.2.2.1, y38.2.2.2.2.2.2.2.2.2.2.2.2.2.2.2.2.2, y49.1, y49.2.1, y49.2.2.1, y49.2.2.2.1, y49.2.2.2.2.1, y49.2.2.2.2.2.1, y49.2.2.2.2.2.2.1, y49.2.2.2.2.2.2.2.1, y49.2.2.2.2.2.2.2.2.1, y49.2.2.2.2.2.2.2.2.2.1, y49.2.2.2.2.2.2.2.2.2.2, y38.1, y38.2.1, y38.2.2.1, y38.2.2.2.1, y38.2.2.2.2.1) else ck (inb y60 42) (some (y38.2.2.2.2.1 y60.toNatClampNeg, y38.2.2.2.2.2.2.2.2.2.2.2.2.2.2.2.2.1, y38.2.2.2.2.2.2.2.2.2.2.2.2.2.2.2.2.2, y49.1, y49.2.1, y49.2.2.1, y49.2.2.2.1, y49.2.2.2.2.1, y49.2.2.2.2.2.1, y49.2.2.2.2.2.2.1, y49.2.2.2.2.2.2.2.1, y49.2.2.2.2.2.2.2.2.1, y49.2.2.2.2.2.2.2.2.2.1, y49.2.2.2.2.2.2.2.2.2.2, y38.1, y38.2.1, y38.2.2.1, y38.2.2.2.1, y38.2.2.2.2.1)))))))) else some ((-2 : Int32), t_spare_size, t_spare_corners, t_lines_ringEdges, t_lines_rings, t_lines_size, t_lines_ends, t_lines_row, t_lines_column, t_lines_side, t_lines_partners, t_lines_lengths, t_lines_open, t_lines_endAtRim, t_sizes_e_areEndingsCounted, t_sizes_e_ways, t_sizes_e_endings, t_sizes_e_codes, t_sizes_e_tally)
theorem kd_X5_alike : yX5_alike.cls = RX5 ∧ yX5_alike.cls ≠ "java/lang/invoke/MethodHandle" ∧ yX5_alike.cls ≠ "java/lang/invoke/VarHandle" ∧ (parseMethodDescriptor yX5_alike.desc).map (fun d => d.parameters.length) = some 0 := by decide +kernel
set_option maxHeartbeats 4000000 in
set_option maxRecDepth 100000 in
theorem c_X5_alike {l : Launch} {G : kG} (sz : Nat) {q_t : Nat} {q_t_text : Nat} {q_t_table : Nat} {q_t_other : Nat} {q_t_spare : Nat} {q_t_past : Nat} {q_t_lines : Nat} {q_t_sizes : Nat} {t_table_size : Int32} {q_t_table_corners : Nat} {t_table_corners : Nat → Int32} {t_spare_size : Int32} {q_t_spare_corners : Nat} {t_spare_corners : Nat → Int32} {q_t_lines_partners : Nat} {q_t_lines_lengths : Nat} {t_lines_ringEdges : Int32} {t_lines_rings : Int32} {t_lines_size : Int32} {t_lines_ends : Int32} {q_t_lines_open : Nat} {q_t_lines_endAtRim : Nat} {t_lines_row : Int32} {t_lines_column : Int32} {t_lines_side : Int32} {t_lines_partners : Nat → Int32} {t_lines_lengths : Nat → Int32} {t_lines_open : Nat → Int32} {t_lines_endAtRim : Nat → Int32} {t_sizes : Nat → Option Nat} {q_t_sizes_e : Nat} {t_sizes_e_size : Int32} {t_sizes_e_masks : Int32} {q_t_sizes_e_endings : Nat} {t_sizes_e_areEndingsCounted : Int32} {q_t_sizes_e_codes : Nat} {q_t_sizes_e_tally : Nat} {t_sizes_e_ways : Int32} {t_sizes_e_endings : Nat → Int32} {t_sizes_e_codes : Nat → Int64} {t_sizes_e_tally : Nat → Int32} {res : Int32 × Int32 × (Nat → Int32) × Int32 × Int32 × Int32 × Int32 × Int32 × Int32 × Int32 × (Nat → Int32) × (Nat → Int32) × (Nat → Int32) × (Nat → Int32) × Int32 × Int32 × (Nat → Int32) × (Nat → Int64) × (Nat → Int32)} (he_0 : inb (t_table_size - (1 : Int32)) 6 = true → t_sizes (t_table_size - (1 : Int32)).toNatClampNeg = some q_t_sizes_e) (hE : S_X5_alike t_table_size t_table_corners t_spare_size t_spare_corners t_lines_ringEdges t_lines_rings t_lines_size t_lines_ends t_lines_row t_lines_column t_lines_side t_lines_partners t_lines_lengths t_lines_open t_lines_endAtRim t_sizes_e_size t_sizes_e_masks t_sizes_e_areEndingsCounted t_sizes_e_ways t_sizes_e_endings t_sizes_e_codes t_sizes_e_tally = some res) : Met l yX5_alike wsX5_alike ({ frames := 6, cells := 0, slots := 0, locals := 137 }) (va_Pc [.ref q_t] (fun U => U.heap.size = sz ∧ va_P G.1 vwCl [oX5 q_t q_t_text q_t_table q_t_other q_t_spare q_t_past q_t_lines q_t_sizes, oX3 q_t_table t_table_size q_t_table_corners, aI (G.2 1) q_t_table_corners 49 t_table_corners, oX3 q_t_spare t_spare_size q_t_spare_corners, aI (G.2 1) q_t_spare_corners 49 t_spare_corners, oX1 q_t_lines q_t_lines_partners q_t_lines_lengths t_lines_ringEdges t_lines_rings t_lines_size t_lines_ends q_t_lines_open q_t_lines_endAtRim t_lines_row t_lines_column t_lines_side, aI (G.2 1) q_t_lines_partners 12 t_lines_partners, aI (G.2 1) q_t_lines_lengths 12 t_lines_lengths, aI (G.2 1) q_t_lines_open 49 t_lines_open, aI (G.2 1) q_t_lines_endAtRim 24 t_lines_endAtRim, aQ (G.2 4) q_t_sizes 6 t_sizes, oX0 q_t_sizes_e t_sizes_e_size t_sizes_e_masks q_t_sizes_e_endings t_sizes_e_areEndingsCounted q_t_sizes_e_codes q_t_sizes_e_tally t_sizes_e_ways, aI (G.2 1) q_t_sizes_e_endings 64 t_sizes_e_endings, aJ (G.2 2) q_t_sizes_e_codes 42 t_sizes_e_codes, aI (G.2 1) q_t_sizes_e_tally 42 t_sizes_e_tally] U.heap ∧ kw G U ∧ va_D (fun _ => True) [oX5 q_t q_t_text q_t_table q_t_other q_t_spare q_t_past q_t_lines q_t_sizes, oX3 q_t_table t_table_size q_t_table_corners, aI (G.2 1) q_t_table_corners 49 t_table_corners, oX3 q_t_spare t_spare_size q_t_spare_corners, aI (G.2 1) q_t_spare_corners 49 t_spare_corners, oX1 q_t_lines q_t_lines_partners q_t_lines_lengths t_lines_ringEdges t_lines_rings t_lines_size t_lines_ends q_t_lines_open q_t_lines_endAtRim t_lines_row t_lines_column t_lines_side, aI (G.2 1) q_t_lines_partners 12 t_lines_partners, aI (G.2 1) q_t_lines_lengths 12 t_lines_lengths, aI (G.2 1) q_t_lines_open 49 t_lines_open, aI (G.2 1) q_t_lines_endAtRim 24 t_lines_endAtRim, aQ (G.2 4) q_t_sizes 6 t_sizes, oX0 q_t_sizes_e t_sizes_e_size t_sizes_e_masks q_t_sizes_e_endings t_sizes_e_areEndingsCounted q_t_sizes_e_codes q_t_sizes_e_tally t_sizes_e_ways, aI (G.2 1) q_t_sizes_e_endings 64 t_sizes_e_endings, aJ (G.2 2) q_t_sizes_e_codes 42 t_sizes_e_codes, aI (G.2 1) q_t_sizes_e_tally 42 t_sizes_e_tally])) (va_Qi (fun r (_ : Unit) => r = res.1) (fun _ t => va_P G.1 vwCl [oX5 q_t q_t_text q_t_table q_t_other q_t_spare q_t_past q_t_lines q_t_sizes, oX3 q_t_table t_table_size q_t_table_corners, aI (G.2 1) q_t_table_corners 49 t_table_corners, oX3 q_t_spare res.2.1 q_t_spare_corners, aI (G.2 1) q_t_spare_corners 49 res.2.2.1, oX1 q_t_lines q_t_lines_partners q_t_lines_lengths res.2.2.2.1 res.2.2.2.2.1 res.2.2.2.2.2.1 res.2.2.2.2.2.2.1 q_t_lines_open q_t_lines_endAtRim res.2.2.2.2.2.2.2.1 res.2.2.2.2.2.2.2.2.1 res.2.2.2.2.2.2.2.2.2.1, aI (G.2 1) q_t_lines_partners 12 res.2.2.2.2.2.2.2.2.2.2.1, aI (G.2 1) q_t_lines_lengths 12 res.2.2.2.2.2.2.2.2.2.2.2.1, aI (G.2 1) q_t_lines_open 49 res.2.2.2.2.2.2.2.2.2.2.2.2.1, aI (G.2 1) q_t_lines_endAtRim 24 res.2.2.2.2.2.2.2.2.2.2.2.2.2.1, aQ (G.2 4) q_t_sizes 6 t_sizes, oX0 q_t_sizes_e t_sizes_e_size t_sizes_e_masks q_t_sizes_e_endings res.2.2.2.2.2.2.2.2.2.2.2.2.2.2.1 q_t_sizes_e_codes q_t_sizes_e_tally res.2.2.2.2.2.2.2.2.2.2.2.2.2.2.2.1, aI (G.2 1) q_t_sizes_e_endings 64 res.2.2.2.2.2.2.2.2.2.2.2.2.2.2.2.2.1, aJ (G.2 2) q_t_sizes_e_codes 42 res.2.2.2.2.2.2.2.2.2.2.2.2.2.2.2.2.2.1, aI (G.2 1) q_t_sizes_e_tally 42 res.2.2.2.2.2.2.2.2.2.2.2.2.2.2.2.2.2.2] t.heap ∧ va_D (va_A [oX5 q_t q_t_text q_t_table q_t_other q_t_spare q_t_past q_t_lines q_t_sizes, oX3 q_t_table t_table_size q_t_table_corners, aI (G.2 1) q_t_table_corners 49 t_table_corners, oX3 q_t_spare t_spare_size q_t_spare_corners, aI (G.2 1) q_t_spare_corners 49 t_spare_corners, oX1 q_t_lines q_t_lines_partners q_t_lines_lengths t_lines_ringEdges t_lines_rings t_lines_size t_lines_ends q_t_lines_open q_t_lines_endAtRim t_lines_row t_lines_column t_lines_side, aI (G.2 1) q_t_lines_partners 12 t_lines_partners, aI (G.2 1) q_t_lines_lengths 12 t_lines_lengths, aI (G.2 1) q_t_lines_open 49 t_lines_open, aI (G.2 1) q_t_lines_endAtRim 24 t_lines_endAtRim, aQ (G.2 4) q_t_sizes 6 t_sizes, oX0 q_t_sizes_e t_sizes_e_size t_sizes_e_masks q_t_sizes_e_endings t_sizes_e_areEndingsCounted q_t_sizes_e_codes q_t_sizes_e_tally t_sizes_e_ways, aI (G.2 1) q_t_sizes_e_endings 64 t_sizes_e_endings, aJ (G.2 2) q_t_sizes_e_codes 42 t_sizes_e_codes, aI (G.2 1) q_t_sizes_e_tally 42 t_sizes_e_tally] sz) [oX5 q_t q_t_text q_t_table q_t_other q_t_spare q_t_past q_t_lines q_t_sizes, oX3 q_t_table t_table_size q_t_table_corners, aI (G.2 1) q_t_table_corners 49 t_table_corners, oX3 q_t_spare res.2.1 q_t_spare_corners, aI (G.2 1) q_t_spare_corners 49 res.2.2.1, oX1 q_t_lines q_t_lines_partners q_t_lines_lengths res.2.2.2.1 res.2.2.2.2.1 res.2.2.2.2.2.1 res.2.2.2.2.2.2.1 q_t_lines_open q_t_lines_endAtRim res.2.2.2.2.2.2.2.1 res.2.2.2.2.2.2.2.2.1 res.2.2.2.2.2.2.2.2.2.1, aI (G.2 1) q_t_lines_partners 12 res.2.2.2.2.2.2.2.2.2.2.1, aI (G.2 1) q_t_lines_lengths 12 res.2.2.2.2.2.2.2.2.2.2.2.1, aI (G.2 1) q_t_lines_open 49 res.2.2.2.2.2.2.2.2.2.2.2.2.1, aI (G.2 1) q_t_lines_endAtRim 24 res.2.2.2.2.2.2.2.2.2.2.2.2.2.1, aQ (G.2 4) q_t_sizes 6 t_sizes, oX0 q_t_sizes_e t_sizes_e_size t_sizes_e_masks q_t_sizes_e_endings res.2.2.2.2.2.2.2.2.2.2.2.2.2.2.1 q_t_sizes_e_codes q_t_sizes_e_tally res.2.2.2.2.2.2.2.2.2.2.2.2.2.2.2.1, aI (G.2 1) q_t_sizes_e_endings 64 res.2.2.2.2.2.2.2.2.2.2.2.2.2.2.2.2.1, aJ (G.2 2) q_t_sizes_e_codes 42 res.2.2.2.2.2.2.2.2.2.2.2.2.2.2.2.2.2.1, aI (G.2 1) q_t_sizes_e_tally 42 res.2.2.2.2.2.2.2.2.2.2.2.2.2.2.2.2.2.2]) (va_A [oX5 q_t q_t_text q_t_table q_t_other q_t_spare q_t_past q_t_lines q_t_sizes, oX3 q_t_table t_table_size q_t_table_corners, aI (G.2 1) q_t_table_corners 49 t_table_corners, oX3 q_t_spare t_spare_size q_t_spare_corners, aI (G.2 1) q_t_spare_corners 49 t_spare_corners, oX1 q_t_lines q_t_lines_partners q_t_lines_lengths t_lines_ringEdges t_lines_rings t_lines_size t_lines_ends q_t_lines_open q_t_lines_endAtRim t_lines_row t_lines_column t_lines_side, aI (G.2 1) q_t_lines_partners 12 t_lines_partners, aI (G.2 1) q_t_lines_lengths 12 t_lines_lengths, aI (G.2 1) q_t_lines_open 49 t_lines_open, aI (G.2 1) q_t_lines_endAtRim 24 t_lines_endAtRim, aQ (G.2 4) q_t_sizes 6 t_sizes, oX0 q_t_sizes_e t_sizes_e_size t_sizes_e_masks q_t_sizes_e_endings t_sizes_e_areEndingsCounted q_t_sizes_e_codes q_t_sizes_e_tally t_sizes_e_ways, aI (G.2 1) q_t_sizes_e_endings 64 t_sizes_e_endings, aJ (G.2 2) q_t_sizes_e_codes 42 t_sizes_e_codes, aI (G.2 1) q_t_sizes_e_tally 42 t_sizes_e_tally] sz)) 0 0 (va_A [oX5 q_t q_t_text q_t_table q_t_other q_t_spare q_t_past q_t_lines q_t_sizes, oX3 q_t_table t_table_size q_t_table_corners, aI (G.2 1) q_t_table_corners 49 t_table_corners, oX3 q_t_spare t_spare_size q_t_spare_corners, aI (G.2 1) q_t_spare_corners 49 t_spare_corners, oX1 q_t_lines q_t_lines_partners q_t_lines_lengths t_lines_ringEdges t_lines_rings t_lines_size t_lines_ends q_t_lines_open q_t_lines_endAtRim t_lines_row t_lines_column t_lines_side, aI (G.2 1) q_t_lines_partners 12 t_lines_partners, aI (G.2 1) q_t_lines_lengths 12 t_lines_lengths, aI (G.2 1) q_t_lines_open 49 t_lines_open, aI (G.2 1) q_t_lines_endAtRim 24 t_lines_endAtRim, aQ (G.2 4) q_t_sizes 6 t_sizes, oX0 q_t_sizes_e t_sizes_e_size t_sizes_e_masks q_t_sizes_e_endings t_sizes_e_areEndingsCounted q_t_sizes_e_codes q_t_sizes_e_tally t_sizes_e_ways, aI (G.2 1) q_t_sizes_e_endings 64 t_sizes_e_endings, aJ (G.2 2) q_t_sizes_e_codes 42 t_sizes_e_codes, aI (G.2 1) q_t_sizes_e_tally 42 t_sizes_e_tally] sz) := by
  refine Met.ofQ (cc := cX5_alike) (maxL := 3) (ret := (some .int)) (by decide) rfl ?_
  intro p e s m args below meth c s₁ Q hQ B hml hv
  obtain ⟨rfl, hsz, hP, hKW, hD0⟩ := hv
  have hK := hKW.1
  have hx := B.exec
  have hb := B.bytes
  have hr := B.returns
  have hts := atoms_spec (ws := wsX5_alike) B.pre
  have hown : s.vm.findClass RX5 = some m.cls := findClass_of_methodNamed B.named
  have hlocks := B.notSynchronized
  have iX0 : ∀ w ∈ u_ws RX0 TX0 7, w ∈ wsX5_alike := by decide +kernel
  have iX3 : ∀ w ∈ u_ws RX3 TX3 2, w ∈ wsX5_alike := by decide +kernel
  have iX5 : ∀ w ∈ u_ws RX5 TX5 7, w ∈ wsX5_alike := by decide +kernel
  have fl_19 := hts (.fieldLink RX5 19 "AlternateSigns" "table" "LAlternateSigns$Table;") (by decide +kernel)
  have fl_84 := hts (.fieldLink RX5 84 "AlternateSigns$Table" "size" "I") (by decide +kernel)
  have fl_45 := hts (.fieldLink RX5 45 "AlternateSigns" "sizes" "[LAlternateSigns$AllOfSize;") (by decide +kernel)
  have fl_39 := hts (.fieldLink RX5 39 "AlternateSigns" "lines" "LAlternateSigns$Lines;") (by decide +kernel)
  have fl_26 := hts (.fieldLink RX5 26 "AlternateSigns" "spare" "LAlternateSigns$Table;") (by decide +kernel)
  have fl_216 := hts (.fieldLink RX5 216 "AlternateSigns$AllOfSize" "tally" "[I") (by decide +kernel)
  subst hsz
  have hD := hD0.self (sz := s.heap.size)
  generalize hAe : va_A [oX5 q_t q_t_text q_t_table q_t_other q_t_spare q_t_past q_t_lines q_t_sizes, oX3 q_t_table t_table_size q_t_table_corners, aI (G.2 1) q_t_table_corners 49 t_table_corners, oX3 q_t_spare t_spare_size q_t_spare_corners, aI (G.2 1) q_t_spare_corners 49 t_spare_corners, oX1 q_t_lines q_t_lines_partners q_t_lines_lengths t_lines_ringEdges t_lines_rings t_lines_size t_lines_ends q_t_lines_open q_t_lines_endAtRim t_lines_row t_lines_column t_lines_side, aI (G.2 1) q_t_lines_partners 12 t_lines_partners, aI (G.2 1) q_t_lines_lengths 12 t_lines_lengths, aI (G.2 1) q_t_lines_open 49 t_lines_open, aI (G.2 1) q_t_lines_endAtRim 24 t_lines_endAtRim, aQ (G.2 4) q_t_sizes 6 t_sizes, oX0 q_t_sizes_e t_sizes_e_size t_sizes_e_masks q_t_sizes_e_endings t_sizes_e_areEndingsCounted q_t_sizes_e_codes q_t_sizes_e_tally t_sizes_e_ways, aI (G.2 1) q_t_sizes_e_endings 64 t_sizes_e_endings, aJ (G.2 2) q_t_sizes_e_codes 42 t_sizes_e_codes, aI (G.2 1) q_t_sizes_e_tally 42 t_sizes_e_tally] s.heap.size = A at hD hQ
  have hA : ∀ q : Nat, s.heap.size ≤ q → A q := fun q h => by rw [← hAe]; exact Or.inr h
  have hS : va_S A s.heap s.heap [] := va_S.rf
  have hl := lv_entry ([.ref q_t]) (n := 3) (Nat.le_of_ble_eq_true rfl)
  rw [lg_entry_eq]
  generalize (lg_sl ([.ref q_t]) ++ List.replicate (3 - (lg_sl ([.ref q_t])).length) Slot.unset).toArray = ls at hl ⊢
  have hl : lv_has ls 3 [(0, .ref q_t)] := hl
  unfold S_X5_alike at hE
  refine lv_aload_n hx hb dX5_alike_0 rfl (lv_at hl 0 rfl) ?_
  refine va_get (D := G.1) (ci := 5) (v := .ref q_t_table) (C := RX5) (T := TX5) (N := 7) hx hb hts iX5 hown hK hP 0 rfl rfl 1 (by decide) fl_19 (fun _ h9 => h9) rfl dX5_alike_1 ?_
  refine va_get (D := G.1) (ci := 3) (v := .int t_table_size) (C := RX3) (T := TX3) (N := 2) hx hb hts iX3 hown hK hP 1 rfl rfl 0 (by decide) fl_84 (fun _ h9 => h9) rfl dX5_alike_4 ?_
  refine lv_iconst (v := 5) hx hb dX5_alike_7 (by decide) ?_
  refine lv_icmp_le (tgt := 14) hx hb dX5_alike_8 (by decide) (fun c_8 => ?_) (fun c_8 => ?_)
  · replace hE := (if_pos c_8).symm.trans hE
    refine lv_aload_n hx hb dX5_alike_14 rfl (lv_at hl 0 rfl) ?_
    refine va_get (D := G.1) (ci := 5) (v := .ref q_t_sizes) (C := RX5) (T := TX5) (N := 7) hx hb hts iX5 hown hK hP 0 rfl rfl 6 (by decide) fl_45 (fun _ h9 => h9) rfl dX5_alike_15 ?_
    refine lv_aload_n hx hb dX5_alike_18 rfl (lv_at hl 0 rfl) ?_
    refine va_get (D := G.1) (ci := 5) (v := .ref q_t_table) (C := RX5) (T := TX5) (N := 7) hx hb hts iX5 hown hK hP 0 rfl rfl 1 (by decide) fl_19 (fun _ h9 => h9) rfl dX5_alike_19 ?_
    refine va_get (D := G.1) (ci := 3) (v := .int t_table_size) (C := RX3) (T := TX3) (N := 2) hx hb hts iX3 hown hK hP 1 rfl rfl 0 (by decide) fl_84 (fun _ h9 => h9) rfl dX5_alike_22 ?_
    refine lv_iconst (v := 1) hx hb dX5_alike_25 (by decide) ?_
    refine lv_isub hx hb dX5_alike_26 ?_
    obtain ⟨hi_27, hE⟩ := ck_some hE
    refine va_aldq (C := RX0) hx hb hK hP 10 4 rfl rfl (inb_in hi_27) dX5_alike_27 ?_
    rw [he_0 hi_27]
    refine W.eq (g2 := F0 m 28 ls [.ref q_t_sizes_e]) rfl ?_
    refine lv_astore_n (lv' := [(1, .ref q_t_sizes_e), (0, .ref q_t)]) hx hb dX5_alike_28 rfl hl (by decide) rfl (fun ls hl => ?_)
    refine lv_aload_n hx hb dX5_alike_29 rfl (lv_at hl 0 rfl) ?_
    refine lv_aload_n hx hb dX5_alike_30 rfl (lv_at hl 1 rfl) ?_
    refine va_get (D := G.1) (ci := 5) (v := .ref q_t_lines) (C := RX5) (T := TX5) (N := 7) hx hb hts iX5 hown hK hP 0 rfl rfl 5 (by decide) fl_39 (fun _ h9 => h9) rfl dX5_alike_31 ?_
    refine lv_aload_n hx hb dX5_alike_34 rfl (lv_at hl 1 rfl) ?_
    refine va_get (D := G.1) (ci := 5) (v := .ref q_t_spare) (C := RX5) (T := TX5) (N := 7) hx hb hts iX5 hown hK hP 0 rfl rfl 3 (by decide) fl_26 (fun _ h9 => h9) rfl dX5_alike_35 ?_
    obtain ⟨y38, hC_38, hE⟩ := Option.bind_eq_some_iff.mp hE
    obtain ⟨m_38_0, m_38_1, m_38_2, m_38_3, m_38_4, m_38_5, m_38_6, m_38_7, m_38_8, m_38_9, m_38_10, m_38_11, m_38_12, m_38_13, m_38_14, m_38_15, m_38_16, m_38_17⟩ := y38
    try dsimp only at hE
    have hPc := hP.sub (ws' := [oX0 q_t_sizes_e t_sizes_e_size t_sizes_e_masks q_t_sizes_e_endings t_sizes_e_areEndingsCounted q_t_sizes_e_codes q_t_sizes_e_tally t_sizes_e_ways, aI (G.2 1) q_t_sizes_e_endings 64 t_sizes_e_endings, aJ (G.2 2) q_t_sizes_e_codes 42 t_sizes_e_codes, aI (G.2 1) q_t_sizes_e_tally 42 t_sizes_e_tally, oX1 q_t_lines q_t_lines_partners q_t_lines_lengths t_lines_ringEdges t_lines_rings t_lines_size t_lines_ends q_t_lines_open q_t_lines_endAtRim t_lines_row t_lines_column t_lines_side, aI (G.2 1) q_t_lines_partners 12 t_lines_partners, aI (G.2 1) q_t_lines_lengths 12 t_lines_lengths, aI (G.2 1) q_t_lines_open 49 t_lines_open, aI (G.2 1) q_t_lines_endAtRim 24 t_lines_endAtRim, oX3 q_t_spare t_spare_size q_t_spare_corners, aI (G.2 1) q_t_spare_corners 49 t_spare_corners]) [11, 12, 13, 14, 5, 6, 7, 8, 9, 3, 4] rfl
    have hDc := hD.sub (ws' := [oX0 q_t_sizes_e t_sizes_e_size t_sizes_e_masks q_t_sizes_e_endings t_sizes_e_areEndingsCounted q_t_sizes_e_codes q_t_sizes_e_tally t_sizes_e_ways, aI (G.2 1) q_t_sizes_e_endings 64 t_sizes_e_endings, aJ (G.2 2) q_t_sizes_e_codes 42 t_sizes_e_codes, aI (G.2 1) q_t_sizes_e_tally 42 t_sizes_e_tally, oX1 q_t_lines q_t_lines_partners q_t_lines_lengths t_lines_ringEdges t_lines_rings t_lines_size t_lines_ends q_t_lines_open q_t_lines_endAtRim t_lines_row t_lines_column t_lines_side, aI (G.2 1) q_t_lines_partners 12 t_lines_partners, aI (G.2 1) q_t_lines_lengths 12 t_lines_lengths, aI (G.2 1) q_t_lines_open 49 t_lines_open, aI (G.2 1) q_t_lines_endAtRim 24 t_lines_endAtRim, oX3 q_t_spare t_spare_size q_t_spare_corners, aI (G.2 1) q_t_spare_corners 49 t_spare_corners]) [11, 12, 13, 14, 5, 6, 7, 8, 9, 3, 4] (by decide) rfl
    have hFc := va_free (wc := [oX0 q_t_sizes_e t_sizes_e_size t_sizes_e_masks q_t_sizes_e_endings t_sizes_e_areEndingsCounted q_t_sizes_e_codes q_t_sizes_e_tally t_sizes_e_ways, aI (G.2 1) q_t_sizes_e_endings 64 t_sizes_e_endings, aJ (G.2 2) q_t_sizes_e_codes 42 t_sizes_e_codes, aI (G.2 1) q_t_sizes_e_tally 42 t_sizes_e_tally, oX1 q_t_lines q_t_lines_partners q_t_lines_lengths t_lines_ringEdges t_lines_rings t_lines_size t_lines_ends q_t_lines_open q_t_lines_endAtRim t_lines_row t_lines_column t_lines_side, aI (G.2 1) q_t_lines_partners 12 t_lines_partners, aI (G.2 1) q_t_lines_lengths 12 t_lines_lengths, aI (G.2 1) q_t_lines_open 49 t_lines_open, aI (G.2 1) q_t_lines_endAtRim 24 t_lines_endAtRim, oX3 q_t_spare t_spare_size q_t_spare_corners, aI (G.2 1) q_t_spare_corners 49 t_spare_corners]) hD hS hA [11, 12, 13, 14, 5, 6, 7, 8, 9, 3, 4] rfl
    refine va_callv (va_runV (As := [.ref q_t_lines, .ref q_t_spare]) (rest := []) ⟨hx, hb, hml, hown, hts⟩ (c_X0_sortByPartners (l := l) (G := G) _ (q_t := q_t_sizes_e) (t_size := t_sizes_e_size) (t_masks := t_sizes_e_masks) (q_t_endings := q_t_sizes_e_endings) (t_areEndingsCounted := t_sizes_e_areEndingsCounted) (q_t_codes := q_t_sizes_e_codes) (q_t_tally := q_t_sizes_e_tally) (t_ways := t_sizes_e_ways) (t_endings := t_sizes_e_endings) (t_codes := t_sizes_e_codes) (t_tally := t_sizes_e_tally) (q_p1 := q_t_lines) (q_p1_partners := q_t_lines_partners) (q_p1_lengths := q_t_lines_lengths) (p1_ringEdges := t_lines_ringEdges) (p1_rings := t_lines_rings) (p1_size := t_lines_size) (p1_ends := t_lines_ends) (q_p1_open := q_t_lines_open) (q_p1_endAtRim := q_t_lines_endAtRim) (p1_row := t_lines_row) (p1_column := t_lines_column) (p1_side := t_lines_side) (p1_partners := t_lines_partners) (p1_lengths := t_lines_lengths) (p1_open := t_lines_open) (p1_endAtRim := t_lines_endAtRim) (q_p2 := q_t_spare) (p2_size := t_spare_size) (q_p2_corners := q_t_spare_corners) (p2_corners := t_spare_corners) hC_38) (cwV 2 hts gX5_alike_X0_sortByPartners rfl rfl rfl kd_X0_sortByPartners ⟨Nat.le_of_ble_eq_true rfl, Nat.le_of_ble_eq_true rfl⟩) (iv_V hKW hPc hDc (ci := 0) (q0 := 0) rfl rfl) rfl rfl hl.1 rfl (lv_room (Nat.le_of_ble_eq_true rfl)) dX5_alike_38 ⟨Nat.zero_le _, Nat.zero_le _⟩) hS (fun q _ h => hFc q h) hFc (fun u9 t9 H1 locs ht9 hvm9 hw9 hB9 hz9 hk9 hS => ?_)
    obtain ⟨hP1, hD1⟩ := hB9
    rw [ht9] at hP1
    obtain ⟨hP, hD⟩ := va_join (wr := [oX5 q_t q_t_text q_t_table q_t_other q_t_spare q_t_past q_t_lines q_t_sizes, oX3 q_t_table t_table_size q_t_table_corners, aI (G.2 1) q_t_table_corners 49 t_table_corners, aQ (G.2 4) q_t_sizes 6 t_sizes]) (w1 := [oX0 q_t_sizes_e t_sizes_e_size t_sizes_e_masks q_t_sizes_e_endings m_38_0 q_t_sizes_e_codes q_t_sizes_e_tally m_38_1, aI (G.2 1) q_t_sizes_e_endings 64 m_38_2, aJ (G.2 2) q_t_sizes_e_codes 42 m_38_3, aI (G.2 1) q_t_sizes_e_tally 42 m_38_4, oX1 q_t_lines q_t_lines_partners q_t_lines_lengths m_38_5 m_38_6 m_38_7 m_38_8 q_t_lines_open q_t_lines_endAtRim m_38_9 m_38_10 m_38_11, aI (G.2 1) q_t_lines_partners 12 m_38_12, aI (G.2 1) q_t_lines_lengths 12 m_38_13, aI (G.2 1) q_t_lines_open 49 m_38_14, aI (G.2 1) q_t_lines_endAtRim 24 m_38_15, oX3 q_t_spare m_38_16 q_t_spare_corners, aI (G.2 1) q_t_spare_corners 49 m_38_17]) hP hD [11, 12, 13, 14, 5, 6, 7, 8, 9, 3, 4] [0, 1, 2, 10] rfl rfl (by decide) (by decide) hk9 hFc hP1 hD1
    have hP := hP.sub (ws' := [oX5 q_t q_t_text q_t_table q_t_other q_t_spare q_t_past q_t_lines q_t_sizes, oX3 q_t_table t_table_size q_t_table_corners, aI (G.2 1) q_t_table_corners 49 t_table_corners, oX3 q_t_spare m_38_16 q_t_spare_corners, aI (G.2 1) q_t_spare_corners 49 m_38_17, oX1 q_t_lines q_t_lines_partners q_t_lines_lengths m_38_5 m_38_6 m_38_7 m_38_8 q_t_lines_open q_t_lines_endAtRim m_38_9 m_38_10 m_38_11, aI (G.2 1) q_t_lines_partners 12 m_38_12, aI (G.2 1) q_t_lines_lengths 12 m_38_13, aI (G.2 1) q_t_lines_open 49 m_38_14, aI (G.2 1) q_t_lines_endAtRim 24 m_38_15, aQ (G.2 4) q_t_sizes 6 t_sizes, oX0 q_t_sizes_e t_sizes_e_size t_sizes_e_masks q_t_sizes_e_endings m_38_0 q_t_sizes_e_codes q_t_sizes_e_tally m_38_1, aI (G.2 1) q_t_sizes_e_endings 64 m_38_2, aJ (G.2 2) q_t_sizes_e_codes 42 m_38_3, aI (G.2 1) q_t_sizes_e_tally 42 m_38_4]) [0, 1, 2, 13, 14, 8, 9, 10, 11, 12, 3, 4, 5, 6, 7] rfl
    have hD := hD.sub (ws' := [oX5 q_t q_t_text q_t_table q_t_other q_t_spare q_t_past q_t_lines q_t_sizes, oX3 q_t_table t_table_size q_t_table_corners, aI (G.2 1) q_t_table_corners 49 t_table_corners, oX3 q_t_spare m_38_16 q_t_spare_corners, aI (G.2 1) q_t_spare_corners 49 m_38_17, oX1 q_t_lines q_t_lines_partners q_t_lines_lengths m_38_5 m_38_6 m_38_7 m_38_8 q_t_lines_open q_t_lines_endAtRim m_38_9 m_38_10 m_38_11, aI (G.2 1) q_t_lines_partners 12 m_38_12, aI (G.2 1) q_t_lines_lengths 12 m_38_13, aI (G.2 1) q_t_lines_open 49 m_38_14, aI (G.2 1) q_t_lines_endAtRim 24 m_38_15, aQ (G.2 4) q_t_sizes 6 t_sizes, oX0 q_t_sizes_e t_sizes_e_size t_sizes_e_masks q_t_sizes_e_endings m_38_0 q_t_sizes_e_codes q_t_sizes_e_tally m_38_1, aI (G.2 1) q_t_sizes_e_endings 64 m_38_2, aJ (G.2 2) q_t_sizes_e_codes 42 m_38_3, aI (G.2 1) q_t_sizes_e_tally 42 m_38_4]) [0, 1, 2, 13, 14, 8, 9, 10, 11, 12, 3, 4, 5, 6, 7] (by decide) rfl
    clear hPc hDc hFc hP1 hD1 hk9 hz9 hvm9
    refine lv_aload_n hx hb dX5_alike_41 rfl (lv_at hl 1 rfl) ?_
    refine va_get (D := G.1) (ci := 5) (v := .ref q_t_lines) (C := RX5) (T := TX5) (N := 7) hx hb hts iX5 hown hK hP 0 rfl rfl 5 (by decide) fl_39 (fun _ h9 => h9) rfl dX5_alike_42 ?_
    refine lv_aload_n hx hb dX5_alike_45 rfl (lv_at hl 1 rfl) ?_
    refine va_get (D := G.1) (ci := 5) (v := .ref q_t_table) (C := RX5) (T := TX5) (N := 7) hx hb hts iX5 hown hK hP 0 rfl rfl 1 (by decide) fl_19 (fun _ h9 => h9) rfl dX5_alike_46 ?_
    obtain ⟨y49, hC_49, hE⟩ := Option.bind_eq_some_iff.mp hE
    obtain ⟨m_49_0, m_49_1, m_49_2, m_49_3, m_49_4, m_49_5, m_49_6, m_49_7, m_49_8, m_49_9, m_49_10⟩ := y49
    try dsimp only at hE
    have hPc := hP.sub (ws' := [oX1 q_t_lines q_t_lines_partners q_t_lines_lengths m_38_5 m_38_6 m_38_7 m_38_8 q_t_lines_open q_t_lines_endAtRim m_38_9 m_38_10 m_38_11, aI (G.2 1) q_t_lines_partners 12 m_38_12, aI (G.2 1) q_t_lines_lengths 12 m_38_13, aI (G.2 1) q_t_lines_open 49 m_38_14, aI (G.2 1) q_t_lines_endAtRim 24 m_38_15, oX3 q_t_table t_table_size q_t_table_corners, aI (G.2 1) q_t_table_corners 49 t_table_corners]) [5, 6, 7, 8, 9, 1, 2] rfl
    have hDc := hD.sub (ws' := [oX1 q_t_lines q_t_lines_partners q_t_lines_lengths m_38_5 m_38_6 m_38_7 m_38_8 q_t_lines_open q_t_lines_endAtRim m_38_9 m_38_10 m_38_11, aI (G.2 1) q_t_lines_partners 12 m_38_12, aI (G.2 1) q_t_lines_lengths 12 m_38_13, aI (G.2 1) q_t_lines_open 49 m_38_14, aI (G.2 1) q_t_lines_endAtRim 24 m_38_15, oX3 q_t_table t_table_size q_t_table_corners, aI (G.2 1) q_t_table_corners 49 t_table_corners]) [5, 6, 7, 8, 9, 1, 2] (by decide) rfl
    have hFc := va_free (wc := [oX1 q_t_lines q_t_lines_partners q_t_lines_lengths m_38_5 m_38_6 m_38_7 m_38_8 q_t_lines_open q_t_lines_endAtRim m_38_9 m_38_10 m_38_11, aI (G.2 1) q_t_lines_partners 12 m_38_12, aI (G.2 1) q_t_lines_lengths 12 m_38_13, aI (G.2 1) q_t_lines_open 49 m_38_14, aI (G.2 1) q_t_lines_endAtRim 24 m_38_15, oX3 q_t_table t_table_size q_t_table_corners, aI (G.2 1) q_t_table_corners 49 t_table_corners]) hD hS hA [5, 6, 7, 8, 9, 1, 2] rfl
    refine va_callv (va_runV (As := [.ref q_t_table]) (rest := []) ⟨hx, hb, hml, hown, hts⟩ (c_X1_trace (l := l) (G := G) _ (q_t := q_t_lines) (q_t_partners := q_t_lines_partners) (q_t_lengths := q_t_lines_lengths) (t_ringEdges := m_38_5) (t_rings := m_38_6) (t_size := m_38_7) (t_ends := m_38_8) (q_t_open := q_t_lines_open) (q_t_endAtRim := q_t_lines_endAtRim) (t_row := m_38_9) (t_column := m_38_10) (t_side := m_38_11) (t_partners := m_38_12) (t_lengths := m_38_13) (t_open := m_38_14) (t_endAtRim := m_38_15) (q_p1 := q_t_table) (p1_size := t_table_size) (q_p1_corners := q_t_table_corners) (p1_corners := t_table_corners) hC_49) (cwV 1 hts gX5_alike_X1_trace rfl rfl rfl kd_X1_trace ⟨Nat.le_of_ble_eq_true rfl, Nat.le_of_ble_eq_true rfl⟩) (iv_V hKW hPc hDc (ci := 1) (q0 := 0) rfl rfl) rfl rfl hl.1 rfl (lv_room (Nat.le_of_ble_eq_true rfl)) dX5_alike_49 ⟨Nat.zero_le _, Nat.zero_le _⟩) hS (fun q _ h => hFc q h) hFc (fun u9 t9 H1 locs ht9 hvm9 hw9 hB9 hz9 hk9 hS => ?_)
    obtain ⟨hP1, hD1⟩ := hB9
    rw [ht9] at hP1
    obtain ⟨hP, hD⟩ := va_join (wr := [oX5 q_t q_t_text q_t_table q_t_other q_t_spare q_t_past q_t_lines q_t_sizes, oX3 q_t_spare m_38_16 q_t_spare_corners, aI (G.2 1) q_t_spare_corners 49 m_38_17, aQ (G.2 4) q_t_sizes 6 t_sizes, oX0 q_t_sizes_e t_sizes_e_size t_sizes_e_masks q_t_sizes_e_endings m_38_0 q_t_sizes_e_codes q_t_sizes_e_tally m_38_1, aI (G.2 1) q_t_sizes_e_endings 64 m_38_2, aJ (G.2 2) q_t_sizes_e_codes 42 m_38_3, aI (G.2 1) q_t_sizes_e_tally 42 m_38_4]) (w1 := [oX1 q_t_lines q_t_lines_partners q_t_lines_lengths m_49_0 m_49_1 m_49_2 m_49_3 q_t_lines_open q_t_lines_endAtRim m_49_4 m_49_5 m_49_6, aI (G.2 1) q_t_lines_partners 12 m_49_7, aI (G.2 1) q_t_lines_lengths 12 m_49_8, aI (G.2 1) q_t_lines_open 49 m_49_9, aI (G.2 1) q_t_lines_endAtRim 24 m_49_10, oX3 q_t_table t_table_size q_t_table_corners, aI (G.2 1) q_t_table_corners 49 t_table_corners]) hP hD [5, 6, 7, 8, 9, 1, 2] [0, 3, 4, 10, 11, 12, 13, 14] rfl rfl (by decide) (by decide) hk9 hFc hP1 hD1
    have hP := hP.sub (ws' := [oX5 q_t q_t_text q_t_table q_t_other q_t_spare q_t_past q_t_lines q_t_sizes, oX3 q_t_table t_table_size q_t_table_corners, aI (G.2 1) q_t_table_corners 49 t_table_corners, oX3 q_t_spare m_38_16 q_t_spare_corners, aI (G.2 1) q_t_spare_corners 49 m_38_17, oX1 q_t_lines q_t_lines_partners q_t_lines_lengths m_49_0 m_49_1 m_49_2 m_49_3 q_t_lines_open q_t_lines_endAtRim m_49_4 m_49_5 m_49_6, aI (G.2 1) q_t_lines_partners 12 m_49_7, aI (G.2 1) q_t_lines_lengths 12 m_49_8, aI (G.2 1) q_t_lines_open 49 m_49_9, aI (G.2 1) q_t_lines_endAtRim 24 m_49_10, aQ (G.2 4) q_t_sizes 6 t_sizes, oX0 q_t_sizes_e t_sizes_e_size t_sizes_e_masks q_t_sizes_e_endings m_38_0 q_t_sizes_e_codes q_t_sizes_e_tally m_38_1, aI (G.2 1) q_t_sizes_e_endings 64 m_38_2, aJ (G.2 2) q_t_sizes_e_codes 42 m_38_3, aI (G.2 1) q_t_sizes_e_tally 42 m_38_4]) [0, 13, 14, 1, 2, 8, 9, 10, 11, 12, 3, 4, 5, 6, 7] rfl
    have hD := hD.sub (ws' := [oX5 q_t q_t_text q_t_table q_t_other q_t_spare q_t_past q_t_lines q_t_sizes, oX3 q_t_table t_table_size q_t_table_corners, aI (G.2 1) q_t_table_corners 49 t_table_corners, oX3 q_t_spare m_38_16 q_t_spare_corners, aI (G.2 1) q_t_spare_corners 49 m_38_17, oX1 q_t_lines q_t_lines_partners q_t_lines_lengths m_49_0 m_49_1 m_49_2 m_49_3 q_t_lines_open q_t_lines_endAtRim m_49_4 m_49_5 m_49_6, aI (G.2 1) q_t_lines_partners 12 m_49_7, aI (G.2 1) q_t_lines_lengths 12 m_49_8, aI (G.2 1) q_t_lines_open 49 m_49_9, aI (G.2 1) q_t_lines_endAtRim 24 m_49_10, aQ (G.2 4) q_t_sizes 6 t_sizes, oX0 q_t_sizes_e t_sizes_e_size t_sizes_e_masks q_t_sizes_e_endings m_38_0 q_t_sizes_e_codes q_t_sizes_e_tally m_38_1, aI (G.2 1) q_t_sizes_e_endings 64 m_38_2, aJ (G.2 2) q_t_sizes_e_codes 42 m_38_3, aI (G.2 1) q_t_sizes_e_tally 42 m_38_4]) [0, 13, 14, 1, 2, 8, 9, 10, 11, 12, 3, 4, 5, 6, 7] (by decide) rfl
    clear hPc hDc hFc hP1 hD1 hk9 hz9 hvm9
    refine lv_aload_n hx hb dX5_alike_52 rfl (lv_at hl 0 rfl) ?_
    refine lv_aload_n hx hb dX5_alike_53 rfl (lv_at hl 1 rfl) ?_
    refine va_get (D := G.1) (ci := 5) (v := .ref q_t_lines) (C := RX5) (T := TX5) (N := 7) hx hb hts iX5 hown hK hP 0 rfl rfl 5 (by decide) fl_39 (fun _ h9 => h9) rfl dX5_alike_54 ?_
    obtain ⟨y57, hC_57, hE⟩ := Option.bind_eq_some_iff.mp hE
    obtain ⟨r_57, ex9⟩ : ∃ z, z = y57 := ⟨_, rfl⟩
    subst ex9
    try dsimp only at hE
    refine vp_callSl (va_Run.run (va_runV (As := []) (rest := [.ref q_t_sizes_e]) ⟨hx, hb, hml, hown, hts⟩ (c_X1_partnersCode (l := l) (G := G) (q_t := q_t_lines) (q_t_partners := q_t_lines_partners) (q_t_lengths := q_t_lines_lengths) (t_ringEdges := m_49_0) (t_rings := m_49_1) (t_size := m_49_2) (t_ends := m_49_3) (q_t_open := q_t_lines_open) (q_t_endAtRim := q_t_lines_endAtRim) (t_row := m_49_4) (t_column := m_49_5) (t_side := m_49_6) (t_partners := m_49_7) hC_57) (cwV 0 hts gX5_alike_X1_partnersCode rfl rfl rfl kd_X1_partnersCode ⟨Nat.le_of_ble_eq_true rfl, Nat.le_of_ble_eq_true rfl⟩) (pv_V hKW (hP.sub (ws' := [oX1 q_t_lines q_t_lines_partners q_t_lines_lengths m_49_0 m_49_1 m_49_2 m_49_3 q_t_lines_open q_t_lines_endAtRim m_49_4 m_49_5 m_49_6, aI (G.2 1) q_t_lines_partners 12 m_49_7]) [5, 6] rfl) (ci := 1) (q0 := 0) rfl rfl) rfl rfl hl.1 rfl (lv_room (Nat.le_of_ble_eq_true rfl)) dX5_alike_57 ⟨Nat.zero_le _, Nat.zero_le _⟩)) (fun r9 hr9 => ?_)
    subst r9
    obtain ⟨y60, hC_60, hE⟩ := Option.bind_eq_some_iff.mp hE
    obtain ⟨r_60, ex9⟩ : ∃ z, z = y60 := ⟨_, rfl⟩
    subst ex9
    try dsimp only at hE
    refine vp_callSi (va_Run.run (va_runV (As := [.long r_57]) (rest := []) ⟨hx, hb, hml, hown, hts⟩ (c_X0_wayOf (l := l) (G := G) (p1 := r_57) (q_t := q_t_sizes_e) (t_size := t_sizes_e_size) (t_masks := t_sizes_e_masks) (q_t_endings := q_t_sizes_e_endings) (t_areEndingsCounted := m_38_0) (q_t_codes := q_t_sizes_e_codes) (q_t_tally := q_t_sizes_e_tally) (t_ways := m_38_1) (t_codes := m_38_3) hC_60) (cwV 1 hts gX5_alike_X0_wayOf rfl rfl rfl kd_X0_wayOf ⟨Nat.le_of_ble_eq_true rfl, Nat.le_of_ble_eq_true rfl⟩) (pv_V hKW (hP.sub (ws' := [oX0 q_t_sizes_e t_sizes_e_size t_sizes_e_masks q_t_sizes_e_endings m_38_0 q_t_sizes_e_codes q_t_sizes_e_tally m_38_1, aJ (G.2 2) q_t_sizes_e_codes 42 m_38_3]) [11, 13] rfl) (ci := 0) (q0 := 0) rfl rfl) rfl rfl hl.1 rfl (lv_room (Nat.le_of_ble_eq_true rfl)) dX5_alike_60 ⟨Nat.zero_le _, Nat.zero_le _⟩)) (fun r9 hr9 => ?_)
    subst r9
    refine lv_istore_n (lv' := [(2, .int r_60), (1, .ref q_t_sizes_e), (0, .ref q_t)]) hx hb dX5_alike_63 rfl hl (by decide) rfl (fun ls hl => ?_)
    refine lv_iload_n hx hb dX5_alike_64 rfl (lv_at hl 0 rfl) ?_
    refine lv_iconst (v := 0) hx hb dX5_alike_65 (by decide) ?_
    refine lv_bipush (v := 41) hx hb dX5_alike_66 (by decide) ?_
    obtain ⟨y68, hC_68, hE⟩ := Option.bind_eq_some_iff.mp hE
    obtain ⟨r_68, ex9⟩ : ∃ z, z = y68 := ⟨_, rfl⟩
    subst ex9
    try dsimp only at hE
    refine vp_callSi (va_Run.run (va_runS (As := [.int r_60, .int (0 : Int32), .int (41 : Int32)]) (rest := []) ⟨hx, hb, hml, hown, hts⟩ (c_X5_isBetween (l := l) (G := G) (p1 := r_60) (p2 := (0 : Int32)) (p3 := (41 : Int32)) hC_68) (va_cwS 3 hts gX5_alike_X5_isBetween rfl rfl rfl kd_X5_isBetween ⟨Nat.le_of_ble_eq_true rfl, Nat.le_of_ble_eq_true rfl⟩) (pv_S hKW (hP.sub (ws' := []) [] rfl)) rfl rfl hl.1 rfl (lv_room (Nat.le_of_ble_eq_true rfl)) dX5_alike_68 ⟨Nat.zero_le _, Nat.zero_le _⟩)) (fun r9 hr9 => ?_)
    subst r9
    refine lv_if_eq (tgt := 83) hx hb dX5_alike_71 (by decide) (fun c_71 => ?_) (fun c_71 => ?_)
    · replace hE := (if_pos c_71).symm.trans hE
      refine lv_iconst (v := 0) hx hb dX5_alike_83 (by decide) ?_
      have e_0 := Option.some.inj hE
      subst e_0
      rw [hQ]
      exact W.iret (v := (0 : Int32)) hx hb hr (fun t ht _ => ⟨⟨_, (), rfl, rfl, by rw [ht]; exact hP, hD⟩, hS.F ht⟩) hS.2.2 dX5_alike_84
    · replace hE := (if_neg c_71).symm.trans hE
      refine lv_aload_n hx hb dX5_alike_74 rfl (lv_at hl 1 rfl) ?_
      refine va_get (D := G.1) (ci := 0) (v := .ref q_t_sizes_e_tally) (C := RX0) (T := TX0) (N := 7) hx hb hts iX0 hown hK hP 11 rfl rfl 5 (by decide) fl_216 (fun _ h9 => h9) rfl dX5_alike_75 ?_
      refine lv_iload_n hx hb dX5_alike_78 rfl (lv_at hl 0 rfl) ?_
      obtain ⟨hi_79, hE⟩ := ck_some hE
      refine va_iald hx hb hK hP 14 1 rfl rfl (inb_in hi_79) dX5_alike_79 ?_
      refine lv_goto (tgt := 84) hx hb dX5_alike_80 (by decide) ?_
      have e_0 := Option.some.inj hE
      subst e_0
      rw [hQ]
      exact W.iret (v := m_38_4 r_60.toNatClampNeg) hx hb hr (fun t ht _ => ⟨⟨_, (), rfl, rfl, by rw [ht]; exact hP, hD⟩, hS.F ht⟩) hS.2.2 dX5_alike_84
  · replace hE := (if_neg c_8).symm.trans hE
    refine lv_bipush (v := -2) hx hb dX5_alike_11 (by decide) ?_
    have e_0 := Option.some.inj hE
    subst e_0
    rw [hQ]
    exact W.iret (v := (-2 : Int32)) hx hb hr (fun t ht _ => ⟨⟨_, (), rfl, rfl, by rw [ht]; exact hP, hD⟩, hS.F ht⟩) hS.2.2 dX5_alike_13
def S_X5_ways (p1 : Int32) (p2 : Int32) (t_spare_size : Int32) (t_spare_corners : Nat → Int32) (t_lines_ringEdges : Int32) (t_lines_rings : Int32) (t_lines_size : Int32) (t_lines_ends : Int32) (t_lines_row : Int32) (t_lines_column : Int32) (t_lines_side : Int32) (t_lines_partners : Nat → Int32) (t_lines_lengths : Nat → Int32) (t_lines_open : Nat → Int32) (t_lines_endAtRim : Nat → Int32) (t_sizes_e_size : Int32) (t_sizes_e_masks : Int32) (t_sizes_e_areEndingsCounted : Int32) (t_sizes_e_ways : Int32) (t_sizes_e_endings : Nat → Int32) (t_sizes_e_codes : Nat → Int64) (t_sizes_e_tally : Nat → Int32) : Option (Int32 × Int32 × (Nat → Int32) × Int32 × Int32 × Int32 × Int32 × Int32 × Int32 × Int32 × (Nat → Int32) × (Nat → Int32) × (Nat → Int32) × (Nat → Int32) × Int32 × Int32 × (Nat → Int32) × (Nat → Int64) × (Nat → Int32)) := (S_X5_isBetween p1 (1 : Int32) (5 : Int32)).bind (fun (y3 : Int32) => if y3 = 0 then some ((-1 : Int32), t_spare_size, t_spare_corners, t_lines_ringEdges, t_lines_rings, t_lines_size, t_lines_ends, t_lines_row, t_lines_column, t_lines_side, t_lines_partners, t_lines_lengths, t_lines_open, t_lines_endAtRim, t_sizes_e_areEndingsCounted, t_sizes_e_ways, t_sizes_e_endings, t_sizes_e_codes, t_sizes_e_tally) else if (-1 : Int32) ≤ p2 then ck (inb (p1 - (1 : Int32)) 6) ((S_X0_sortByPartners t_sizes_e_size t_sizes_e_masks t_sizes_e_areEndingsCounted t_sizes_e_ways t_sizes_e_endings t_sizes_e_codes t_sizes_e_tally t_lines_ringEdges t_lines_rings t_lines_size t_lines_ends t_lines_row t_lines_column t_lines_side t_lines_partners t_lines_lengths t_lines_open t_lines_endAtRim t_spare_size t_spare_corners).bind (fun (y34 : Int32 × Int32 × (Nat → Int32) × (Nat → Int64) × (Nat → Int32) × Int32 × Int32 × Int32 × Int32 × Int32 × Int32 × Int32 × (Nat → Int32) × (Nat → Int32) × (Nat → Int32) × (Nat → Int32) × Int32 × (Nat → Int32)) => if p2 = (-1 : Int32) then some (y34.2.1, y34.2.2.2.2.2.2.2.2.2.2.2.2.2.2.2.2.1, y34.2.2.2.2.2.2.2.2.2.2.2.2.2.2.2.2.2, y34.2.2.2.2.2.1, y34.2.2.2.2.2.2.1, y34.2.2.2.2.2.2.2.1, y34.2.2.2.2.2.2.2.2.1, y34.2.2.2.2.2.2.2.2.2.1, y34.2.2.2.2.2.2.2.2.2.2.1, y34.2.2.2.2.2.2.2.2.2.2.2.1, y34.2.2.2.2.2.2.2.2.2.2.2.2.1, y34.2.2.2.2.2.2.2.2.2.2.2.2.2.1, y34.2.2.2.2.2.2.2.2.2.2.2.2.2.2.1, y34.2.2.2.2.2.2.2.2.2.2.2.2.2.2.2.1, y34.1, y34.2.1, y34.2.2.1, y34.2.2.2.1, y34.2.2.2.2.1) else if y34.2.1 ≤ p2 then some ((-4 : Int32), y34.2.2.2.2.2.2.2.2.2.2.2.2.2.2.2.2.1, y34.2.2.2.2.2.2.2.2.2.2.2.2.2.2.2.2.2, y34.2.2.2.2.2.1, y34.2.2.2.2.2.2.1, y34.2.2.2.2.2.2.2.1, y34.2.2.2.2.2.2.2.2.1, y34.2.2.2.2.2.2.2.2.2.1, y34.2.2.2.2.2.2.2.2.2.2.1, y34.2.2.2.2.2.2.2.2.2.2.2.1, y34.2.2.2.2.2.2.2.2.2.2.2.2.1, y34.2.2.2.2.2.2.2.2.2.2.2.2.2.1, y34.2.2.2.2.2.2.2.2.2.2.2.2.2.2.1, y34.2.2.2.2.2.2.2.2.2.2.2.2.2.2.2.1, y34.1, y34.2.1, y34.2.2.1, y34.2.2.2.1, y34.2.2.2.2.1) else ck (inb p2 42) (some (y34.2.2.2.2.1 p2.toNatClampNeg, y34.2.2.2.2.2.2.2.2.2.2.2.2.2.2.2.2.1, y34.2.2.2.2.2.2.2.2.2.2.2.2.2.2.2.2.2, y34.2.2.2.2.2.1, y34.2.2.2.2.2.2.1, y34.2.2.2.2.2.2.2.1, y34.2.2.2.2.2.2.2.2.1, y34.2.2.2.2.2.2.2.2.2.1, y34.2.2.2.2.2.2.2.2.2.2.1, y34.2.2.2.2.2.2.2.2.2.2.2.1, y34.2.2.2.2.2.2.2.2.2.2.2.2.1, y34.2.2.2.2.2.2.2.2.2.2.2.2.2.1, y34.2.2.2.2.2.2.2.2.2.2.2.2.2.2.1, y34.2.2.2.2.2.2.2.2.2.2.2.2.2.2.2.1, y34.1, y34.2.1, y34.2.2.1, y34.2.2.2.1, y34.2.2.2.2.1)))) else some ((-1 : Int32), t_spare_size, t_spare_corners, t_lines_ringEdges, t_lines_rings, t_lines_size, t_lines_ends, t_lines_row, t_lines_column, t_lines_side, t_lines_partners, t_lines_lengths, t_lines_open, t_lines_endAtRim, t_sizes_e_areEndingsCounted, t_sizes_e_ways, t_sizes_e_endings, t_sizes_e_codes, t_sizes_e_tally))
theorem kd_X5_ways : yX5_ways.cls = RX5 ∧ yX5_ways.cls ≠ "java/lang/invoke/MethodHandle" ∧ yX5_ways.cls ≠ "java/lang/invoke/VarHandle" ∧ (parseMethodDescriptor yX5_ways.desc).map (fun d => d.parameters.length) = some 2 := by decide +kernel
set_option maxHeartbeats 4000000 in
set_option maxRecDepth 100000 in
theorem c_X5_ways {l : Launch} {G : kG} (sz : Nat) {p1 : Int32} {p2 : Int32} {q_t : Nat} {q_t_text : Nat} {q_t_table : Nat} {q_t_other : Nat} {q_t_spare : Nat} {q_t_past : Nat} {q_t_lines : Nat} {q_t_sizes : Nat} {t_spare_size : Int32} {q_t_spare_corners : Nat} {t_spare_corners : Nat → Int32} {q_t_lines_partners : Nat} {q_t_lines_lengths : Nat} {t_lines_ringEdges : Int32} {t_lines_rings : Int32} {t_lines_size : Int32} {t_lines_ends : Int32} {q_t_lines_open : Nat} {q_t_lines_endAtRim : Nat} {t_lines_row : Int32} {t_lines_column : Int32} {t_lines_side : Int32} {t_lines_partners : Nat → Int32} {t_lines_lengths : Nat → Int32} {t_lines_open : Nat → Int32} {t_lines_endAtRim : Nat → Int32} {t_sizes : Nat → Option Nat} {q_t_sizes_e : Nat} {t_sizes_e_size : Int32} {t_sizes_e_masks : Int32} {q_t_sizes_e_endings : Nat} {t_sizes_e_areEndingsCounted : Int32} {q_t_sizes_e_codes : Nat} {q_t_sizes_e_tally : Nat} {t_sizes_e_ways : Int32} {t_sizes_e_endings : Nat → Int32} {t_sizes_e_codes : Nat → Int64} {t_sizes_e_tally : Nat → Int32} {res : Int32 × Int32 × (Nat → Int32) × Int32 × Int32 × Int32 × Int32 × Int32 × Int32 × Int32 × (Nat → Int32) × (Nat → Int32) × (Nat → Int32) × (Nat → Int32) × Int32 × Int32 × (Nat → Int32) × (Nat → Int64) × (Nat → Int32)} (he_0 : inb (p1 - (1 : Int32)) 6 = true → t_sizes (p1 - (1 : Int32)).toNatClampNeg = some q_t_sizes_e) (hE : S_X5_ways p1 p2 t_spare_size t_spare_corners t_lines_ringEdges t_lines_rings t_lines_size t_lines_ends t_lines_row t_lines_column t_lines_side t_lines_partners t_lines_lengths t_lines_open t_lines_endAtRim t_sizes_e_size t_sizes_e_masks t_sizes_e_areEndingsCounted t_sizes_e_ways t_sizes_e_endings t_sizes_e_codes t_sizes_e_tally = some res) : Met l yX5_ways wsX5_ways ({ frames := 6, cells := 0, slots := 0, locals := 137 }) (va_Pc [.ref q_t, .int p1, .int p2] (fun U => U.heap.size = sz ∧ va_P G.1 vwCl [oX5 q_t q_t_text q_t_table q_t_other q_t_spare q_t_past q_t_lines q_t_sizes, oX3 q_t_spare t_spare_size q_t_spare_corners, aI (G.2 1) q_t_spare_corners 49 t_spare_corners, oX1 q_t_lines q_t_lines_partners q_t_lines_lengths t_lines_ringEdges t_lines_rings t_lines_size t_lines_ends q_t_lines_open q_t_lines_endAtRim t_lines_row t_lines_column t_lines_side, aI (G.2 1) q_t_lines_partners 12 t_lines_partners, aI (G.2 1) q_t_lines_lengths 12 t_lines_lengths, aI (G.2 1) q_t_lines_open 49 t_lines_open, aI (G.2 1) q_t_lines_endAtRim 24 t_lines_endAtRim, aQ (G.2 4) q_t_sizes 6 t_sizes, oX0 q_t_sizes_e t_sizes_e_size t_sizes_e_masks q_t_sizes_e_endings t_sizes_e_areEndingsCounted q_t_sizes_e_codes q_t_sizes_e_tally t_sizes_e_ways, aI (G.2 1) q_t_sizes_e_endings 64 t_sizes_e_endings, aJ (G.2 2) q_t_sizes_e_codes 42 t_sizes_e_codes, aI (G.2 1) q_t_sizes_e_tally 42 t_sizes_e_tally] U.heap ∧ kw G U ∧ va_D (fun _ => True) [oX5 q_t q_t_text q_t_table q_t_other q_t_spare q_t_past q_t_lines q_t_sizes, oX3 q_t_spare t_spare_size q_t_spare_corners, aI (G.2 1) q_t_spare_corners 49 t_spare_corners, oX1 q_t_lines q_t_lines_partners q_t_lines_lengths t_lines_ringEdges t_lines_rings t_lines_size t_lines_ends q_t_lines_open q_t_lines_endAtRim t_lines_row t_lines_column t_lines_side, aI (G.2 1) q_t_lines_partners 12 t_lines_partners, aI (G.2 1) q_t_lines_lengths 12 t_lines_lengths, aI (G.2 1) q_t_lines_open 49 t_lines_open, aI (G.2 1) q_t_lines_endAtRim 24 t_lines_endAtRim, aQ (G.2 4) q_t_sizes 6 t_sizes, oX0 q_t_sizes_e t_sizes_e_size t_sizes_e_masks q_t_sizes_e_endings t_sizes_e_areEndingsCounted q_t_sizes_e_codes q_t_sizes_e_tally t_sizes_e_ways, aI (G.2 1) q_t_sizes_e_endings 64 t_sizes_e_endings, aJ (G.2 2) q_t_sizes_e_codes 42 t_sizes_e_codes, aI (G.2 1) q_t_sizes_e_tally 42 t_sizes_e_tally])) (va_Qi (fun r (_ : Unit) => r = res.1) (fun _ t => va_P G.1 vwCl [oX5 q_t q_t_text q_t_table q_t_other q_t_spare q_t_past q_t_lines q_t_sizes, oX3 q_t_spare res.2.1 q_t_spare_corners, aI (G.2 1) q_t_spare_corners 49 res.2.2.1, oX1 q_t_lines q_t_lines_partners q_t_lines_lengths res.2.2.2.1 res.2.2.2.2.1 res.2.2.2.2.2.1 res.2.2.2.2.2.2.1 q_t_lines_open q_t_lines_endAtRim res.2.2.2.2.2.2.2.1 res.2.2.2.2.2.2.2.2.1 res.2.2.2.2.2.2.2.2.2.1, aI (G.2 1) q_t_lines_partners 12 res.2.2.2.2.2.2.2.2.2.2.1, aI (G.2 1) q_t_lines_lengths 12 res.2.2.2.2.2.2.2.2.2.2.2.1, aI (G.2 1) q_t_lines_open 49 res.2.2.2.2.2.2.2.2.2.2.2.2.1, aI (G.2 1) q_t_lines_endAtRim 24 res.2.2.2.2.2.2.2.2.2.2.2.2.2.1, aQ (G.2 4) q_t_sizes 6 t_sizes, oX0 q_t_sizes_e t_sizes_e_size t_sizes_e_masks q_t_sizes_e_endings res.2.2.2.2.2.2.2.2.2.2.2.2.2.2.1 q_t_sizes_e_codes q_t_sizes_e_tally res.2.2.2.2.2.2.2.2.2.2.2.2.2.2.2.1, aI (G.2 1) q_t_sizes_e_endings 64 res.2.2.2.2.2.2.2.2.2.2.2.2.2.2.2.2.1, aJ (G.2 2) q_t_sizes_e_codes 42 res.2.2.2.2.2.2.2.2.2.2.2.2.2.2.2.2.2.1, aI (G.2 1) q_t_sizes_e_tally 42 res.2.2.2.2.2.2.2.2.2.2.2.2.2.2.2.2.2.2] t.heap ∧ va_D (va_A [oX5 q_t q_t_text q_t_table q_t_other q_t_spare q_t_past q_t_lines q_t_sizes, oX3 q_t_spare t_spare_size q_t_spare_corners, aI (G.2 1) q_t_spare_corners 49 t_spare_corners, oX1 q_t_lines q_t_lines_partners q_t_lines_lengths t_lines_ringEdges t_lines_rings t_lines_size t_lines_ends q_t_lines_open q_t_lines_endAtRim t_lines_row t_lines_column t_lines_side, aI (G.2 1) q_t_lines_partners 12 t_lines_partners, aI (G.2 1) q_t_lines_lengths 12 t_lines_lengths, aI (G.2 1) q_t_lines_open 49 t_lines_open, aI (G.2 1) q_t_lines_endAtRim 24 t_lines_endAtRim, aQ (G.2 4) q_t_sizes 6 t_sizes, oX0 q_t_sizes_e t_sizes_e_size t_sizes_e_masks q_t_sizes_e_endings t_sizes_e_areEndingsCounted q_t_sizes_e_codes q_t_sizes_e_tally t_sizes_e_ways, aI (G.2 1) q_t_sizes_e_endings 64 t_sizes_e_endings, aJ (G.2 2) q_t_sizes_e_codes 42 t_sizes_e_codes, aI (G.2 1) q_t_sizes_e_tally 42 t_sizes_e_tally] sz) [oX5 q_t q_t_text q_t_table q_t_other q_t_spare q_t_past q_t_lines q_t_sizes, oX3 q_t_spare res.2.1 q_t_spare_corners, aI (G.2 1) q_t_spare_corners 49 res.2.2.1, oX1 q_t_lines q_t_lines_partners q_t_lines_lengths res.2.2.2.1 res.2.2.2.2.1 res.2.2.2.2.2.1 res.2.2.2.2.2.2.1 q_t_lines_open q_t_lines_endAtRim res.2.2.2.2.2.2.2.1 res.2.2.2.2.2.2.2.2.1 res.2.2.2.2.2.2.2.2.2.1, aI (G.2 1) q_t_lines_partners 12 res.2.2.2.2.2.2.2.2.2.2.1, aI (G.2 1) q_t_lines_lengths 12 res.2.2.2.2.2.2.2.2.2.2.2.1, aI (G.2 1) q_t_lines_open 49 res.2.2.2.2.2.2.2.2.2.2.2.2.1, aI (G.2 1) q_t_lines_endAtRim 24 res.2.2.2.2.2.2.2.2.2.2.2.2.2.1, aQ (G.2 4) q_t_sizes 6 t_sizes, oX0 q_t_sizes_e t_sizes_e_size t_sizes_e_masks q_t_sizes_e_endings res.2.2.2.2.2.2.2.2.2.2.2.2.2.2.1 q_t_sizes_e_codes q_t_sizes_e_tally res.2.2.2.2.2.2.2.2.2.2.2.2.2.2.2.1, aI (G.2 1) q_t_sizes_e_endings 64 res.2.2.2.2.2.2.2.2.2.2.2.2.2.2.2.2.1, aJ (G.2 2) q_t_sizes_e_codes 42 res.2.2.2.2.2.2.2.2.2.2.2.2.2.2.2.2.2.1, aI (G.2 1) q_t_sizes_e_tally 42 res.2.2.2.2.2.2.2.2.2.2.2.2.2.2.2.2.2.2]) (va_A [oX5 q_t q_t_text q_t_table q_t_other q_t_spare q_t_past q_t_lines q_t_sizes, oX3 q_t_spare t_spare_size q_t_spare_corners, aI (G.2 1) q_t_spare_corners 49 t_spare_corners, oX1 q_t_lines q_t_lines_partners q_t_lines_lengths t_lines_ringEdges t_lines_rings t_lines_size t_lines_ends q_t_lines_open q_t_lines_endAtRim t_lines_row t_lines_column t_lines_side, aI (G.2 1) q_t_lines_partners 12 t_lines_partners, aI (G.2 1) q_t_lines_lengths 12 t_lines_lengths, aI (G.2 1) q_t_lines_open 49 t_lines_open, aI (G.2 1) q_t_lines_endAtRim 24 t_lines_endAtRim, aQ (G.2 4) q_t_sizes 6 t_sizes, oX0 q_t_sizes_e t_sizes_e_size t_sizes_e_masks q_t_sizes_e_endings t_sizes_e_areEndingsCounted q_t_sizes_e_codes q_t_sizes_e_tally t_sizes_e_ways, aI (G.2 1) q_t_sizes_e_endings 64 t_sizes_e_endings, aJ (G.2 2) q_t_sizes_e_codes 42 t_sizes_e_codes, aI (G.2 1) q_t_sizes_e_tally 42 t_sizes_e_tally] sz)) 0 0 (va_A [oX5 q_t q_t_text q_t_table q_t_other q_t_spare q_t_past q_t_lines q_t_sizes, oX3 q_t_spare t_spare_size q_t_spare_corners, aI (G.2 1) q_t_spare_corners 49 t_spare_corners, oX1 q_t_lines q_t_lines_partners q_t_lines_lengths t_lines_ringEdges t_lines_rings t_lines_size t_lines_ends q_t_lines_open q_t_lines_endAtRim t_lines_row t_lines_column t_lines_side, aI (G.2 1) q_t_lines_partners 12 t_lines_partners, aI (G.2 1) q_t_lines_lengths 12 t_lines_lengths, aI (G.2 1) q_t_lines_open 49 t_lines_open, aI (G.2 1) q_t_lines_endAtRim 24 t_lines_endAtRim, aQ (G.2 4) q_t_sizes 6 t_sizes, oX0 q_t_sizes_e t_sizes_e_size t_sizes_e_masks q_t_sizes_e_endings t_sizes_e_areEndingsCounted q_t_sizes_e_codes q_t_sizes_e_tally t_sizes_e_ways, aI (G.2 1) q_t_sizes_e_endings 64 t_sizes_e_endings, aJ (G.2 2) q_t_sizes_e_codes 42 t_sizes_e_codes, aI (G.2 1) q_t_sizes_e_tally 42 t_sizes_e_tally] sz) := by
  refine Met.ofQ (cc := cX5_ways) (maxL := 4) (ret := (some .int)) (by decide) rfl ?_
  intro p e s m args below meth c s₁ Q hQ B hml hv
  obtain ⟨rfl, hsz, hP, hKW, hD0⟩ := hv
  have hK := hKW.1
  have hx := B.exec
  have hb := B.bytes
  have hr := B.returns
  have hts := atoms_spec (ws := wsX5_ways) B.pre
  have hown : s.vm.findClass RX5 = some m.cls := findClass_of_methodNamed B.named
  have hlocks := B.notSynchronized
  have iX0 : ∀ w ∈ u_ws RX0 TX0 7, w ∈ wsX5_ways := by decide +kernel
  have iX5 : ∀ w ∈ u_ws RX5 TX5 7, w ∈ wsX5_ways := by decide +kernel
  have fl_45 := hts (.fieldLink RX5 45 "AlternateSigns" "sizes" "[LAlternateSigns$AllOfSize;") (by decide +kernel)
  have fl_39 := hts (.fieldLink RX5 39 "AlternateSigns" "lines" "LAlternateSigns$Lines;") (by decide +kernel)
  have fl_26 := hts (.fieldLink RX5 26 "AlternateSigns" "spare" "LAlternateSigns$Table;") (by decide +kernel)
  have fl_219 := hts (.fieldLink RX5 219 "AlternateSigns$AllOfSize" "ways" "I") (by decide +kernel)
  have fl_216 := hts (.fieldLink RX5 216 "AlternateSigns$AllOfSize" "tally" "[I") (by decide +kernel)
  subst hsz
  have hD := hD0.self (sz := s.heap.size)
  generalize hAe : va_A [oX5 q_t q_t_text q_t_table q_t_other q_t_spare q_t_past q_t_lines q_t_sizes, oX3 q_t_spare t_spare_size q_t_spare_corners, aI (G.2 1) q_t_spare_corners 49 t_spare_corners, oX1 q_t_lines q_t_lines_partners q_t_lines_lengths t_lines_ringEdges t_lines_rings t_lines_size t_lines_ends q_t_lines_open q_t_lines_endAtRim t_lines_row t_lines_column t_lines_side, aI (G.2 1) q_t_lines_partners 12 t_lines_partners, aI (G.2 1) q_t_lines_lengths 12 t_lines_lengths, aI (G.2 1) q_t_lines_open 49 t_lines_open, aI (G.2 1) q_t_lines_endAtRim 24 t_lines_endAtRim, aQ (G.2 4) q_t_sizes 6 t_sizes, oX0 q_t_sizes_e t_sizes_e_size t_sizes_e_masks q_t_sizes_e_endings t_sizes_e_areEndingsCounted q_t_sizes_e_codes q_t_sizes_e_tally t_sizes_e_ways, aI (G.2 1) q_t_sizes_e_endings 64 t_sizes_e_endings, aJ (G.2 2) q_t_sizes_e_codes 42 t_sizes_e_codes, aI (G.2 1) q_t_sizes_e_tally 42 t_sizes_e_tally] s.heap.size = A at hD hQ
  have hA : ∀ q : Nat, s.heap.size ≤ q → A q := fun q h => by rw [← hAe]; exact Or.inr h
  have hS : va_S A s.heap s.heap [] := va_S.rf
  have hl := lv_entry ([.ref q_t, .int p1, .int p2]) (n := 4) (Nat.le_of_ble_eq_true rfl)
  rw [lg_entry_eq]
  generalize (lg_sl ([.ref q_t, .int p1, .int p2]) ++ List.replicate (4 - (lg_sl ([.ref q_t, .int p1, .int p2])).length) Slot.unset).toArray = ls at hl ⊢
  have hl : lv_has ls 4 [(0, .ref q_t), (1, .int p1), (2, .int p2)] := hl
  unfold S_X5_ways at hE
  refine lv_iload_n hx hb dX5_ways_0 rfl (lv_at hl 1 rfl) ?_
  refine lv_iconst (v := 1) hx hb dX5_ways_1 (by decide) ?_
  refine lv_iconst (v := 5) hx hb dX5_ways_2 (by decide) ?_
  obtain ⟨y3, hC_3, hE⟩ := Option.bind_eq_some_iff.mp hE
  obtain ⟨r_3, ex9⟩ : ∃ z, z = y3 := ⟨_, rfl⟩
  subst ex9
  try dsimp only at hE
  refine vp_callSi (va_Run.run (va_runS (As := [.int p1, .int (1 : Int32), .int (5 : Int32)]) (rest := []) ⟨hx, hb, hml, hown, hts⟩ (c_X5_isBetween (l := l) (G := G) (p1 := p1) (p2 := (1 : Int32)) (p3 := (5 : Int32)) hC_3) (va_cwS 3 hts gX5_ways_X5_isBetween rfl rfl rfl kd_X5_isBetween ⟨Nat.le_of_ble_eq_true rfl, Nat.le_of_ble_eq_true rfl⟩) (pv_S hKW (hP.sub (ws' := []) [] rfl)) rfl rfl hl.1 rfl (lv_room (Nat.le_of_ble_eq_true rfl)) dX5_ways_3 ⟨Nat.zero_le _, Nat.zero_le _⟩)) (fun r9 hr9 => ?_)
  subst r9
  refine lv_if_eq (tgt := 14) hx hb dX5_ways_6 (by decide) (fun c_6 => ?_) (fun c_6 => ?_)
  · replace hE := (if_pos c_6).symm.trans hE
    refine lv_iconst (v := -1) hx hb dX5_ways_14 (by decide) ?_
    have e_0 := Option.some.inj hE
    subst e_0
    rw [hQ]
    exact W.iret (v := (-1 : Int32)) hx hb hr (fun t ht _ => ⟨⟨_, (), rfl, rfl, by rw [ht]; exact hP, hD⟩, hS.F ht⟩) hS.2.2 dX5_ways_15
  · replace hE := (if_neg c_6).symm.trans hE
    refine lv_iload_n hx hb dX5_ways_9 rfl (lv_at hl 2 rfl) ?_
    refine lv_iconst (v := -1) hx hb dX5_ways_10 (by decide) ?_
    refine lv_icmp_ge (tgt := 16) hx hb dX5_ways_11 (by decide) (fun c_11 => ?_) (fun c_11 => ?_)
    · replace hE := (if_pos c_11).symm.trans hE
      refine lv_aload_n hx hb dX5_ways_16 rfl (lv_at hl 0 rfl) ?_
      refine va_get (D := G.1) (ci := 5) (v := .ref q_t_sizes) (C := RX5) (T := TX5) (N := 7) hx hb hts iX5 hown hK hP 0 rfl rfl 6 (by decide) fl_45 (fun _ h9 => h9) rfl dX5_ways_17 ?_
      refine lv_iload_n hx hb dX5_ways_20 rfl (lv_at hl 1 rfl) ?_
      refine lv_iconst (v := 1) hx hb dX5_ways_21 (by decide) ?_
      refine lv_isub hx hb dX5_ways_22 ?_
      obtain ⟨hi_23, hE⟩ := ck_some hE
      refine va_aldq (C := RX0) hx hb hK hP 8 4 rfl rfl (inb_in hi_23) dX5_ways_23 ?_
      rw [he_0 hi_23]
      refine W.eq (g2 := F0 m 24 ls [.ref q_t_sizes_e]) rfl ?_
      refine lv_astore_n (lv' := [(3, .ref q_t_sizes_e), (0, .ref q_t), (1, .int p1), (2, .int p2)]) hx hb dX5_ways_24 rfl hl (by decide) rfl (fun ls hl => ?_)
      refine lv_aload_n hx hb dX5_ways_25 rfl (lv_at hl 0 rfl) ?_
      refine lv_aload_n hx hb dX5_ways_26 rfl (lv_at hl 1 rfl) ?_
      refine va_get (D := G.1) (ci := 5) (v := .ref q_t_lines) (C := RX5) (T := TX5) (N := 7) hx hb hts iX5 hown hK hP 0 rfl rfl 5 (by decide) fl_39 (fun _ h9 => h9) rfl dX5_ways_27 ?_
      refine lv_aload_n hx hb dX5_ways_30 rfl (lv_at hl 1 rfl) ?_
      refine va_get (D := G.1) (ci := 5) (v := .ref q_t_spare) (C := RX5) (T := TX5) (N := 7) hx hb hts iX5 hown hK hP 0 rfl rfl 3 (by decide) fl_26 (fun _ h9 => h9) rfl dX5_ways_31 ?_
      obtain ⟨y34, hC_34, hE⟩ := Option.bind_eq_some_iff.mp hE
      obtain ⟨m_34_0, m_34_1, m_34_2, m_34_3, m_34_4, m_34_5, m_34_6, m_34_7, m_34_8, m_34_9, m_34_10, m_34_11, m_34_12, m_34_13, m_34_14, m_34_15, m_34_16, m_34_17⟩ := y34
      try dsimp only at hE
      have hPc := hP.sub (ws' := [oX0 q_t_sizes_e t_sizes_e_size t_sizes_e_masks q_t_sizes_e_endings t_sizes_e_areEndingsCounted q_t_sizes_e_codes q_t_sizes_e_tally t_sizes_e_ways, aI (G.2 1) q_t_sizes_e_endings 64 t_sizes_e_endings, aJ (G.2 2) q_t_sizes_e_codes 42 t_sizes_e_codes, aI (G.2 1) q_t_sizes_e_tally 42 t_sizes_e_tally, oX1 q_t_lines q_t_lines_partners q_t_lines_lengths t_lines_ringEdges t_lines_rings t_lines_size t_lines_ends q_t_lines_open q_t_lines_endAtRim t_lines_row t_lines_column t_lines_side, aI (G.2 1) q_t_lines_partners 12 t_lines_partners, aI (G.2 1) q_t_lines_lengths 12 t_lines_lengths, aI (G.2 1) q_t_lines_open 49 t_lines_open, aI (G.2 1) q_t_lines_endAtRim 24 t_lines_endAtRim, oX3 q_t_spare t_spare_size q_t_spare_corners, aI (G.2 1) q_t_spare_corners 49 t_spare_corners]) [9, 10, 11, 12, 3, 4, 5, 6, 7, 1, 2] rfl
      have hDc := hD.sub (ws' := [oX0 q_t_sizes_e t_sizes_e_size t_sizes_e_masks q_t_sizes_e_endings t_sizes_e_areEndingsCounted q_t_sizes_e_codes q_t_sizes_e_tally t_sizes_e_ways, aI (G.2 1) q_t_sizes_e_endings 64 t_sizes_e_endings, aJ (G.2 2) q_t_sizes_e_codes 42 t_sizes_e_codes, aI (G.2 1) q_t_sizes_e_tally 42 t_sizes_e_tally, oX1 q_t_lines q_t_lines_partners q_t_lines_lengths t_lines_ringEdges t_lines_rings t_lines_size t_lines_ends q_t_lines_open q_t_lines_endAtRim t_lines_row t_lines_column t_lines_side, aI (G.2 1) q_t_lines_partners 12 t_lines_partners, aI (G.2 1) q_t_lines_lengths 12 t_lines_lengths, aI (G.2 1) q_t_lines_open 49 t_lines_open, aI (G.2 1) q_t_lines_endAtRim 24 t_lines_endAtRim, oX3 q_t_spare t_spare_size q_t_spare_corners, aI (G.2 1) q_t_spare_corners 49 t_spare_corners]) [9, 10, 11, 12, 3, 4, 5, 6, 7, 1, 2] (by decide) rfl
      have hFc := va_free (wc := [oX0 q_t_sizes_e t_sizes_e_size t_sizes_e_masks q_t_sizes_e_endings t_sizes_e_areEndingsCounted q_t_sizes_e_codes q_t_sizes_e_tally t_sizes_e_ways, aI (G.2 1) q_t_sizes_e_endings 64 t_sizes_e_endings, aJ (G.2 2) q_t_sizes_e_codes 42 t_sizes_e_codes, aI (G.2 1) q_t_sizes_e_tally 42 t_sizes_e_tally, oX1 q_t_lines q_t_lines_partners q_t_lines_lengths t_lines_ringEdges t_lines_rings t_lines_size t_lines_ends q_t_lines_open q_t_lines_endAtRim t_lines_row t_lines_column t_lines_side, aI (G.2 1) q_t_lines_partners 12 t_lines_partners, aI (G.2 1) q_t_lines_lengths 12 t_lines_lengths, aI (G.2 1) q_t_lines_open 49 t_lines_open, aI (G.2 1) q_t_lines_endAtRim 24 t_lines_endAtRim, oX3 q_t_spare t_spare_size q_t_spare_corners, aI (G.2 1) q_t_spare_corners 49 t_spare_corners]) hD hS hA [9, 10, 11, 12, 3, 4, 5, 6, 7, 1, 2] rfl
      refine va_callv (va_runV (As := [.ref q_t_lines, .ref q_t_spare]) (rest := []) ⟨hx, hb, hml, hown, hts⟩ (c_X0_sortByPartners (l := l) (G := G) _ (q_t := q_t_sizes_e) (t_size := t_sizes_e_size) (t_masks := t_sizes_e_masks) (q_t_endings := q_t_sizes_e_endings) (t_areEndingsCounted := t_sizes_e_areEndingsCounted) (q_t_codes := q_t_sizes_e_codes) (q_t_tally := q_t_sizes_e_tally) (t_ways := t_sizes_e_ways) (t_endings := t_sizes_e_endings) (t_codes := t_sizes_e_codes) (t_tally := t_sizes_e_tally) (q_p1 := q_t_lines) (q_p1_partners := q_t_lines_partners) (q_p1_lengths := q_t_lines_lengths) (p1_ringEdges := t_lines_ringEdges) (p1_rings := t_lines_rings) (p1_size := t_lines_size) (p1_ends := t_lines_ends) (q_p1_open := q_t_lines_open) (q_p1_endAtRim := q_t_lines_endAtRim) (p1_row := t_lines_row) (p1_column := t_lines_column) (p1_side := t_lines_side) (p1_partners := t_lines_partners) (p1_lengths := t_lines_lengths) (p1_open := t_lines_open) (p1_endAtRim := t_lines_endAtRim) (q_p2 := q_t_spare) (p2_size := t_spare_size) (q_p2_corners := q_t_spare_corners) (p2_corners := t_spare_corners) hC_34) (cwV 2 hts gX5_ways_X0_sortByPartners rfl rfl rfl kd_X0_sortByPartners ⟨Nat.le_of_ble_eq_true rfl, Nat.le_of_ble_eq_true rfl⟩) (iv_V hKW hPc hDc (ci := 0) (q0 := 0) rfl rfl) rfl rfl hl.1 rfl (lv_room (Nat.le_of_ble_eq_true rfl)) dX5_ways_34 ⟨Nat.zero_le _, Nat.zero_le _⟩) hS (fun q _ h => hFc q h) hFc (fun u9 t9 H1 locs ht9 hvm9 hw9 hB9 hz9 hk9 hS => ?_)
      obtain ⟨hP1, hD1⟩ := hB9
      rw [ht9] at hP1
      obtain ⟨hP, hD⟩ := va_join (wr := [oX5 q_t q_t_text q_t_table q_t_other q_t_spare q_t_past q_t_lines q_t_sizes, aQ (G.2 4) q_t_sizes 6 t_sizes]) (w1 := [oX0 q_t_sizes_e t_sizes_e_size t_sizes_e_masks q_t_sizes_e_endings m_34_0 q_t_sizes_e_codes q_t_sizes_e_tally m_34_1, aI (G.2 1) q_t_sizes_e_endings 64 m_34_2, aJ (G.2 2) q_t_sizes_e_codes 42 m_34_3, aI (G.2 1) q_t_sizes_e_tally 42 m_34_4, oX1 q_t_lines q_t_lines_partners q_t_lines_lengths m_34_5 m_34_6 m_34_7 m_34_8 q_t_lines_open q_t_lines_endAtRim m_34_9 m_34_10 m_34_11, aI (G.2 1) q_t_lines_partners 12 m_34_12, aI (G.2 1) q_t_lines_lengths 12 m_34_13, aI (G.2 1) q_t_lines_open 49 m_34_14, aI (G.2 1) q_t_lines_endAtRim 24 m_34_15, oX3 q_t_spare m_34_16 q_t_spare_corners, aI (G.2 1) q_t_spare_corners 49 m_34_17]) hP hD [9, 10, 11, 12, 3, 4, 5, 6, 7, 1, 2] [0, 8] rfl rfl (by decide) (by decide) hk9 hFc hP1 hD1
      have hP := hP.sub (ws' := [oX5 q_t q_t_text q_t_table q_t_other q_t_spare q_t_past q_t_lines q_t_sizes, oX3 q_t_spare m_34_16 q_t_spare_corners, aI (G.2 1) q_t_spare_corners 49 m_34_17, oX1 q_t_lines q_t_lines_partners q_t_lines_lengths m_34_5 m_34_6 m_34_7 m_34_8 q_t_lines_open q_t_lines_endAtRim m_34_9 m_34_10 m_34_11, aI (G.2 1) q_t_lines_partners 12 m_34_12, aI (G.2 1) q_t_lines_lengths 12 m_34_13, aI (G.2 1) q_t_lines_open 49 m_34_14, aI (G.2 1) q_t_lines_endAtRim 24 m_34_15, aQ (G.2 4) q_t_sizes 6 t_sizes, oX0 q_t_sizes_e t_sizes_e_size t_sizes_e_masks q_t_sizes_e_endings m_34_0 q_t_sizes_e_codes q_t_sizes_e_tally m_34_1, aI (G.2 1) q_t_sizes_e_endings 64 m_34_2, aJ (G.2 2) q_t_sizes_e_codes 42 m_34_3, aI (G.2 1) q_t_sizes_e_tally 42 m_34_4]) [0, 11, 12, 6, 7, 8, 9, 10, 1, 2, 3, 4, 5] rfl
      have hD := hD.sub (ws' := [oX5 q_t q_t_text q_t_table q_t_other q_t_spare q_t_past q_t_lines q_t_sizes, oX3 q_t_spare m_34_16 q_t_spare_corners, aI (G.2 1) q_t_spare_corners 49 m_34_17, oX1 q_t_lines q_t_lines_partners q_t_lines_lengths m_34_5 m_34_6 m_34_7 m_34_8 q_t_lines_open q_t_lines_endAtRim m_34_9 m_34_10 m_34_11, aI (G.2 1) q_t_lines_partners 12 m_34_12, aI (G.2 1) q_t_lines_lengths 12 m_34_13, aI (G.2 1) q_t_lines_open 49 m_34_14, aI (G.2 1) q_t_lines_endAtRim 24 m_34_15, aQ (G.2 4) q_t_sizes 6 t_sizes, oX0 q_t_sizes_e t_sizes_e_size t_sizes_e_masks q_t_sizes_e_endings m_34_0 q_t_sizes_e_codes q_t_sizes_e_tally m_34_1, aI (G.2 1) q_t_sizes_e_endings 64 m_34_2, aJ (G.2 2) q_t_sizes_e_codes 42 m_34_3, aI (G.2 1) q_t_sizes_e_tally 42 m_34_4]) [0, 11, 12, 6, 7, 8, 9, 10, 1, 2, 3, 4, 5] (by decide) rfl
      clear hPc hDc hFc hP1 hD1 hk9 hz9 hvm9
      refine lv_iload_n hx hb dX5_ways_37 rfl (lv_at hl 3 rfl) ?_
      refine lv_iconst (v := -1) hx hb dX5_ways_38 (by decide) ?_
      refine lv_icmp_ne (tgt := 47) hx hb dX5_ways_39 (by decide) (fun c_39 => ?_) (fun c_39 => ?_)
      · replace hE := (if_neg c_39).symm.trans hE
        refine lv_iload_n hx hb dX5_ways_47 rfl (lv_at hl 3 rfl) ?_
        refine lv_aload_n hx hb dX5_ways_48 rfl (lv_at hl 0 rfl) ?_
        refine va_get (D := G.1) (ci := 0) (v := .int m_34_1) (C := RX0) (T := TX0) (N := 7) hx hb hts iX0 hown hK hP 9 rfl rfl 6 (by decide) fl_219 (fun _ h9 => h9) rfl dX5_ways_49 ?_
        refine lv_icmp_ge (tgt := 64) hx hb dX5_ways_52 (by decide) (fun c_52 => ?_) (fun c_52 => ?_)
        · replace hE := (if_pos c_52).symm.trans hE
          refine lv_bipush (v := -4) hx hb dX5_ways_64 (by decide) ?_
          have e_0 := Option.some.inj hE
          subst e_0
          rw [hQ]
          exact W.iret (v := (-4 : Int32)) hx hb hr (fun t ht _ => ⟨⟨_, (), rfl, rfl, by rw [ht]; exact hP, hD⟩, hS.F ht⟩) hS.2.2 dX5_ways_66
        · replace hE := (if_neg c_52).symm.trans hE
          refine lv_aload_n hx hb dX5_ways_55 rfl (lv_at hl 0 rfl) ?_
          refine va_get (D := G.1) (ci := 0) (v := .ref q_t_sizes_e_tally) (C := RX0) (T := TX0) (N := 7) hx hb hts iX0 hown hK hP 9 rfl rfl 5 (by decide) fl_216 (fun _ h9 => h9) rfl dX5_ways_56 ?_
          refine lv_iload_n hx hb dX5_ways_59 rfl (lv_at hl 3 rfl) ?_
          obtain ⟨hi_60, hE⟩ := ck_some hE
          refine va_iald hx hb hK hP 12 1 rfl rfl (inb_in hi_60) dX5_ways_60 ?_
          refine lv_goto (tgt := 66) hx hb dX5_ways_61 (by decide) ?_
          have e_0 := Option.some.inj hE
          subst e_0
          rw [hQ]
          exact W.iret (v := m_34_4 p2.toNatClampNeg) hx hb hr (fun t ht _ => ⟨⟨_, (), rfl, rfl, by rw [ht]; exact hP, hD⟩, hS.F ht⟩) hS.2.2 dX5_ways_66
      · replace hE := (if_pos c_39).symm.trans hE
        refine lv_aload_n hx hb dX5_ways_42 rfl (lv_at hl 0 rfl) ?_
        refine va_get (D := G.1) (ci := 0) (v := .int m_34_1) (C := RX0) (T := TX0) (N := 7) hx hb hts iX0 hown hK hP 9 rfl rfl 6 (by decide) fl_219 (fun _ h9 => h9) rfl dX5_ways_43 ?_
        have e_0 := Option.some.inj hE
        subst e_0
        rw [hQ]
        exact W.iret (v := m_34_1) hx hb hr (fun t ht _ => ⟨⟨_, (), rfl, rfl, by rw [ht]; exact hP, hD⟩, hS.F ht⟩) hS.2.2 dX5_ways_46
    · replace hE := (if_neg c_11).symm.trans hE
      refine lv_iconst (v := -1) hx hb dX5_ways_14 (by decide) ?_
      have e_0 := Option.some.inj hE
      subst e_0
      rw [hQ]
      exact W.iret (v := (-1 : Int32)) hx hb hr (fun t ht _ => ⟨⟨_, (), rfl, rfl, by rw [ht]; exact hP, hD⟩, hS.F ht⟩) hS.2.2 dX5_ways_15
