def S_X3_cornerAt (p1 : Int32) (p2 : Int32) (t_corners : Nat → Int32) : Option Int32 := ck (inb ((p1 * (7 : Int32)) + p2) 49) (some (t_corners ((p1 * (7 : Int32)) + p2).toNatClampNeg))
theorem kd_X3_cornerAt : yX3_cornerAt.cls = RX3 ∧ yX3_cornerAt.cls ≠ "java/lang/invoke/MethodHandle" ∧ yX3_cornerAt.cls ≠ "java/lang/invoke/VarHandle" ∧ (parseMethodDescriptor yX3_cornerAt.desc).map (fun d => d.parameters.length) = some 2 := by decide +kernel
set_option maxHeartbeats 4000000 in
set_option maxRecDepth 100000 in
theorem c_X3_cornerAt {l : Launch} {G : kG} {p1 : Int32} {p2 : Int32} {q_t : Nat} {t_size : Int32} {q_t_corners : Nat} {t_corners : Nat → Int32} {res : Int32} (hE : S_X3_cornerAt p1 p2 t_corners = some res) : Met l yX3_cornerAt wsX3_cornerAt ({ frames := 0, cells := 0, slots := 0, locals := 0 }) (va_Pc [.ref q_t, .int p1, .int p2] (fun U => va_P G.1 vwCl [oX3 q_t t_size q_t_corners, aI (G.2 1) q_t_corners 49 t_corners] U.heap ∧ kw G U)) (vp_Si (fun r => r = res)) 0 0 (fun _ => False) := by
  refine Met.ofQ (cc := cX3_cornerAt) (maxL := 3) (ret := (some .int)) (by decide) rfl ?_
  intro p e s m args below meth c s₁ Q hQ B hml hv
  obtain ⟨rfl, hP, hKW⟩ := hv
  have hK := hKW.1
  have hx := B.exec
  have hb := B.bytes
  have hr := B.returns
  have hts := atoms_spec (ws := wsX3_cornerAt) B.pre
  have hown : s.vm.findClass RX3 = some m.cls := findClass_of_methodNamed B.named
  have hlocks := B.notSynchronized
  have iX3 : ∀ w ∈ u_ws RX3 TX3 2, w ∈ wsX3_cornerAt := by decide +kernel
  have fl_9 := hts (.fieldLink RX3 9 "AlternateSigns$Table" "corners" "[I") (by decide +kernel)
  have hl := lv_entry ([.ref q_t, .int p1, .int p2]) (n := 3) (Nat.le_of_ble_eq_true rfl)
  rw [lg_entry_eq]
  generalize (lg_sl ([.ref q_t, .int p1, .int p2]) ++ List.replicate (3 - (lg_sl ([.ref q_t, .int p1, .int p2])).length) Slot.unset).toArray = ls at hl ⊢
  have hl : lv_has ls 3 [(0, .ref q_t), (1, .int p1), (2, .int p2)] := hl
  unfold S_X3_cornerAt at hE
  refine lv_aload_n hx hb dX3_cornerAt_0 rfl (lv_at hl 0 rfl) ?_
  refine va_get (D := G.1) (ci := 3) (v := .ref q_t_corners) (C := RX3) (T := TX3) (N := 2) hx hb hts iX3 hown hK hP 0 rfl rfl 1 (by decide) fl_9 (fun _ h9 => h9) rfl dX3_cornerAt_1 ?_
  refine lv_iload_n hx hb dX3_cornerAt_4 rfl (lv_at hl 1 rfl) ?_
  refine lv_bipush (v := 7) hx hb dX3_cornerAt_5 (by decide) ?_
  refine lv_imul hx hb dX3_cornerAt_7 ?_
  refine lv_iload_n hx hb dX3_cornerAt_8 rfl (lv_at hl 2 rfl) ?_
  refine lv_iadd hx hb dX3_cornerAt_9 ?_
  obtain ⟨hi_10, hE⟩ := ck_some hE
  refine va_iald hx hb hK hP 1 1 rfl rfl (inb_in hi_10) dX3_cornerAt_10 ?_
  have e_0 := Option.some.inj hE
  rw [hQ]
  exact W.iret (v := t_corners ((p1 * (7 : Int32)) + p2).toNatClampNeg) hx hb hr (fun t ht _ => ⟨_, rfl, e_0, ht⟩) (fun q h => by cases h) dX3_cornerAt_11
def S_X3_putCorner (p1 : Int32) (p2 : Int32) (p3 : Int32) (t_corners : Nat → Int32) : Option (Nat → Int32) := ck (inb ((p1 * (7 : Int32)) + p2) 49) (some (upd t_corners ((p1 * (7 : Int32)) + p2).toNatClampNeg p3))
theorem kd_X3_putCorner : yX3_putCorner.cls = RX3 ∧ yX3_putCorner.cls ≠ "java/lang/invoke/MethodHandle" ∧ yX3_putCorner.cls ≠ "java/lang/invoke/VarHandle" ∧ (parseMethodDescriptor yX3_putCorner.desc).map (fun d => d.parameters.length) = some 3 := by decide +kernel
set_option maxHeartbeats 4000000 in
set_option maxRecDepth 100000 in
theorem c_X3_putCorner {l : Launch} {G : kG} (sz : Nat) {p1 : Int32} {p2 : Int32} {p3 : Int32} {q_t : Nat} {t_size : Int32} {q_t_corners : Nat} {t_corners : Nat → Int32} {res : Nat → Int32} (hE : S_X3_putCorner p1 p2 p3 t_corners = some res) : Met l yX3_putCorner wsX3_putCorner ({ frames := 0, cells := 0, slots := 0, locals := 0 }) (va_Pc [.ref q_t, .int p1, .int p2, .int p3] (fun U => U.heap.size = sz ∧ va_P G.1 vwCl [oX3 q_t t_size q_t_corners, aI (G.2 1) q_t_corners 49 t_corners] U.heap ∧ kw G U ∧ va_D (fun _ => True) [oX3 q_t t_size q_t_corners, aI (G.2 1) q_t_corners 49 t_corners])) (va_Qv (fun (_ : Unit) => True) (fun _ t => va_P G.1 vwCl [oX3 q_t t_size q_t_corners, aI (G.2 1) q_t_corners 49 res] t.heap ∧ va_D (va_A [oX3 q_t t_size q_t_corners, aI (G.2 1) q_t_corners 49 t_corners] sz) [oX3 q_t t_size q_t_corners, aI (G.2 1) q_t_corners 49 res]) (va_A [oX3 q_t t_size q_t_corners, aI (G.2 1) q_t_corners 49 t_corners] sz)) 0 0 (va_A [oX3 q_t t_size q_t_corners, aI (G.2 1) q_t_corners 49 t_corners] sz) := by
  refine Met.ofQ (cc := cX3_putCorner) (maxL := 4) (ret := none) (by decide) rfl ?_
  intro p e s m args below meth c s₁ Q hQ B hml hv
  obtain ⟨rfl, hsz, hP, hKW, hD0⟩ := hv
  have hK := hKW.1
  have hx := B.exec
  have hb := B.bytes
  have hr := B.returns
  have hts := atoms_spec (ws := wsX3_putCorner) B.pre
  have hown : s.vm.findClass RX3 = some m.cls := findClass_of_methodNamed B.named
  have hlocks := B.notSynchronized
  have iX3 : ∀ w ∈ u_ws RX3 TX3 2, w ∈ wsX3_putCorner := by decide +kernel
  have fl_9 := hts (.fieldLink RX3 9 "AlternateSigns$Table" "corners" "[I") (by decide +kernel)
  subst hsz
  have hD := hD0.self (sz := s.heap.size)
  generalize hAe : va_A [oX3 q_t t_size q_t_corners, aI (G.2 1) q_t_corners 49 t_corners] s.heap.size = A at hD hQ
  have hA : ∀ q : Nat, s.heap.size ≤ q → A q := fun q h => by rw [← hAe]; exact Or.inr h
  have hS : va_S A s.heap s.heap [] := va_S.rf
  have hl := lv_entry ([.ref q_t, .int p1, .int p2, .int p3]) (n := 4) (Nat.le_of_ble_eq_true rfl)
  rw [lg_entry_eq]
  generalize (lg_sl ([.ref q_t, .int p1, .int p2, .int p3]) ++ List.replicate (4 - (lg_sl ([.ref q_t, .int p1, .int p2, .int p3])).length) Slot.unset).toArray = ls at hl ⊢
  have hl : lv_has ls 4 [(0, .ref q_t), (1, .int p1), (2, .int p2), (3, .int p3)] := hl
  unfold S_X3_putCorner at hE
  refine lv_aload_n hx hb dX3_putCorner_0 rfl (lv_at hl 0 rfl) ?_
  refine va_get (D := G.1) (ci := 3) (v := .ref q_t_corners) (C := RX3) (T := TX3) (N := 2) hx hb hts iX3 hown hK hP 0 rfl rfl 1 (by decide) fl_9 (fun _ h9 => h9) rfl dX3_putCorner_1 ?_
  refine lv_iload_n hx hb dX3_putCorner_4 rfl (lv_at hl 1 rfl) ?_
  refine lv_bipush (v := 7) hx hb dX3_putCorner_5 (by decide) ?_
  refine lv_imul hx hb dX3_putCorner_7 ?_
  refine lv_iload_n hx hb dX3_putCorner_8 rfl (lv_at hl 2 rfl) ?_
  refine lv_iadd hx hb dX3_putCorner_9 ?_
  refine lv_iload_n hx hb dX3_putCorner_10 rfl (lv_at hl 3 rfl) ?_
  obtain ⟨hi_11, hE⟩ := ck_some hE
  refine va_iast hx hb hK hP hD hS 1 1 rfl rfl (inb_in hi_11) dX3_putCorner_11 (fun H locs hP hD hS => ?_)
  have hP : va_P G.1 vwCl [oX3 q_t t_size q_t_corners, aI (G.2 1) q_t_corners 49 (upd t_corners ((p1 * (7 : Int32)) + p2).toNatClampNeg p3)] H := hP
  have hD : va_D A [oX3 q_t t_size q_t_corners, aI (G.2 1) q_t_corners 49 (upd t_corners ((p1 * (7 : Int32)) + p2).toNatClampNeg p3)] := hD
  have e_0 := Option.some.inj hE
  subst e_0
  rw [hQ]
  exact W.vret hx hb hr (fun t ht _ => ⟨⟨(), rfl, trivial, by rw [ht]; exact hP, hD⟩, hS.F ht⟩) hS.2.2 dX3_putCorner_12
def S_X3_columnSum (p1 : Int32) (p2 : Int32) (t_corners : Nat → Int32) : Option Int32 := (S_X3_cornerAt p1 p2 t_corners).bind (fun (y3 : Int32) => (S_X3_cornerAt p1 (p2 - (1 : Int32)) t_corners).bind (fun (y11 : Int32) => some (y3 - y11)))
theorem kd_X3_columnSum : yX3_columnSum.cls = RX3 ∧ yX3_columnSum.cls ≠ "java/lang/invoke/MethodHandle" ∧ yX3_columnSum.cls ≠ "java/lang/invoke/VarHandle" ∧ (parseMethodDescriptor yX3_columnSum.desc).map (fun d => d.parameters.length) = some 2 := by decide +kernel
set_option maxHeartbeats 4000000 in
set_option maxRecDepth 100000 in
theorem c_X3_columnSum {l : Launch} {G : kG} {p1 : Int32} {p2 : Int32} {q_t : Nat} {t_size : Int32} {q_t_corners : Nat} {t_corners : Nat → Int32} {res : Int32} (hE : S_X3_columnSum p1 p2 t_corners = some res) : Met l yX3_columnSum wsX3_columnSum ({ frames := 1, cells := 0, slots := 0, locals := 22 }) (va_Pc [.ref q_t, .int p1, .int p2] (fun U => va_P G.1 vwCl [oX3 q_t t_size q_t_corners, aI (G.2 1) q_t_corners 49 t_corners] U.heap ∧ kw G U)) (vp_Si (fun r => r = res)) 0 0 (fun _ => False) := by
  refine Met.ofQ (cc := cX3_columnSum) (maxL := 3) (ret := (some .int)) (by decide) rfl ?_
  intro p e s m args below meth c s₁ Q hQ B hml hv
  obtain ⟨rfl, hP, hKW⟩ := hv
  have hK := hKW.1
  have hx := B.exec
  have hb := B.bytes
  have hr := B.returns
  have hts := atoms_spec (ws := wsX3_columnSum) B.pre
  have hown : s.vm.findClass RX3 = some m.cls := findClass_of_methodNamed B.named
  have hlocks := B.notSynchronized
  have hl := lv_entry ([.ref q_t, .int p1, .int p2]) (n := 3) (Nat.le_of_ble_eq_true rfl)
  rw [lg_entry_eq]
  generalize (lg_sl ([.ref q_t, .int p1, .int p2]) ++ List.replicate (3 - (lg_sl ([.ref q_t, .int p1, .int p2])).length) Slot.unset).toArray = ls at hl ⊢
  have hl : lv_has ls 3 [(0, .ref q_t), (1, .int p1), (2, .int p2)] := hl
  unfold S_X3_columnSum at hE
  refine lv_aload_n hx hb dX3_columnSum_0 rfl (lv_at hl 0 rfl) ?_
  refine lv_iload_n hx hb dX3_columnSum_1 rfl (lv_at hl 1 rfl) ?_
  refine lv_iload_n hx hb dX3_columnSum_2 rfl (lv_at hl 2 rfl) ?_
  obtain ⟨y3, hC_3, hE⟩ := Option.bind_eq_some_iff.mp hE
  obtain ⟨r_3, ex9⟩ : ∃ z, z = y3 := ⟨_, rfl⟩
  subst ex9
  try dsimp only at hE
  refine vp_callSi (va_Run.run (va_runV (As := [.int p1, .int p2]) (rest := []) ⟨hx, hb, hml, hown, hts⟩ (c_X3_cornerAt (l := l) (G := G) (p1 := p1) (p2 := p2) (q_t := q_t) (t_size := t_size) (q_t_corners := q_t_corners) (t_corners := t_corners) hC_3) (cwV 2 hts gX3_columnSum_X3_cornerAt rfl rfl rfl kd_X3_cornerAt ⟨Nat.le_of_ble_eq_true rfl, Nat.le_of_ble_eq_true rfl⟩) (pv_V hKW (hP.sub (ws' := [oX3 q_t t_size q_t_corners, aI (G.2 1) q_t_corners 49 t_corners]) [0, 1] rfl) (ci := 3) (q0 := 0) rfl rfl) rfl rfl hl.1 rfl (lv_room (Nat.le_of_ble_eq_true rfl)) dX3_columnSum_3 ⟨Nat.zero_le _, Nat.zero_le _⟩)) (fun r9 hr9 => ?_)
  subst r9
  refine lv_aload_n hx hb dX3_columnSum_6 rfl (lv_at hl 0 rfl) ?_
  refine lv_iload_n hx hb dX3_columnSum_7 rfl (lv_at hl 1 rfl) ?_
  refine lv_iload_n hx hb dX3_columnSum_8 rfl (lv_at hl 2 rfl) ?_
  refine lv_iconst (v := 1) hx hb dX3_columnSum_9 (by decide) ?_
  refine lv_isub hx hb dX3_columnSum_10 ?_
  obtain ⟨y11, hC_11, hE⟩ := Option.bind_eq_some_iff.mp hE
  obtain ⟨r_11, ex9⟩ : ∃ z, z = y11 := ⟨_, rfl⟩
  subst ex9
  try dsimp only at hE
  refine vp_callSi (va_Run.run (va_runV (As := [.int p1, .int (p2 - (1 : Int32))]) (rest := [.int r_3]) ⟨hx, hb, hml, hown, hts⟩ (c_X3_cornerAt (l := l) (G := G) (p1 := p1) (p2 := p2 - (1 : Int32)) (q_t := q_t) (t_size := t_size) (q_t_corners := q_t_corners) (t_corners := t_corners) hC_11) (cwV 2 hts gX3_columnSum_X3_cornerAt rfl rfl rfl kd_X3_cornerAt ⟨Nat.le_of_ble_eq_true rfl, Nat.le_of_ble_eq_true rfl⟩) (pv_V hKW (hP.sub (ws' := [oX3 q_t t_size q_t_corners, aI (G.2 1) q_t_corners 49 t_corners]) [0, 1] rfl) (ci := 3) (q0 := 0) rfl rfl) rfl rfl hl.1 rfl (lv_room (Nat.le_of_ble_eq_true rfl)) dX3_columnSum_11 ⟨Nat.zero_le _, Nat.zero_le _⟩)) (fun r9 hr9 => ?_)
  subst r9
  refine lv_isub hx hb dX3_columnSum_14 ?_
  have e_0 := Option.some.inj hE
  rw [hQ]
  exact W.iret (v := r_3 - r_11) hx hb hr (fun t ht _ => ⟨_, rfl, e_0, ht⟩) (fun q h => by cases h) dX3_columnSum_15
def S_X3_copy (t_corners : Nat → Int32) (p1_size : Int32) (p1_corners : Nat → Int32) : Option (Int32 × (Nat → Int32)) := some (p1_size, va_cpy p1_corners t_corners 0 0 (49 : Int32).toNatClampNeg)
theorem kd_X3_copy : yX3_copy.cls = RX3 ∧ yX3_copy.cls ≠ "java/lang/invoke/MethodHandle" ∧ yX3_copy.cls ≠ "java/lang/invoke/VarHandle" ∧ (parseMethodDescriptor yX3_copy.desc).map (fun d => d.parameters.length) = some 1 := by decide +kernel
set_option maxHeartbeats 4000000 in
set_option maxRecDepth 100000 in
theorem c_X3_copy {l : Launch} {G : kG} (sz : Nat) {q_t : Nat} {t_size : Int32} {q_t_corners : Nat} {t_corners : Nat → Int32} {q_p1 : Nat} {p1_size : Int32} {q_p1_corners : Nat} {p1_corners : Nat → Int32} {res : Int32 × (Nat → Int32)} (hE : S_X3_copy t_corners p1_size p1_corners = some res) : Met l yX3_copy wsX3_copy ({ frames := 1, cells := 0, slots := 0, locals := 40 }) (va_Pc [.ref q_t, .ref q_p1] (fun U => U.heap.size = sz ∧ va_P G.1 vwCl [oX3 q_t t_size q_t_corners, aI (G.2 1) q_t_corners 49 t_corners, oX3 q_p1 p1_size q_p1_corners, aI (G.2 1) q_p1_corners 49 p1_corners] U.heap ∧ kw G U ∧ va_D (fun _ => True) [oX3 q_t t_size q_t_corners, aI (G.2 1) q_t_corners 49 t_corners, oX3 q_p1 p1_size q_p1_corners, aI (G.2 1) q_p1_corners 49 p1_corners])) (va_Qv (fun (_ : Unit) => True) (fun _ t => va_P G.1 vwCl [oX3 q_t res.1 q_t_corners, aI (G.2 1) q_t_corners 49 res.2, oX3 q_p1 p1_size q_p1_corners, aI (G.2 1) q_p1_corners 49 p1_corners] t.heap ∧ va_D (va_A [oX3 q_t t_size q_t_corners, aI (G.2 1) q_t_corners 49 t_corners, oX3 q_p1 p1_size q_p1_corners, aI (G.2 1) q_p1_corners 49 p1_corners] sz) [oX3 q_t res.1 q_t_corners, aI (G.2 1) q_t_corners 49 res.2, oX3 q_p1 p1_size q_p1_corners, aI (G.2 1) q_p1_corners 49 p1_corners]) (va_A [oX3 q_t t_size q_t_corners, aI (G.2 1) q_t_corners 49 t_corners, oX3 q_p1 p1_size q_p1_corners, aI (G.2 1) q_p1_corners 49 p1_corners] sz)) 0 0 (va_A [oX3 q_t t_size q_t_corners, aI (G.2 1) q_t_corners 49 t_corners, oX3 q_p1 p1_size q_p1_corners, aI (G.2 1) q_p1_corners 49 p1_corners] sz) := by
  refine Met.ofQ (cc := cX3_copy) (maxL := 2) (ret := none) (by decide) rfl ?_
  intro p e s m args below meth c s₁ Q hQ B hml hv
  obtain ⟨rfl, hsz, hP, hKW, hD0⟩ := hv
  have hK := hKW.1
  have hx := B.exec
  have hb := B.bytes
  have hr := B.returns
  have hts := atoms_spec (ws := wsX3_copy) B.pre
  have hown : s.vm.findClass RX3 = some m.cls := findClass_of_methodNamed B.named
  have hlocks := B.notSynchronized
  have iX3 : ∀ w ∈ u_ws RX3 TX3 2, w ∈ wsX3_copy := by decide +kernel
  have fl_15 := hts (.fieldLink RX3 15 "AlternateSigns$Table" "size" "I") (by decide +kernel)
  have fl_9 := hts (.fieldLink RX3 9 "AlternateSigns$Table" "corners" "[I") (by decide +kernel)
  subst hsz
  have hD := hD0.self (sz := s.heap.size)
  generalize hAe : va_A [oX3 q_t t_size q_t_corners, aI (G.2 1) q_t_corners 49 t_corners, oX3 q_p1 p1_size q_p1_corners, aI (G.2 1) q_p1_corners 49 p1_corners] s.heap.size = A at hD hQ
  have hA : ∀ q : Nat, s.heap.size ≤ q → A q := fun q h => by rw [← hAe]; exact Or.inr h
  have hS : va_S A s.heap s.heap [] := va_S.rf
  have hl := lv_entry ([.ref q_t, .ref q_p1]) (n := 2) (Nat.le_of_ble_eq_true rfl)
  rw [lg_entry_eq]
  generalize (lg_sl ([.ref q_t, .ref q_p1]) ++ List.replicate (2 - (lg_sl ([.ref q_t, .ref q_p1])).length) Slot.unset).toArray = ls at hl ⊢
  have hl : lv_has ls 2 [(0, .ref q_t), (1, .ref q_p1)] := hl
  unfold S_X3_copy at hE
  refine lv_aload_n hx hb dX3_copy_0 rfl (lv_at hl 0 rfl) ?_
  refine lv_aload_n hx hb dX3_copy_1 rfl (lv_at hl 1 rfl) ?_
  refine va_get (D := G.1) (ci := 3) (v := .int p1_size) (C := RX3) (T := TX3) (N := 2) hx hb hts iX3 hown hK hP 2 rfl rfl 0 (by decide) fl_15 (fun _ h9 => h9) rfl dX3_copy_2 ?_
  refine va_put (D := G.1) (ci := 3) (v := .int p1_size) (ty := .int) (C := RX3) (T := TX3) (N := 2) hx hb hts iX3 tyX3 tyX3_ok nmX3 hown hK hP hD hS 0 rfl rfl 0 (by decide) fl_15 (fun _ h9 => h9) rfl (by decide +kernel) rfl rfl (Nat.le_of_ble_eq_true rfl) dX3_copy_5 (fun H locs hP hD hS => ?_)
  have hP : va_P G.1 vwCl [oX3 q_t p1_size q_t_corners, aI (G.2 1) q_t_corners 49 t_corners, oX3 q_p1 p1_size q_p1_corners, aI (G.2 1) q_p1_corners 49 p1_corners] H := hP
  have hD : va_D A [oX3 q_t p1_size q_t_corners, aI (G.2 1) q_t_corners 49 t_corners, oX3 q_p1 p1_size q_p1_corners, aI (G.2 1) q_p1_corners 49 p1_corners] := hD
  refine lv_aload_n hx hb dX3_copy_8 rfl (lv_at hl 1 rfl) ?_
  refine va_get (D := G.1) (ci := 3) (v := .ref q_p1_corners) (C := RX3) (T := TX3) (N := 2) hx hb hts iX3 hown hK hP 2 rfl rfl 1 (by decide) fl_9 (fun _ h9 => h9) rfl dX3_copy_9 ?_
  refine lv_iconst (v := 0) hx hb dX3_copy_12 (by decide) ?_
  refine lv_aload_n hx hb dX3_copy_13 rfl (lv_at hl 0 rfl) ?_
  refine va_get (D := G.1) (ci := 3) (v := .ref q_t_corners) (C := RX3) (T := TX3) (N := 2) hx hb hts iX3 hown hK hP 0 rfl rfl 1 (by decide) fl_9 (fun _ h9 => h9) rfl dX3_copy_14 ?_
  refine lv_iconst (v := 0) hx hb dX3_copy_17 (by decide) ?_
  refine lv_bipush (v := 49) hx hb dX3_copy_18 (by decide) ?_
  refine va_copyi (ty := .int) hx hb (hml.trans hl.1.symm) hown (hts (.methodLink RX3 19 arraycopyName) (by decide +kernel)) (hts (.native arraycopyName) (by decide +kernel)) (hts (.static arraycopyName) (by decide +kernel)) (hts (.initialized "java/lang/System") (by decide +kernel)) hK hP hD hS 3 1 1 1 rfl rfl rfl rfl rfl (by decide) (by decide) (by decide) (by decide) (by decide) (fun _ _ => rfl) (Nat.le_of_ble_eq_true rfl) (Nat.le_of_ble_eq_true rfl) dX3_copy_20 (fun H locs hP hD hS => ?_)
  have hP : va_P G.1 vwCl [oX3 q_t p1_size q_t_corners, aI (G.2 1) q_t_corners 49 (va_cpy p1_corners t_corners 0 0 (49 : Int32).toNatClampNeg), oX3 q_p1 p1_size q_p1_corners, aI (G.2 1) q_p1_corners 49 p1_corners] H := hP
  have hD : va_D A [oX3 q_t p1_size q_t_corners, aI (G.2 1) q_t_corners 49 (va_cpy p1_corners t_corners 0 0 (49 : Int32).toNatClampNeg), oX3 q_p1 p1_size q_p1_corners, aI (G.2 1) q_p1_corners 49 p1_corners] := hD
  have e_0 := Option.some.inj hE
  subst e_0
  rw [hQ]
  exact W.vret hx hb hr (fun t ht _ => ⟨⟨(), rfl, trivial, by rw [ht]; exact hP, hD⟩, hS.F ht⟩) hS.2.2 dX3_copy_23
def S_X3_putFullColumns (p1 : Int32) (p2 : Int32) (t_size : Int32) (t_corners : Nat → Int32) : Option (Nat → Int32) := itr (fun (x1 : Int32 × (Nat → Int32)) => if t_size < x1.1 then some (.inr x1.2) else (S_X3_cornerAt p1 (x1.1 - (1 : Int32)) x1.2).bind (fun (y30 : Int32) => (S_X3_putCorner p1 x1.1 (y30 + ((p2 >>> ((t_size - x1.1) &&& 31)) &&& (1 : Int32))) x1.2).bind (fun (y36 : Nat → Int32) => some (.inl (x1.1 + (1 : Int32), y36))))) 10000 ((1 : Int32), t_corners)
theorem kd_X3_putFullColumns : yX3_putFullColumns.cls = RX3 ∧ yX3_putFullColumns.cls ≠ "java/lang/invoke/MethodHandle" ∧ yX3_putFullColumns.cls ≠ "java/lang/invoke/VarHandle" ∧ (parseMethodDescriptor yX3_putFullColumns.desc).map (fun d => d.parameters.length) = some 2 := by decide +kernel
set_option maxHeartbeats 4000000 in
set_option maxRecDepth 100000 in
theorem c_X3_putFullColumns {l : Launch} {G : kG} (sz : Nat) {p1 : Int32} {p2 : Int32} {q_t : Nat} {t_size : Int32} {q_t_corners : Nat} {t_corners : Nat → Int32} {res : Nat → Int32} (hE : S_X3_putFullColumns p1 p2 t_size t_corners = some res) : Met l yX3_putFullColumns wsX3_putFullColumns ({ frames := 1, cells := 0, slots := 0, locals := 23 }) (va_Pc [.ref q_t, .int p1, .int p2] (fun U => U.heap.size = sz ∧ va_P G.1 vwCl [oX3 q_t t_size q_t_corners, aI (G.2 1) q_t_corners 49 t_corners] U.heap ∧ kw G U ∧ va_D (fun _ => True) [oX3 q_t t_size q_t_corners, aI (G.2 1) q_t_corners 49 t_corners])) (va_Qv (fun (_ : Unit) => True) (fun _ t => va_P G.1 vwCl [oX3 q_t t_size q_t_corners, aI (G.2 1) q_t_corners 49 res] t.heap ∧ va_D (va_A [oX3 q_t t_size q_t_corners, aI (G.2 1) q_t_corners 49 t_corners] sz) [oX3 q_t t_size q_t_corners, aI (G.2 1) q_t_corners 49 res]) (va_A [oX3 q_t t_size q_t_corners, aI (G.2 1) q_t_corners 49 t_corners] sz)) 0 0 (va_A [oX3 q_t t_size q_t_corners, aI (G.2 1) q_t_corners 49 t_corners] sz) := by
  refine Met.ofQ (cc := cX3_putFullColumns) (maxL := 5) (ret := none) (by decide) rfl ?_
  intro p e s m args below meth c s₁ Q hQ B hml hv
  obtain ⟨rfl, hsz, hP, hKW, hD0⟩ := hv
  have hK := hKW.1
  have hx := B.exec
  have hb := B.bytes
  have hr := B.returns
  have hts := atoms_spec (ws := wsX3_putFullColumns) B.pre
  have hown : s.vm.findClass RX3 = some m.cls := findClass_of_methodNamed B.named
  have hlocks := B.notSynchronized
  have iX3 : ∀ w ∈ u_ws RX3 TX3 2, w ∈ wsX3_putFullColumns := by decide +kernel
  have fl_15 := hts (.fieldLink RX3 15 "AlternateSigns$Table" "size" "I") (by decide +kernel)
  subst hsz
  have hD := hD0.self (sz := s.heap.size)
  generalize hAe : va_A [oX3 q_t t_size q_t_corners, aI (G.2 1) q_t_corners 49 t_corners] s.heap.size = A at hD hQ
  have hA : ∀ q : Nat, s.heap.size ≤ q → A q := fun q h => by rw [← hAe]; exact Or.inr h
  have hS : va_S A s.heap s.heap [] := va_S.rf
  have hl := lv_entry ([.ref q_t, .int p1, .int p2]) (n := 5) (Nat.le_of_ble_eq_true rfl)
  rw [lg_entry_eq]
  generalize (lg_sl ([.ref q_t, .int p1, .int p2]) ++ List.replicate (5 - (lg_sl ([.ref q_t, .int p1, .int p2])).length) Slot.unset).toArray = ls at hl ⊢
  have hl : lv_has ls 5 [(0, .ref q_t), (1, .int p1), (2, .int p2)] := hl
  unfold S_X3_putFullColumns at hE
  refine lv_iconst (v := 1) hx hb dX3_putFullColumns_0 (by decide) ?_
  refine lv_istore_n (lv' := [(3, .int (1 : Int32)), (0, .ref q_t), (1, .int p1), (2, .int p2)]) hx hb dX3_putFullColumns_1 rfl hl (by decide) rfl (fun ls hl => ?_)
  refine itr_ind (fun (x1 : Int32 × (Nat → Int32)) => ∀ (H : Heap) (locs : List Loc) (ls : Array Slot), va_P G.1 vwCl [oX3 q_t t_size q_t_corners, aI (G.2 1) q_t_corners 49 x1.2] H → va_D A [oX3 q_t t_size q_t_corners, aI (G.2 1) q_t_corners 49 x1.2] → va_S A s.heap H locs → lv_has ls 5 [(0, .ref q_t), (1, .int p1), (2, .int p2), (3, .int x1.1)] → W p l e (headSpec wsX3_putFullColumns ({ frames := 1, cells := 0, slots := 0, locals := 23 })).room s m ([.ref q_t, .int p1, .int p2] : List Value).toArray below meth c H locs 0 0 Q (F0 m 2 ls [])) (fun x1 o_1 hE ih_1 hr_1 => ?_) _ _ hE _ _ ls hP hD hS (lv_sub hl [1, 2, 3, 0] rfl)
  obtain ⟨v3_1, w_t_corners_1⟩ := x1
  try dsimp only at hE
  intro H locs ls hP hD hS hl
  try dsimp only at hP hD hl ⊢
  refine lv_iload_n hx hb dX3_putFullColumns_2 rfl (lv_at hl 3 rfl) ?_
  refine lv_aload_n hx hb dX3_putFullColumns_3 rfl (lv_at hl 0 rfl) ?_
  refine va_get (D := G.1) (ci := 3) (v := .int t_size) (C := RX3) (T := TX3) (N := 2) hx hb hts iX3 hown hK hP 0 rfl rfl 0 (by decide) fl_15 (fun _ h9 => h9) rfl dX3_putFullColumns_4 ?_
  refine lv_icmp_gt (tgt := 45) hx hb dX3_putFullColumns_7 (by decide) (fun c_7 => ?_) (fun c_7 => ?_)
  · replace hE := (if_pos c_7).symm.trans hE
    have e_1 := Option.some.inj hE
    have e_0 := hr_1 _ e_1.symm
    subst e_0
    rw [hQ]
    exact W.vret hx hb hr (fun t ht _ => ⟨⟨(), rfl, trivial, by rw [ht]; exact hP, hD⟩, hS.F ht⟩) hS.2.2 dX3_putFullColumns_45
  · replace hE := (if_neg c_7).symm.trans hE
    refine lv_iload_n hx hb dX3_putFullColumns_10 rfl (lv_at hl 2 rfl) ?_
    refine lv_aload_n hx hb dX3_putFullColumns_11 rfl (lv_at hl 0 rfl) ?_
    refine va_get (D := G.1) (ci := 3) (v := .int t_size) (C := RX3) (T := TX3) (N := 2) hx hb hts iX3 hown hK hP 0 rfl rfl 0 (by decide) fl_15 (fun _ h9 => h9) rfl dX3_putFullColumns_12 ?_
    refine lv_iload_n hx hb dX3_putFullColumns_15 rfl (lv_at hl 3 rfl) ?_
    refine lv_isub hx hb dX3_putFullColumns_16 ?_
    refine lv_ishr hx hb dX3_putFullColumns_17 ?_
    refine lv_iconst (v := 1) hx hb dX3_putFullColumns_18 (by decide) ?_
    refine lv_iand hx hb dX3_putFullColumns_19 ?_
    refine lv_istore (lv' := [(4, .int ((p2 >>> ((t_size - v3_1) &&& 31)) &&& (1 : Int32))), (0, .ref q_t), (1, .int p1), (2, .int p2), (3, .int v3_1)]) hx hb dX3_putFullColumns_20 hl (by decide) rfl (fun ls hl => ?_)
    refine lv_aload_n hx hb dX3_putFullColumns_22 rfl (lv_at hl 1 rfl) ?_
    refine lv_iload_n hx hb dX3_putFullColumns_23 rfl (lv_at hl 2 rfl) ?_
    refine lv_iload_n hx hb dX3_putFullColumns_24 rfl (lv_at hl 4 rfl) ?_
    refine lv_aload_n hx hb dX3_putFullColumns_25 rfl (lv_at hl 1 rfl) ?_
    refine lv_iload_n hx hb dX3_putFullColumns_26 rfl (lv_at hl 2 rfl) ?_
    refine lv_iload_n hx hb dX3_putFullColumns_27 rfl (lv_at hl 4 rfl) ?_
    refine lv_iconst (v := 1) hx hb dX3_putFullColumns_28 (by decide) ?_
    refine lv_isub hx hb dX3_putFullColumns_29 ?_
    obtain ⟨y30, hC_30, hE⟩ := Option.bind_eq_some_iff.mp hE
    obtain ⟨r_30, ex9⟩ : ∃ z, z = y30 := ⟨_, rfl⟩
    subst ex9
    try dsimp only at hE
    refine vp_callSi (va_Run.run (va_runV (As := [.int p1, .int (v3_1 - (1 : Int32))]) (rest := [.int v3_1, .int p1, .ref q_t]) ⟨hx, hb, hml, hown, hts⟩ (c_X3_cornerAt (l := l) (G := G) (p1 := p1) (p2 := v3_1 - (1 : Int32)) (q_t := q_t) (t_size := t_size) (q_t_corners := q_t_corners) (t_corners := w_t_corners_1) hC_30) (cwV 2 hts gX3_putFullColumns_X3_cornerAt rfl rfl rfl kd_X3_cornerAt ⟨Nat.le_of_ble_eq_true rfl, Nat.le_of_ble_eq_true rfl⟩) (pv_V hKW (hP.sub (ws' := [oX3 q_t t_size q_t_corners, aI (G.2 1) q_t_corners 49 w_t_corners_1]) [0, 1] rfl) (ci := 3) (q0 := 0) rfl rfl) rfl rfl hl.1 rfl (lv_room (Nat.le_of_ble_eq_true rfl)) dX3_putFullColumns_30 ⟨Nat.zero_le _, Nat.zero_le _⟩)) (fun r9 hr9 => ?_)
    subst r9
    refine lv_iload hx hb dX3_putFullColumns_33 (lv_at hl 0 rfl) ?_
    refine lv_iadd hx hb dX3_putFullColumns_35 ?_
    obtain ⟨y36, hC_36, hE⟩ := Option.bind_eq_some_iff.mp hE
    obtain ⟨m_36_0, ex9⟩ : ∃ z, z = y36 := ⟨_, rfl⟩
    subst ex9
    try dsimp only at hE
    have hPc := hP.sub (ws' := [oX3 q_t t_size q_t_corners, aI (G.2 1) q_t_corners 49 w_t_corners_1]) [0, 1] rfl
    have hDc := hD.sub (ws' := [oX3 q_t t_size q_t_corners, aI (G.2 1) q_t_corners 49 w_t_corners_1]) [0, 1] (by decide) rfl
    have hFc := va_free (wc := [oX3 q_t t_size q_t_corners, aI (G.2 1) q_t_corners 49 w_t_corners_1]) hD hS hA [0, 1] rfl
    refine va_callv (va_runV (As := [.int p1, .int v3_1, .int (r_30 + ((p2 >>> ((t_size - v3_1) &&& 31)) &&& (1 : Int32)))]) (rest := []) ⟨hx, hb, hml, hown, hts⟩ (c_X3_putCorner (l := l) (G := G) _ (p1 := p1) (p2 := v3_1) (p3 := r_30 + ((p2 >>> ((t_size - v3_1) &&& 31)) &&& (1 : Int32))) (q_t := q_t) (t_size := t_size) (q_t_corners := q_t_corners) (t_corners := w_t_corners_1) hC_36) (cwV 3 hts gX3_putFullColumns_X3_putCorner rfl rfl rfl kd_X3_putCorner ⟨Nat.le_of_ble_eq_true rfl, Nat.le_of_ble_eq_true rfl⟩) (iv_V hKW hPc hDc (ci := 3) (q0 := 0) rfl rfl) rfl rfl hl.1 rfl (lv_room (Nat.le_of_ble_eq_true rfl)) dX3_putFullColumns_36 ⟨Nat.zero_le _, Nat.zero_le _⟩) hS (fun q _ h => hFc q h) hFc (fun u9 t9 H1 locs ht9 hvm9 hw9 hB9 hz9 hk9 hS => ?_)
    obtain ⟨hP1, hD1⟩ := hB9
    rw [ht9] at hP1
    obtain ⟨hP, hD⟩ := va_join (wr := []) (w1 := [oX3 q_t t_size q_t_corners, aI (G.2 1) q_t_corners 49 m_36_0]) hP hD [0, 1] [] rfl rfl (by decide) (by decide) hk9 hFc hP1 hD1
    have hP := hP.sub (ws' := [oX3 q_t t_size q_t_corners, aI (G.2 1) q_t_corners 49 m_36_0]) [0, 1] rfl
    have hD := hD.sub (ws' := [oX3 q_t t_size q_t_corners, aI (G.2 1) q_t_corners 49 m_36_0]) [0, 1] (by decide) rfl
    clear hPc hDc hFc hP1 hD1 hk9 hz9 hvm9
    refine lv_iinc (v := v3_1 + (1 : Int32)) (lv' := [(3, .int (v3_1 + (1 : Int32))), (4, .int ((p2 >>> ((t_size - v3_1) &&& 31)) &&& (1 : Int32))), (0, .ref q_t), (1, .int p1), (2, .int p2)]) hx hb dX3_putFullColumns_39 hl (k := 4) rfl rfl (by decide) rfl (fun ls hl => ?_)
    refine lv_goto (tgt := 2) hx hb dX3_putFullColumns_42 (by decide) ?_
    have e_1 := Option.some.inj hE
    exact ih_1 _ e_1.symm _ _ ls hP hD hS (lv_sub hl [2, 3, 4, 0] rfl)
def S_X3_rowSum (p1 : Int32) (p2 : Int32) (t_corners : Nat → Int32) : Option Int32 := (S_X3_cornerAt p1 p2 t_corners).bind (fun (y3 : Int32) => (S_X3_cornerAt (p1 - (1 : Int32)) p2 t_corners).bind (fun (y11 : Int32) => some (y3 - y11)))
theorem kd_X3_rowSum : yX3_rowSum.cls = RX3 ∧ yX3_rowSum.cls ≠ "java/lang/invoke/MethodHandle" ∧ yX3_rowSum.cls ≠ "java/lang/invoke/VarHandle" ∧ (parseMethodDescriptor yX3_rowSum.desc).map (fun d => d.parameters.length) = some 2 := by decide +kernel
set_option maxHeartbeats 4000000 in
set_option maxRecDepth 100000 in
theorem c_X3_rowSum {l : Launch} {G : kG} {p1 : Int32} {p2 : Int32} {q_t : Nat} {t_size : Int32} {q_t_corners : Nat} {t_corners : Nat → Int32} {res : Int32} (hE : S_X3_rowSum p1 p2 t_corners = some res) : Met l yX3_rowSum wsX3_rowSum ({ frames := 1, cells := 0, slots := 0, locals := 22 }) (va_Pc [.ref q_t, .int p1, .int p2] (fun U => va_P G.1 vwCl [oX3 q_t t_size q_t_corners, aI (G.2 1) q_t_corners 49 t_corners] U.heap ∧ kw G U)) (vp_Si (fun r => r = res)) 0 0 (fun _ => False) := by
  refine Met.ofQ (cc := cX3_rowSum) (maxL := 3) (ret := (some .int)) (by decide) rfl ?_
  intro p e s m args below meth c s₁ Q hQ B hml hv
  obtain ⟨rfl, hP, hKW⟩ := hv
  have hK := hKW.1
  have hx := B.exec
  have hb := B.bytes
  have hr := B.returns
  have hts := atoms_spec (ws := wsX3_rowSum) B.pre
  have hown : s.vm.findClass RX3 = some m.cls := findClass_of_methodNamed B.named
  have hlocks := B.notSynchronized
  have hl := lv_entry ([.ref q_t, .int p1, .int p2]) (n := 3) (Nat.le_of_ble_eq_true rfl)
  rw [lg_entry_eq]
  generalize (lg_sl ([.ref q_t, .int p1, .int p2]) ++ List.replicate (3 - (lg_sl ([.ref q_t, .int p1, .int p2])).length) Slot.unset).toArray = ls at hl ⊢
  have hl : lv_has ls 3 [(0, .ref q_t), (1, .int p1), (2, .int p2)] := hl
  unfold S_X3_rowSum at hE
  refine lv_aload_n hx hb dX3_rowSum_0 rfl (lv_at hl 0 rfl) ?_
  refine lv_iload_n hx hb dX3_rowSum_1 rfl (lv_at hl 1 rfl) ?_
  refine lv_iload_n hx hb dX3_rowSum_2 rfl (lv_at hl 2 rfl) ?_
  obtain ⟨y3, hC_3, hE⟩ := Option.bind_eq_some_iff.mp hE
  obtain ⟨r_3, ex9⟩ : ∃ z, z = y3 := ⟨_, rfl⟩
  subst ex9
  try dsimp only at hE
  refine vp_callSi (va_Run.run (va_runV (As := [.int p1, .int p2]) (rest := []) ⟨hx, hb, hml, hown, hts⟩ (c_X3_cornerAt (l := l) (G := G) (p1 := p1) (p2 := p2) (q_t := q_t) (t_size := t_size) (q_t_corners := q_t_corners) (t_corners := t_corners) hC_3) (cwV 2 hts gX3_rowSum_X3_cornerAt rfl rfl rfl kd_X3_cornerAt ⟨Nat.le_of_ble_eq_true rfl, Nat.le_of_ble_eq_true rfl⟩) (pv_V hKW (hP.sub (ws' := [oX3 q_t t_size q_t_corners, aI (G.2 1) q_t_corners 49 t_corners]) [0, 1] rfl) (ci := 3) (q0 := 0) rfl rfl) rfl rfl hl.1 rfl (lv_room (Nat.le_of_ble_eq_true rfl)) dX3_rowSum_3 ⟨Nat.zero_le _, Nat.zero_le _⟩)) (fun r9 hr9 => ?_)
  subst r9
  refine lv_aload_n hx hb dX3_rowSum_6 rfl (lv_at hl 0 rfl) ?_
  refine lv_iload_n hx hb dX3_rowSum_7 rfl (lv_at hl 1 rfl) ?_
  refine lv_iconst (v := 1) hx hb dX3_rowSum_8 (by decide) ?_
  refine lv_isub hx hb dX3_rowSum_9 ?_
  refine lv_iload_n hx hb dX3_rowSum_10 rfl (lv_at hl 2 rfl) ?_
  obtain ⟨y11, hC_11, hE⟩ := Option.bind_eq_some_iff.mp hE
  obtain ⟨r_11, ex9⟩ : ∃ z, z = y11 := ⟨_, rfl⟩
  subst ex9
  try dsimp only at hE
  refine vp_callSi (va_Run.run (va_runV (As := [.int (p1 - (1 : Int32)), .int p2]) (rest := [.int r_3]) ⟨hx, hb, hml, hown, hts⟩ (c_X3_cornerAt (l := l) (G := G) (p1 := p1 - (1 : Int32)) (p2 := p2) (q_t := q_t) (t_size := t_size) (q_t_corners := q_t_corners) (t_corners := t_corners) hC_11) (cwV 2 hts gX3_rowSum_X3_cornerAt rfl rfl rfl kd_X3_cornerAt ⟨Nat.le_of_ble_eq_true rfl, Nat.le_of_ble_eq_true rfl⟩) (pv_V hKW (hP.sub (ws' := [oX3 q_t t_size q_t_corners, aI (G.2 1) q_t_corners 49 t_corners]) [0, 1] rfl) (ci := 3) (q0 := 0) rfl rfl) rfl rfl hl.1 rfl (lv_room (Nat.le_of_ble_eq_true rfl)) dX3_rowSum_11 ⟨Nat.zero_le _, Nat.zero_le _⟩)) (fun r9 hr9 => ?_)
  subst r9
  refine lv_isub hx hb dX3_rowSum_14 ?_
  have e_0 := Option.some.inj hE
  rw [hQ]
  exact W.iret (v := r_3 - r_11) hx hb hr (fun t ht _ => ⟨_, rfl, e_0, ht⟩) (fun q h => by cases h) dX3_rowSum_15
def S_X3_signAt (p1 : Int32) (p2 : Int32) (t_corners : Nat → Int32) : Option Int32 := (S_X3_rowSum (p1 + (1 : Int32)) (p2 + (1 : Int32)) t_corners).bind (fun (y7 : Int32) => (S_X3_rowSum (p1 + (1 : Int32)) p2 t_corners).bind (fun (y15 : Int32) => some (y7 - y15)))
theorem kd_X3_signAt : yX3_signAt.cls = RX3 ∧ yX3_signAt.cls ≠ "java/lang/invoke/MethodHandle" ∧ yX3_signAt.cls ≠ "java/lang/invoke/VarHandle" ∧ (parseMethodDescriptor yX3_signAt.desc).map (fun d => d.parameters.length) = some 2 := by decide +kernel
set_option maxHeartbeats 4000000 in
set_option maxRecDepth 100000 in
theorem c_X3_signAt {l : Launch} {G : kG} {p1 : Int32} {p2 : Int32} {q_t : Nat} {t_size : Int32} {q_t_corners : Nat} {t_corners : Nat → Int32} {res : Int32} (hE : S_X3_signAt p1 p2 t_corners = some res) : Met l yX3_signAt wsX3_signAt ({ frames := 2, cells := 0, slots := 0, locals := 44 }) (va_Pc [.ref q_t, .int p1, .int p2] (fun U => va_P G.1 vwCl [oX3 q_t t_size q_t_corners, aI (G.2 1) q_t_corners 49 t_corners] U.heap ∧ kw G U)) (vp_Si (fun r => r = res)) 0 0 (fun _ => False) := by
  refine Met.ofQ (cc := cX3_signAt) (maxL := 3) (ret := (some .int)) (by decide) rfl ?_
  intro p e s m args below meth c s₁ Q hQ B hml hv
  obtain ⟨rfl, hP, hKW⟩ := hv
  have hK := hKW.1
  have hx := B.exec
  have hb := B.bytes
  have hr := B.returns
  have hts := atoms_spec (ws := wsX3_signAt) B.pre
  have hown : s.vm.findClass RX3 = some m.cls := findClass_of_methodNamed B.named
  have hlocks := B.notSynchronized
  have hl := lv_entry ([.ref q_t, .int p1, .int p2]) (n := 3) (Nat.le_of_ble_eq_true rfl)
  rw [lg_entry_eq]
  generalize (lg_sl ([.ref q_t, .int p1, .int p2]) ++ List.replicate (3 - (lg_sl ([.ref q_t, .int p1, .int p2])).length) Slot.unset).toArray = ls at hl ⊢
  have hl : lv_has ls 3 [(0, .ref q_t), (1, .int p1), (2, .int p2)] := hl
  unfold S_X3_signAt at hE
  refine lv_aload_n hx hb dX3_signAt_0 rfl (lv_at hl 0 rfl) ?_
  refine lv_iload_n hx hb dX3_signAt_1 rfl (lv_at hl 1 rfl) ?_
  refine lv_iconst (v := 1) hx hb dX3_signAt_2 (by decide) ?_
  refine lv_iadd hx hb dX3_signAt_3 ?_
  refine lv_iload_n hx hb dX3_signAt_4 rfl (lv_at hl 2 rfl) ?_
  refine lv_iconst (v := 1) hx hb dX3_signAt_5 (by decide) ?_
  refine lv_iadd hx hb dX3_signAt_6 ?_
  obtain ⟨y7, hC_7, hE⟩ := Option.bind_eq_some_iff.mp hE
  obtain ⟨r_7, ex9⟩ : ∃ z, z = y7 := ⟨_, rfl⟩
  subst ex9
  try dsimp only at hE
  refine vp_callSi (va_Run.run (va_runV (As := [.int (p1 + (1 : Int32)), .int (p2 + (1 : Int32))]) (rest := []) ⟨hx, hb, hml, hown, hts⟩ (c_X3_rowSum (l := l) (G := G) (p1 := p1 + (1 : Int32)) (p2 := p2 + (1 : Int32)) (q_t := q_t) (t_size := t_size) (q_t_corners := q_t_corners) (t_corners := t_corners) hC_7) (cwV 2 hts gX3_signAt_X3_rowSum rfl rfl rfl kd_X3_rowSum ⟨Nat.le_of_ble_eq_true rfl, Nat.le_of_ble_eq_true rfl⟩) (pv_V hKW (hP.sub (ws' := [oX3 q_t t_size q_t_corners, aI (G.2 1) q_t_corners 49 t_corners]) [0, 1] rfl) (ci := 3) (q0 := 0) rfl rfl) rfl rfl hl.1 rfl (lv_room (Nat.le_of_ble_eq_true rfl)) dX3_signAt_7 ⟨Nat.zero_le _, Nat.zero_le _⟩)) (fun r9 hr9 => ?_)
  subst r9
  refine lv_aload_n hx hb dX3_signAt_10 rfl (lv_at hl 0 rfl) ?_
  refine lv_iload_n hx hb dX3_signAt_11 rfl (lv_at hl 1 rfl) ?_
  refine lv_iconst (v := 1) hx hb dX3_signAt_12 (by decide) ?_
  refine lv_iadd hx hb dX3_signAt_13 ?_
  refine lv_iload_n hx hb dX3_signAt_14 rfl (lv_at hl 2 rfl) ?_
  obtain ⟨y15, hC_15, hE⟩ := Option.bind_eq_some_iff.mp hE
  obtain ⟨r_15, ex9⟩ : ∃ z, z = y15 := ⟨_, rfl⟩
  subst ex9
  try dsimp only at hE
  refine vp_callSi (va_Run.run (va_runV (As := [.int (p1 + (1 : Int32)), .int p2]) (rest := [.int r_7]) ⟨hx, hb, hml, hown, hts⟩ (c_X3_rowSum (l := l) (G := G) (p1 := p1 + (1 : Int32)) (p2 := p2) (q_t := q_t) (t_size := t_size) (q_t_corners := q_t_corners) (t_corners := t_corners) hC_15) (cwV 2 hts gX3_signAt_X3_rowSum rfl rfl rfl kd_X3_rowSum ⟨Nat.le_of_ble_eq_true rfl, Nat.le_of_ble_eq_true rfl⟩) (pv_V hKW (hP.sub (ws' := [oX3 q_t t_size q_t_corners, aI (G.2 1) q_t_corners 49 t_corners]) [0, 1] rfl) (ci := 3) (q0 := 0) rfl rfl) rfl rfl hl.1 rfl (lv_room (Nat.le_of_ble_eq_true rfl)) dX3_signAt_15 ⟨Nat.zero_le _, Nat.zero_le _⟩)) (fun r9 hr9 => ?_)
  subst r9
  refine lv_isub hx hb dX3_signAt_18 ?_
  have e_0 := Option.some.inj hE
  rw [hQ]
  exact W.iret (v := r_7 - r_15) hx hb hr (fun t ht _ => ⟨_, rfl, e_0, ht⟩) (fun q h => by cases h) dX3_signAt_19
def S_X3_heightAt (p1 : Int32) (p2 : Int32) (t_corners : Nat → Int32) : Option Int32 := (S_X3_cornerAt p1 p2 t_corners).bind (fun (y7 : Int32) => some ((p1 + p2) - ((2 : Int32) * y7)))
theorem kd_X3_heightAt : yX3_heightAt.cls = RX3 ∧ yX3_heightAt.cls ≠ "java/lang/invoke/MethodHandle" ∧ yX3_heightAt.cls ≠ "java/lang/invoke/VarHandle" ∧ (parseMethodDescriptor yX3_heightAt.desc).map (fun d => d.parameters.length) = some 2 := by decide +kernel
set_option maxHeartbeats 4000000 in
set_option maxRecDepth 100000 in
theorem c_X3_heightAt {l : Launch} {G : kG} {p1 : Int32} {p2 : Int32} {q_t : Nat} {t_size : Int32} {q_t_corners : Nat} {t_corners : Nat → Int32} {res : Int32} (hE : S_X3_heightAt p1 p2 t_corners = some res) : Met l yX3_heightAt wsX3_heightAt ({ frames := 1, cells := 0, slots := 0, locals := 22 }) (va_Pc [.ref q_t, .int p1, .int p2] (fun U => va_P G.1 vwCl [oX3 q_t t_size q_t_corners, aI (G.2 1) q_t_corners 49 t_corners] U.heap ∧ kw G U)) (vp_Si (fun r => r = res)) 0 0 (fun _ => False) := by
  refine Met.ofQ (cc := cX3_heightAt) (maxL := 3) (ret := (some .int)) (by decide) rfl ?_
  intro p e s m args below meth c s₁ Q hQ B hml hv
  obtain ⟨rfl, hP, hKW⟩ := hv
  have hK := hKW.1
  have hx := B.exec
  have hb := B.bytes
  have hr := B.returns
  have hts := atoms_spec (ws := wsX3_heightAt) B.pre
  have hown : s.vm.findClass RX3 = some m.cls := findClass_of_methodNamed B.named
  have hlocks := B.notSynchronized
  have hl := lv_entry ([.ref q_t, .int p1, .int p2]) (n := 3) (Nat.le_of_ble_eq_true rfl)
  rw [lg_entry_eq]
  generalize (lg_sl ([.ref q_t, .int p1, .int p2]) ++ List.replicate (3 - (lg_sl ([.ref q_t, .int p1, .int p2])).length) Slot.unset).toArray = ls at hl ⊢
  have hl : lv_has ls 3 [(0, .ref q_t), (1, .int p1), (2, .int p2)] := hl
  unfold S_X3_heightAt at hE
  refine lv_iload_n hx hb dX3_heightAt_0 rfl (lv_at hl 1 rfl) ?_
  refine lv_iload_n hx hb dX3_heightAt_1 rfl (lv_at hl 2 rfl) ?_
  refine lv_iadd hx hb dX3_heightAt_2 ?_
  refine lv_iconst (v := 2) hx hb dX3_heightAt_3 (by decide) ?_
  refine lv_aload_n hx hb dX3_heightAt_4 rfl (lv_at hl 0 rfl) ?_
  refine lv_iload_n hx hb dX3_heightAt_5 rfl (lv_at hl 1 rfl) ?_
  refine lv_iload_n hx hb dX3_heightAt_6 rfl (lv_at hl 2 rfl) ?_
  obtain ⟨y7, hC_7, hE⟩ := Option.bind_eq_some_iff.mp hE
  obtain ⟨r_7, ex9⟩ : ∃ z, z = y7 := ⟨_, rfl⟩
  subst ex9
  try dsimp only at hE
  refine vp_callSi (va_Run.run (va_runV (As := [.int p1, .int p2]) (rest := [.int (2 : Int32), .int (p1 + p2)]) ⟨hx, hb, hml, hown, hts⟩ (c_X3_cornerAt (l := l) (G := G) (p1 := p1) (p2 := p2) (q_t := q_t) (t_size := t_size) (q_t_corners := q_t_corners) (t_corners := t_corners) hC_7) (cwV 2 hts gX3_heightAt_X3_cornerAt rfl rfl rfl kd_X3_cornerAt ⟨Nat.le_of_ble_eq_true rfl, Nat.le_of_ble_eq_true rfl⟩) (pv_V hKW (hP.sub (ws' := [oX3 q_t t_size q_t_corners, aI (G.2 1) q_t_corners 49 t_corners]) [0, 1] rfl) (ci := 3) (q0 := 0) rfl rfl) rfl rfl hl.1 rfl (lv_room (Nat.le_of_ble_eq_true rfl)) dX3_heightAt_7 ⟨Nat.zero_le _, Nat.zero_le _⟩)) (fun r9 hr9 => ?_)
  subst r9
  refine lv_imul hx hb dX3_heightAt_10 ?_
  refine lv_isub hx hb dX3_heightAt_11 ?_
  have e_0 := Option.some.inj hE
  rw [hQ]
  exact W.iret (v := (p1 + p2) - ((2 : Int32) * r_7)) hx hb hr (fun t ht _ => ⟨_, rfl, e_0, ht⟩) (fun q h => by cases h) dX3_heightAt_12
def S_X3_flipKind (p1 : Int32) (p2 : Int32) (t_corners : Nat → Int32) : Option Int32 := (S_X3_heightAt (p1 - (1 : Int32)) p2 t_corners).bind (fun (y5 : Int32) => (S_X3_heightAt (p1 + (1 : Int32)) p2 t_corners).bind (fun (y14 : Int32) => if y14 = y5 then (S_X3_heightAt p1 (p2 - (1 : Int32)) t_corners).bind (fun (y26 : Int32) => if y26 = y5 then (S_X3_heightAt p1 (p2 + (1 : Int32)) t_corners).bind (fun (y38 : Int32) => if y38 = y5 then (S_X3_heightAt p1 p2 t_corners).bind (fun (y50 : Int32) => if y5 ≤ y50 then some (2 : Int32) else some (1 : Int32)) else some (0 : Int32)) else some (0 : Int32)) else some (0 : Int32)))
theorem kd_X3_flipKind : yX3_flipKind.cls = RX3 ∧ yX3_flipKind.cls ≠ "java/lang/invoke/MethodHandle" ∧ yX3_flipKind.cls ≠ "java/lang/invoke/VarHandle" ∧ (parseMethodDescriptor yX3_flipKind.desc).map (fun d => d.parameters.length) = some 2 := by decide +kernel
set_option maxHeartbeats 4000000 in
set_option maxRecDepth 100000 in
theorem c_X3_flipKind {l : Launch} {G : kG} {p1 : Int32} {p2 : Int32} {q_t : Nat} {t_size : Int32} {q_t_corners : Nat} {t_corners : Nat → Int32} {res : Int32} (hE : S_X3_flipKind p1 p2 t_corners = some res) : Met l yX3_flipKind wsX3_flipKind ({ frames := 2, cells := 0, slots := 0, locals := 44 }) (va_Pc [.ref q_t, .int p1, .int p2] (fun U => va_P G.1 vwCl [oX3 q_t t_size q_t_corners, aI (G.2 1) q_t_corners 49 t_corners] U.heap ∧ kw G U)) (vp_Si (fun r => r = res)) 0 0 (fun _ => False) := by
  refine Met.ofQ (cc := cX3_flipKind) (maxL := 4) (ret := (some .int)) (by decide) rfl ?_
  intro p e s m args below meth c s₁ Q hQ B hml hv
  obtain ⟨rfl, hP, hKW⟩ := hv
  have hK := hKW.1
  have hx := B.exec
  have hb := B.bytes
  have hr := B.returns
  have hts := atoms_spec (ws := wsX3_flipKind) B.pre
  have hown : s.vm.findClass RX3 = some m.cls := findClass_of_methodNamed B.named
  have hlocks := B.notSynchronized
  have hl := lv_entry ([.ref q_t, .int p1, .int p2]) (n := 4) (Nat.le_of_ble_eq_true rfl)
  rw [lg_entry_eq]
  generalize (lg_sl ([.ref q_t, .int p1, .int p2]) ++ List.replicate (4 - (lg_sl ([.ref q_t, .int p1, .int p2])).length) Slot.unset).toArray = ls at hl ⊢
  have hl : lv_has ls 4 [(0, .ref q_t), (1, .int p1), (2, .int p2)] := hl
  unfold S_X3_flipKind at hE
  refine lv_aload_n hx hb dX3_flipKind_0 rfl (lv_at hl 0 rfl) ?_
  refine lv_iload_n hx hb dX3_flipKind_1 rfl (lv_at hl 1 rfl) ?_
  refine lv_iconst (v := 1) hx hb dX3_flipKind_2 (by decide) ?_
  refine lv_isub hx hb dX3_flipKind_3 ?_
  refine lv_iload_n hx hb dX3_flipKind_4 rfl (lv_at hl 2 rfl) ?_
  obtain ⟨y5, hC_5, hE⟩ := Option.bind_eq_some_iff.mp hE
  obtain ⟨r_5, ex9⟩ : ∃ z, z = y5 := ⟨_, rfl⟩
  subst ex9
  try dsimp only at hE
  refine vp_callSi (va_Run.run (va_runV (As := [.int (p1 - (1 : Int32)), .int p2]) (rest := []) ⟨hx, hb, hml, hown, hts⟩ (c_X3_heightAt (l := l) (G := G) (p1 := p1 - (1 : Int32)) (p2 := p2) (q_t := q_t) (t_size := t_size) (q_t_corners := q_t_corners) (t_corners := t_corners) hC_5) (cwV 2 hts gX3_flipKind_X3_heightAt rfl rfl rfl kd_X3_heightAt ⟨Nat.le_of_ble_eq_true rfl, Nat.le_of_ble_eq_true rfl⟩) (pv_V hKW (hP.sub (ws' := [oX3 q_t t_size q_t_corners, aI (G.2 1) q_t_corners 49 t_corners]) [0, 1] rfl) (ci := 3) (q0 := 0) rfl rfl) rfl rfl hl.1 rfl (lv_room (Nat.le_of_ble_eq_true rfl)) dX3_flipKind_5 ⟨Nat.zero_le _, Nat.zero_le _⟩)) (fun r9 hr9 => ?_)
  subst r9
  refine lv_istore_n (lv' := [(3, .int r_5), (0, .ref q_t), (1, .int p1), (2, .int p2)]) hx hb dX3_flipKind_8 rfl hl (by decide) rfl (fun ls hl => ?_)
  refine lv_aload_n hx hb dX3_flipKind_9 rfl (lv_at hl 1 rfl) ?_
  refine lv_iload_n hx hb dX3_flipKind_10 rfl (lv_at hl 2 rfl) ?_
  refine lv_iconst (v := 1) hx hb dX3_flipKind_11 (by decide) ?_
  refine lv_iadd hx hb dX3_flipKind_12 ?_
  refine lv_iload_n hx hb dX3_flipKind_13 rfl (lv_at hl 3 rfl) ?_
  obtain ⟨y14, hC_14, hE⟩ := Option.bind_eq_some_iff.mp hE
  obtain ⟨r_14, ex9⟩ : ∃ z, z = y14 := ⟨_, rfl⟩
  subst ex9
  try dsimp only at hE
  refine vp_callSi (va_Run.run (va_runV (As := [.int (p1 + (1 : Int32)), .int p2]) (rest := []) ⟨hx, hb, hml, hown, hts⟩ (c_X3_heightAt (l := l) (G := G) (p1 := p1 + (1 : Int32)) (p2 := p2) (q_t := q_t) (t_size := t_size) (q_t_corners := q_t_corners) (t_corners := t_corners) hC_14) (cwV 2 hts gX3_flipKind_X3_heightAt rfl rfl rfl kd_X3_heightAt ⟨Nat.le_of_ble_eq_true rfl, Nat.le_of_ble_eq_true rfl⟩) (pv_V hKW (hP.sub (ws' := [oX3 q_t t_size q_t_corners, aI (G.2 1) q_t_corners 49 t_corners]) [0, 1] rfl) (ci := 3) (q0 := 0) rfl rfl) rfl rfl hl.1 rfl (lv_room (Nat.le_of_ble_eq_true rfl)) dX3_flipKind_14 ⟨Nat.zero_le _, Nat.zero_le _⟩)) (fun r9 hr9 => ?_)
  subst r9
  refine lv_iload_n hx hb dX3_flipKind_17 rfl (lv_at hl 0 rfl) ?_
  refine lv_icmp_ne (tgt := 45) hx hb dX3_flipKind_18 (by decide) (fun c_18 => ?_) (fun c_18 => ?_)
  · replace hE := (if_neg c_18).symm.trans hE
    refine lv_iconst (v := 0) hx hb dX3_flipKind_45 (by decide) ?_
    have e_0 := Option.some.inj hE
    rw [hQ]
    exact W.iret (v := (0 : Int32)) hx hb hr (fun t ht _ => ⟨_, rfl, e_0, ht⟩) (fun q h => by cases h) dX3_flipKind_46
  · replace hE := (if_pos c_18).symm.trans hE
    refine lv_aload_n hx hb dX3_flipKind_21 rfl (lv_at hl 1 rfl) ?_
    refine lv_iload_n hx hb dX3_flipKind_22 rfl (lv_at hl 2 rfl) ?_
    refine lv_iload_n hx hb dX3_flipKind_23 rfl (lv_at hl 3 rfl) ?_
    refine lv_iconst (v := 1) hx hb dX3_flipKind_24 (by decide) ?_
    refine lv_isub hx hb dX3_flipKind_25 ?_
    obtain ⟨y26, hC_26, hE⟩ := Option.bind_eq_some_iff.mp hE
    obtain ⟨r_26, ex9⟩ : ∃ z, z = y26 := ⟨_, rfl⟩
    subst ex9
    try dsimp only at hE
    refine vp_callSi (va_Run.run (va_runV (As := [.int p1, .int (p2 - (1 : Int32))]) (rest := []) ⟨hx, hb, hml, hown, hts⟩ (c_X3_heightAt (l := l) (G := G) (p1 := p1) (p2 := p2 - (1 : Int32)) (q_t := q_t) (t_size := t_size) (q_t_corners := q_t_corners) (t_corners := t_corners) hC_26) (cwV 2 hts gX3_flipKind_X3_heightAt rfl rfl rfl kd_X3_heightAt ⟨Nat.le_of_ble_eq_true rfl, Nat.le_of_ble_eq_true rfl⟩) (pv_V hKW (hP.sub (ws' := [oX3 q_t t_size q_t_corners, aI (G.2 1) q_t_corners 49 t_corners]) [0, 1] rfl) (ci := 3) (q0 := 0) rfl rfl) rfl rfl hl.1 rfl (lv_room (Nat.le_of_ble_eq_true rfl)) dX3_flipKind_26 ⟨Nat.zero_le _, Nat.zero_le _⟩)) (fun r9 hr9 => ?_)
    subst r9
    refine lv_iload_n hx hb dX3_flipKind_29 rfl (lv_at hl 0 rfl) ?_
    refine lv_icmp_ne (tgt := 45) hx hb dX3_flipKind_30 (by decide) (fun c_30 => ?_) (fun c_30 => ?_)
    · replace hE := (if_neg c_30).symm.trans hE
      refine lv_iconst (v := 0) hx hb dX3_flipKind_45 (by decide) ?_
      have e_0 := Option.some.inj hE
      rw [hQ]
      exact W.iret (v := (0 : Int32)) hx hb hr (fun t ht _ => ⟨_, rfl, e_0, ht⟩) (fun q h => by cases h) dX3_flipKind_46
    · replace hE := (if_pos c_30).symm.trans hE
      refine lv_aload_n hx hb dX3_flipKind_33 rfl (lv_at hl 1 rfl) ?_
      refine lv_iload_n hx hb dX3_flipKind_34 rfl (lv_at hl 2 rfl) ?_
      refine lv_iload_n hx hb dX3_flipKind_35 rfl (lv_at hl 3 rfl) ?_
      refine lv_iconst (v := 1) hx hb dX3_flipKind_36 (by decide) ?_
      refine lv_iadd hx hb dX3_flipKind_37 ?_
      obtain ⟨y38, hC_38, hE⟩ := Option.bind_eq_some_iff.mp hE
      obtain ⟨r_38, ex9⟩ : ∃ z, z = y38 := ⟨_, rfl⟩
      subst ex9
      try dsimp only at hE
      refine vp_callSi (va_Run.run (va_runV (As := [.int p1, .int (p2 + (1 : Int32))]) (rest := []) ⟨hx, hb, hml, hown, hts⟩ (c_X3_heightAt (l := l) (G := G) (p1 := p1) (p2 := p2 + (1 : Int32)) (q_t := q_t) (t_size := t_size) (q_t_corners := q_t_corners) (t_corners := t_corners) hC_38) (cwV 2 hts gX3_flipKind_X3_heightAt rfl rfl rfl kd_X3_heightAt ⟨Nat.le_of_ble_eq_true rfl, Nat.le_of_ble_eq_true rfl⟩) (pv_V hKW (hP.sub (ws' := [oX3 q_t t_size q_t_corners, aI (G.2 1) q_t_corners 49 t_corners]) [0, 1] rfl) (ci := 3) (q0 := 0) rfl rfl) rfl rfl hl.1 rfl (lv_room (Nat.le_of_ble_eq_true rfl)) dX3_flipKind_38 ⟨Nat.zero_le _, Nat.zero_le _⟩)) (fun r9 hr9 => ?_)
      subst r9
      refine lv_iload_n hx hb dX3_flipKind_41 rfl (lv_at hl 0 rfl) ?_
      refine lv_icmp_eq (tgt := 47) hx hb dX3_flipKind_42 (by decide) (fun c_42 => ?_) (fun c_42 => ?_)
      · replace hE := (if_pos c_42).symm.trans hE
        refine lv_aload_n hx hb dX3_flipKind_47 rfl (lv_at hl 1 rfl) ?_
        refine lv_iload_n hx hb dX3_flipKind_48 rfl (lv_at hl 2 rfl) ?_
        refine lv_iload_n hx hb dX3_flipKind_49 rfl (lv_at hl 3 rfl) ?_
        obtain ⟨y50, hC_50, hE⟩ := Option.bind_eq_some_iff.mp hE
        obtain ⟨r_50, ex9⟩ : ∃ z, z = y50 := ⟨_, rfl⟩
        subst ex9
        try dsimp only at hE
        refine vp_callSi (va_Run.run (va_runV (As := [.int p1, .int p2]) (rest := []) ⟨hx, hb, hml, hown, hts⟩ (c_X3_heightAt (l := l) (G := G) (p1 := p1) (p2 := p2) (q_t := q_t) (t_size := t_size) (q_t_corners := q_t_corners) (t_corners := t_corners) hC_50) (cwV 2 hts gX3_flipKind_X3_heightAt rfl rfl rfl kd_X3_heightAt ⟨Nat.le_of_ble_eq_true rfl, Nat.le_of_ble_eq_true rfl⟩) (pv_V hKW (hP.sub (ws' := [oX3 q_t t_size q_t_corners, aI (G.2 1) q_t_corners 49 t_corners]) [0, 1] rfl) (ci := 3) (q0 := 0) rfl rfl) rfl rfl hl.1 rfl (lv_room (Nat.le_of_ble_eq_true rfl)) dX3_flipKind_50 ⟨Nat.zero_le _, Nat.zero_le _⟩)) (fun r9 hr9 => ?_)
        subst r9
        refine lv_iload_n hx hb dX3_flipKind_53 rfl (lv_at hl 0 rfl) ?_
        refine lv_icmp_ge (tgt := 61) hx hb dX3_flipKind_54 (by decide) (fun c_54 => ?_) (fun c_54 => ?_)
        · replace hE := (if_pos c_54).symm.trans hE
          refine lv_iconst (v := 2) hx hb dX3_flipKind_61 (by decide) ?_
          have e_0 := Option.some.inj hE
          rw [hQ]
          exact W.iret (v := (2 : Int32)) hx hb hr (fun t ht _ => ⟨_, rfl, e_0, ht⟩) (fun q h => by cases h) dX3_flipKind_62
        · replace hE := (if_neg c_54).symm.trans hE
          refine lv_iconst (v := 1) hx hb dX3_flipKind_57 (by decide) ?_
          refine lv_goto (tgt := 62) hx hb dX3_flipKind_58 (by decide) ?_
          have e_0 := Option.some.inj hE
          rw [hQ]
          exact W.iret (v := (1 : Int32)) hx hb hr (fun t ht _ => ⟨_, rfl, e_0, ht⟩) (fun q h => by cases h) dX3_flipKind_62
      · replace hE := (if_neg c_42).symm.trans hE
        refine lv_iconst (v := 0) hx hb dX3_flipKind_45 (by decide) ?_
        have e_0 := Option.some.inj hE
        rw [hQ]
        exact W.iret (v := (0 : Int32)) hx hb hr (fun t ht _ => ⟨_, rfl, e_0, ht⟩) (fun q h => by cases h) dX3_flipKind_46
def S_X3_negatives (t_size : Int32) (t_corners : Nat → Int32) : Option Int32 := itr (fun (x1 : Int32 × Int32) => if t_size ≤ x1.2 then some (.inr x1.1) else itr (fun (x2 : Int32 × Int32) => if t_size ≤ x2.2 then some (.inr (.inl (x2.1, x1.2 + (1 : Int32)))) else (S_X3_signAt x1.2 x2.2 t_corners).bind (fun (y25 : Int32) => if 0 ≤ y25 then some (.inl (x2.1, x2.2 + (1 : Int32))) else some (.inl (x2.1 + (1 : Int32), x2.2 + (1 : Int32))))) 10000 (x1.1, (0 : Int32))) 10000 ((0 : Int32), (0 : Int32))
theorem kd_X3_negatives : yX3_negatives.cls = RX3 ∧ yX3_negatives.cls ≠ "java/lang/invoke/MethodHandle" ∧ yX3_negatives.cls ≠ "java/lang/invoke/VarHandle" ∧ (parseMethodDescriptor yX3_negatives.desc).map (fun d => d.parameters.length) = some 0 := by decide +kernel
set_option maxHeartbeats 4000000 in
set_option maxRecDepth 100000 in
theorem c_X3_negatives {l : Launch} {G : kG} {q_t : Nat} {t_size : Int32} {q_t_corners : Nat} {t_corners : Nat → Int32} {res : Int32} (hE : S_X3_negatives t_size t_corners = some res) : Met l yX3_negatives wsX3_negatives ({ frames := 3, cells := 0, slots := 0, locals := 66 }) (va_Pc [.ref q_t] (fun U => va_P G.1 vwCl [oX3 q_t t_size q_t_corners, aI (G.2 1) q_t_corners 49 t_corners] U.heap ∧ kw G U)) (vp_Si (fun r => r = res)) 0 0 (fun _ => False) := by
  refine Met.ofQ (cc := cX3_negatives) (maxL := 4) (ret := (some .int)) (by decide) rfl ?_
  intro p e s m args below meth c s₁ Q hQ B hml hv
  obtain ⟨rfl, hP, hKW⟩ := hv
  have hK := hKW.1
  have hx := B.exec
  have hb := B.bytes
  have hr := B.returns
  have hts := atoms_spec (ws := wsX3_negatives) B.pre
  have hown : s.vm.findClass RX3 = some m.cls := findClass_of_methodNamed B.named
  have hlocks := B.notSynchronized
  have iX3 : ∀ w ∈ u_ws RX3 TX3 2, w ∈ wsX3_negatives := by decide +kernel
  have fl_15 := hts (.fieldLink RX3 15 "AlternateSigns$Table" "size" "I") (by decide +kernel)
  have hl := lv_entry ([.ref q_t]) (n := 4) (Nat.le_of_ble_eq_true rfl)
  rw [lg_entry_eq]
  generalize (lg_sl ([.ref q_t]) ++ List.replicate (4 - (lg_sl ([.ref q_t])).length) Slot.unset).toArray = ls at hl ⊢
  have hl : lv_has ls 4 [(0, .ref q_t)] := hl
  unfold S_X3_negatives at hE
  refine lv_iconst (v := 0) hx hb dX3_negatives_0 (by decide) ?_
  refine lv_istore_n (lv' := [(1, .int (0 : Int32)), (0, .ref q_t)]) hx hb dX3_negatives_1 rfl hl (by decide) rfl (fun ls hl => ?_)
  refine lv_iconst (v := 0) hx hb dX3_negatives_2 (by decide) ?_
  refine lv_istore_n (lv' := [(2, .int (0 : Int32)), (1, .int (0 : Int32)), (0, .ref q_t)]) hx hb dX3_negatives_3 rfl hl (by decide) rfl (fun ls hl => ?_)
  refine itr_ind (fun (x1 : Int32 × Int32) => ∀ (ls : Array Slot), lv_has ls 4 [(0, .ref q_t), (1, .int x1.1), (2, .int x1.2)] → W p l e (headSpec wsX3_negatives ({ frames := 3, cells := 0, slots := 0, locals := 66 })).room s m ([.ref q_t] : List Value).toArray below meth c s.heap [] 0 0 Q (F0 m 4 ls [])) (fun x1 o_1 hE ih_1 hr_1 => ?_) _ _ hE ls (lv_sub hl [2, 1, 0] rfl)
  obtain ⟨v1_1, v2_1⟩ := x1
  try dsimp only at hE
  intro ls hl
  try dsimp only at hl ⊢
  refine lv_iload_n hx hb dX3_negatives_4 rfl (lv_at hl 2 rfl) ?_
  refine lv_aload_n hx hb dX3_negatives_5 rfl (lv_at hl 0 rfl) ?_
  refine va_get (D := G.1) (ci := 3) (v := .int t_size) (C := RX3) (T := TX3) (N := 2) hx hb hts iX3 hown hK hP 0 rfl rfl 0 (by decide) fl_15 (fun _ h9 => h9) rfl dX3_negatives_6 ?_
  refine lv_icmp_ge (tgt := 46) hx hb dX3_negatives_9 (by decide) (fun c_9 => ?_) (fun c_9 => ?_)
  · replace hE := (if_pos c_9).symm.trans hE
    refine lv_iload_n hx hb dX3_negatives_46 rfl (lv_at hl 1 rfl) ?_
    have e_1 := Option.some.inj hE
    have e_0 := hr_1 _ e_1.symm
    rw [hQ]
    exact W.iret (v := v1_1) hx hb hr (fun t ht _ => ⟨_, rfl, e_0, ht⟩) (fun q h => by cases h) dX3_negatives_47
  · replace hE := (if_neg c_9).symm.trans hE
    refine lv_iconst (v := 0) hx hb dX3_negatives_12 (by decide) ?_
    refine lv_istore_n (lv' := [(3, .int (0 : Int32)), (0, .ref q_t), (1, .int v1_1), (2, .int v2_1)]) hx hb dX3_negatives_13 rfl hl (by decide) rfl (fun ls hl => ?_)
    refine itr_ind (fun (x2 : Int32 × Int32) => ∀ (ls : Array Slot), lv_has ls 4 [(0, .ref q_t), (1, .int x2.1), (2, .int v2_1), (3, .int x2.2)] → W p l e (headSpec wsX3_negatives ({ frames := 3, cells := 0, slots := 0, locals := 66 })).room s m ([.ref q_t] : List Value).toArray below meth c s.heap [] 0 0 Q (F0 m 14 ls [])) (fun x2 o_2 hE ih_2 hr_2 => ?_) _ _ hE ls (lv_sub hl [1, 2, 3, 0] rfl)
    obtain ⟨v1_2, v3_2⟩ := x2
    try dsimp only at hE
    intro ls hl
    try dsimp only at hl ⊢
    refine lv_iload_n hx hb dX3_negatives_14 rfl (lv_at hl 3 rfl) ?_
    refine lv_aload_n hx hb dX3_negatives_15 rfl (lv_at hl 0 rfl) ?_
    refine va_get (D := G.1) (ci := 3) (v := .int t_size) (C := RX3) (T := TX3) (N := 2) hx hb hts iX3 hown hK hP 0 rfl rfl 0 (by decide) fl_15 (fun _ h9 => h9) rfl dX3_negatives_16 ?_
    refine lv_icmp_ge (tgt := 40) hx hb dX3_negatives_19 (by decide) (fun c_19 => ?_) (fun c_19 => ?_)
    · replace hE := (if_pos c_19).symm.trans hE
      refine lv_iinc (v := v2_1 + (1 : Int32)) (lv' := [(2, .int (v2_1 + (1 : Int32))), (0, .ref q_t), (1, .int v1_2), (3, .int v3_2)]) hx hb dX3_negatives_40 hl (k := 2) rfl rfl (by decide) rfl (fun ls hl => ?_)
      refine lv_goto (tgt := 4) hx hb dX3_negatives_43 (by decide) ?_
      have e_2 := Option.some.inj hE
      have e_1 := hr_2 _ e_2.symm
      exact ih_1 _ e_1.symm ls (lv_sub hl [1, 2, 0] rfl)
    · replace hE := (if_neg c_19).symm.trans hE
      refine lv_aload_n hx hb dX3_negatives_22 rfl (lv_at hl 0 rfl) ?_
      refine lv_iload_n hx hb dX3_negatives_23 rfl (lv_at hl 2 rfl) ?_
      refine lv_iload_n hx hb dX3_negatives_24 rfl (lv_at hl 3 rfl) ?_
      obtain ⟨y25, hC_25, hE⟩ := Option.bind_eq_some_iff.mp hE
      obtain ⟨r_25, ex9⟩ : ∃ z, z = y25 := ⟨_, rfl⟩
      subst ex9
      try dsimp only at hE
      refine vp_callSi (va_Run.run (va_runV (As := [.int v2_1, .int v3_2]) (rest := []) ⟨hx, hb, hml, hown, hts⟩ (c_X3_signAt (l := l) (G := G) (p1 := v2_1) (p2 := v3_2) (q_t := q_t) (t_size := t_size) (q_t_corners := q_t_corners) (t_corners := t_corners) hC_25) (cwV 2 hts gX3_negatives_X3_signAt rfl rfl rfl kd_X3_signAt ⟨Nat.le_of_ble_eq_true rfl, Nat.le_of_ble_eq_true rfl⟩) (pv_V hKW (hP.sub (ws' := [oX3 q_t t_size q_t_corners, aI (G.2 1) q_t_corners 49 t_corners]) [0, 1] rfl) (ci := 3) (q0 := 0) rfl rfl) rfl rfl hl.1 rfl (lv_room (Nat.le_of_ble_eq_true rfl)) dX3_negatives_25 ⟨Nat.zero_le _, Nat.zero_le _⟩)) (fun r9 hr9 => ?_)
      subst r9
      refine lv_if_ge (tgt := 34) hx hb dX3_negatives_28 (by decide) (fun c_28 => ?_) (fun c_28 => ?_)
      · replace hE := (if_pos c_28).symm.trans hE
        refine lv_iinc (v := v3_2 + (1 : Int32)) (lv' := [(3, .int (v3_2 + (1 : Int32))), (0, .ref q_t), (1, .int v1_2), (2, .int v2_1)]) hx hb dX3_negatives_34 hl (k := 3) rfl rfl (by decide) rfl (fun ls hl => ?_)
        refine lv_goto (tgt := 14) hx hb dX3_negatives_37 (by decide) ?_
        have e_2 := Option.some.inj hE
        exact ih_2 _ e_2.symm ls (lv_sub hl [1, 2, 3, 0] rfl)
      · replace hE := (if_neg c_28).symm.trans hE
        refine lv_iinc (v := v1_2 + (1 : Int32)) (lv' := [(1, .int (v1_2 + (1 : Int32))), (0, .ref q_t), (2, .int v2_1), (3, .int v3_2)]) hx hb dX3_negatives_31 hl (k := 1) rfl rfl (by decide) rfl (fun ls hl => ?_)
        refine lv_iinc (v := v3_2 + (1 : Int32)) (lv' := [(3, .int (v3_2 + (1 : Int32))), (1, .int (v1_2 + (1 : Int32))), (0, .ref q_t), (2, .int v2_1)]) hx hb dX3_negatives_34 hl (k := 3) rfl rfl (by decide) rfl (fun ls hl => ?_)
        refine lv_goto (tgt := 14) hx hb dX3_negatives_37 (by decide) ?_
        have e_2 := Option.some.inj hE
        exact ih_2 _ e_2.symm ls (lv_sub hl [2, 1, 3, 0] rfl)
def S_X3_flippable (t_size : Int32) (t_corners : Nat → Int32) : Option Int32 := itr (fun (x1 : Int32 × Int32) => if t_size ≤ x1.2 then some (.inr x1.1) else itr (fun (x2 : Int32 × Int32) => if t_size ≤ x2.2 then some (.inr (.inl (x2.1, x1.2 + (1 : Int32)))) else (S_X3_flipKind x1.2 x2.2 t_corners).bind (fun (y25 : Int32) => if y25 = 0 then some (.inl (x2.1, x2.2 + (1 : Int32))) else some (.inl (x2.1 + (1 : Int32), x2.2 + (1 : Int32))))) 10000 (x1.1, (1 : Int32))) 10000 ((0 : Int32), (1 : Int32))
theorem kd_X3_flippable : yX3_flippable.cls = RX3 ∧ yX3_flippable.cls ≠ "java/lang/invoke/MethodHandle" ∧ yX3_flippable.cls ≠ "java/lang/invoke/VarHandle" ∧ (parseMethodDescriptor yX3_flippable.desc).map (fun d => d.parameters.length) = some 0 := by decide +kernel
set_option maxHeartbeats 4000000 in
set_option maxRecDepth 100000 in
theorem c_X3_flippable {l : Launch} {G : kG} {q_t : Nat} {t_size : Int32} {q_t_corners : Nat} {t_corners : Nat → Int32} {res : Int32} (hE : S_X3_flippable t_size t_corners = some res) : Met l yX3_flippable wsX3_flippable ({ frames := 3, cells := 0, slots := 0, locals := 67 }) (va_Pc [.ref q_t] (fun U => va_P G.1 vwCl [oX3 q_t t_size q_t_corners, aI (G.2 1) q_t_corners 49 t_corners] U.heap ∧ kw G U)) (vp_Si (fun r => r = res)) 0 0 (fun _ => False) := by
  refine Met.ofQ (cc := cX3_flippable) (maxL := 4) (ret := (some .int)) (by decide) rfl ?_
  intro p e s m args below meth c s₁ Q hQ B hml hv
  obtain ⟨rfl, hP, hKW⟩ := hv
  have hK := hKW.1
  have hx := B.exec
  have hb := B.bytes
  have hr := B.returns
  have hts := atoms_spec (ws := wsX3_flippable) B.pre
  have hown : s.vm.findClass RX3 = some m.cls := findClass_of_methodNamed B.named
  have hlocks := B.notSynchronized
  have iX3 : ∀ w ∈ u_ws RX3 TX3 2, w ∈ wsX3_flippable := by decide +kernel
  have fl_15 := hts (.fieldLink RX3 15 "AlternateSigns$Table" "size" "I") (by decide +kernel)
  have hl := lv_entry ([.ref q_t]) (n := 4) (Nat.le_of_ble_eq_true rfl)
  rw [lg_entry_eq]
  generalize (lg_sl ([.ref q_t]) ++ List.replicate (4 - (lg_sl ([.ref q_t])).length) Slot.unset).toArray = ls at hl ⊢
  have hl : lv_has ls 4 [(0, .ref q_t)] := hl
  unfold S_X3_flippable at hE
  refine lv_iconst (v := 0) hx hb dX3_flippable_0 (by decide) ?_
  refine lv_istore_n (lv' := [(1, .int (0 : Int32)), (0, .ref q_t)]) hx hb dX3_flippable_1 rfl hl (by decide) rfl (fun ls hl => ?_)
  refine lv_iconst (v := 1) hx hb dX3_flippable_2 (by decide) ?_
  refine lv_istore_n (lv' := [(2, .int (1 : Int32)), (1, .int (0 : Int32)), (0, .ref q_t)]) hx hb dX3_flippable_3 rfl hl (by decide) rfl (fun ls hl => ?_)
  refine itr_ind (fun (x1 : Int32 × Int32) => ∀ (ls : Array Slot), lv_has ls 4 [(0, .ref q_t), (1, .int x1.1), (2, .int x1.2)] → W p l e (headSpec wsX3_flippable ({ frames := 3, cells := 0, slots := 0, locals := 67 })).room s m ([.ref q_t] : List Value).toArray below meth c s.heap [] 0 0 Q (F0 m 4 ls [])) (fun x1 o_1 hE ih_1 hr_1 => ?_) _ _ hE ls (lv_sub hl [2, 1, 0] rfl)
  obtain ⟨v1_1, v2_1⟩ := x1
  try dsimp only at hE
  intro ls hl
  try dsimp only at hl ⊢
  refine lv_iload_n hx hb dX3_flippable_4 rfl (lv_at hl 2 rfl) ?_
  refine lv_aload_n hx hb dX3_flippable_5 rfl (lv_at hl 0 rfl) ?_
  refine va_get (D := G.1) (ci := 3) (v := .int t_size) (C := RX3) (T := TX3) (N := 2) hx hb hts iX3 hown hK hP 0 rfl rfl 0 (by decide) fl_15 (fun _ h9 => h9) rfl dX3_flippable_6 ?_
  refine lv_icmp_ge (tgt := 46) hx hb dX3_flippable_9 (by decide) (fun c_9 => ?_) (fun c_9 => ?_)
  · replace hE := (if_pos c_9).symm.trans hE
    refine lv_iload_n hx hb dX3_flippable_46 rfl (lv_at hl 1 rfl) ?_
    have e_1 := Option.some.inj hE
    have e_0 := hr_1 _ e_1.symm
    rw [hQ]
    exact W.iret (v := v1_1) hx hb hr (fun t ht _ => ⟨_, rfl, e_0, ht⟩) (fun q h => by cases h) dX3_flippable_47
  · replace hE := (if_neg c_9).symm.trans hE
    refine lv_iconst (v := 1) hx hb dX3_flippable_12 (by decide) ?_
    refine lv_istore_n (lv' := [(3, .int (1 : Int32)), (0, .ref q_t), (1, .int v1_1), (2, .int v2_1)]) hx hb dX3_flippable_13 rfl hl (by decide) rfl (fun ls hl => ?_)
    refine itr_ind (fun (x2 : Int32 × Int32) => ∀ (ls : Array Slot), lv_has ls 4 [(0, .ref q_t), (1, .int x2.1), (2, .int v2_1), (3, .int x2.2)] → W p l e (headSpec wsX3_flippable ({ frames := 3, cells := 0, slots := 0, locals := 67 })).room s m ([.ref q_t] : List Value).toArray below meth c s.heap [] 0 0 Q (F0 m 14 ls [])) (fun x2 o_2 hE ih_2 hr_2 => ?_) _ _ hE ls (lv_sub hl [1, 2, 3, 0] rfl)
    obtain ⟨v1_2, v3_2⟩ := x2
    try dsimp only at hE
    intro ls hl
    try dsimp only at hl ⊢
    refine lv_iload_n hx hb dX3_flippable_14 rfl (lv_at hl 3 rfl) ?_
    refine lv_aload_n hx hb dX3_flippable_15 rfl (lv_at hl 0 rfl) ?_
    refine va_get (D := G.1) (ci := 3) (v := .int t_size) (C := RX3) (T := TX3) (N := 2) hx hb hts iX3 hown hK hP 0 rfl rfl 0 (by decide) fl_15 (fun _ h9 => h9) rfl dX3_flippable_16 ?_
    refine lv_icmp_ge (tgt := 40) hx hb dX3_flippable_19 (by decide) (fun c_19 => ?_) (fun c_19 => ?_)
    · replace hE := (if_pos c_19).symm.trans hE
      refine lv_iinc (v := v2_1 + (1 : Int32)) (lv' := [(2, .int (v2_1 + (1 : Int32))), (0, .ref q_t), (1, .int v1_2), (3, .int v3_2)]) hx hb dX3_flippable_40 hl (k := 2) rfl rfl (by decide) rfl (fun ls hl => ?_)
      refine lv_goto (tgt := 4) hx hb dX3_flippable_43 (by decide) ?_
      have e_2 := Option.some.inj hE
      have e_1 := hr_2 _ e_2.symm
      exact ih_1 _ e_1.symm ls (lv_sub hl [1, 2, 0] rfl)
    · replace hE := (if_neg c_19).symm.trans hE
      refine lv_aload_n hx hb dX3_flippable_22 rfl (lv_at hl 0 rfl) ?_
      refine lv_iload_n hx hb dX3_flippable_23 rfl (lv_at hl 2 rfl) ?_
      refine lv_iload_n hx hb dX3_flippable_24 rfl (lv_at hl 3 rfl) ?_
      obtain ⟨y25, hC_25, hE⟩ := Option.bind_eq_some_iff.mp hE
      obtain ⟨r_25, ex9⟩ : ∃ z, z = y25 := ⟨_, rfl⟩
      subst ex9
      try dsimp only at hE
      refine vp_callSi (va_Run.run (va_runV (As := [.int v2_1, .int v3_2]) (rest := []) ⟨hx, hb, hml, hown, hts⟩ (c_X3_flipKind (l := l) (G := G) (p1 := v2_1) (p2 := v3_2) (q_t := q_t) (t_size := t_size) (q_t_corners := q_t_corners) (t_corners := t_corners) hC_25) (cwV 2 hts gX3_flippable_X3_flipKind rfl rfl rfl kd_X3_flipKind ⟨Nat.le_of_ble_eq_true rfl, Nat.le_of_ble_eq_true rfl⟩) (pv_V hKW (hP.sub (ws' := [oX3 q_t t_size q_t_corners, aI (G.2 1) q_t_corners 49 t_corners]) [0, 1] rfl) (ci := 3) (q0 := 0) rfl rfl) rfl rfl hl.1 rfl (lv_room (Nat.le_of_ble_eq_true rfl)) dX3_flippable_25 ⟨Nat.zero_le _, Nat.zero_le _⟩)) (fun r9 hr9 => ?_)
      subst r9
      refine lv_if_eq (tgt := 34) hx hb dX3_flippable_28 (by decide) (fun c_28 => ?_) (fun c_28 => ?_)
      · replace hE := (if_pos c_28).symm.trans hE
        refine lv_iinc (v := v3_2 + (1 : Int32)) (lv' := [(3, .int (v3_2 + (1 : Int32))), (0, .ref q_t), (1, .int v1_2), (2, .int v2_1)]) hx hb dX3_flippable_34 hl (k := 3) rfl rfl (by decide) rfl (fun ls hl => ?_)
        refine lv_goto (tgt := 14) hx hb dX3_flippable_37 (by decide) ?_
        have e_2 := Option.some.inj hE
        exact ih_2 _ e_2.symm ls (lv_sub hl [1, 2, 3, 0] rfl)
      · replace hE := (if_neg c_28).symm.trans hE
        refine lv_iinc (v := v1_2 + (1 : Int32)) (lv' := [(1, .int (v1_2 + (1 : Int32))), (0, .ref q_t), (2, .int v2_1), (3, .int v3_2)]) hx hb dX3_flippable_31 hl (k := 1) rfl rfl (by decide) rfl (fun ls hl => ?_)
        refine lv_iinc (v := v3_2 + (1 : Int32)) (lv' := [(3, .int (v3_2 + (1 : Int32))), (1, .int (v1_2 + (1 : Int32))), (0, .ref q_t), (2, .int v2_1)]) hx hb dX3_flippable_34 hl (k := 3) rfl rfl (by decide) rfl (fun ls hl => ?_)
        refine lv_goto (tgt := 14) hx hb dX3_flippable_37 (by decide) ?_
        have e_2 := Option.some.inj hE
        exact ih_2 _ e_2.symm ls (lv_sub hl [2, 1, 3, 0] rfl)
def S_X3_inversions (t_size : Int32) (t_corners : Nat → Int32) : Option Int32 := itr (fun (x1 : Int32 × Int32) => if t_size ≤ x1.2 then some (.inr x1.1) else itr (fun (x2 : Int32 × Int32) => if t_size ≤ x2.2 then some (.inr (.inl (x2.1, x1.2 + (1 : Int32)))) else (S_X3_cornerAt (x1.2 + (1 : Int32)) x2.2 t_corners).bind (fun (y28 : Int32) => (S_X3_signAt x1.2 x2.2 t_corners).bind (fun (y38 : Int32) => some (.inl (x2.1 + (y38 * (x2.2 - y28)), x2.2 + (1 : Int32)))))) 10000 (x1.1, (0 : Int32))) 10000 ((0 : Int32), (0 : Int32))
theorem kd_X3_inversions : yX3_inversions.cls = RX3 ∧ yX3_inversions.cls ≠ "java/lang/invoke/MethodHandle" ∧ yX3_inversions.cls ≠ "java/lang/invoke/VarHandle" ∧ (parseMethodDescriptor yX3_inversions.desc).map (fun d => d.parameters.length) = some 0 := by decide +kernel
set_option maxHeartbeats 4000000 in
set_option maxRecDepth 100000 in
theorem c_X3_inversions {l : Launch} {G : kG} {q_t : Nat} {t_size : Int32} {q_t_corners : Nat} {t_corners : Nat → Int32} {res : Int32} (hE : S_X3_inversions t_size t_corners = some res) : Met l yX3_inversions wsX3_inversions ({ frames := 3, cells := 0, slots := 0, locals := 66 }) (va_Pc [.ref q_t] (fun U => va_P G.1 vwCl [oX3 q_t t_size q_t_corners, aI (G.2 1) q_t_corners 49 t_corners] U.heap ∧ kw G U)) (vp_Si (fun r => r = res)) 0 0 (fun _ => False) := by
  refine Met.ofQ (cc := cX3_inversions) (maxL := 5) (ret := (some .int)) (by decide) rfl ?_
  intro p e s m args below meth c s₁ Q hQ B hml hv
  obtain ⟨rfl, hP, hKW⟩ := hv
  have hK := hKW.1
  have hx := B.exec
  have hb := B.bytes
  have hr := B.returns
  have hts := atoms_spec (ws := wsX3_inversions) B.pre
  have hown : s.vm.findClass RX3 = some m.cls := findClass_of_methodNamed B.named
  have hlocks := B.notSynchronized
  have iX3 : ∀ w ∈ u_ws RX3 TX3 2, w ∈ wsX3_inversions := by decide +kernel
  have fl_15 := hts (.fieldLink RX3 15 "AlternateSigns$Table" "size" "I") (by decide +kernel)
  have hl := lv_entry ([.ref q_t]) (n := 5) (Nat.le_of_ble_eq_true rfl)
  rw [lg_entry_eq]
  generalize (lg_sl ([.ref q_t]) ++ List.replicate (5 - (lg_sl ([.ref q_t])).length) Slot.unset).toArray = ls at hl ⊢
  have hl : lv_has ls 5 [(0, .ref q_t)] := hl
  unfold S_X3_inversions at hE
  refine lv_iconst (v := 0) hx hb dX3_inversions_0 (by decide) ?_
  refine lv_istore_n (lv' := [(1, .int (0 : Int32)), (0, .ref q_t)]) hx hb dX3_inversions_1 rfl hl (by decide) rfl (fun ls hl => ?_)
  refine lv_iconst (v := 0) hx hb dX3_inversions_2 (by decide) ?_
  refine lv_istore_n (lv' := [(2, .int (0 : Int32)), (1, .int (0 : Int32)), (0, .ref q_t)]) hx hb dX3_inversions_3 rfl hl (by decide) rfl (fun ls hl => ?_)
  refine itr_ind (fun (x1 : Int32 × Int32) => ∀ (ls : Array Slot), lv_has ls 5 [(0, .ref q_t), (1, .int x1.1), (2, .int x1.2)] → W p l e (headSpec wsX3_inversions ({ frames := 3, cells := 0, slots := 0, locals := 66 })).room s m ([.ref q_t] : List Value).toArray below meth c s.heap [] 0 0 Q (F0 m 4 ls [])) (fun x1 o_1 hE ih_1 hr_1 => ?_) _ _ hE ls (lv_sub hl [2, 1, 0] rfl)
  obtain ⟨v1_1, v2_1⟩ := x1
  try dsimp only at hE
  intro ls hl
  try dsimp only at hl ⊢
  refine lv_iload_n hx hb dX3_inversions_4 rfl (lv_at hl 2 rfl) ?_
  refine lv_aload_n hx hb dX3_inversions_5 rfl (lv_at hl 0 rfl) ?_
  refine va_get (D := G.1) (ci := 3) (v := .int t_size) (C := RX3) (T := TX3) (N := 2) hx hb hts iX3 hown hK hP 0 rfl rfl 0 (by decide) fl_15 (fun _ h9 => h9) rfl dX3_inversions_6 ?_
  refine lv_icmp_ge (tgt := 58) hx hb dX3_inversions_9 (by decide) (fun c_9 => ?_) (fun c_9 => ?_)
  · replace hE := (if_pos c_9).symm.trans hE
    refine lv_iload_n hx hb dX3_inversions_58 rfl (lv_at hl 1 rfl) ?_
    have e_1 := Option.some.inj hE
    have e_0 := hr_1 _ e_1.symm
    rw [hQ]
    exact W.iret (v := v1_1) hx hb hr (fun t ht _ => ⟨_, rfl, e_0, ht⟩) (fun q h => by cases h) dX3_inversions_59
  · replace hE := (if_neg c_9).symm.trans hE
    refine lv_iconst (v := 0) hx hb dX3_inversions_12 (by decide) ?_
    refine lv_istore_n (lv' := [(3, .int (0 : Int32)), (0, .ref q_t), (1, .int v1_1), (2, .int v2_1)]) hx hb dX3_inversions_13 rfl hl (by decide) rfl (fun ls hl => ?_)
    refine itr_ind (fun (x2 : Int32 × Int32) => ∀ (ls : Array Slot), lv_has ls 5 [(0, .ref q_t), (1, .int x2.1), (2, .int v2_1), (3, .int x2.2)] → W p l e (headSpec wsX3_inversions ({ frames := 3, cells := 0, slots := 0, locals := 66 })).room s m ([.ref q_t] : List Value).toArray below meth c s.heap [] 0 0 Q (F0 m 14 ls [])) (fun x2 o_2 hE ih_2 hr_2 => ?_) _ _ hE ls (lv_sub hl [1, 2, 3, 0] rfl)
    obtain ⟨v1_2, v3_2⟩ := x2
    try dsimp only at hE
    intro ls hl
    try dsimp only at hl ⊢
    refine lv_iload_n hx hb dX3_inversions_14 rfl (lv_at hl 3 rfl) ?_
    refine lv_aload_n hx hb dX3_inversions_15 rfl (lv_at hl 0 rfl) ?_
    refine va_get (D := G.1) (ci := 3) (v := .int t_size) (C := RX3) (T := TX3) (N := 2) hx hb hts iX3 hown hK hP 0 rfl rfl 0 (by decide) fl_15 (fun _ h9 => h9) rfl dX3_inversions_16 ?_
    refine lv_icmp_ge (tgt := 52) hx hb dX3_inversions_19 (by decide) (fun c_19 => ?_) (fun c_19 => ?_)
    · replace hE := (if_pos c_19).symm.trans hE
      refine lv_iinc (v := v2_1 + (1 : Int32)) (lv' := [(2, .int (v2_1 + (1 : Int32))), (0, .ref q_t), (1, .int v1_2), (3, .int v3_2)]) hx hb dX3_inversions_52 hl (k := 2) rfl rfl (by decide) rfl (fun ls hl => ?_)
      refine lv_goto (tgt := 4) hx hb dX3_inversions_55 (by decide) ?_
      have e_2 := Option.some.inj hE
      have e_1 := hr_2 _ e_2.symm
      exact ih_1 _ e_1.symm ls (lv_sub hl [1, 2, 0] rfl)
    · replace hE := (if_neg c_19).symm.trans hE
      refine lv_iload_n hx hb dX3_inversions_22 rfl (lv_at hl 3 rfl) ?_
      refine lv_aload_n hx hb dX3_inversions_23 rfl (lv_at hl 0 rfl) ?_
      refine lv_iload_n hx hb dX3_inversions_24 rfl (lv_at hl 2 rfl) ?_
      refine lv_iconst (v := 1) hx hb dX3_inversions_25 (by decide) ?_
      refine lv_iadd hx hb dX3_inversions_26 ?_
      refine lv_iload_n hx hb dX3_inversions_27 rfl (lv_at hl 3 rfl) ?_
      obtain ⟨y28, hC_28, hE⟩ := Option.bind_eq_some_iff.mp hE
      obtain ⟨r_28, ex9⟩ : ∃ z, z = y28 := ⟨_, rfl⟩
      subst ex9
      try dsimp only at hE
      refine vp_callSi (va_Run.run (va_runV (As := [.int (v2_1 + (1 : Int32)), .int v3_2]) (rest := [.int v3_2]) ⟨hx, hb, hml, hown, hts⟩ (c_X3_cornerAt (l := l) (G := G) (p1 := v2_1 + (1 : Int32)) (p2 := v3_2) (q_t := q_t) (t_size := t_size) (q_t_corners := q_t_corners) (t_corners := t_corners) hC_28) (cwV 2 hts gX3_inversions_X3_cornerAt rfl rfl rfl kd_X3_cornerAt ⟨Nat.le_of_ble_eq_true rfl, Nat.le_of_ble_eq_true rfl⟩) (pv_V hKW (hP.sub (ws' := [oX3 q_t t_size q_t_corners, aI (G.2 1) q_t_corners 49 t_corners]) [0, 1] rfl) (ci := 3) (q0 := 0) rfl rfl) rfl rfl hl.1 rfl (lv_room (Nat.le_of_ble_eq_true rfl)) dX3_inversions_28 ⟨Nat.zero_le _, Nat.zero_le _⟩)) (fun r9 hr9 => ?_)
      subst r9
      refine lv_isub hx hb dX3_inversions_31 ?_
      refine lv_istore (lv' := [(4, .int (v3_2 - r_28)), (0, .ref q_t), (1, .int v1_2), (2, .int v2_1), (3, .int v3_2)]) hx hb dX3_inversions_32 hl (by decide) rfl (fun ls hl => ?_)
      refine lv_iload_n hx hb dX3_inversions_34 rfl (lv_at hl 2 rfl) ?_
      refine lv_aload_n hx hb dX3_inversions_35 rfl (lv_at hl 1 rfl) ?_
      refine lv_iload_n hx hb dX3_inversions_36 rfl (lv_at hl 3 rfl) ?_
      refine lv_iload_n hx hb dX3_inversions_37 rfl (lv_at hl 4 rfl) ?_
      obtain ⟨y38, hC_38, hE⟩ := Option.bind_eq_some_iff.mp hE
      obtain ⟨r_38, ex9⟩ : ∃ z, z = y38 := ⟨_, rfl⟩
      subst ex9
      try dsimp only at hE
      refine vp_callSi (va_Run.run (va_runV (As := [.int v2_1, .int v3_2]) (rest := [.int v1_2]) ⟨hx, hb, hml, hown, hts⟩ (c_X3_signAt (l := l) (G := G) (p1 := v2_1) (p2 := v3_2) (q_t := q_t) (t_size := t_size) (q_t_corners := q_t_corners) (t_corners := t_corners) hC_38) (cwV 2 hts gX3_inversions_X3_signAt rfl rfl rfl kd_X3_signAt ⟨Nat.le_of_ble_eq_true rfl, Nat.le_of_ble_eq_true rfl⟩) (pv_V hKW (hP.sub (ws' := [oX3 q_t t_size q_t_corners, aI (G.2 1) q_t_corners 49 t_corners]) [0, 1] rfl) (ci := 3) (q0 := 0) rfl rfl) rfl rfl hl.1 rfl (lv_room (Nat.le_of_ble_eq_true rfl)) dX3_inversions_38 ⟨Nat.zero_le _, Nat.zero_le _⟩)) (fun r9 hr9 => ?_)
      subst r9
      refine lv_iload hx hb dX3_inversions_41 (lv_at hl 0 rfl) ?_
      refine lv_imul hx hb dX3_inversions_43 ?_
      refine lv_iadd hx hb dX3_inversions_44 ?_
      refine lv_istore_n (lv' := [(1, .int (v1_2 + (r_38 * (v3_2 - r_28)))), (4, .int (v3_2 - r_28)), (0, .ref q_t), (2, .int v2_1), (3, .int v3_2)]) hx hb dX3_inversions_45 rfl hl (by decide) rfl (fun ls hl => ?_)
      refine lv_iinc (v := v3_2 + (1 : Int32)) (lv' := [(3, .int (v3_2 + (1 : Int32))), (1, .int (v1_2 + (r_38 * (v3_2 - r_28)))), (4, .int (v3_2 - r_28)), (0, .ref q_t), (2, .int v2_1)]) hx hb dX3_inversions_46 hl (k := 4) rfl rfl (by decide) rfl (fun ls hl => ?_)
      refine lv_goto (tgt := 14) hx hb dX3_inversions_49 (by decide) ?_
      have e_2 := Option.some.inj hE
      exact ih_2 _ e_2.symm ls (lv_sub hl [3, 1, 4, 0] rfl)
def S_X3_heightsTogether (t_size : Int32) (t_corners : Nat → Int32) : Option Int32 := itr (fun (x1 : Int32 × Int32) => if t_size < x1.2 then some (.inr x1.1) else itr (fun (x2 : Int32 × Int32) => if t_size < x2.2 then some (.inr (.inl (x2.1, x1.2 + (1 : Int32)))) else (S_X3_heightAt x1.2 x2.2 t_corners).bind (fun (y26 : Int32) => some (.inl (x2.1 + y26, x2.2 + (1 : Int32))))) 10000 (x1.1, (0 : Int32))) 10000 ((0 : Int32), (0 : Int32))
theorem kd_X3_heightsTogether : yX3_heightsTogether.cls = RX3 ∧ yX3_heightsTogether.cls ≠ "java/lang/invoke/MethodHandle" ∧ yX3_heightsTogether.cls ≠ "java/lang/invoke/VarHandle" ∧ (parseMethodDescriptor yX3_heightsTogether.desc).map (fun d => d.parameters.length) = some 0 := by decide +kernel
set_option maxHeartbeats 4000000 in
set_option maxRecDepth 100000 in
theorem c_X3_heightsTogether {l : Launch} {G : kG} {q_t : Nat} {t_size : Int32} {q_t_corners : Nat} {t_corners : Nat → Int32} {res : Int32} (hE : S_X3_heightsTogether t_size t_corners = some res) : Met l yX3_heightsTogether wsX3_heightsTogether ({ frames := 2, cells := 0, slots := 0, locals := 44 }) (va_Pc [.ref q_t] (fun U => va_P G.1 vwCl [oX3 q_t t_size q_t_corners, aI (G.2 1) q_t_corners 49 t_corners] U.heap ∧ kw G U)) (vp_Si (fun r => r = res)) 0 0 (fun _ => False) := by
  refine Met.ofQ (cc := cX3_heightsTogether) (maxL := 4) (ret := (some .int)) (by decide) rfl ?_
  intro p e s m args below meth c s₁ Q hQ B hml hv
  obtain ⟨rfl, hP, hKW⟩ := hv
  have hK := hKW.1
  have hx := B.exec
  have hb := B.bytes
  have hr := B.returns
  have hts := atoms_spec (ws := wsX3_heightsTogether) B.pre
  have hown : s.vm.findClass RX3 = some m.cls := findClass_of_methodNamed B.named
  have hlocks := B.notSynchronized
  have iX3 : ∀ w ∈ u_ws RX3 TX3 2, w ∈ wsX3_heightsTogether := by decide +kernel
  have fl_15 := hts (.fieldLink RX3 15 "AlternateSigns$Table" "size" "I") (by decide +kernel)
  have hl := lv_entry ([.ref q_t]) (n := 4) (Nat.le_of_ble_eq_true rfl)
  rw [lg_entry_eq]
  generalize (lg_sl ([.ref q_t]) ++ List.replicate (4 - (lg_sl ([.ref q_t])).length) Slot.unset).toArray = ls at hl ⊢
  have hl : lv_has ls 4 [(0, .ref q_t)] := hl
  unfold S_X3_heightsTogether at hE
  refine lv_iconst (v := 0) hx hb dX3_heightsTogether_0 (by decide) ?_
  refine lv_istore_n (lv' := [(1, .int (0 : Int32)), (0, .ref q_t)]) hx hb dX3_heightsTogether_1 rfl hl (by decide) rfl (fun ls hl => ?_)
  refine lv_iconst (v := 0) hx hb dX3_heightsTogether_2 (by decide) ?_
  refine lv_istore_n (lv' := [(2, .int (0 : Int32)), (1, .int (0 : Int32)), (0, .ref q_t)]) hx hb dX3_heightsTogether_3 rfl hl (by decide) rfl (fun ls hl => ?_)
  refine itr_ind (fun (x1 : Int32 × Int32) => ∀ (ls : Array Slot), lv_has ls 4 [(0, .ref q_t), (1, .int x1.1), (2, .int x1.2)] → W p l e (headSpec wsX3_heightsTogether ({ frames := 2, cells := 0, slots := 0, locals := 44 })).room s m ([.ref q_t] : List Value).toArray below meth c s.heap [] 0 0 Q (F0 m 4 ls [])) (fun x1 o_1 hE ih_1 hr_1 => ?_) _ _ hE ls (lv_sub hl [2, 1, 0] rfl)
  obtain ⟨v1_1, v2_1⟩ := x1
  try dsimp only at hE
  intro ls hl
  try dsimp only at hl ⊢
  refine lv_iload_n hx hb dX3_heightsTogether_4 rfl (lv_at hl 2 rfl) ?_
  refine lv_aload_n hx hb dX3_heightsTogether_5 rfl (lv_at hl 0 rfl) ?_
  refine va_get (D := G.1) (ci := 3) (v := .int t_size) (C := RX3) (T := TX3) (N := 2) hx hb hts iX3 hown hK hP 0 rfl rfl 0 (by decide) fl_15 (fun _ h9 => h9) rfl dX3_heightsTogether_6 ?_
  refine lv_icmp_gt (tgt := 43) hx hb dX3_heightsTogether_9 (by decide) (fun c_9 => ?_) (fun c_9 => ?_)
  · replace hE := (if_pos c_9).symm.trans hE
    refine lv_iload_n hx hb dX3_heightsTogether_43 rfl (lv_at hl 1 rfl) ?_
    have e_1 := Option.some.inj hE
    have e_0 := hr_1 _ e_1.symm
    rw [hQ]
    exact W.iret (v := v1_1) hx hb hr (fun t ht _ => ⟨_, rfl, e_0, ht⟩) (fun q h => by cases h) dX3_heightsTogether_44
  · replace hE := (if_neg c_9).symm.trans hE
    refine lv_iconst (v := 0) hx hb dX3_heightsTogether_12 (by decide) ?_
    refine lv_istore_n (lv' := [(3, .int (0 : Int32)), (0, .ref q_t), (1, .int v1_1), (2, .int v2_1)]) hx hb dX3_heightsTogether_13 rfl hl (by decide) rfl (fun ls hl => ?_)
    refine itr_ind (fun (x2 : Int32 × Int32) => ∀ (ls : Array Slot), lv_has ls 4 [(0, .ref q_t), (1, .int x2.1), (2, .int v2_1), (3, .int x2.2)] → W p l e (headSpec wsX3_heightsTogether ({ frames := 2, cells := 0, slots := 0, locals := 44 })).room s m ([.ref q_t] : List Value).toArray below meth c s.heap [] 0 0 Q (F0 m 14 ls [])) (fun x2 o_2 hE ih_2 hr_2 => ?_) _ _ hE ls (lv_sub hl [1, 2, 3, 0] rfl)
    obtain ⟨v1_2, v3_2⟩ := x2
    try dsimp only at hE
    intro ls hl
    try dsimp only at hl ⊢
    refine lv_iload_n hx hb dX3_heightsTogether_14 rfl (lv_at hl 3 rfl) ?_
    refine lv_aload_n hx hb dX3_heightsTogether_15 rfl (lv_at hl 0 rfl) ?_
    refine va_get (D := G.1) (ci := 3) (v := .int t_size) (C := RX3) (T := TX3) (N := 2) hx hb hts iX3 hown hK hP 0 rfl rfl 0 (by decide) fl_15 (fun _ h9 => h9) rfl dX3_heightsTogether_16 ?_
    refine lv_icmp_gt (tgt := 37) hx hb dX3_heightsTogether_19 (by decide) (fun c_19 => ?_) (fun c_19 => ?_)
    · replace hE := (if_pos c_19).symm.trans hE
      refine lv_iinc (v := v2_1 + (1 : Int32)) (lv' := [(2, .int (v2_1 + (1 : Int32))), (0, .ref q_t), (1, .int v1_2), (3, .int v3_2)]) hx hb dX3_heightsTogether_37 hl (k := 2) rfl rfl (by decide) rfl (fun ls hl => ?_)
      refine lv_goto (tgt := 4) hx hb dX3_heightsTogether_40 (by decide) ?_
      have e_2 := Option.some.inj hE
      have e_1 := hr_2 _ e_2.symm
      exact ih_1 _ e_1.symm ls (lv_sub hl [1, 2, 0] rfl)
    · replace hE := (if_neg c_19).symm.trans hE
      refine lv_iload_n hx hb dX3_heightsTogether_22 rfl (lv_at hl 1 rfl) ?_
      refine lv_aload_n hx hb dX3_heightsTogether_23 rfl (lv_at hl 0 rfl) ?_
      refine lv_iload_n hx hb dX3_heightsTogether_24 rfl (lv_at hl 2 rfl) ?_
      refine lv_iload_n hx hb dX3_heightsTogether_25 rfl (lv_at hl 3 rfl) ?_
      obtain ⟨y26, hC_26, hE⟩ := Option.bind_eq_some_iff.mp hE
      obtain ⟨r_26, ex9⟩ : ∃ z, z = y26 := ⟨_, rfl⟩
      subst ex9
      try dsimp only at hE
      refine vp_callSi (va_Run.run (va_runV (As := [.int v2_1, .int v3_2]) (rest := [.int v1_2]) ⟨hx, hb, hml, hown, hts⟩ (c_X3_heightAt (l := l) (G := G) (p1 := v2_1) (p2 := v3_2) (q_t := q_t) (t_size := t_size) (q_t_corners := q_t_corners) (t_corners := t_corners) hC_26) (cwV 2 hts gX3_heightsTogether_X3_heightAt rfl rfl rfl kd_X3_heightAt ⟨Nat.le_of_ble_eq_true rfl, Nat.le_of_ble_eq_true rfl⟩) (pv_V hKW (hP.sub (ws' := [oX3 q_t t_size q_t_corners, aI (G.2 1) q_t_corners 49 t_corners]) [0, 1] rfl) (ci := 3) (q0 := 0) rfl rfl) rfl rfl hl.1 rfl (lv_room (Nat.le_of_ble_eq_true rfl)) dX3_heightsTogether_26 ⟨Nat.zero_le _, Nat.zero_le _⟩)) (fun r9 hr9 => ?_)
      subst r9
      refine lv_iadd hx hb dX3_heightsTogether_29 ?_
      refine lv_istore_n (lv' := [(1, .int (v1_2 + r_26)), (0, .ref q_t), (2, .int v2_1), (3, .int v3_2)]) hx hb dX3_heightsTogether_30 rfl hl (by decide) rfl (fun ls hl => ?_)
      refine lv_iinc (v := v3_2 + (1 : Int32)) (lv' := [(3, .int (v3_2 + (1 : Int32))), (1, .int (v1_2 + r_26)), (0, .ref q_t), (2, .int v2_1)]) hx hb dX3_heightsTogether_31 hl (k := 3) rfl rfl (by decide) rfl (fun ls hl => ?_)
      refine lv_goto (tgt := 14) hx hb dX3_heightsTogether_34 (by decide) ?_
      have e_2 := Option.some.inj hE
      exact ih_2 _ e_2.symm ls (lv_sub hl [2, 1, 3, 0] rfl)
def S_X3_isDrawnAcross (p1 : Int32) (p2 : Int32) (t_corners : Nat → Int32) : Option Int32 := (S_X3_rowSum p1 p2 t_corners).bind (fun (y3 : Int32) => if (((y3 + p1) + p2) - ((y3 + p1) + p2) / (2 : Int32) * (2 : Int32)) = 0 then some (1 : Int32) else some (0 : Int32))
theorem kd_X3_isDrawnAcross : yX3_isDrawnAcross.cls = RX3 ∧ yX3_isDrawnAcross.cls ≠ "java/lang/invoke/MethodHandle" ∧ yX3_isDrawnAcross.cls ≠ "java/lang/invoke/VarHandle" ∧ (parseMethodDescriptor yX3_isDrawnAcross.desc).map (fun d => d.parameters.length) = some 2 := by decide +kernel
set_option maxHeartbeats 4000000 in
set_option maxRecDepth 100000 in
theorem c_X3_isDrawnAcross {l : Launch} {G : kG} {p1 : Int32} {p2 : Int32} {q_t : Nat} {t_size : Int32} {q_t_corners : Nat} {t_corners : Nat → Int32} {res : Int32} (hE : S_X3_isDrawnAcross p1 p2 t_corners = some res) : Met l yX3_isDrawnAcross wsX3_isDrawnAcross ({ frames := 2, cells := 0, slots := 0, locals := 44 }) (va_Pc [.ref q_t, .int p1, .int p2] (fun U => va_P G.1 vwCl [oX3 q_t t_size q_t_corners, aI (G.2 1) q_t_corners 49 t_corners] U.heap ∧ kw G U)) (vp_Si (fun r => r = res)) 0 0 (fun _ => False) := by
  refine Met.ofQ (cc := cX3_isDrawnAcross) (maxL := 3) (ret := (some .boolean)) (by decide) rfl ?_
  intro p e s m args below meth c s₁ Q hQ B hml hv
  obtain ⟨rfl, hP, hKW⟩ := hv
  have hK := hKW.1
  have hx := B.exec
  have hb := B.bytes
  have hr := B.returns
  have hts := atoms_spec (ws := wsX3_isDrawnAcross) B.pre
  have hown : s.vm.findClass RX3 = some m.cls := findClass_of_methodNamed B.named
  have hlocks := B.notSynchronized
  have hl := lv_entry ([.ref q_t, .int p1, .int p2]) (n := 3) (Nat.le_of_ble_eq_true rfl)
  rw [lg_entry_eq]
  generalize (lg_sl ([.ref q_t, .int p1, .int p2]) ++ List.replicate (3 - (lg_sl ([.ref q_t, .int p1, .int p2])).length) Slot.unset).toArray = ls at hl ⊢
  have hl : lv_has ls 3 [(0, .ref q_t), (1, .int p1), (2, .int p2)] := hl
  unfold S_X3_isDrawnAcross at hE
  refine lv_aload_n hx hb dX3_isDrawnAcross_0 rfl (lv_at hl 0 rfl) ?_
  refine lv_iload_n hx hb dX3_isDrawnAcross_1 rfl (lv_at hl 1 rfl) ?_
  refine lv_iload_n hx hb dX3_isDrawnAcross_2 rfl (lv_at hl 2 rfl) ?_
  obtain ⟨y3, hC_3, hE⟩ := Option.bind_eq_some_iff.mp hE
  obtain ⟨r_3, ex9⟩ : ∃ z, z = y3 := ⟨_, rfl⟩
  subst ex9
  try dsimp only at hE
  refine vp_callSi (va_Run.run (va_runV (As := [.int p1, .int p2]) (rest := []) ⟨hx, hb, hml, hown, hts⟩ (c_X3_rowSum (l := l) (G := G) (p1 := p1) (p2 := p2) (q_t := q_t) (t_size := t_size) (q_t_corners := q_t_corners) (t_corners := t_corners) hC_3) (cwV 2 hts gX3_isDrawnAcross_X3_rowSum rfl rfl rfl kd_X3_rowSum ⟨Nat.le_of_ble_eq_true rfl, Nat.le_of_ble_eq_true rfl⟩) (pv_V hKW (hP.sub (ws' := [oX3 q_t t_size q_t_corners, aI (G.2 1) q_t_corners 49 t_corners]) [0, 1] rfl) (ci := 3) (q0 := 0) rfl rfl) rfl rfl hl.1 rfl (lv_room (Nat.le_of_ble_eq_true rfl)) dX3_isDrawnAcross_3 ⟨Nat.zero_le _, Nat.zero_le _⟩)) (fun r9 hr9 => ?_)
  subst r9
  refine lv_iload_n hx hb dX3_isDrawnAcross_6 rfl (lv_at hl 1 rfl) ?_
  refine lv_iadd hx hb dX3_isDrawnAcross_7 ?_
  refine lv_iload_n hx hb dX3_isDrawnAcross_8 rfl (lv_at hl 2 rfl) ?_
  refine lv_iadd hx hb dX3_isDrawnAcross_9 ?_
  refine lv_iconst (v := 2) hx hb dX3_isDrawnAcross_10 (by decide) ?_
  refine lv_irem hx hb dX3_isDrawnAcross_11 (by decide) ?_
  refine lv_if_ne (tgt := 19) hx hb dX3_isDrawnAcross_12 (by decide) (fun c_12 => ?_) (fun c_12 => ?_)
  · replace hE := (if_neg c_12).symm.trans hE
    refine lv_iconst (v := 0) hx hb dX3_isDrawnAcross_19 (by decide) ?_
    have e_0 := Option.some.inj hE
    rw [hQ]
    exact W.zret (v := (0 : Int32)) hx hb hr rfl (fun t ht _ => ⟨_, rfl, e_0, ht⟩) (fun q h => by cases h) dX3_isDrawnAcross_20
  · replace hE := (if_pos c_12).symm.trans hE
    refine lv_iconst (v := 1) hx hb dX3_isDrawnAcross_15 (by decide) ?_
    refine lv_goto (tgt := 20) hx hb dX3_isDrawnAcross_16 (by decide) ?_
    have e_0 := Option.some.inj hE
    rw [hQ]
    exact W.zret (v := (1 : Int32)) hx hb hr rfl (fun t ht _ => ⟨_, rfl, e_0, ht⟩) (fun q h => by cases h) dX3_isDrawnAcross_20
def S_X3_isDrawnDown (p1 : Int32) (p2 : Int32) (t_corners : Nat → Int32) : Option Int32 := (S_X3_columnSum p1 p2 t_corners).bind (fun (y3 : Int32) => if (((y3 + p1) + p2) - ((y3 + p1) + p2) / (2 : Int32) * (2 : Int32)) = 0 then some (0 : Int32) else some (1 : Int32))
theorem kd_X3_isDrawnDown : yX3_isDrawnDown.cls = RX3 ∧ yX3_isDrawnDown.cls ≠ "java/lang/invoke/MethodHandle" ∧ yX3_isDrawnDown.cls ≠ "java/lang/invoke/VarHandle" ∧ (parseMethodDescriptor yX3_isDrawnDown.desc).map (fun d => d.parameters.length) = some 2 := by decide +kernel
set_option maxHeartbeats 4000000 in
set_option maxRecDepth 100000 in
theorem c_X3_isDrawnDown {l : Launch} {G : kG} {p1 : Int32} {p2 : Int32} {q_t : Nat} {t_size : Int32} {q_t_corners : Nat} {t_corners : Nat → Int32} {res : Int32} (hE : S_X3_isDrawnDown p1 p2 t_corners = some res) : Met l yX3_isDrawnDown wsX3_isDrawnDown ({ frames := 2, cells := 0, slots := 0, locals := 44 }) (va_Pc [.ref q_t, .int p1, .int p2] (fun U => va_P G.1 vwCl [oX3 q_t t_size q_t_corners, aI (G.2 1) q_t_corners 49 t_corners] U.heap ∧ kw G U)) (vp_Si (fun r => r = res)) 0 0 (fun _ => False) := by
  refine Met.ofQ (cc := cX3_isDrawnDown) (maxL := 3) (ret := (some .boolean)) (by decide) rfl ?_
  intro p e s m args below meth c s₁ Q hQ B hml hv
  obtain ⟨rfl, hP, hKW⟩ := hv
  have hK := hKW.1
  have hx := B.exec
  have hb := B.bytes
  have hr := B.returns
  have hts := atoms_spec (ws := wsX3_isDrawnDown) B.pre
  have hown : s.vm.findClass RX3 = some m.cls := findClass_of_methodNamed B.named
  have hlocks := B.notSynchronized
  have hl := lv_entry ([.ref q_t, .int p1, .int p2]) (n := 3) (Nat.le_of_ble_eq_true rfl)
  rw [lg_entry_eq]
  generalize (lg_sl ([.ref q_t, .int p1, .int p2]) ++ List.replicate (3 - (lg_sl ([.ref q_t, .int p1, .int p2])).length) Slot.unset).toArray = ls at hl ⊢
  have hl : lv_has ls 3 [(0, .ref q_t), (1, .int p1), (2, .int p2)] := hl
  unfold S_X3_isDrawnDown at hE
  refine lv_aload_n hx hb dX3_isDrawnDown_0 rfl (lv_at hl 0 rfl) ?_
  refine lv_iload_n hx hb dX3_isDrawnDown_1 rfl (lv_at hl 1 rfl) ?_
  refine lv_iload_n hx hb dX3_isDrawnDown_2 rfl (lv_at hl 2 rfl) ?_
  obtain ⟨y3, hC_3, hE⟩ := Option.bind_eq_some_iff.mp hE
  obtain ⟨r_3, ex9⟩ : ∃ z, z = y3 := ⟨_, rfl⟩
  subst ex9
  try dsimp only at hE
  refine vp_callSi (va_Run.run (va_runV (As := [.int p1, .int p2]) (rest := []) ⟨hx, hb, hml, hown, hts⟩ (c_X3_columnSum (l := l) (G := G) (p1 := p1) (p2 := p2) (q_t := q_t) (t_size := t_size) (q_t_corners := q_t_corners) (t_corners := t_corners) hC_3) (cwV 2 hts gX3_isDrawnDown_X3_columnSum rfl rfl rfl kd_X3_columnSum ⟨Nat.le_of_ble_eq_true rfl, Nat.le_of_ble_eq_true rfl⟩) (pv_V hKW (hP.sub (ws' := [oX3 q_t t_size q_t_corners, aI (G.2 1) q_t_corners 49 t_corners]) [0, 1] rfl) (ci := 3) (q0 := 0) rfl rfl) rfl rfl hl.1 rfl (lv_room (Nat.le_of_ble_eq_true rfl)) dX3_isDrawnDown_3 ⟨Nat.zero_le _, Nat.zero_le _⟩)) (fun r9 hr9 => ?_)
  subst r9
  refine lv_iload_n hx hb dX3_isDrawnDown_6 rfl (lv_at hl 1 rfl) ?_
  refine lv_iadd hx hb dX3_isDrawnDown_7 ?_
  refine lv_iload_n hx hb dX3_isDrawnDown_8 rfl (lv_at hl 2 rfl) ?_
  refine lv_iadd hx hb dX3_isDrawnDown_9 ?_
  refine lv_iconst (v := 2) hx hb dX3_isDrawnDown_10 (by decide) ?_
  refine lv_irem hx hb dX3_isDrawnDown_11 (by decide) ?_
  refine lv_if_eq (tgt := 19) hx hb dX3_isDrawnDown_12 (by decide) (fun c_12 => ?_) (fun c_12 => ?_)
  · replace hE := (if_pos c_12).symm.trans hE
    refine lv_iconst (v := 0) hx hb dX3_isDrawnDown_19 (by decide) ?_
    have e_0 := Option.some.inj hE
    rw [hQ]
    exact W.zret (v := (0 : Int32)) hx hb hr rfl (fun t ht _ => ⟨_, rfl, e_0, ht⟩) (fun q h => by cases h) dX3_isDrawnDown_20
  · replace hE := (if_neg c_12).symm.trans hE
    refine lv_iconst (v := 1) hx hb dX3_isDrawnDown_15 (by decide) ?_
    refine lv_goto (tgt := 20) hx hb dX3_isDrawnDown_16 (by decide) ?_
    have e_0 := Option.some.inj hE
    rw [hQ]
    exact W.zret (v := (1 : Int32)) hx hb hr rfl (fun t ht _ => ⟨_, rfl, e_0, ht⟩) (fun q h => by cases h) dX3_isDrawnDown_20
def S_X3_drawnEdges (t_size : Int32) (t_corners : Nat → Int32) : Option Int32 := itr (fun (x1 : Int32 × Int32) => if t_size < x1.2 then some (.inr x1.1) else itr (fun (x2 : Int32 × Int32) => if t_size < x2.2 then some (.inr (.inl (x2.1, x1.2 + (1 : Int32)))) else (S_X3_isDrawnAcross x2.2 x1.2 t_corners).bind (fun (y25 : Int32) => jn (if y25 = 0 then some (.inl x2.1) else some (.inl (x2.1 + (1 : Int32)))) (fun (x3 : Int32) => (S_X3_isDrawnDown x1.2 x2.2 t_corners).bind (fun (y37 : Int32) => if y37 = 0 then some (.inl (x3, x2.2 + (1 : Int32))) else some (.inl (x3 + (1 : Int32), x2.2 + (1 : Int32))))))) 10000 (x1.1, (1 : Int32))) 10000 ((0 : Int32), (0 : Int32))
theorem kd_X3_drawnEdges : yX3_drawnEdges.cls = RX3 ∧ yX3_drawnEdges.cls ≠ "java/lang/invoke/MethodHandle" ∧ yX3_drawnEdges.cls ≠ "java/lang/invoke/VarHandle" ∧ (parseMethodDescriptor yX3_drawnEdges.desc).map (fun d => d.parameters.length) = some 0 := by decide +kernel
set_option maxHeartbeats 4000000 in
set_option maxRecDepth 100000 in
theorem c_X3_drawnEdges {l : Launch} {G : kG} {q_t : Nat} {t_size : Int32} {q_t_corners : Nat} {t_corners : Nat → Int32} {res : Int32} (hE : S_X3_drawnEdges t_size t_corners = some res) : Met l yX3_drawnEdges wsX3_drawnEdges ({ frames := 3, cells := 0, slots := 0, locals := 66 }) (va_Pc [.ref q_t] (fun U => va_P G.1 vwCl [oX3 q_t t_size q_t_corners, aI (G.2 1) q_t_corners 49 t_corners] U.heap ∧ kw G U)) (vp_Si (fun r => r = res)) 0 0 (fun _ => False) := by
  refine Met.ofQ (cc := cX3_drawnEdges) (maxL := 4) (ret := (some .int)) (by decide) rfl ?_
  intro p e s m args below meth c s₁ Q hQ B hml hv
  obtain ⟨rfl, hP, hKW⟩ := hv
  have hK := hKW.1
  have hx := B.exec
  have hb := B.bytes
  have hr := B.returns
  have hts := atoms_spec (ws := wsX3_drawnEdges) B.pre
  have hown : s.vm.findClass RX3 = some m.cls := findClass_of_methodNamed B.named
  have hlocks := B.notSynchronized
  have iX3 : ∀ w ∈ u_ws RX3 TX3 2, w ∈ wsX3_drawnEdges := by decide +kernel
  have fl_15 := hts (.fieldLink RX3 15 "AlternateSigns$Table" "size" "I") (by decide +kernel)
  have hl := lv_entry ([.ref q_t]) (n := 4) (Nat.le_of_ble_eq_true rfl)
  rw [lg_entry_eq]
  generalize (lg_sl ([.ref q_t]) ++ List.replicate (4 - (lg_sl ([.ref q_t])).length) Slot.unset).toArray = ls at hl ⊢
  have hl : lv_has ls 4 [(0, .ref q_t)] := hl
  unfold S_X3_drawnEdges at hE
  refine lv_iconst (v := 0) hx hb dX3_drawnEdges_0 (by decide) ?_
  refine lv_istore_n (lv' := [(1, .int (0 : Int32)), (0, .ref q_t)]) hx hb dX3_drawnEdges_1 rfl hl (by decide) rfl (fun ls hl => ?_)
  refine lv_iconst (v := 0) hx hb dX3_drawnEdges_2 (by decide) ?_
  refine lv_istore_n (lv' := [(2, .int (0 : Int32)), (1, .int (0 : Int32)), (0, .ref q_t)]) hx hb dX3_drawnEdges_3 rfl hl (by decide) rfl (fun ls hl => ?_)
  refine itr_ind (fun (x1 : Int32 × Int32) => ∀ (ls : Array Slot), lv_has ls 4 [(0, .ref q_t), (1, .int x1.1), (2, .int x1.2)] → W p l e (headSpec wsX3_drawnEdges ({ frames := 3, cells := 0, slots := 0, locals := 66 })).room s m ([.ref q_t] : List Value).toArray below meth c s.heap [] 0 0 Q (F0 m 4 ls [])) (fun x1 o_1 hE ih_1 hr_1 => ?_) _ _ hE ls (lv_sub hl [2, 1, 0] rfl)
  obtain ⟨v1_1, v2_1⟩ := x1
  try dsimp only at hE
  intro ls hl
  try dsimp only at hl ⊢
  refine lv_iload_n hx hb dX3_drawnEdges_4 rfl (lv_at hl 2 rfl) ?_
  refine lv_aload_n hx hb dX3_drawnEdges_5 rfl (lv_at hl 0 rfl) ?_
  refine va_get (D := G.1) (ci := 3) (v := .int t_size) (C := RX3) (T := TX3) (N := 2) hx hb hts iX3 hown hK hP 0 rfl rfl 0 (by decide) fl_15 (fun _ h9 => h9) rfl dX3_drawnEdges_6 ?_
  refine lv_icmp_gt (tgt := 58) hx hb dX3_drawnEdges_9 (by decide) (fun c_9 => ?_) (fun c_9 => ?_)
  · replace hE := (if_pos c_9).symm.trans hE
    refine lv_iload_n hx hb dX3_drawnEdges_58 rfl (lv_at hl 1 rfl) ?_
    have e_1 := Option.some.inj hE
    have e_0 := hr_1 _ e_1.symm
    rw [hQ]
    exact W.iret (v := v1_1) hx hb hr (fun t ht _ => ⟨_, rfl, e_0, ht⟩) (fun q h => by cases h) dX3_drawnEdges_59
  · replace hE := (if_neg c_9).symm.trans hE
    refine lv_iconst (v := 1) hx hb dX3_drawnEdges_12 (by decide) ?_
    refine lv_istore_n (lv' := [(3, .int (1 : Int32)), (0, .ref q_t), (1, .int v1_1), (2, .int v2_1)]) hx hb dX3_drawnEdges_13 rfl hl (by decide) rfl (fun ls hl => ?_)
    refine itr_ind (fun (x2 : Int32 × Int32) => ∀ (ls : Array Slot), lv_has ls 4 [(0, .ref q_t), (1, .int x2.1), (2, .int v2_1), (3, .int x2.2)] → W p l e (headSpec wsX3_drawnEdges ({ frames := 3, cells := 0, slots := 0, locals := 66 })).room s m ([.ref q_t] : List Value).toArray below meth c s.heap [] 0 0 Q (F0 m 14 ls [])) (fun x2 o_2 hE ih_2 hr_2 => ?_) _ _ hE ls (lv_sub hl [1, 2, 3, 0] rfl)
    obtain ⟨v1_2, v3_2⟩ := x2
    try dsimp only at hE
    intro ls hl
    try dsimp only at hl ⊢
    refine lv_iload_n hx hb dX3_drawnEdges_14 rfl (lv_at hl 3 rfl) ?_
    refine lv_aload_n hx hb dX3_drawnEdges_15 rfl (lv_at hl 0 rfl) ?_
    refine va_get (D := G.1) (ci := 3) (v := .int t_size) (C := RX3) (T := TX3) (N := 2) hx hb hts iX3 hown hK hP 0 rfl rfl 0 (by decide) fl_15 (fun _ h9 => h9) rfl dX3_drawnEdges_16 ?_
    refine lv_icmp_gt (tgt := 52) hx hb dX3_drawnEdges_19 (by decide) (fun c_19 => ?_) (fun c_19 => ?_)
    · replace hE := (if_pos c_19).symm.trans hE
      refine lv_iinc (v := v2_1 + (1 : Int32)) (lv' := [(2, .int (v2_1 + (1 : Int32))), (0, .ref q_t), (1, .int v1_2), (3, .int v3_2)]) hx hb dX3_drawnEdges_52 hl (k := 2) rfl rfl (by decide) rfl (fun ls hl => ?_)
      refine lv_goto (tgt := 4) hx hb dX3_drawnEdges_55 (by decide) ?_
      have e_2 := Option.some.inj hE
      have e_1 := hr_2 _ e_2.symm
      exact ih_1 _ e_1.symm ls (lv_sub hl [1, 2, 0] rfl)
    · replace hE := (if_neg c_19).symm.trans hE
      refine lv_aload_n hx hb dX3_drawnEdges_22 rfl (lv_at hl 0 rfl) ?_
      refine lv_iload_n hx hb dX3_drawnEdges_23 rfl (lv_at hl 3 rfl) ?_
      refine lv_iload_n hx hb dX3_drawnEdges_24 rfl (lv_at hl 2 rfl) ?_
      obtain ⟨y25, hC_25, hE⟩ := Option.bind_eq_some_iff.mp hE
      obtain ⟨r_25, ex9⟩ : ∃ z, z = y25 := ⟨_, rfl⟩
      subst ex9
      try dsimp only at hE
      refine vp_callSi (va_Run.run (va_runV (As := [.int v3_2, .int v2_1]) (rest := []) ⟨hx, hb, hml, hown, hts⟩ (c_X3_isDrawnAcross (l := l) (G := G) (p1 := v3_2) (p2 := v2_1) (q_t := q_t) (t_size := t_size) (q_t_corners := q_t_corners) (t_corners := t_corners) hC_25) (cwV 2 hts gX3_drawnEdges_X3_isDrawnAcross rfl rfl rfl kd_X3_isDrawnAcross ⟨Nat.le_of_ble_eq_true rfl, Nat.le_of_ble_eq_true rfl⟩) (pv_V hKW (hP.sub (ws' := [oX3 q_t t_size q_t_corners, aI (G.2 1) q_t_corners 49 t_corners]) [0, 1] rfl) (ci := 3) (q0 := 0) rfl rfl) rfl rfl hl.1 rfl (lv_room (Nat.le_of_ble_eq_true rfl)) dX3_drawnEdges_25 ⟨Nat.zero_le _, Nat.zero_le _⟩)) (fun r9 hr9 => ?_)
      subst r9
      obtain ⟨o_3, hEp, hk9, hr_3⟩ := jn_some hE
      have ih_3 : ∀ (x3 : Int32), o_3 = .inl x3 → ∀ (ls : Array Slot), lv_has ls 4 [(0, .ref q_t), (1, .int x3), (2, .int v2_1), (3, .int v3_2)] → W p l e (headSpec wsX3_drawnEdges ({ frames := 3, cells := 0, slots := 0, locals := 66 })).room s m ([.ref q_t] : List Value).toArray below meth c s.heap [] 0 0 Q (F0 m 34 ls []) := by
        intro x3 ho9
        have hE := hk9 _ ho9
        obtain ⟨v1_3, ex9⟩ : ∃ z, z = x3 := ⟨_, rfl⟩
        subst ex9
        try dsimp only at hE
        intro ls hl
        try dsimp only at hl ⊢
        refine lv_aload_n hx hb dX3_drawnEdges_34 rfl (lv_at hl 0 rfl) ?_
        refine lv_iload_n hx hb dX3_drawnEdges_35 rfl (lv_at hl 2 rfl) ?_
        refine lv_iload_n hx hb dX3_drawnEdges_36 rfl (lv_at hl 3 rfl) ?_
        obtain ⟨y37, hC_37, hE⟩ := Option.bind_eq_some_iff.mp hE
        obtain ⟨r_37, ex9⟩ : ∃ z, z = y37 := ⟨_, rfl⟩
        subst ex9
        try dsimp only at hE
        refine vp_callSi (va_Run.run (va_runV (As := [.int v2_1, .int v3_2]) (rest := []) ⟨hx, hb, hml, hown, hts⟩ (c_X3_isDrawnDown (l := l) (G := G) (p1 := v2_1) (p2 := v3_2) (q_t := q_t) (t_size := t_size) (q_t_corners := q_t_corners) (t_corners := t_corners) hC_37) (cwV 2 hts gX3_drawnEdges_X3_isDrawnDown rfl rfl rfl kd_X3_isDrawnDown ⟨Nat.le_of_ble_eq_true rfl, Nat.le_of_ble_eq_true rfl⟩) (pv_V hKW (hP.sub (ws' := [oX3 q_t t_size q_t_corners, aI (G.2 1) q_t_corners 49 t_corners]) [0, 1] rfl) (ci := 3) (q0 := 0) rfl rfl) rfl rfl hl.1 rfl (lv_room (Nat.le_of_ble_eq_true rfl)) dX3_drawnEdges_37 ⟨Nat.zero_le _, Nat.zero_le _⟩)) (fun r9 hr9 => ?_)
        subst r9
        refine lv_if_eq (tgt := 46) hx hb dX3_drawnEdges_40 (by decide) (fun c_40 => ?_) (fun c_40 => ?_)
        · replace hE := (if_pos c_40).symm.trans hE
          refine lv_iinc (v := v3_2 + (1 : Int32)) (lv' := [(3, .int (v3_2 + (1 : Int32))), (0, .ref q_t), (1, .int v1_3), (2, .int v2_1)]) hx hb dX3_drawnEdges_46 hl (k := 3) rfl rfl (by decide) rfl (fun ls hl => ?_)
          refine lv_goto (tgt := 14) hx hb dX3_drawnEdges_49 (by decide) ?_
          have e_2 := Option.some.inj hE
          exact ih_2 _ e_2.symm ls (lv_sub hl [1, 2, 3, 0] rfl)
        · replace hE := (if_neg c_40).symm.trans hE
          refine lv_iinc (v := v1_3 + (1 : Int32)) (lv' := [(1, .int (v1_3 + (1 : Int32))), (0, .ref q_t), (2, .int v2_1), (3, .int v3_2)]) hx hb dX3_drawnEdges_43 hl (k := 1) rfl rfl (by decide) rfl (fun ls hl => ?_)
          refine lv_iinc (v := v3_2 + (1 : Int32)) (lv' := [(3, .int (v3_2 + (1 : Int32))), (1, .int (v1_3 + (1 : Int32))), (0, .ref q_t), (2, .int v2_1)]) hx hb dX3_drawnEdges_46 hl (k := 3) rfl rfl (by decide) rfl (fun ls hl => ?_)
          refine lv_goto (tgt := 14) hx hb dX3_drawnEdges_49 (by decide) ?_
          have e_2 := Option.some.inj hE
          exact ih_2 _ e_2.symm ls (lv_sub hl [2, 1, 3, 0] rfl)
      clear hE hk9
      have hE := hEp
      clear hEp
      refine lv_if_eq (tgt := 34) hx hb dX3_drawnEdges_28 (by decide) (fun c_28 => ?_) (fun c_28 => ?_)
      · replace hE := (if_pos c_28).symm.trans hE
        have e_3 := Option.some.inj hE
        exact ih_3 _ e_3.symm ls (lv_sub hl [0, 1, 2, 3] rfl)
      · replace hE := (if_neg c_28).symm.trans hE
        refine lv_iinc (v := v1_2 + (1 : Int32)) (lv' := [(1, .int (v1_2 + (1 : Int32))), (0, .ref q_t), (2, .int v2_1), (3, .int v3_2)]) hx hb dX3_drawnEdges_31 hl (k := 1) rfl rfl (by decide) rfl (fun ls hl => ?_)
        have e_3 := Option.some.inj hE
        exact ih_3 _ e_3.symm ls (lv_sub hl [1, 0, 2, 3] rfl)
def S_X3_flipAt (p1 : Int32) (p2 : Int32) (t_corners : Nat → Int32) : Option (Nat → Int32) := (S_X3_flipKind p1 p2 t_corners).bind (fun (y3 : Int32) => jn (if y3 = (1 : Int32) then some (.inl (-1 : Int32)) else some (.inl (1 : Int32))) (fun (x1 : Int32) => (S_X3_cornerAt p1 p2 t_corners).bind (fun (y22 : Int32) => (S_X3_putCorner p1 p2 (y22 + x1) t_corners).bind (fun (y27 : Nat → Int32) => some y27))))
theorem kd_X3_flipAt : yX3_flipAt.cls = RX3 ∧ yX3_flipAt.cls ≠ "java/lang/invoke/MethodHandle" ∧ yX3_flipAt.cls ≠ "java/lang/invoke/VarHandle" ∧ (parseMethodDescriptor yX3_flipAt.desc).map (fun d => d.parameters.length) = some 2 := by decide +kernel
set_option maxHeartbeats 4000000 in
set_option maxRecDepth 100000 in
theorem c_X3_flipAt {l : Launch} {G : kG} (sz : Nat) {p1 : Int32} {p2 : Int32} {q_t : Nat} {t_size : Int32} {q_t_corners : Nat} {t_corners : Nat → Int32} {res : Nat → Int32} (hE : S_X3_flipAt p1 p2 t_corners = some res) : Met l yX3_flipAt wsX3_flipAt ({ frames := 3, cells := 0, slots := 0, locals := 67 }) (va_Pc [.ref q_t, .int p1, .int p2] (fun U => U.heap.size = sz ∧ va_P G.1 vwCl [oX3 q_t t_size q_t_corners, aI (G.2 1) q_t_corners 49 t_corners] U.heap ∧ kw G U ∧ va_D (fun _ => True) [oX3 q_t t_size q_t_corners, aI (G.2 1) q_t_corners 49 t_corners])) (va_Qv (fun (_ : Unit) => True) (fun _ t => va_P G.1 vwCl [oX3 q_t t_size q_t_corners, aI (G.2 1) q_t_corners 49 res] t.heap ∧ va_D (va_A [oX3 q_t t_size q_t_corners, aI (G.2 1) q_t_corners 49 t_corners] sz) [oX3 q_t t_size q_t_corners, aI (G.2 1) q_t_corners 49 res]) (va_A [oX3 q_t t_size q_t_corners, aI (G.2 1) q_t_corners 49 t_corners] sz)) 0 0 (va_A [oX3 q_t t_size q_t_corners, aI (G.2 1) q_t_corners 49 t_corners] sz) := by
  refine Met.ofQ (cc := cX3_flipAt) (maxL := 4) (ret := none) (by decide) rfl ?_
  intro p e s m args below meth c s₁ Q hQ B hml hv
  obtain ⟨rfl, hsz, hP, hKW, hD0⟩ := hv
  have hK := hKW.1
  have hx := B.exec
  have hb := B.bytes
  have hr := B.returns
  have hts := atoms_spec (ws := wsX3_flipAt) B.pre
  have hown : s.vm.findClass RX3 = some m.cls := findClass_of_methodNamed B.named
  have hlocks := B.notSynchronized
  subst hsz
  have hD := hD0.self (sz := s.heap.size)
  generalize hAe : va_A [oX3 q_t t_size q_t_corners, aI (G.2 1) q_t_corners 49 t_corners] s.heap.size = A at hD hQ
  have hA : ∀ q : Nat, s.heap.size ≤ q → A q := fun q h => by rw [← hAe]; exact Or.inr h
  have hS : va_S A s.heap s.heap [] := va_S.rf
  have hl := lv_entry ([.ref q_t, .int p1, .int p2]) (n := 4) (Nat.le_of_ble_eq_true rfl)
  rw [lg_entry_eq]
  generalize (lg_sl ([.ref q_t, .int p1, .int p2]) ++ List.replicate (4 - (lg_sl ([.ref q_t, .int p1, .int p2])).length) Slot.unset).toArray = ls at hl ⊢
  have hl : lv_has ls 4 [(0, .ref q_t), (1, .int p1), (2, .int p2)] := hl
  unfold S_X3_flipAt at hE
  refine lv_aload_n hx hb dX3_flipAt_0 rfl (lv_at hl 0 rfl) ?_
  refine lv_iload_n hx hb dX3_flipAt_1 rfl (lv_at hl 1 rfl) ?_
  refine lv_iload_n hx hb dX3_flipAt_2 rfl (lv_at hl 2 rfl) ?_
  obtain ⟨y3, hC_3, hE⟩ := Option.bind_eq_some_iff.mp hE
  obtain ⟨r_3, ex9⟩ : ∃ z, z = y3 := ⟨_, rfl⟩
  subst ex9
  try dsimp only at hE
  refine vp_callSi (va_Run.run (va_runV (As := [.int p1, .int p2]) (rest := []) ⟨hx, hb, hml, hown, hts⟩ (c_X3_flipKind (l := l) (G := G) (p1 := p1) (p2 := p2) (q_t := q_t) (t_size := t_size) (q_t_corners := q_t_corners) (t_corners := t_corners) hC_3) (cwV 2 hts gX3_flipAt_X3_flipKind rfl rfl rfl kd_X3_flipKind ⟨Nat.le_of_ble_eq_true rfl, Nat.le_of_ble_eq_true rfl⟩) (pv_V hKW (hP.sub (ws' := [oX3 q_t t_size q_t_corners, aI (G.2 1) q_t_corners 49 t_corners]) [0, 1] rfl) (ci := 3) (q0 := 0) rfl rfl) rfl rfl hl.1 rfl (lv_room (Nat.le_of_ble_eq_true rfl)) dX3_flipAt_3 ⟨Nat.zero_le _, Nat.zero_le _⟩)) (fun r9 hr9 => ?_)
  subst r9
  refine lv_iconst (v := 1) hx hb dX3_flipAt_6 (by decide) ?_
  obtain ⟨o_1, hEp, hk9, hr_1⟩ := jn_some hE
  have ih_1 : ∀ (x1 : Int32), o_1 = .inl x1 → ∀ (H : Heap) (locs : List Loc) (ls : Array Slot), va_P G.1 vwCl [oX3 q_t t_size q_t_corners, aI (G.2 1) q_t_corners 49 t_corners] H → va_D A [oX3 q_t t_size q_t_corners, aI (G.2 1) q_t_corners 49 t_corners] → va_S A s.heap H locs → lv_has ls 4 [(0, .ref q_t), (1, .int p1), (2, .int p2)] → W p l e (headSpec wsX3_flipAt ({ frames := 3, cells := 0, slots := 0, locals := 67 })).room s m ([.ref q_t, .int p1, .int p2] : List Value).toArray below meth c H locs 0 0 Q (F0 m 15 ls [.int x1]) := by
    intro x1 ho9
    have hE := hk9 _ ho9
    obtain ⟨k0_1, ex9⟩ : ∃ z, z = x1 := ⟨_, rfl⟩
    subst ex9
    try dsimp only at hE
    intro H locs ls hP hD hS hl
    try dsimp only at hP hD hl ⊢
    refine lv_istore_n (lv' := [(3, .int k0_1), (0, .ref q_t), (1, .int p1), (2, .int p2)]) hx hb dX3_flipAt_15 rfl hl (by decide) rfl (fun ls hl => ?_)
    refine lv_aload_n hx hb dX3_flipAt_16 rfl (lv_at hl 1 rfl) ?_
    refine lv_iload_n hx hb dX3_flipAt_17 rfl (lv_at hl 2 rfl) ?_
    refine lv_iload_n hx hb dX3_flipAt_18 rfl (lv_at hl 3 rfl) ?_
    refine lv_aload_n hx hb dX3_flipAt_19 rfl (lv_at hl 1 rfl) ?_
    refine lv_iload_n hx hb dX3_flipAt_20 rfl (lv_at hl 2 rfl) ?_
    refine lv_iload_n hx hb dX3_flipAt_21 rfl (lv_at hl 3 rfl) ?_
    obtain ⟨y22, hC_22, hE⟩ := Option.bind_eq_some_iff.mp hE
    obtain ⟨r_22, ex9⟩ : ∃ z, z = y22 := ⟨_, rfl⟩
    subst ex9
    try dsimp only at hE
    refine vp_callSi (va_Run.run (va_runV (As := [.int p1, .int p2]) (rest := [.int p2, .int p1, .ref q_t]) ⟨hx, hb, hml, hown, hts⟩ (c_X3_cornerAt (l := l) (G := G) (p1 := p1) (p2 := p2) (q_t := q_t) (t_size := t_size) (q_t_corners := q_t_corners) (t_corners := t_corners) hC_22) (cwV 2 hts gX3_flipAt_X3_cornerAt rfl rfl rfl kd_X3_cornerAt ⟨Nat.le_of_ble_eq_true rfl, Nat.le_of_ble_eq_true rfl⟩) (pv_V hKW (hP.sub (ws' := [oX3 q_t t_size q_t_corners, aI (G.2 1) q_t_corners 49 t_corners]) [0, 1] rfl) (ci := 3) (q0 := 0) rfl rfl) rfl rfl hl.1 rfl (lv_room (Nat.le_of_ble_eq_true rfl)) dX3_flipAt_22 ⟨Nat.zero_le _, Nat.zero_le _⟩)) (fun r9 hr9 => ?_)
    subst r9
    refine lv_iload_n hx hb dX3_flipAt_25 rfl (lv_at hl 0 rfl) ?_
    refine lv_iadd hx hb dX3_flipAt_26 ?_
    obtain ⟨y27, hC_27, hE⟩ := Option.bind_eq_some_iff.mp hE
    obtain ⟨m_27_0, ex9⟩ : ∃ z, z = y27 := ⟨_, rfl⟩
    subst ex9
    try dsimp only at hE
    have hPc := hP.sub (ws' := [oX3 q_t t_size q_t_corners, aI (G.2 1) q_t_corners 49 t_corners]) [0, 1] rfl
    have hDc := hD.sub (ws' := [oX3 q_t t_size q_t_corners, aI (G.2 1) q_t_corners 49 t_corners]) [0, 1] (by decide) rfl
    have hFc := va_free (wc := [oX3 q_t t_size q_t_corners, aI (G.2 1) q_t_corners 49 t_corners]) hD hS hA [0, 1] rfl
    refine va_callv (va_runV (As := [.int p1, .int p2, .int (r_22 + k0_1)]) (rest := []) ⟨hx, hb, hml, hown, hts⟩ (c_X3_putCorner (l := l) (G := G) _ (p1 := p1) (p2 := p2) (p3 := r_22 + k0_1) (q_t := q_t) (t_size := t_size) (q_t_corners := q_t_corners) (t_corners := t_corners) hC_27) (cwV 3 hts gX3_flipAt_X3_putCorner rfl rfl rfl kd_X3_putCorner ⟨Nat.le_of_ble_eq_true rfl, Nat.le_of_ble_eq_true rfl⟩) (iv_V hKW hPc hDc (ci := 3) (q0 := 0) rfl rfl) rfl rfl hl.1 rfl (lv_room (Nat.le_of_ble_eq_true rfl)) dX3_flipAt_27 ⟨Nat.zero_le _, Nat.zero_le _⟩) hS (fun q _ h => hFc q h) hFc (fun u9 t9 H1 locs ht9 hvm9 hw9 hB9 hz9 hk9 hS => ?_)
    obtain ⟨hP1, hD1⟩ := hB9
    rw [ht9] at hP1
    obtain ⟨hP, hD⟩ := va_join (wr := []) (w1 := [oX3 q_t t_size q_t_corners, aI (G.2 1) q_t_corners 49 m_27_0]) hP hD [0, 1] [] rfl rfl (by decide) (by decide) hk9 hFc hP1 hD1
    have hP := hP.sub (ws' := [oX3 q_t t_size q_t_corners, aI (G.2 1) q_t_corners 49 m_27_0]) [0, 1] rfl
    have hD := hD.sub (ws' := [oX3 q_t t_size q_t_corners, aI (G.2 1) q_t_corners 49 m_27_0]) [0, 1] (by decide) rfl
    clear hPc hDc hFc hP1 hD1 hk9 hz9 hvm9
    have e_0 := Option.some.inj hE
    subst e_0
    rw [hQ]
    exact W.vret hx hb hr (fun t ht _ => ⟨⟨(), rfl, trivial, by rw [ht]; exact hP, hD⟩, hS.F ht⟩) hS.2.2 dX3_flipAt_30
  clear hE hk9
  have hE := hEp
  clear hEp
  refine lv_icmp_ne (tgt := 14) hx hb dX3_flipAt_7 (by decide) (fun c_7 => ?_) (fun c_7 => ?_)
  · replace hE := (if_neg c_7).symm.trans hE
    refine lv_iconst (v := 1) hx hb dX3_flipAt_14 (by decide) ?_
    have e_1 := Option.some.inj hE
    exact ih_1 _ e_1.symm _ _ ls hP hD hS (lv_sub hl [0, 1, 2] rfl)
  · replace hE := (if_pos c_7).symm.trans hE
    refine lv_iconst (v := -1) hx hb dX3_flipAt_10 (by decide) ?_
    refine lv_goto (tgt := 15) hx hb dX3_flipAt_11 (by decide) ?_
    have e_1 := Option.some.inj hE
    exact ih_1 _ e_1.symm _ _ ls hP hD hS (lv_sub hl [0, 1, 2] rfl)
def S_X3_flipAll (p1 : Int32) (t_size : Int32) (t_corners : Nat → Int32) : Option (Int32 × (Nat → Int32)) := itr (fun (x1 : Int32 × Int32 × (Nat → Int32)) => if t_size ≤ x1.2.1 then some (.inr (x1.1, x1.2.2)) else itr (fun (x2 : Int32 × Int32 × (Nat → Int32)) => if t_size ≤ x2.2.1 then some (.inr (.inl (x2.1, x1.2.1 + (1 : Int32), x2.2.2))) else if ((x1.2.1 + x2.2.1) - (x1.2.1 + x2.2.1) / (2 : Int32) * (2 : Int32)) = p1 then (S_X3_flipKind x1.2.1 x2.2.1 x2.2.2).bind (fun (y38 : Int32) => if y38 = 0 then some (.inl (x2.1, x2.2.1 + (1 : Int32), x2.2.2)) else (S_X3_flipAt x1.2.1 x2.2.1 x2.2.2).bind (fun (y48 : Nat → Int32) => some (.inl (x2.1 + (1 : Int32), x2.2.1 + (1 : Int32), y48)))) else some (.inl (x2.1, x2.2.1 + (1 : Int32), x2.2.2))) 10000 (x1.1, (1 : Int32), x1.2.2)) 10000 ((0 : Int32), (1 : Int32), t_corners)
theorem kd_X3_flipAll : yX3_flipAll.cls = RX3 ∧ yX3_flipAll.cls ≠ "java/lang/invoke/MethodHandle" ∧ yX3_flipAll.cls ≠ "java/lang/invoke/VarHandle" ∧ (parseMethodDescriptor yX3_flipAll.desc).map (fun d => d.parameters.length) = some 1 := by decide +kernel
set_option maxHeartbeats 4000000 in
set_option maxRecDepth 100000 in
theorem c_X3_flipAll {l : Launch} {G : kG} (sz : Nat) {p1 : Int32} {q_t : Nat} {t_size : Int32} {q_t_corners : Nat} {t_corners : Nat → Int32} {res : Int32 × (Nat → Int32)} (hE : S_X3_flipAll p1 t_size t_corners = some res) : Met l yX3_flipAll wsX3_flipAll ({ frames := 4, cells := 0, slots := 0, locals := 90 }) (va_Pc [.ref q_t, .int p1] (fun U => U.heap.size = sz ∧ va_P G.1 vwCl [oX3 q_t t_size q_t_corners, aI (G.2 1) q_t_corners 49 t_corners] U.heap ∧ kw G U ∧ va_D (fun _ => True) [oX3 q_t t_size q_t_corners, aI (G.2 1) q_t_corners 49 t_corners])) (va_Qi (fun r (_ : Unit) => r = res.1) (fun _ t => va_P G.1 vwCl [oX3 q_t t_size q_t_corners, aI (G.2 1) q_t_corners 49 res.2] t.heap ∧ va_D (va_A [oX3 q_t t_size q_t_corners, aI (G.2 1) q_t_corners 49 t_corners] sz) [oX3 q_t t_size q_t_corners, aI (G.2 1) q_t_corners 49 res.2]) (va_A [oX3 q_t t_size q_t_corners, aI (G.2 1) q_t_corners 49 t_corners] sz)) 0 0 (va_A [oX3 q_t t_size q_t_corners, aI (G.2 1) q_t_corners 49 t_corners] sz) := by
  refine Met.ofQ (cc := cX3_flipAll) (maxL := 5) (ret := (some .int)) (by decide) rfl ?_
  intro p e s m args below meth c s₁ Q hQ B hml hv
  obtain ⟨rfl, hsz, hP, hKW, hD0⟩ := hv
  have hK := hKW.1
  have hx := B.exec
  have hb := B.bytes
  have hr := B.returns
  have hts := atoms_spec (ws := wsX3_flipAll) B.pre
  have hown : s.vm.findClass RX3 = some m.cls := findClass_of_methodNamed B.named
  have hlocks := B.notSynchronized
  have iX3 : ∀ w ∈ u_ws RX3 TX3 2, w ∈ wsX3_flipAll := by decide +kernel
  have fl_15 := hts (.fieldLink RX3 15 "AlternateSigns$Table" "size" "I") (by decide +kernel)
  subst hsz
  have hD := hD0.self (sz := s.heap.size)
  generalize hAe : va_A [oX3 q_t t_size q_t_corners, aI (G.2 1) q_t_corners 49 t_corners] s.heap.size = A at hD hQ
  have hA : ∀ q : Nat, s.heap.size ≤ q → A q := fun q h => by rw [← hAe]; exact Or.inr h
  have hS : va_S A s.heap s.heap [] := va_S.rf
  have hl := lv_entry ([.ref q_t, .int p1]) (n := 5) (Nat.le_of_ble_eq_true rfl)
  rw [lg_entry_eq]
  generalize (lg_sl ([.ref q_t, .int p1]) ++ List.replicate (5 - (lg_sl ([.ref q_t, .int p1])).length) Slot.unset).toArray = ls at hl ⊢
  have hl : lv_has ls 5 [(0, .ref q_t), (1, .int p1)] := hl
  unfold S_X3_flipAll at hE
  refine lv_iconst (v := 0) hx hb dX3_flipAll_0 (by decide) ?_
  refine lv_istore_n (lv' := [(2, .int (0 : Int32)), (0, .ref q_t), (1, .int p1)]) hx hb dX3_flipAll_1 rfl hl (by decide) rfl (fun ls hl => ?_)
  refine lv_iconst (v := 1) hx hb dX3_flipAll_2 (by decide) ?_
  refine lv_istore_n (lv' := [(3, .int (1 : Int32)), (2, .int (0 : Int32)), (0, .ref q_t), (1, .int p1)]) hx hb dX3_flipAll_3 rfl hl (by decide) rfl (fun ls hl => ?_)
  refine itr_ind (fun (x1 : Int32 × Int32 × (Nat → Int32)) => ∀ (H : Heap) (locs : List Loc) (ls : Array Slot), va_P G.1 vwCl [oX3 q_t t_size q_t_corners, aI (G.2 1) q_t_corners 49 x1.2.2] H → va_D A [oX3 q_t t_size q_t_corners, aI (G.2 1) q_t_corners 49 x1.2.2] → va_S A s.heap H locs → lv_has ls 5 [(0, .ref q_t), (1, .int p1), (2, .int x1.1), (3, .int x1.2.1)] → W p l e (headSpec wsX3_flipAll ({ frames := 4, cells := 0, slots := 0, locals := 90 })).room s m ([.ref q_t, .int p1] : List Value).toArray below meth c H locs 0 0 Q (F0 m 4 ls [])) (fun x1 o_1 hE ih_1 hr_1 => ?_) _ _ hE _ _ ls hP hD hS (lv_sub hl [2, 3, 1, 0] rfl)
  obtain ⟨v2_1, v3_1, w_t_corners_1⟩ := x1
  try dsimp only at hE
  intro H locs ls hP hD hS hl
  try dsimp only at hP hD hl ⊢
  refine lv_iload_n hx hb dX3_flipAll_4 rfl (lv_at hl 3 rfl) ?_
  refine lv_aload_n hx hb dX3_flipAll_5 rfl (lv_at hl 0 rfl) ?_
  refine va_get (D := G.1) (ci := 3) (v := .int t_size) (C := RX3) (T := TX3) (N := 2) hx hb hts iX3 hown hK hP 0 rfl rfl 0 (by decide) fl_15 (fun _ h9 => h9) rfl dX3_flipAll_6 ?_
  refine lv_icmp_ge (tgt := 66) hx hb dX3_flipAll_9 (by decide) (fun c_9 => ?_) (fun c_9 => ?_)
  · replace hE := (if_pos c_9).symm.trans hE
    refine lv_iload_n hx hb dX3_flipAll_66 rfl (lv_at hl 2 rfl) ?_
    have e_1 := Option.some.inj hE
    have e_0 := hr_1 _ e_1.symm
    subst e_0
    rw [hQ]
    exact W.iret (v := v2_1) hx hb hr (fun t ht _ => ⟨⟨_, (), rfl, rfl, by rw [ht]; exact hP, hD⟩, hS.F ht⟩) hS.2.2 dX3_flipAll_67
  · replace hE := (if_neg c_9).symm.trans hE
    refine lv_iconst (v := 1) hx hb dX3_flipAll_12 (by decide) ?_
    refine lv_istore (lv' := [(4, .int (1 : Int32)), (0, .ref q_t), (1, .int p1), (2, .int v2_1), (3, .int v3_1)]) hx hb dX3_flipAll_13 hl (by decide) rfl (fun ls hl => ?_)
    refine itr_ind (fun (x2 : Int32 × Int32 × (Nat → Int32)) => ∀ (H : Heap) (locs : List Loc) (ls : Array Slot), va_P G.1 vwCl [oX3 q_t t_size q_t_corners, aI (G.2 1) q_t_corners 49 x2.2.2] H → va_D A [oX3 q_t t_size q_t_corners, aI (G.2 1) q_t_corners 49 x2.2.2] → va_S A s.heap H locs → lv_has ls 5 [(0, .ref q_t), (1, .int p1), (2, .int x2.1), (3, .int v3_1), (4, .int x2.2.1)] → W p l e (headSpec wsX3_flipAll ({ frames := 4, cells := 0, slots := 0, locals := 90 })).room s m ([.ref q_t, .int p1] : List Value).toArray below meth c H locs 0 0 Q (F0 m 15 ls [])) (fun x2 o_2 hE ih_2 hr_2 => ?_) _ _ hE _ _ ls hP hD hS (lv_sub hl [1, 2, 3, 4, 0] rfl)
    obtain ⟨v2_2, v4_2, w_t_corners_2⟩ := x2
    try dsimp only at hE
    intro H locs ls hP hD hS hl
    try dsimp only at hP hD hl ⊢
    refine lv_iload hx hb dX3_flipAll_15 (lv_at hl 4 rfl) ?_
    refine lv_aload_n hx hb dX3_flipAll_17 rfl (lv_at hl 0 rfl) ?_
    refine va_get (D := G.1) (ci := 3) (v := .int t_size) (C := RX3) (T := TX3) (N := 2) hx hb hts iX3 hown hK hP 0 rfl rfl 0 (by decide) fl_15 (fun _ h9 => h9) rfl dX3_flipAll_18 ?_
    refine lv_icmp_ge (tgt := 60) hx hb dX3_flipAll_21 (by decide) (fun c_21 => ?_) (fun c_21 => ?_)
    · replace hE := (if_pos c_21).symm.trans hE
      refine lv_iinc (v := v3_1 + (1 : Int32)) (lv' := [(3, .int (v3_1 + (1 : Int32))), (0, .ref q_t), (1, .int p1), (2, .int v2_2), (4, .int v4_2)]) hx hb dX3_flipAll_60 hl (k := 3) rfl rfl (by decide) rfl (fun ls hl => ?_)
      refine lv_goto (tgt := 4) hx hb dX3_flipAll_63 (by decide) ?_
      have e_2 := Option.some.inj hE
      have e_1 := hr_2 _ e_2.symm
      exact ih_1 _ e_1.symm _ _ ls hP hD hS (lv_sub hl [1, 2, 3, 0] rfl)
    · replace hE := (if_neg c_21).symm.trans hE
      refine lv_iload_n hx hb dX3_flipAll_24 rfl (lv_at hl 3 rfl) ?_
      refine lv_iload hx hb dX3_flipAll_25 (lv_at hl 4 rfl) ?_
      refine lv_iadd hx hb dX3_flipAll_27 ?_
      refine lv_iconst (v := 2) hx hb dX3_flipAll_28 (by decide) ?_
      refine lv_irem hx hb dX3_flipAll_29 (by decide) ?_
      refine lv_iload_n hx hb dX3_flipAll_30 rfl (lv_at hl 1 rfl) ?_
      refine lv_icmp_ne (tgt := 54) hx hb dX3_flipAll_31 (by decide) (fun c_31 => ?_) (fun c_31 => ?_)
      · replace hE := (if_neg c_31).symm.trans hE
        refine lv_iinc (v := v4_2 + (1 : Int32)) (lv' := [(4, .int (v4_2 + (1 : Int32))), (0, .ref q_t), (1, .int p1), (2, .int v2_2), (3, .int v3_1)]) hx hb dX3_flipAll_54 hl (k := 4) rfl rfl (by decide) rfl (fun ls hl => ?_)
        refine lv_goto (tgt := 15) hx hb dX3_flipAll_57 (by decide) ?_
        have e_2 := Option.some.inj hE
        exact ih_2 _ e_2.symm _ _ ls hP hD hS (lv_sub hl [1, 2, 3, 4, 0] rfl)
      · replace hE := (if_pos c_31).symm.trans hE
        refine lv_aload_n hx hb dX3_flipAll_34 rfl (lv_at hl 0 rfl) ?_
        refine lv_iload_n hx hb dX3_flipAll_35 rfl (lv_at hl 3 rfl) ?_
        refine lv_iload hx hb dX3_flipAll_36 (lv_at hl 4 rfl) ?_
        obtain ⟨y38, hC_38, hE⟩ := Option.bind_eq_some_iff.mp hE
        obtain ⟨r_38, ex9⟩ : ∃ z, z = y38 := ⟨_, rfl⟩
        subst ex9
        try dsimp only at hE
        refine vp_callSi (va_Run.run (va_runV (As := [.int v3_1, .int v4_2]) (rest := []) ⟨hx, hb, hml, hown, hts⟩ (c_X3_flipKind (l := l) (G := G) (p1 := v3_1) (p2 := v4_2) (q_t := q_t) (t_size := t_size) (q_t_corners := q_t_corners) (t_corners := w_t_corners_2) hC_38) (cwV 2 hts gX3_flipAll_X3_flipKind rfl rfl rfl kd_X3_flipKind ⟨Nat.le_of_ble_eq_true rfl, Nat.le_of_ble_eq_true rfl⟩) (pv_V hKW (hP.sub (ws' := [oX3 q_t t_size q_t_corners, aI (G.2 1) q_t_corners 49 w_t_corners_2]) [0, 1] rfl) (ci := 3) (q0 := 0) rfl rfl) rfl rfl hl.1 rfl (lv_room (Nat.le_of_ble_eq_true rfl)) dX3_flipAll_38 ⟨Nat.zero_le _, Nat.zero_le _⟩)) (fun r9 hr9 => ?_)
        subst r9
        refine lv_if_eq (tgt := 54) hx hb dX3_flipAll_41 (by decide) (fun c_41 => ?_) (fun c_41 => ?_)
        · replace hE := (if_pos c_41).symm.trans hE
          refine lv_iinc (v := v4_2 + (1 : Int32)) (lv' := [(4, .int (v4_2 + (1 : Int32))), (0, .ref q_t), (1, .int p1), (2, .int v2_2), (3, .int v3_1)]) hx hb dX3_flipAll_54 hl (k := 4) rfl rfl (by decide) rfl (fun ls hl => ?_)
          refine lv_goto (tgt := 15) hx hb dX3_flipAll_57 (by decide) ?_
          have e_2 := Option.some.inj hE
          exact ih_2 _ e_2.symm _ _ ls hP hD hS (lv_sub hl [1, 2, 3, 4, 0] rfl)
        · replace hE := (if_neg c_41).symm.trans hE
          refine lv_aload_n hx hb dX3_flipAll_44 rfl (lv_at hl 0 rfl) ?_
          refine lv_iload_n hx hb dX3_flipAll_45 rfl (lv_at hl 3 rfl) ?_
          refine lv_iload hx hb dX3_flipAll_46 (lv_at hl 4 rfl) ?_
          obtain ⟨y48, hC_48, hE⟩ := Option.bind_eq_some_iff.mp hE
          obtain ⟨m_48_0, ex9⟩ : ∃ z, z = y48 := ⟨_, rfl⟩
          subst ex9
          try dsimp only at hE
          have hPc := hP.sub (ws' := [oX3 q_t t_size q_t_corners, aI (G.2 1) q_t_corners 49 w_t_corners_2]) [0, 1] rfl
          have hDc := hD.sub (ws' := [oX3 q_t t_size q_t_corners, aI (G.2 1) q_t_corners 49 w_t_corners_2]) [0, 1] (by decide) rfl
          have hFc := va_free (wc := [oX3 q_t t_size q_t_corners, aI (G.2 1) q_t_corners 49 w_t_corners_2]) hD hS hA [0, 1] rfl
          refine va_callv (va_runV (As := [.int v3_1, .int v4_2]) (rest := []) ⟨hx, hb, hml, hown, hts⟩ (c_X3_flipAt (l := l) (G := G) _ (p1 := v3_1) (p2 := v4_2) (q_t := q_t) (t_size := t_size) (q_t_corners := q_t_corners) (t_corners := w_t_corners_2) hC_48) (cwV 2 hts gX3_flipAll_X3_flipAt rfl rfl rfl kd_X3_flipAt ⟨Nat.le_of_ble_eq_true rfl, Nat.le_of_ble_eq_true rfl⟩) (iv_V hKW hPc hDc (ci := 3) (q0 := 0) rfl rfl) rfl rfl hl.1 rfl (lv_room (Nat.le_of_ble_eq_true rfl)) dX3_flipAll_48 ⟨Nat.zero_le _, Nat.zero_le _⟩) hS (fun q _ h => hFc q h) hFc (fun u9 t9 H1 locs ht9 hvm9 hw9 hB9 hz9 hk9 hS => ?_)
          obtain ⟨hP1, hD1⟩ := hB9
          rw [ht9] at hP1
          obtain ⟨hP, hD⟩ := va_join (wr := []) (w1 := [oX3 q_t t_size q_t_corners, aI (G.2 1) q_t_corners 49 m_48_0]) hP hD [0, 1] [] rfl rfl (by decide) (by decide) hk9 hFc hP1 hD1
          have hP := hP.sub (ws' := [oX3 q_t t_size q_t_corners, aI (G.2 1) q_t_corners 49 m_48_0]) [0, 1] rfl
          have hD := hD.sub (ws' := [oX3 q_t t_size q_t_corners, aI (G.2 1) q_t_corners 49 m_48_0]) [0, 1] (by decide) rfl
          clear hPc hDc hFc hP1 hD1 hk9 hz9 hvm9
          refine lv_iinc (v := v2_2 + (1 : Int32)) (lv' := [(2, .int (v2_2 + (1 : Int32))), (0, .ref q_t), (1, .int p1), (3, .int v3_1), (4, .int v4_2)]) hx hb dX3_flipAll_51 hl (k := 2) rfl rfl (by decide) rfl (fun ls hl => ?_)
          refine lv_iinc (v := v4_2 + (1 : Int32)) (lv' := [(4, .int (v4_2 + (1 : Int32))), (2, .int (v2_2 + (1 : Int32))), (0, .ref q_t), (1, .int p1), (3, .int v3_1)]) hx hb dX3_flipAll_54 hl (k := 4) rfl rfl (by decide) rfl (fun ls hl => ?_)
          refine lv_goto (tgt := 15) hx hb dX3_flipAll_57 (by decide) ?_
          have e_2 := Option.some.inj hE
          exact ih_2 _ e_2.symm _ _ ls hP hD hS (lv_sub hl [2, 3, 1, 4, 0] rfl)
def S_X3_gyrateOnce (t_size : Int32) (t_corners : Nat → Int32) : Option (Int32 × (Nat → Int32)) := (S_X3_flipAll (0 : Int32) t_size t_corners).bind (fun (y2 : Int32 × (Nat → Int32)) => (S_X3_flipAll (1 : Int32) t_size y2.2).bind (fun (y7 : Int32 × (Nat → Int32)) => some (y2.1 + y7.1, y7.2)))
theorem kd_X3_gyrateOnce : yX3_gyrateOnce.cls = RX3 ∧ yX3_gyrateOnce.cls ≠ "java/lang/invoke/MethodHandle" ∧ yX3_gyrateOnce.cls ≠ "java/lang/invoke/VarHandle" ∧ (parseMethodDescriptor yX3_gyrateOnce.desc).map (fun d => d.parameters.length) = some 0 := by decide +kernel
set_option maxHeartbeats 4000000 in
set_option maxRecDepth 100000 in
theorem c_X3_gyrateOnce {l : Launch} {G : kG} (sz : Nat) {q_t : Nat} {t_size : Int32} {q_t_corners : Nat} {t_corners : Nat → Int32} {res : Int32 × (Nat → Int32)} (hE : S_X3_gyrateOnce t_size t_corners = some res) : Met l yX3_gyrateOnce wsX3_gyrateOnce ({ frames := 5, cells := 0, slots := 0, locals := 114 }) (va_Pc [.ref q_t] (fun U => U.heap.size = sz ∧ va_P G.1 vwCl [oX3 q_t t_size q_t_corners, aI (G.2 1) q_t_corners 49 t_corners] U.heap ∧ kw G U ∧ va_D (fun _ => True) [oX3 q_t t_size q_t_corners, aI (G.2 1) q_t_corners 49 t_corners])) (va_Qi (fun r (_ : Unit) => r = res.1) (fun _ t => va_P G.1 vwCl [oX3 q_t t_size q_t_corners, aI (G.2 1) q_t_corners 49 res.2] t.heap ∧ va_D (va_A [oX3 q_t t_size q_t_corners, aI (G.2 1) q_t_corners 49 t_corners] sz) [oX3 q_t t_size q_t_corners, aI (G.2 1) q_t_corners 49 res.2]) (va_A [oX3 q_t t_size q_t_corners, aI (G.2 1) q_t_corners 49 t_corners] sz)) 0 0 (va_A [oX3 q_t t_size q_t_corners, aI (G.2 1) q_t_corners 49 t_corners] sz) := by
  refine Met.ofQ (cc := cX3_gyrateOnce) (maxL := 1) (ret := (some .int)) (by decide) rfl ?_
  intro p e s m args below meth c s₁ Q hQ B hml hv
  obtain ⟨rfl, hsz, hP, hKW, hD0⟩ := hv
  have hK := hKW.1
  have hx := B.exec
  have hb := B.bytes
  have hr := B.returns
  have hts := atoms_spec (ws := wsX3_gyrateOnce) B.pre
  have hown : s.vm.findClass RX3 = some m.cls := findClass_of_methodNamed B.named
  have hlocks := B.notSynchronized
  subst hsz
  have hD := hD0.self (sz := s.heap.size)
  generalize hAe : va_A [oX3 q_t t_size q_t_corners, aI (G.2 1) q_t_corners 49 t_corners] s.heap.size = A at hD hQ
  have hA : ∀ q : Nat, s.heap.size ≤ q → A q := fun q h => by rw [← hAe]; exact Or.inr h
  have hS : va_S A s.heap s.heap [] := va_S.rf
  have hl := lv_entry ([.ref q_t]) (n := 1) (Nat.le_of_ble_eq_true rfl)
  rw [lg_entry_eq]
  generalize (lg_sl ([.ref q_t]) ++ List.replicate (1 - (lg_sl ([.ref q_t])).length) Slot.unset).toArray = ls at hl ⊢
  have hl : lv_has ls 1 [(0, .ref q_t)] := hl
  unfold S_X3_gyrateOnce at hE
  refine lv_aload_n hx hb dX3_gyrateOnce_0 rfl (lv_at hl 0 rfl) ?_
  refine lv_iconst (v := 0) hx hb dX3_gyrateOnce_1 (by decide) ?_
  obtain ⟨y2, hC_2, hE⟩ := Option.bind_eq_some_iff.mp hE
  obtain ⟨r_2, m_2_0⟩ := y2
  try dsimp only at hE
  have hPc := hP.sub (ws' := [oX3 q_t t_size q_t_corners, aI (G.2 1) q_t_corners 49 t_corners]) [0, 1] rfl
  have hDc := hD.sub (ws' := [oX3 q_t t_size q_t_corners, aI (G.2 1) q_t_corners 49 t_corners]) [0, 1] (by decide) rfl
  have hFc := va_free (wc := [oX3 q_t t_size q_t_corners, aI (G.2 1) q_t_corners 49 t_corners]) hD hS hA [0, 1] rfl
  refine va_calli (va_runV (As := [.int (0 : Int32)]) (rest := []) ⟨hx, hb, hml, hown, hts⟩ (c_X3_flipAll (l := l) (G := G) _ (p1 := (0 : Int32)) (q_t := q_t) (t_size := t_size) (q_t_corners := q_t_corners) (t_corners := t_corners) hC_2) (cwV 1 hts gX3_gyrateOnce_X3_flipAll rfl rfl rfl kd_X3_flipAll ⟨Nat.le_of_ble_eq_true rfl, Nat.le_of_ble_eq_true rfl⟩) (iv_V hKW hPc hDc (ci := 3) (q0 := 0) rfl rfl) rfl rfl hl.1 rfl (lv_room (Nat.le_of_ble_eq_true rfl)) dX3_gyrateOnce_2 ⟨Nat.zero_le _, Nat.zero_le _⟩) hS (fun q _ h => hFc q h) hFc (fun r9 u9 t9 H1 locs ht9 hvm9 hw9 hB9 hz9 hk9 hS => ?_)
  subst r9
  obtain ⟨hP1, hD1⟩ := hB9
  rw [ht9] at hP1
  obtain ⟨hP, hD⟩ := va_join (wr := []) (w1 := [oX3 q_t t_size q_t_corners, aI (G.2 1) q_t_corners 49 m_2_0]) hP hD [0, 1] [] rfl rfl (by decide) (by decide) hk9 hFc hP1 hD1
  have hP := hP.sub (ws' := [oX3 q_t t_size q_t_corners, aI (G.2 1) q_t_corners 49 m_2_0]) [0, 1] rfl
  have hD := hD.sub (ws' := [oX3 q_t t_size q_t_corners, aI (G.2 1) q_t_corners 49 m_2_0]) [0, 1] (by decide) rfl
  clear hPc hDc hFc hP1 hD1 hk9 hz9 hvm9
  refine lv_aload_n hx hb dX3_gyrateOnce_5 rfl (lv_at hl 0 rfl) ?_
  refine lv_iconst (v := 1) hx hb dX3_gyrateOnce_6 (by decide) ?_
  obtain ⟨y7, hC_7, hE⟩ := Option.bind_eq_some_iff.mp hE
  obtain ⟨r_7, m_7_0⟩ := y7
  try dsimp only at hE
  have hPc := hP.sub (ws' := [oX3 q_t t_size q_t_corners, aI (G.2 1) q_t_corners 49 m_2_0]) [0, 1] rfl
  have hDc := hD.sub (ws' := [oX3 q_t t_size q_t_corners, aI (G.2 1) q_t_corners 49 m_2_0]) [0, 1] (by decide) rfl
  have hFc := va_free (wc := [oX3 q_t t_size q_t_corners, aI (G.2 1) q_t_corners 49 m_2_0]) hD hS hA [0, 1] rfl
  refine va_calli (va_runV (As := [.int (1 : Int32)]) (rest := [.int r_2]) ⟨hx, hb, hml, hown, hts⟩ (c_X3_flipAll (l := l) (G := G) _ (p1 := (1 : Int32)) (q_t := q_t) (t_size := t_size) (q_t_corners := q_t_corners) (t_corners := m_2_0) hC_7) (cwV 1 hts gX3_gyrateOnce_X3_flipAll rfl rfl rfl kd_X3_flipAll ⟨Nat.le_of_ble_eq_true rfl, Nat.le_of_ble_eq_true rfl⟩) (iv_V hKW hPc hDc (ci := 3) (q0 := 0) rfl rfl) rfl rfl hl.1 rfl (lv_room (Nat.le_of_ble_eq_true rfl)) dX3_gyrateOnce_7 ⟨Nat.zero_le _, Nat.zero_le _⟩) hS (fun q _ h => hFc q h) hFc (fun r9 u9 t9 H1 locs ht9 hvm9 hw9 hB9 hz9 hk9 hS => ?_)
  subst r9
  obtain ⟨hP1, hD1⟩ := hB9
  rw [ht9] at hP1
  obtain ⟨hP, hD⟩ := va_join (wr := []) (w1 := [oX3 q_t t_size q_t_corners, aI (G.2 1) q_t_corners 49 m_7_0]) hP hD [0, 1] [] rfl rfl (by decide) (by decide) hk9 hFc hP1 hD1
  have hP := hP.sub (ws' := [oX3 q_t t_size q_t_corners, aI (G.2 1) q_t_corners 49 m_7_0]) [0, 1] rfl
  have hD := hD.sub (ws' := [oX3 q_t t_size q_t_corners, aI (G.2 1) q_t_corners 49 m_7_0]) [0, 1] (by decide) rfl
  clear hPc hDc hFc hP1 hD1 hk9 hz9 hvm9
  refine lv_iadd hx hb dX3_gyrateOnce_10 ?_
  have e_0 := Option.some.inj hE
  subst e_0
  rw [hQ]
  exact W.iret (v := r_2 + r_7) hx hb hr (fun t ht _ => ⟨⟨_, (), rfl, rfl, by rw [ht]; exact hP, hD⟩, hS.F ht⟩) hS.2.2 dX3_gyrateOnce_11
def S_X3_distance (t_size : Int32) (t_corners : Nat → Int32) (p1_corners : Nat → Int32) : Option Int32 := itr (fun (x1 : Int32 × Int32) => if t_size ≤ x1.2 then some (.inr x1.1) else itr (fun (x2 : Int32 × Int32) => if t_size ≤ x2.2 then some (.inr (.inl (x2.1, x1.2 + (1 : Int32)))) else (S_X3_cornerAt x1.2 x2.2 t_corners).bind (fun (y29 : Int32) => (S_X3_cornerAt x1.2 x2.2 p1_corners).bind (fun (y36 : Int32) => (some (x2.1 + (if 0 ≤ (y29 - y36) then (y29 - y36) else 0 - (y29 - y36)))).bind (fun (z_44 : Int32) => some (.inl (z_44, x2.2 + (1 : Int32))))))) 10000 (x1.1, (1 : Int32))) 10000 ((0 : Int32), (1 : Int32))
theorem kd_X3_distance : yX3_distance.cls = RX3 ∧ yX3_distance.cls ≠ "java/lang/invoke/MethodHandle" ∧ yX3_distance.cls ≠ "java/lang/invoke/VarHandle" ∧ (parseMethodDescriptor yX3_distance.desc).map (fun d => d.parameters.length) = some 1 := by decide +kernel
set_option maxHeartbeats 4000000 in
set_option maxRecDepth 100000 in
theorem c_X3_distance {l : Launch} {G : kG} {q_t : Nat} {t_size : Int32} {q_t_corners : Nat} {t_corners : Nat → Int32} {q_p1 : Nat} {p1_size : Int32} {q_p1_corners : Nat} {p1_corners : Nat → Int32} {res : Int32} (hE : S_X3_distance t_size t_corners p1_corners = some res) : Met l yX3_distance wsX3_distance ({ frames := 1, cells := 0, slots := 0, locals := 22 }) (va_Pc [.ref q_t, .ref q_p1] (fun U => va_P G.1 vwCl [oX3 q_t t_size q_t_corners, aI (G.2 1) q_t_corners 49 t_corners, oX3 q_p1 p1_size q_p1_corners, aI (G.2 1) q_p1_corners 49 p1_corners] U.heap ∧ kw G U)) (vp_Si (fun r => r = res)) 0 0 (fun _ => False) := by
  refine Met.ofQ (cc := cX3_distance) (maxL := 5) (ret := (some .int)) (by decide) rfl ?_
  intro p e s m args below meth c s₁ Q hQ B hml hv
  obtain ⟨rfl, hP, hKW⟩ := hv
  have hK := hKW.1
  have hx := B.exec
  have hb := B.bytes
  have hr := B.returns
  have hts := atoms_spec (ws := wsX3_distance) B.pre
  have hown : s.vm.findClass RX3 = some m.cls := findClass_of_methodNamed B.named
  have hlocks := B.notSynchronized
  have iX3 : ∀ w ∈ u_ws RX3 TX3 2, w ∈ wsX3_distance := by decide +kernel
  have fl_15 := hts (.fieldLink RX3 15 "AlternateSigns$Table" "size" "I") (by decide +kernel)
  have hl := lv_entry ([.ref q_t, .ref q_p1]) (n := 5) (Nat.le_of_ble_eq_true rfl)
  rw [lg_entry_eq]
  generalize (lg_sl ([.ref q_t, .ref q_p1]) ++ List.replicate (5 - (lg_sl ([.ref q_t, .ref q_p1])).length) Slot.unset).toArray = ls at hl ⊢
  have hl : lv_has ls 5 [(0, .ref q_t), (1, .ref q_p1)] := hl
  unfold S_X3_distance at hE
  refine lv_iconst (v := 0) hx hb dX3_distance_0 (by decide) ?_
  refine lv_istore_n (lv' := [(2, .int (0 : Int32)), (0, .ref q_t), (1, .ref q_p1)]) hx hb dX3_distance_1 rfl hl (by decide) rfl (fun ls hl => ?_)
  refine lv_iconst (v := 1) hx hb dX3_distance_2 (by decide) ?_
  refine lv_istore_n (lv' := [(3, .int (1 : Int32)), (2, .int (0 : Int32)), (0, .ref q_t), (1, .ref q_p1)]) hx hb dX3_distance_3 rfl hl (by decide) rfl (fun ls hl => ?_)
  refine itr_ind (fun (x1 : Int32 × Int32) => ∀ (ls : Array Slot), lv_has ls 5 [(0, .ref q_t), (1, .ref q_p1), (2, .int x1.1), (3, .int x1.2)] → W p l e (headSpec wsX3_distance ({ frames := 1, cells := 0, slots := 0, locals := 22 })).room s m ([.ref q_t, .ref q_p1] : List Value).toArray below meth c s.heap [] 0 0 Q (F0 m 4 ls [])) (fun x1 o_1 hE ih_1 hr_1 => ?_) _ _ hE ls (lv_sub hl [2, 3, 1, 0] rfl)
  obtain ⟨v2_1, v3_1⟩ := x1
  try dsimp only at hE
  intro ls hl
  try dsimp only at hl ⊢
  refine lv_iload_n hx hb dX3_distance_4 rfl (lv_at hl 3 rfl) ?_
  refine lv_aload_n hx hb dX3_distance_5 rfl (lv_at hl 0 rfl) ?_
  refine va_get (D := G.1) (ci := 3) (v := .int t_size) (C := RX3) (T := TX3) (N := 2) hx hb hts iX3 hown hK hP 0 rfl rfl 0 (by decide) fl_15 (fun _ h9 => h9) rfl dX3_distance_6 ?_
  refine lv_icmp_ge (tgt := 57) hx hb dX3_distance_9 (by decide) (fun c_9 => ?_) (fun c_9 => ?_)
  · replace hE := (if_pos c_9).symm.trans hE
    refine lv_iload_n hx hb dX3_distance_57 rfl (lv_at hl 2 rfl) ?_
    have e_1 := Option.some.inj hE
    have e_0 := hr_1 _ e_1.symm
    rw [hQ]
    exact W.iret (v := v2_1) hx hb hr (fun t ht _ => ⟨_, rfl, e_0, ht⟩) (fun q h => by cases h) dX3_distance_58
  · replace hE := (if_neg c_9).symm.trans hE
    refine lv_iconst (v := 1) hx hb dX3_distance_12 (by decide) ?_
    refine lv_istore (lv' := [(4, .int (1 : Int32)), (0, .ref q_t), (1, .ref q_p1), (2, .int v2_1), (3, .int v3_1)]) hx hb dX3_distance_13 hl (by decide) rfl (fun ls hl => ?_)
    refine itr_ind (fun (x2 : Int32 × Int32) => ∀ (ls : Array Slot), lv_has ls 5 [(0, .ref q_t), (1, .ref q_p1), (2, .int x2.1), (3, .int v3_1), (4, .int x2.2)] → W p l e (headSpec wsX3_distance ({ frames := 1, cells := 0, slots := 0, locals := 22 })).room s m ([.ref q_t, .ref q_p1] : List Value).toArray below meth c s.heap [] 0 0 Q (F0 m 15 ls [])) (fun x2 o_2 hE ih_2 hr_2 => ?_) _ _ hE ls (lv_sub hl [1, 2, 3, 4, 0] rfl)
    obtain ⟨v2_2, v4_2⟩ := x2
    try dsimp only at hE
    intro ls hl
    try dsimp only at hl ⊢
    refine lv_iload hx hb dX3_distance_15 (lv_at hl 4 rfl) ?_
    refine lv_aload_n hx hb dX3_distance_17 rfl (lv_at hl 0 rfl) ?_
    refine va_get (D := G.1) (ci := 3) (v := .int t_size) (C := RX3) (T := TX3) (N := 2) hx hb hts iX3 hown hK hP 0 rfl rfl 0 (by decide) fl_15 (fun _ h9 => h9) rfl dX3_distance_18 ?_
    refine lv_icmp_ge (tgt := 51) hx hb dX3_distance_21 (by decide) (fun c_21 => ?_) (fun c_21 => ?_)
    · replace hE := (if_pos c_21).symm.trans hE
      refine lv_iinc (v := v3_1 + (1 : Int32)) (lv' := [(3, .int (v3_1 + (1 : Int32))), (0, .ref q_t), (1, .ref q_p1), (2, .int v2_2), (4, .int v4_2)]) hx hb dX3_distance_51 hl (k := 3) rfl rfl (by decide) rfl (fun ls hl => ?_)
      refine lv_goto (tgt := 4) hx hb dX3_distance_54 (by decide) ?_
      have e_2 := Option.some.inj hE
      have e_1 := hr_2 _ e_2.symm
      exact ih_1 _ e_1.symm ls (lv_sub hl [1, 2, 3, 0] rfl)
    · replace hE := (if_neg c_21).symm.trans hE
      refine lv_iload_n hx hb dX3_distance_24 rfl (lv_at hl 2 rfl) ?_
      refine lv_aload_n hx hb dX3_distance_25 rfl (lv_at hl 0 rfl) ?_
      refine lv_iload_n hx hb dX3_distance_26 rfl (lv_at hl 3 rfl) ?_
      refine lv_iload hx hb dX3_distance_27 (lv_at hl 4 rfl) ?_
      obtain ⟨y29, hC_29, hE⟩ := Option.bind_eq_some_iff.mp hE
      obtain ⟨r_29, ex9⟩ : ∃ z, z = y29 := ⟨_, rfl⟩
      subst ex9
      try dsimp only at hE
      refine vp_callSi (va_Run.run (va_runV (As := [.int v3_1, .int v4_2]) (rest := [.int v2_2]) ⟨hx, hb, hml, hown, hts⟩ (c_X3_cornerAt (l := l) (G := G) (p1 := v3_1) (p2 := v4_2) (q_t := q_t) (t_size := t_size) (q_t_corners := q_t_corners) (t_corners := t_corners) hC_29) (cwV 2 hts gX3_distance_X3_cornerAt rfl rfl rfl kd_X3_cornerAt ⟨Nat.le_of_ble_eq_true rfl, Nat.le_of_ble_eq_true rfl⟩) (pv_V hKW (hP.sub (ws' := [oX3 q_t t_size q_t_corners, aI (G.2 1) q_t_corners 49 t_corners]) [0, 1] rfl) (ci := 3) (q0 := 0) rfl rfl) rfl rfl hl.1 rfl (lv_room (Nat.le_of_ble_eq_true rfl)) dX3_distance_29 ⟨Nat.zero_le _, Nat.zero_le _⟩)) (fun r9 hr9 => ?_)
      subst r9
      refine lv_aload_n hx hb dX3_distance_32 rfl (lv_at hl 1 rfl) ?_
      refine lv_iload_n hx hb dX3_distance_33 rfl (lv_at hl 3 rfl) ?_
      refine lv_iload hx hb dX3_distance_34 (lv_at hl 4 rfl) ?_
      obtain ⟨y36, hC_36, hE⟩ := Option.bind_eq_some_iff.mp hE
      obtain ⟨r_36, ex9⟩ : ∃ z, z = y36 := ⟨_, rfl⟩
      subst ex9
      try dsimp only at hE
      refine vp_callSi (va_Run.run (va_runV (As := [.int v3_1, .int v4_2]) (rest := [.int r_29, .int v2_2]) ⟨hx, hb, hml, hown, hts⟩ (c_X3_cornerAt (l := l) (G := G) (p1 := v3_1) (p2 := v4_2) (q_t := q_p1) (t_size := p1_size) (q_t_corners := q_p1_corners) (t_corners := p1_corners) hC_36) (cwV 2 hts gX3_distance_X3_cornerAt rfl rfl rfl kd_X3_cornerAt ⟨Nat.le_of_ble_eq_true rfl, Nat.le_of_ble_eq_true rfl⟩) (pv_V hKW (hP.sub (ws' := [oX3 q_p1 p1_size q_p1_corners, aI (G.2 1) q_p1_corners 49 p1_corners]) [2, 3] rfl) (ci := 3) (q0 := 0) rfl rfl) rfl rfl hl.1 rfl (lv_room (Nat.le_of_ble_eq_true rfl)) dX3_distance_36 ⟨Nat.zero_le _, Nat.zero_le _⟩)) (fun r9 hr9 => ?_)
      subst r9
      refine lv_isub hx hb dX3_distance_39 ?_
      refine va_mabs hx hb (hml.trans hl.1.symm) hown (hts (.methodLink RX3 53 Lib.Math.abs.name) (by decide +kernel)) (hts (.static Lib.Math.abs.name) (by decide +kernel)) (hts (.initialized "java/lang/Math") (by decide +kernel)) (hts (.code Lib.Math.abs.name Lib.Math.abs.code 1 (some .int)) (by decide +kernel)) (Nat.le_of_ble_eq_true rfl) (Nat.le_of_ble_eq_true rfl) (Nat.zero_le _) (Nat.zero_le _) dX3_distance_40 ?_
      refine lv_iadd hx hb dX3_distance_43 ?_
      refine lv_topi (fun z_44 ez9 => ?_)
      rw [← ez9] at hE
      replace hE := bs_some hE
      try dsimp only at hE
      clear ez9
      refine lv_istore_n (lv' := [(2, .int z_44), (0, .ref q_t), (1, .ref q_p1), (3, .int v3_1), (4, .int v4_2)]) hx hb dX3_distance_44 rfl hl (by decide) rfl (fun ls hl => ?_)
      refine lv_iinc (v := v4_2 + (1 : Int32)) (lv' := [(4, .int (v4_2 + (1 : Int32))), (2, .int z_44), (0, .ref q_t), (1, .ref q_p1), (3, .int v3_1)]) hx hb dX3_distance_45 hl (k := 4) rfl rfl (by decide) rfl (fun ls hl => ?_)
      refine lv_goto (tgt := 15) hx hb dX3_distance_48 (by decide) ?_
      have e_2 := Option.some.inj hE
      exact ih_2 _ e_2.symm ls (lv_sub hl [2, 3, 1, 4, 0] rfl)
def S_X3_wayTo (p2 : Int32) (p3 : Int32) (t_corners : Nat → Int32) (p1_corners : Nat → Int32) : Option Int32 := (S_X3_heightAt p2 p3 p1_corners).bind (fun (y3 : Int32) => (S_X3_heightAt p2 p3 t_corners).bind (fun (y9 : Int32) => if (y3 - y9) ≤ 0 then if 0 ≤ (y3 - y9) then some (0 : Int32) else some (2 : Int32) else some (1 : Int32)))
theorem kd_X3_wayTo : yX3_wayTo.cls = RX3 ∧ yX3_wayTo.cls ≠ "java/lang/invoke/MethodHandle" ∧ yX3_wayTo.cls ≠ "java/lang/invoke/VarHandle" ∧ (parseMethodDescriptor yX3_wayTo.desc).map (fun d => d.parameters.length) = some 3 := by decide +kernel
set_option maxHeartbeats 4000000 in
set_option maxRecDepth 100000 in
theorem c_X3_wayTo {l : Launch} {G : kG} {p2 : Int32} {p3 : Int32} {q_t : Nat} {t_size : Int32} {q_t_corners : Nat} {t_corners : Nat → Int32} {q_p1 : Nat} {p1_size : Int32} {q_p1_corners : Nat} {p1_corners : Nat → Int32} {res : Int32} (hE : S_X3_wayTo p2 p3 t_corners p1_corners = some res) : Met l yX3_wayTo wsX3_wayTo ({ frames := 2, cells := 0, slots := 0, locals := 44 }) (va_Pc [.ref q_t, .ref q_p1, .int p2, .int p3] (fun U => va_P G.1 vwCl [oX3 q_t t_size q_t_corners, aI (G.2 1) q_t_corners 49 t_corners, oX3 q_p1 p1_size q_p1_corners, aI (G.2 1) q_p1_corners 49 p1_corners] U.heap ∧ kw G U)) (vp_Si (fun r => r = res)) 0 0 (fun _ => False) := by
  refine Met.ofQ (cc := cX3_wayTo) (maxL := 5) (ret := (some .int)) (by decide) rfl ?_
  intro p e s m args below meth c s₁ Q hQ B hml hv
  obtain ⟨rfl, hP, hKW⟩ := hv
  have hK := hKW.1
  have hx := B.exec
  have hb := B.bytes
  have hr := B.returns
  have hts := atoms_spec (ws := wsX3_wayTo) B.pre
  have hown : s.vm.findClass RX3 = some m.cls := findClass_of_methodNamed B.named
  have hlocks := B.notSynchronized
  have hl := lv_entry ([.ref q_t, .ref q_p1, .int p2, .int p3]) (n := 5) (Nat.le_of_ble_eq_true rfl)
  rw [lg_entry_eq]
  generalize (lg_sl ([.ref q_t, .ref q_p1, .int p2, .int p3]) ++ List.replicate (5 - (lg_sl ([.ref q_t, .ref q_p1, .int p2, .int p3])).length) Slot.unset).toArray = ls at hl ⊢
  have hl : lv_has ls 5 [(0, .ref q_t), (1, .ref q_p1), (2, .int p2), (3, .int p3)] := hl
  unfold S_X3_wayTo at hE
  refine lv_aload_n hx hb dX3_wayTo_0 rfl (lv_at hl 1 rfl) ?_
  refine lv_iload_n hx hb dX3_wayTo_1 rfl (lv_at hl 2 rfl) ?_
  refine lv_iload_n hx hb dX3_wayTo_2 rfl (lv_at hl 3 rfl) ?_
  obtain ⟨y3, hC_3, hE⟩ := Option.bind_eq_some_iff.mp hE
  obtain ⟨r_3, ex9⟩ : ∃ z, z = y3 := ⟨_, rfl⟩
  subst ex9
  try dsimp only at hE
  refine vp_callSi (va_Run.run (va_runV (As := [.int p2, .int p3]) (rest := []) ⟨hx, hb, hml, hown, hts⟩ (c_X3_heightAt (l := l) (G := G) (p1 := p2) (p2 := p3) (q_t := q_p1) (t_size := p1_size) (q_t_corners := q_p1_corners) (t_corners := p1_corners) hC_3) (cwV 2 hts gX3_wayTo_X3_heightAt rfl rfl rfl kd_X3_heightAt ⟨Nat.le_of_ble_eq_true rfl, Nat.le_of_ble_eq_true rfl⟩) (pv_V hKW (hP.sub (ws' := [oX3 q_p1 p1_size q_p1_corners, aI (G.2 1) q_p1_corners 49 p1_corners]) [2, 3] rfl) (ci := 3) (q0 := 0) rfl rfl) rfl rfl hl.1 rfl (lv_room (Nat.le_of_ble_eq_true rfl)) dX3_wayTo_3 ⟨Nat.zero_le _, Nat.zero_le _⟩)) (fun r9 hr9 => ?_)
  subst r9
  refine lv_aload_n hx hb dX3_wayTo_6 rfl (lv_at hl 0 rfl) ?_
  refine lv_iload_n hx hb dX3_wayTo_7 rfl (lv_at hl 2 rfl) ?_
  refine lv_iload_n hx hb dX3_wayTo_8 rfl (lv_at hl 3 rfl) ?_
  obtain ⟨y9, hC_9, hE⟩ := Option.bind_eq_some_iff.mp hE
  obtain ⟨r_9, ex9⟩ : ∃ z, z = y9 := ⟨_, rfl⟩
  subst ex9
  try dsimp only at hE
  refine vp_callSi (va_Run.run (va_runV (As := [.int p2, .int p3]) (rest := [.int r_3]) ⟨hx, hb, hml, hown, hts⟩ (c_X3_heightAt (l := l) (G := G) (p1 := p2) (p2 := p3) (q_t := q_t) (t_size := t_size) (q_t_corners := q_t_corners) (t_corners := t_corners) hC_9) (cwV 2 hts gX3_wayTo_X3_heightAt rfl rfl rfl kd_X3_heightAt ⟨Nat.le_of_ble_eq_true rfl, Nat.le_of_ble_eq_true rfl⟩) (pv_V hKW (hP.sub (ws' := [oX3 q_t t_size q_t_corners, aI (G.2 1) q_t_corners 49 t_corners]) [0, 1] rfl) (ci := 3) (q0 := 0) rfl rfl) rfl rfl hl.1 rfl (lv_room (Nat.le_of_ble_eq_true rfl)) dX3_wayTo_9 ⟨Nat.zero_le _, Nat.zero_le _⟩)) (fun r9 hr9 => ?_)
  subst r9
  refine lv_isub hx hb dX3_wayTo_12 ?_
  refine lv_istore (lv' := [(4, .int (r_3 - r_9)), (0, .ref q_t), (1, .ref q_p1), (2, .int p2), (3, .int p3)]) hx hb dX3_wayTo_13 hl (by decide) rfl (fun ls hl => ?_)
  refine lv_iload hx hb dX3_wayTo_15 (lv_at hl 0 rfl) ?_
  refine lv_if_le (tgt := 24) hx hb dX3_wayTo_17 (by decide) (fun c_17 => ?_) (fun c_17 => ?_)
  · replace hE := (if_pos c_17).symm.trans hE
    refine lv_iload hx hb dX3_wayTo_24 (lv_at hl 0 rfl) ?_
    refine lv_if_ge (tgt := 33) hx hb dX3_wayTo_26 (by decide) (fun c_26 => ?_) (fun c_26 => ?_)
    · replace hE := (if_pos c_26).symm.trans hE
      refine lv_iconst (v := 0) hx hb dX3_wayTo_33 (by decide) ?_
      have e_0 := Option.some.inj hE
      rw [hQ]
      exact W.iret (v := (0 : Int32)) hx hb hr (fun t ht _ => ⟨_, rfl, e_0, ht⟩) (fun q h => by cases h) dX3_wayTo_34
    · replace hE := (if_neg c_26).symm.trans hE
      refine lv_iconst (v := 2) hx hb dX3_wayTo_29 (by decide) ?_
      refine lv_goto (tgt := 34) hx hb dX3_wayTo_30 (by decide) ?_
      have e_0 := Option.some.inj hE
      rw [hQ]
      exact W.iret (v := (2 : Int32)) hx hb hr (fun t ht _ => ⟨_, rfl, e_0, ht⟩) (fun q h => by cases h) dX3_wayTo_34
  · replace hE := (if_neg c_17).symm.trans hE
    refine lv_iconst (v := 1) hx hb dX3_wayTo_20 (by decide) ?_
    refine lv_goto (tgt := 34) hx hb dX3_wayTo_21 (by decide) ?_
    have e_0 := Option.some.inj hE
    rw [hQ]
    exact W.iret (v := (1 : Int32)) hx hb hr (fun t ht _ => ⟨_, rfl, e_0, ht⟩) (fun q h => by cases h) dX3_wayTo_34
def S_X3_comesNearer (p1 : Int32) (p2 : Int32) (t_corners : Nat → Int32) (p3_corners : Nat → Int32) : Option Int32 := (S_X3_flipKind p1 p2 t_corners).bind (fun (y3 : Int32) => if y3 = 0 then some (0 : Int32) else (S_X3_wayTo p1 p2 t_corners p3_corners).bind (fun (y19 : Int32) => if y3 = y19 then some (1 : Int32) else some (0 : Int32)))
theorem kd_X3_comesNearer : yX3_comesNearer.cls = RX3 ∧ yX3_comesNearer.cls ≠ "java/lang/invoke/MethodHandle" ∧ yX3_comesNearer.cls ≠ "java/lang/invoke/VarHandle" ∧ (parseMethodDescriptor yX3_comesNearer.desc).map (fun d => d.parameters.length) = some 3 := by decide +kernel
set_option maxHeartbeats 4000000 in
set_option maxRecDepth 100000 in
theorem c_X3_comesNearer {l : Launch} {G : kG} {p1 : Int32} {p2 : Int32} {q_t : Nat} {t_size : Int32} {q_t_corners : Nat} {t_corners : Nat → Int32} {q_p3 : Nat} {p3_size : Int32} {q_p3_corners : Nat} {p3_corners : Nat → Int32} {res : Int32} (hE : S_X3_comesNearer p1 p2 t_corners p3_corners = some res) : Met l yX3_comesNearer wsX3_comesNearer ({ frames := 3, cells := 0, slots := 0, locals := 68 }) (va_Pc [.ref q_t, .int p1, .int p2, .ref q_p3] (fun U => va_P G.1 vwCl [oX3 q_t t_size q_t_corners, aI (G.2 1) q_t_corners 49 t_corners, oX3 q_p3 p3_size q_p3_corners, aI (G.2 1) q_p3_corners 49 p3_corners] U.heap ∧ kw G U)) (vp_Si (fun r => r = res)) 0 0 (fun _ => False) := by
  refine Met.ofQ (cc := cX3_comesNearer) (maxL := 5) (ret := (some .boolean)) (by decide) rfl ?_
  intro p e s m args below meth c s₁ Q hQ B hml hv
  obtain ⟨rfl, hP, hKW⟩ := hv
  have hK := hKW.1
  have hx := B.exec
  have hb := B.bytes
  have hr := B.returns
  have hts := atoms_spec (ws := wsX3_comesNearer) B.pre
  have hown : s.vm.findClass RX3 = some m.cls := findClass_of_methodNamed B.named
  have hlocks := B.notSynchronized
  have hl := lv_entry ([.ref q_t, .int p1, .int p2, .ref q_p3]) (n := 5) (Nat.le_of_ble_eq_true rfl)
  rw [lg_entry_eq]
  generalize (lg_sl ([.ref q_t, .int p1, .int p2, .ref q_p3]) ++ List.replicate (5 - (lg_sl ([.ref q_t, .int p1, .int p2, .ref q_p3])).length) Slot.unset).toArray = ls at hl ⊢
  have hl : lv_has ls 5 [(0, .ref q_t), (1, .int p1), (2, .int p2), (3, .ref q_p3)] := hl
  unfold S_X3_comesNearer at hE
  refine lv_aload_n hx hb dX3_comesNearer_0 rfl (lv_at hl 0 rfl) ?_
  refine lv_iload_n hx hb dX3_comesNearer_1 rfl (lv_at hl 1 rfl) ?_
  refine lv_iload_n hx hb dX3_comesNearer_2 rfl (lv_at hl 2 rfl) ?_
  obtain ⟨y3, hC_3, hE⟩ := Option.bind_eq_some_iff.mp hE
  obtain ⟨r_3, ex9⟩ : ∃ z, z = y3 := ⟨_, rfl⟩
  subst ex9
  try dsimp only at hE
  refine vp_callSi (va_Run.run (va_runV (As := [.int p1, .int p2]) (rest := []) ⟨hx, hb, hml, hown, hts⟩ (c_X3_flipKind (l := l) (G := G) (p1 := p1) (p2 := p2) (q_t := q_t) (t_size := t_size) (q_t_corners := q_t_corners) (t_corners := t_corners) hC_3) (cwV 2 hts gX3_comesNearer_X3_flipKind rfl rfl rfl kd_X3_flipKind ⟨Nat.le_of_ble_eq_true rfl, Nat.le_of_ble_eq_true rfl⟩) (pv_V hKW (hP.sub (ws' := [oX3 q_t t_size q_t_corners, aI (G.2 1) q_t_corners 49 t_corners]) [0, 1] rfl) (ci := 3) (q0 := 0) rfl rfl) rfl rfl hl.1 rfl (lv_room (Nat.le_of_ble_eq_true rfl)) dX3_comesNearer_3 ⟨Nat.zero_le _, Nat.zero_le _⟩)) (fun r9 hr9 => ?_)
  subst r9
  refine lv_istore (lv' := [(4, .int r_3), (0, .ref q_t), (1, .int p1), (2, .int p2), (3, .ref q_p3)]) hx hb dX3_comesNearer_6 hl (by decide) rfl (fun ls hl => ?_)
  refine lv_iload hx hb dX3_comesNearer_8 (lv_at hl 0 rfl) ?_
  refine lv_if_eq (tgt := 29) hx hb dX3_comesNearer_10 (by decide) (fun c_10 => ?_) (fun c_10 => ?_)
  · replace hE := (if_pos c_10).symm.trans hE
    refine lv_iconst (v := 0) hx hb dX3_comesNearer_29 (by decide) ?_
    have e_0 := Option.some.inj hE
    rw [hQ]
    exact W.zret (v := (0 : Int32)) hx hb hr rfl (fun t ht _ => ⟨_, rfl, e_0, ht⟩) (fun q h => by cases h) dX3_comesNearer_30
  · replace hE := (if_neg c_10).symm.trans hE
    refine lv_iload hx hb dX3_comesNearer_13 (lv_at hl 0 rfl) ?_
    refine lv_aload_n hx hb dX3_comesNearer_15 rfl (lv_at hl 1 rfl) ?_
    refine lv_aload_n hx hb dX3_comesNearer_16 rfl (lv_at hl 4 rfl) ?_
    refine lv_iload_n hx hb dX3_comesNearer_17 rfl (lv_at hl 2 rfl) ?_
    refine lv_iload_n hx hb dX3_comesNearer_18 rfl (lv_at hl 3 rfl) ?_
    obtain ⟨y19, hC_19, hE⟩ := Option.bind_eq_some_iff.mp hE
    obtain ⟨r_19, ex9⟩ : ∃ z, z = y19 := ⟨_, rfl⟩
    subst ex9
    try dsimp only at hE
    refine vp_callSi (va_Run.run (va_runV (As := [.ref q_p3, .int p1, .int p2]) (rest := [.int r_3]) ⟨hx, hb, hml, hown, hts⟩ (c_X3_wayTo (l := l) (G := G) (p2 := p1) (p3 := p2) (q_t := q_t) (t_size := t_size) (q_t_corners := q_t_corners) (t_corners := t_corners) (q_p1 := q_p3) (p1_size := p3_size) (q_p1_corners := q_p3_corners) (p1_corners := p3_corners) hC_19) (cwV 3 hts gX3_comesNearer_X3_wayTo rfl rfl rfl kd_X3_wayTo ⟨Nat.le_of_ble_eq_true rfl, Nat.le_of_ble_eq_true rfl⟩) (pv_V hKW (hP.sub (ws' := [oX3 q_t t_size q_t_corners, aI (G.2 1) q_t_corners 49 t_corners, oX3 q_p3 p3_size q_p3_corners, aI (G.2 1) q_p3_corners 49 p3_corners]) [0, 1, 2, 3] rfl) (ci := 3) (q0 := 0) rfl rfl) rfl rfl hl.1 rfl (lv_room (Nat.le_of_ble_eq_true rfl)) dX3_comesNearer_19 ⟨Nat.zero_le _, Nat.zero_le _⟩)) (fun r9 hr9 => ?_)
    subst r9
    refine lv_icmp_ne (tgt := 29) hx hb dX3_comesNearer_22 (by decide) (fun c_22 => ?_) (fun c_22 => ?_)
    · replace hE := (if_neg c_22).symm.trans hE
      refine lv_iconst (v := 0) hx hb dX3_comesNearer_29 (by decide) ?_
      have e_0 := Option.some.inj hE
      rw [hQ]
      exact W.zret (v := (0 : Int32)) hx hb hr rfl (fun t ht _ => ⟨_, rfl, e_0, ht⟩) (fun q h => by cases h) dX3_comesNearer_30
    · replace hE := (if_pos c_22).symm.trans hE
      refine lv_iconst (v := 1) hx hb dX3_comesNearer_25 (by decide) ?_
      refine lv_goto (tgt := 30) hx hb dX3_comesNearer_26 (by decide) ?_
      have e_0 := Option.some.inj hE
      rw [hQ]
      exact W.zret (v := (1 : Int32)) hx hb hr rfl (fun t ht _ => ⟨_, rfl, e_0, ht⟩) (fun q h => by cases h) dX3_comesNearer_30
def S_X3_takeHeights (p1 : Int32) (t_size : Int32) (t_corners : Nat → Int32) (p2_corners : Nat → Int32) : Option (Int32 × (Nat → Int32)) := itr (fun (x1 : Int32 × Int32 × (Nat → Int32)) => if t_size ≤ x1.2.1 then some (.inr (x1.1, x1.2.2)) else itr (fun (x2 : Int32 × Int32 × (Nat → Int32)) => if t_size ≤ x2.2.1 then some (.inr (.inl (x2.1, x1.2.1 + (1 : Int32), x2.2.2))) else (S_X3_wayTo x1.2.1 x2.2.1 x2.2.2 p2_corners).bind (fun (y32 : Int32) => if y32 = p1 then (S_X3_cornerAt x1.2.1 x2.2.1 p2_corners).bind (fun (y49 : Int32) => (S_X3_putCorner x1.2.1 x2.2.1 y49 x2.2.2).bind (fun (y52 : Nat → Int32) => some (.inl (x2.1 + (1 : Int32), x2.2.1 + (1 : Int32), y52)))) else some (.inl (x2.1, x2.2.1 + (1 : Int32), x2.2.2)))) 10000 (x1.1, (1 : Int32), x1.2.2)) 10000 ((0 : Int32), (1 : Int32), t_corners)
theorem kd_X3_takeHeights : yX3_takeHeights.cls = RX3 ∧ yX3_takeHeights.cls ≠ "java/lang/invoke/MethodHandle" ∧ yX3_takeHeights.cls ≠ "java/lang/invoke/VarHandle" ∧ (parseMethodDescriptor yX3_takeHeights.desc).map (fun d => d.parameters.length) = some 2 := by decide +kernel
set_option maxHeartbeats 4000000 in
set_option maxRecDepth 100000 in
theorem c_X3_takeHeights {l : Launch} {G : kG} (sz : Nat) {p1 : Int32} {q_t : Nat} {t_size : Int32} {q_t_corners : Nat} {t_corners : Nat → Int32} {q_p2 : Nat} {p2_size : Int32} {q_p2_corners : Nat} {p2_corners : Nat → Int32} {res : Int32 × (Nat → Int32)} (hE : S_X3_takeHeights p1 t_size t_corners p2_corners = some res) : Met l yX3_takeHeights wsX3_takeHeights ({ frames := 3, cells := 0, slots := 0, locals := 68 }) (va_Pc [.ref q_t, .int p1, .ref q_p2] (fun U => U.heap.size = sz ∧ va_P G.1 vwCl [oX3 q_t t_size q_t_corners, aI (G.2 1) q_t_corners 49 t_corners, oX3 q_p2 p2_size q_p2_corners, aI (G.2 1) q_p2_corners 49 p2_corners] U.heap ∧ kw G U ∧ va_D (fun _ => True) [oX3 q_t t_size q_t_corners, aI (G.2 1) q_t_corners 49 t_corners, oX3 q_p2 p2_size q_p2_corners, aI (G.2 1) q_p2_corners 49 p2_corners])) (va_Qi (fun r (_ : Unit) => r = res.1) (fun _ t => va_P G.1 vwCl [oX3 q_t t_size q_t_corners, aI (G.2 1) q_t_corners 49 res.2, oX3 q_p2 p2_size q_p2_corners, aI (G.2 1) q_p2_corners 49 p2_corners] t.heap ∧ va_D (va_A [oX3 q_t t_size q_t_corners, aI (G.2 1) q_t_corners 49 t_corners, oX3 q_p2 p2_size q_p2_corners, aI (G.2 1) q_p2_corners 49 p2_corners] sz) [oX3 q_t t_size q_t_corners, aI (G.2 1) q_t_corners 49 res.2, oX3 q_p2 p2_size q_p2_corners, aI (G.2 1) q_p2_corners 49 p2_corners]) (va_A [oX3 q_t t_size q_t_corners, aI (G.2 1) q_t_corners 49 t_corners, oX3 q_p2 p2_size q_p2_corners, aI (G.2 1) q_p2_corners 49 p2_corners] sz)) 0 0 (va_A [oX3 q_t t_size q_t_corners, aI (G.2 1) q_t_corners 49 t_corners, oX3 q_p2 p2_size q_p2_corners, aI (G.2 1) q_p2_corners 49 p2_corners] sz) := by
  refine Met.ofQ (cc := cX3_takeHeights) (maxL := 6) (ret := (some .int)) (by decide) rfl ?_
  intro p e s m args below meth c s₁ Q hQ B hml hv
  obtain ⟨rfl, hsz, hP, hKW, hD0⟩ := hv
  have hK := hKW.1
  have hx := B.exec
  have hb := B.bytes
  have hr := B.returns
  have hts := atoms_spec (ws := wsX3_takeHeights) B.pre
  have hown : s.vm.findClass RX3 = some m.cls := findClass_of_methodNamed B.named
  have hlocks := B.notSynchronized
  have iX3 : ∀ w ∈ u_ws RX3 TX3 2, w ∈ wsX3_takeHeights := by decide +kernel
  have fl_15 := hts (.fieldLink RX3 15 "AlternateSigns$Table" "size" "I") (by decide +kernel)
  subst hsz
  have hD := hD0.self (sz := s.heap.size)
  generalize hAe : va_A [oX3 q_t t_size q_t_corners, aI (G.2 1) q_t_corners 49 t_corners, oX3 q_p2 p2_size q_p2_corners, aI (G.2 1) q_p2_corners 49 p2_corners] s.heap.size = A at hD hQ
  have hA : ∀ q : Nat, s.heap.size ≤ q → A q := fun q h => by rw [← hAe]; exact Or.inr h
  have hS : va_S A s.heap s.heap [] := va_S.rf
  have hl := lv_entry ([.ref q_t, .int p1, .ref q_p2]) (n := 6) (Nat.le_of_ble_eq_true rfl)
  rw [lg_entry_eq]
  generalize (lg_sl ([.ref q_t, .int p1, .ref q_p2]) ++ List.replicate (6 - (lg_sl ([.ref q_t, .int p1, .ref q_p2])).length) Slot.unset).toArray = ls at hl ⊢
  have hl : lv_has ls 6 [(0, .ref q_t), (1, .int p1), (2, .ref q_p2)] := hl
  unfold S_X3_takeHeights at hE
  refine lv_iconst (v := 0) hx hb dX3_takeHeights_0 (by decide) ?_
  refine lv_istore_n (lv' := [(3, .int (0 : Int32)), (0, .ref q_t), (1, .int p1), (2, .ref q_p2)]) hx hb dX3_takeHeights_1 rfl hl (by decide) rfl (fun ls hl => ?_)
  refine lv_iconst (v := 1) hx hb dX3_takeHeights_2 (by decide) ?_
  refine lv_istore (lv' := [(4, .int (1 : Int32)), (3, .int (0 : Int32)), (0, .ref q_t), (1, .int p1), (2, .ref q_p2)]) hx hb dX3_takeHeights_3 hl (by decide) rfl (fun ls hl => ?_)
  refine itr_ind (fun (x1 : Int32 × Int32 × (Nat → Int32)) => ∀ (H : Heap) (locs : List Loc) (ls : Array Slot), va_P G.1 vwCl [oX3 q_t t_size q_t_corners, aI (G.2 1) q_t_corners 49 x1.2.2, oX3 q_p2 p2_size q_p2_corners, aI (G.2 1) q_p2_corners 49 p2_corners] H → va_D A [oX3 q_t t_size q_t_corners, aI (G.2 1) q_t_corners 49 x1.2.2, oX3 q_p2 p2_size q_p2_corners, aI (G.2 1) q_p2_corners 49 p2_corners] → va_S A s.heap H locs → lv_has ls 6 [(0, .ref q_t), (1, .int p1), (2, .ref q_p2), (3, .int x1.1), (4, .int x1.2.1)] → W p l e (headSpec wsX3_takeHeights ({ frames := 3, cells := 0, slots := 0, locals := 68 })).room s m ([.ref q_t, .int p1, .ref q_p2] : List Value).toArray below meth c H locs 0 0 Q (F0 m 5 ls [])) (fun x1 o_1 hE ih_1 hr_1 => ?_) _ _ hE _ _ ls hP hD hS (lv_sub hl [2, 3, 4, 1, 0] rfl)
  obtain ⟨v3_1, v4_1, w_t_corners_1⟩ := x1
  try dsimp only at hE
  intro H locs ls hP hD hS hl
  try dsimp only at hP hD hl ⊢
  refine lv_iload hx hb dX3_takeHeights_5 (lv_at hl 4 rfl) ?_
  refine lv_aload_n hx hb dX3_takeHeights_7 rfl (lv_at hl 0 rfl) ?_
  refine va_get (D := G.1) (ci := 3) (v := .int t_size) (C := RX3) (T := TX3) (N := 2) hx hb hts iX3 hown hK hP 0 rfl rfl 0 (by decide) fl_15 (fun _ h9 => h9) rfl dX3_takeHeights_8 ?_
  refine lv_icmp_ge (tgt := 70) hx hb dX3_takeHeights_11 (by decide) (fun c_11 => ?_) (fun c_11 => ?_)
  · replace hE := (if_pos c_11).symm.trans hE
    refine lv_iload_n hx hb dX3_takeHeights_70 rfl (lv_at hl 3 rfl) ?_
    have e_1 := Option.some.inj hE
    have e_0 := hr_1 _ e_1.symm
    subst e_0
    rw [hQ]
    exact W.iret (v := v3_1) hx hb hr (fun t ht _ => ⟨⟨_, (), rfl, rfl, by rw [ht]; exact hP, hD⟩, hS.F ht⟩) hS.2.2 dX3_takeHeights_71
  · replace hE := (if_neg c_11).symm.trans hE
    refine lv_iconst (v := 1) hx hb dX3_takeHeights_14 (by decide) ?_
    refine lv_istore (lv' := [(5, .int (1 : Int32)), (0, .ref q_t), (1, .int p1), (2, .ref q_p2), (3, .int v3_1), (4, .int v4_1)]) hx hb dX3_takeHeights_15 hl (by decide) rfl (fun ls hl => ?_)
    refine itr_ind (fun (x2 : Int32 × Int32 × (Nat → Int32)) => ∀ (H : Heap) (locs : List Loc) (ls : Array Slot), va_P G.1 vwCl [oX3 q_t t_size q_t_corners, aI (G.2 1) q_t_corners 49 x2.2.2, oX3 q_p2 p2_size q_p2_corners, aI (G.2 1) q_p2_corners 49 p2_corners] H → va_D A [oX3 q_t t_size q_t_corners, aI (G.2 1) q_t_corners 49 x2.2.2, oX3 q_p2 p2_size q_p2_corners, aI (G.2 1) q_p2_corners 49 p2_corners] → va_S A s.heap H locs → lv_has ls 6 [(0, .ref q_t), (1, .int p1), (2, .ref q_p2), (3, .int x2.1), (4, .int v4_1), (5, .int x2.2.1)] → W p l e (headSpec wsX3_takeHeights ({ frames := 3, cells := 0, slots := 0, locals := 68 })).room s m ([.ref q_t, .int p1, .ref q_p2] : List Value).toArray below meth c H locs 0 0 Q (F0 m 17 ls [])) (fun x2 o_2 hE ih_2 hr_2 => ?_) _ _ hE _ _ ls hP hD hS (lv_sub hl [1, 2, 3, 4, 5, 0] rfl)
    obtain ⟨v3_2, v5_2, w_t_corners_2⟩ := x2
    try dsimp only at hE
    intro H locs ls hP hD hS hl
    try dsimp only at hP hD hl ⊢
    refine lv_iload hx hb dX3_takeHeights_17 (lv_at hl 5 rfl) ?_
    refine lv_aload_n hx hb dX3_takeHeights_19 rfl (lv_at hl 0 rfl) ?_
    refine va_get (D := G.1) (ci := 3) (v := .int t_size) (C := RX3) (T := TX3) (N := 2) hx hb hts iX3 hown hK hP 0 rfl rfl 0 (by decide) fl_15 (fun _ h9 => h9) rfl dX3_takeHeights_20 ?_
    refine lv_icmp_ge (tgt := 64) hx hb dX3_takeHeights_23 (by decide) (fun c_23 => ?_) (fun c_23 => ?_)
    · replace hE := (if_pos c_23).symm.trans hE
      refine lv_iinc (v := v4_1 + (1 : Int32)) (lv' := [(4, .int (v4_1 + (1 : Int32))), (0, .ref q_t), (1, .int p1), (2, .ref q_p2), (3, .int v3_2), (5, .int v5_2)]) hx hb dX3_takeHeights_64 hl (k := 4) rfl rfl (by decide) rfl (fun ls hl => ?_)
      refine lv_goto (tgt := 5) hx hb dX3_takeHeights_67 (by decide) ?_
      have e_2 := Option.some.inj hE
      have e_1 := hr_2 _ e_2.symm
      exact ih_1 _ e_1.symm _ _ ls hP hD hS (lv_sub hl [1, 2, 3, 4, 0] rfl)
    · replace hE := (if_neg c_23).symm.trans hE
      refine lv_aload_n hx hb dX3_takeHeights_26 rfl (lv_at hl 0 rfl) ?_
      refine lv_aload_n hx hb dX3_takeHeights_27 rfl (lv_at hl 2 rfl) ?_
      refine lv_iload hx hb dX3_takeHeights_28 (lv_at hl 4 rfl) ?_
      refine lv_iload hx hb dX3_takeHeights_30 (lv_at hl 5 rfl) ?_
      obtain ⟨y32, hC_32, hE⟩ := Option.bind_eq_some_iff.mp hE
      obtain ⟨r_32, ex9⟩ : ∃ z, z = y32 := ⟨_, rfl⟩
      subst ex9
      try dsimp only at hE
      refine vp_callSi (va_Run.run (va_runV (As := [.ref q_p2, .int v4_1, .int v5_2]) (rest := []) ⟨hx, hb, hml, hown, hts⟩ (c_X3_wayTo (l := l) (G := G) (p2 := v4_1) (p3 := v5_2) (q_t := q_t) (t_size := t_size) (q_t_corners := q_t_corners) (t_corners := w_t_corners_2) (q_p1 := q_p2) (p1_size := p2_size) (q_p1_corners := q_p2_corners) (p1_corners := p2_corners) hC_32) (cwV 3 hts gX3_takeHeights_X3_wayTo rfl rfl rfl kd_X3_wayTo ⟨Nat.le_of_ble_eq_true rfl, Nat.le_of_ble_eq_true rfl⟩) (pv_V hKW (hP.sub (ws' := [oX3 q_t t_size q_t_corners, aI (G.2 1) q_t_corners 49 w_t_corners_2, oX3 q_p2 p2_size q_p2_corners, aI (G.2 1) q_p2_corners 49 p2_corners]) [0, 1, 2, 3] rfl) (ci := 3) (q0 := 0) rfl rfl) rfl rfl hl.1 rfl (lv_room (Nat.le_of_ble_eq_true rfl)) dX3_takeHeights_32 ⟨Nat.zero_le _, Nat.zero_le _⟩)) (fun r9 hr9 => ?_)
      subst r9
      refine lv_iload_n hx hb dX3_takeHeights_35 rfl (lv_at hl 1 rfl) ?_
      refine lv_icmp_ne (tgt := 58) hx hb dX3_takeHeights_36 (by decide) (fun c_36 => ?_) (fun c_36 => ?_)
      · replace hE := (if_neg c_36).symm.trans hE
        refine lv_iinc (v := v5_2 + (1 : Int32)) (lv' := [(5, .int (v5_2 + (1 : Int32))), (0, .ref q_t), (1, .int p1), (2, .ref q_p2), (3, .int v3_2), (4, .int v4_1)]) hx hb dX3_takeHeights_58 hl (k := 5) rfl rfl (by decide) rfl (fun ls hl => ?_)
        refine lv_goto (tgt := 17) hx hb dX3_takeHeights_61 (by decide) ?_
        have e_2 := Option.some.inj hE
        exact ih_2 _ e_2.symm _ _ ls hP hD hS (lv_sub hl [1, 2, 3, 4, 5, 0] rfl)
      · replace hE := (if_pos c_36).symm.trans hE
        refine lv_aload_n hx hb dX3_takeHeights_39 rfl (lv_at hl 0 rfl) ?_
        refine lv_iload hx hb dX3_takeHeights_40 (lv_at hl 4 rfl) ?_
        refine lv_iload hx hb dX3_takeHeights_42 (lv_at hl 5 rfl) ?_
        refine lv_aload_n hx hb dX3_takeHeights_44 rfl (lv_at hl 2 rfl) ?_
        refine lv_iload hx hb dX3_takeHeights_45 (lv_at hl 4 rfl) ?_
        refine lv_iload hx hb dX3_takeHeights_47 (lv_at hl 5 rfl) ?_
        obtain ⟨y49, hC_49, hE⟩ := Option.bind_eq_some_iff.mp hE
        obtain ⟨r_49, ex9⟩ : ∃ z, z = y49 := ⟨_, rfl⟩
        subst ex9
        try dsimp only at hE
        refine vp_callSi (va_Run.run (va_runV (As := [.int v4_1, .int v5_2]) (rest := [.int v5_2, .int v4_1, .ref q_t]) ⟨hx, hb, hml, hown, hts⟩ (c_X3_cornerAt (l := l) (G := G) (p1 := v4_1) (p2 := v5_2) (q_t := q_p2) (t_size := p2_size) (q_t_corners := q_p2_corners) (t_corners := p2_corners) hC_49) (cwV 2 hts gX3_takeHeights_X3_cornerAt rfl rfl rfl kd_X3_cornerAt ⟨Nat.le_of_ble_eq_true rfl, Nat.le_of_ble_eq_true rfl⟩) (pv_V hKW (hP.sub (ws' := [oX3 q_p2 p2_size q_p2_corners, aI (G.2 1) q_p2_corners 49 p2_corners]) [2, 3] rfl) (ci := 3) (q0 := 0) rfl rfl) rfl rfl hl.1 rfl (lv_room (Nat.le_of_ble_eq_true rfl)) dX3_takeHeights_49 ⟨Nat.zero_le _, Nat.zero_le _⟩)) (fun r9 hr9 => ?_)
        subst r9
        obtain ⟨y52, hC_52, hE⟩ := Option.bind_eq_some_iff.mp hE
        obtain ⟨m_52_0, ex9⟩ : ∃ z, z = y52 := ⟨_, rfl⟩
        subst ex9
        try dsimp only at hE
        have hPc := hP.sub (ws' := [oX3 q_t t_size q_t_corners, aI (G.2 1) q_t_corners 49 w_t_corners_2]) [0, 1] rfl
        have hDc := hD.sub (ws' := [oX3 q_t t_size q_t_corners, aI (G.2 1) q_t_corners 49 w_t_corners_2]) [0, 1] (by decide) rfl
        have hFc := va_free (wc := [oX3 q_t t_size q_t_corners, aI (G.2 1) q_t_corners 49 w_t_corners_2]) hD hS hA [0, 1] rfl
        refine va_callv (va_runV (As := [.int v4_1, .int v5_2, .int r_49]) (rest := []) ⟨hx, hb, hml, hown, hts⟩ (c_X3_putCorner (l := l) (G := G) _ (p1 := v4_1) (p2 := v5_2) (p3 := r_49) (q_t := q_t) (t_size := t_size) (q_t_corners := q_t_corners) (t_corners := w_t_corners_2) hC_52) (cwV 3 hts gX3_takeHeights_X3_putCorner rfl rfl rfl kd_X3_putCorner ⟨Nat.le_of_ble_eq_true rfl, Nat.le_of_ble_eq_true rfl⟩) (iv_V hKW hPc hDc (ci := 3) (q0 := 0) rfl rfl) rfl rfl hl.1 rfl (lv_room (Nat.le_of_ble_eq_true rfl)) dX3_takeHeights_52 ⟨Nat.zero_le _, Nat.zero_le _⟩) hS (fun q _ h => hFc q h) hFc (fun u9 t9 H1 locs ht9 hvm9 hw9 hB9 hz9 hk9 hS => ?_)
        obtain ⟨hP1, hD1⟩ := hB9
        rw [ht9] at hP1
        obtain ⟨hP, hD⟩ := va_join (wr := [oX3 q_p2 p2_size q_p2_corners, aI (G.2 1) q_p2_corners 49 p2_corners]) (w1 := [oX3 q_t t_size q_t_corners, aI (G.2 1) q_t_corners 49 m_52_0]) hP hD [0, 1] [2, 3] rfl rfl (by decide) (by decide) hk9 hFc hP1 hD1
        have hP := hP.sub (ws' := [oX3 q_t t_size q_t_corners, aI (G.2 1) q_t_corners 49 m_52_0, oX3 q_p2 p2_size q_p2_corners, aI (G.2 1) q_p2_corners 49 p2_corners]) [2, 3, 0, 1] rfl
        have hD := hD.sub (ws' := [oX3 q_t t_size q_t_corners, aI (G.2 1) q_t_corners 49 m_52_0, oX3 q_p2 p2_size q_p2_corners, aI (G.2 1) q_p2_corners 49 p2_corners]) [2, 3, 0, 1] (by decide) rfl
        clear hPc hDc hFc hP1 hD1 hk9 hz9 hvm9
        refine lv_iinc (v := v3_2 + (1 : Int32)) (lv' := [(3, .int (v3_2 + (1 : Int32))), (0, .ref q_t), (1, .int p1), (2, .ref q_p2), (4, .int v4_1), (5, .int v5_2)]) hx hb dX3_takeHeights_55 hl (k := 3) rfl rfl (by decide) rfl (fun ls hl => ?_)
        refine lv_iinc (v := v5_2 + (1 : Int32)) (lv' := [(5, .int (v5_2 + (1 : Int32))), (3, .int (v3_2 + (1 : Int32))), (0, .ref q_t), (1, .int p1), (2, .ref q_p2), (4, .int v4_1)]) hx hb dX3_takeHeights_58 hl (k := 5) rfl rfl (by decide) rfl (fun ls hl => ?_)
        refine lv_goto (tgt := 17) hx hb dX3_takeHeights_61 (by decide) ?_
        have e_2 := Option.some.inj hE
        exact ih_2 _ e_2.symm _ _ ls hP hD hS (lv_sub hl [2, 3, 4, 1, 5, 0] rfl)
def S_X3_turnedSign (p1 : Int32) (p2 : Int32) (p3 : Int32) (t_size : Int32) (t_corners : Nat → Int32) : Option Int32 := if p1 = (1 : Int32) then (S_X3_signAt ((t_size - (1 : Int32)) - p3) p2 t_corners).bind (fun (y50 : Int32) => some y50) else if p1 = (2 : Int32) then (S_X3_signAt ((t_size - (1 : Int32)) - p2) ((t_size - (1 : Int32)) - p3) t_corners).bind (fun (y63 : Int32) => some y63) else if p1 = (3 : Int32) then (S_X3_signAt p3 ((t_size - (1 : Int32)) - p2) t_corners).bind (fun (y73 : Int32) => some y73) else if p1 = (4 : Int32) then (S_X3_signAt p2 ((t_size - (1 : Int32)) - p3) t_corners).bind (fun (y83 : Int32) => some y83) else if p1 = (5 : Int32) then (S_X3_signAt ((t_size - (1 : Int32)) - p2) p3 t_corners).bind (fun (y93 : Int32) => some y93) else (S_X3_signAt p3 p2 t_corners).bind (fun (y100 : Int32) => some y100)
theorem kd_X3_turnedSign : yX3_turnedSign.cls = RX3 ∧ yX3_turnedSign.cls ≠ "java/lang/invoke/MethodHandle" ∧ yX3_turnedSign.cls ≠ "java/lang/invoke/VarHandle" ∧ (parseMethodDescriptor yX3_turnedSign.desc).map (fun d => d.parameters.length) = some 3 := by decide +kernel
set_option maxHeartbeats 4000000 in
set_option maxRecDepth 100000 in
theorem c_X3_turnedSign {l : Launch} {G : kG} {p1 : Int32} {p2 : Int32} {p3 : Int32} {q_t : Nat} {t_size : Int32} {q_t_corners : Nat} {t_corners : Nat → Int32} {res : Int32} (hE : S_X3_turnedSign p1 p2 p3 t_size t_corners = some res) : Met l yX3_turnedSign wsX3_turnedSign ({ frames := 3, cells := 0, slots := 0, locals := 66 }) (va_Pc [.ref q_t, .int p1, .int p2, .int p3] (fun U => va_P G.1 vwCl [oX3 q_t t_size q_t_corners, aI (G.2 1) q_t_corners 49 t_corners] U.heap ∧ kw G U)) (vp_Si (fun r => r = res)) 0 0 (fun _ => False) := by
  refine Met.ofQ (cc := cX3_turnedSign) (maxL := 5) (ret := (some .int)) (by decide) rfl ?_
  intro p e s m args below meth c s₁ Q hQ B hml hv
  obtain ⟨rfl, hP, hKW⟩ := hv
  have hK := hKW.1
  have hx := B.exec
  have hb := B.bytes
  have hr := B.returns
  have hts := atoms_spec (ws := wsX3_turnedSign) B.pre
  have hown : s.vm.findClass RX3 = some m.cls := findClass_of_methodNamed B.named
  have hlocks := B.notSynchronized
  have iX3 : ∀ w ∈ u_ws RX3 TX3 2, w ∈ wsX3_turnedSign := by decide +kernel
  have fl_15 := hts (.fieldLink RX3 15 "AlternateSigns$Table" "size" "I") (by decide +kernel)
  have hl := lv_entry ([.ref q_t, .int p1, .int p2, .int p3]) (n := 5) (Nat.le_of_ble_eq_true rfl)
  rw [lg_entry_eq]
  generalize (lg_sl ([.ref q_t, .int p1, .int p2, .int p3]) ++ List.replicate (5 - (lg_sl ([.ref q_t, .int p1, .int p2, .int p3])).length) Slot.unset).toArray = ls at hl ⊢
  have hl : lv_has ls 5 [(0, .ref q_t), (1, .int p1), (2, .int p2), (3, .int p3)] := hl
  unfold S_X3_turnedSign at hE
  refine lv_aload_n hx hb dX3_turnedSign_0 rfl (lv_at hl 0 rfl) ?_
  refine va_get (D := G.1) (ci := 3) (v := .int t_size) (C := RX3) (T := TX3) (N := 2) hx hb hts iX3 hown hK hP 0 rfl rfl 0 (by decide) fl_15 (fun _ h9 => h9) rfl dX3_turnedSign_1 ?_
  refine lv_iconst (v := 1) hx hb dX3_turnedSign_4 (by decide) ?_
  refine lv_isub hx hb dX3_turnedSign_5 ?_
  refine lv_istore (lv' := [(4, .int (t_size - (1 : Int32))), (0, .ref q_t), (1, .int p1), (2, .int p2), (3, .int p3)]) hx hb dX3_turnedSign_6 hl (by decide) rfl (fun ls hl => ?_)
  refine lv_iload_n hx hb dX3_turnedSign_8 rfl (lv_at hl 2 rfl) ?_
  by_cases c_9_0 : p1 = (1 : Int32)
  · replace hE := (if_pos c_9_0).symm.trans hE
    refine lv_tableIn (tgt := 44) hx hb dX3_turnedSign_9 (by rw [c_9_0]; decide) (by rw [c_9_0]; decide) (by rw [c_9_0]; rfl) (by decide) ?_
    refine lv_aload_n hx hb dX3_turnedSign_44 rfl (lv_at hl 1 rfl) ?_
    refine lv_iload hx hb dX3_turnedSign_45 (lv_at hl 0 rfl) ?_
    refine lv_iload_n hx hb dX3_turnedSign_47 rfl (lv_at hl 4 rfl) ?_
    refine lv_isub hx hb dX3_turnedSign_48 ?_
    refine lv_iload_n hx hb dX3_turnedSign_49 rfl (lv_at hl 3 rfl) ?_
    obtain ⟨y50, hC_50, hE⟩ := Option.bind_eq_some_iff.mp hE
    obtain ⟨r_50, ex9⟩ : ∃ z, z = y50 := ⟨_, rfl⟩
    subst ex9
    try dsimp only at hE
    refine vp_callSi (va_Run.run (va_runV (As := [.int ((t_size - (1 : Int32)) - p3), .int p2]) (rest := []) ⟨hx, hb, hml, hown, hts⟩ (c_X3_signAt (l := l) (G := G) (p1 := (t_size - (1 : Int32)) - p3) (p2 := p2) (q_t := q_t) (t_size := t_size) (q_t_corners := q_t_corners) (t_corners := t_corners) hC_50) (cwV 2 hts gX3_turnedSign_X3_signAt rfl rfl rfl kd_X3_signAt ⟨Nat.le_of_ble_eq_true rfl, Nat.le_of_ble_eq_true rfl⟩) (pv_V hKW (hP.sub (ws' := [oX3 q_t t_size q_t_corners, aI (G.2 1) q_t_corners 49 t_corners]) [0, 1] rfl) (ci := 3) (q0 := 0) rfl rfl) rfl rfl hl.1 rfl (lv_room (Nat.le_of_ble_eq_true rfl)) dX3_turnedSign_50 ⟨Nat.zero_le _, Nat.zero_le _⟩)) (fun r9 hr9 => ?_)
    subst r9
    have e_0 := Option.some.inj hE
    rw [hQ]
    exact W.iret (v := r_50) hx hb hr (fun t ht _ => ⟨_, rfl, e_0, ht⟩) (fun q h => by cases h) dX3_turnedSign_53
  · replace hE := (if_neg c_9_0).symm.trans hE
    by_cases c_9_1 : p1 = (2 : Int32)
    · replace hE := (if_pos c_9_1).symm.trans hE
      refine lv_tableIn (tgt := 54) hx hb dX3_turnedSign_9 (by rw [c_9_1]; decide) (by rw [c_9_1]; decide) (by rw [c_9_1]; rfl) (by decide) ?_
      refine lv_aload_n hx hb dX3_turnedSign_54 rfl (lv_at hl 1 rfl) ?_
      refine lv_iload hx hb dX3_turnedSign_55 (lv_at hl 0 rfl) ?_
      refine lv_iload_n hx hb dX3_turnedSign_57 rfl (lv_at hl 3 rfl) ?_
      refine lv_isub hx hb dX3_turnedSign_58 ?_
      refine lv_iload hx hb dX3_turnedSign_59 (lv_at hl 0 rfl) ?_
      refine lv_iload_n hx hb dX3_turnedSign_61 rfl (lv_at hl 4 rfl) ?_
      refine lv_isub hx hb dX3_turnedSign_62 ?_
      obtain ⟨y63, hC_63, hE⟩ := Option.bind_eq_some_iff.mp hE
      obtain ⟨r_63, ex9⟩ : ∃ z, z = y63 := ⟨_, rfl⟩
      subst ex9
      try dsimp only at hE
      refine vp_callSi (va_Run.run (va_runV (As := [.int ((t_size - (1 : Int32)) - p2), .int ((t_size - (1 : Int32)) - p3)]) (rest := []) ⟨hx, hb, hml, hown, hts⟩ (c_X3_signAt (l := l) (G := G) (p1 := (t_size - (1 : Int32)) - p2) (p2 := (t_size - (1 : Int32)) - p3) (q_t := q_t) (t_size := t_size) (q_t_corners := q_t_corners) (t_corners := t_corners) hC_63) (cwV 2 hts gX3_turnedSign_X3_signAt rfl rfl rfl kd_X3_signAt ⟨Nat.le_of_ble_eq_true rfl, Nat.le_of_ble_eq_true rfl⟩) (pv_V hKW (hP.sub (ws' := [oX3 q_t t_size q_t_corners, aI (G.2 1) q_t_corners 49 t_corners]) [0, 1] rfl) (ci := 3) (q0 := 0) rfl rfl) rfl rfl hl.1 rfl (lv_room (Nat.le_of_ble_eq_true rfl)) dX3_turnedSign_63 ⟨Nat.zero_le _, Nat.zero_le _⟩)) (fun r9 hr9 => ?_)
      subst r9
      have e_0 := Option.some.inj hE
      rw [hQ]
      exact W.iret (v := r_63) hx hb hr (fun t ht _ => ⟨_, rfl, e_0, ht⟩) (fun q h => by cases h) dX3_turnedSign_66
    · replace hE := (if_neg c_9_1).symm.trans hE
      by_cases c_9_2 : p1 = (3 : Int32)
      · replace hE := (if_pos c_9_2).symm.trans hE
        refine lv_tableIn (tgt := 67) hx hb dX3_turnedSign_9 (by rw [c_9_2]; decide) (by rw [c_9_2]; decide) (by rw [c_9_2]; rfl) (by decide) ?_
        refine lv_aload_n hx hb dX3_turnedSign_67 rfl (lv_at hl 1 rfl) ?_
        refine lv_iload_n hx hb dX3_turnedSign_68 rfl (lv_at hl 4 rfl) ?_
        refine lv_iload hx hb dX3_turnedSign_69 (lv_at hl 0 rfl) ?_
        refine lv_iload_n hx hb dX3_turnedSign_71 rfl (lv_at hl 3 rfl) ?_
        refine lv_isub hx hb dX3_turnedSign_72 ?_
        obtain ⟨y73, hC_73, hE⟩ := Option.bind_eq_some_iff.mp hE
        obtain ⟨r_73, ex9⟩ : ∃ z, z = y73 := ⟨_, rfl⟩
        subst ex9
        try dsimp only at hE
        refine vp_callSi (va_Run.run (va_runV (As := [.int p3, .int ((t_size - (1 : Int32)) - p2)]) (rest := []) ⟨hx, hb, hml, hown, hts⟩ (c_X3_signAt (l := l) (G := G) (p1 := p3) (p2 := (t_size - (1 : Int32)) - p2) (q_t := q_t) (t_size := t_size) (q_t_corners := q_t_corners) (t_corners := t_corners) hC_73) (cwV 2 hts gX3_turnedSign_X3_signAt rfl rfl rfl kd_X3_signAt ⟨Nat.le_of_ble_eq_true rfl, Nat.le_of_ble_eq_true rfl⟩) (pv_V hKW (hP.sub (ws' := [oX3 q_t t_size q_t_corners, aI (G.2 1) q_t_corners 49 t_corners]) [0, 1] rfl) (ci := 3) (q0 := 0) rfl rfl) rfl rfl hl.1 rfl (lv_room (Nat.le_of_ble_eq_true rfl)) dX3_turnedSign_73 ⟨Nat.zero_le _, Nat.zero_le _⟩)) (fun r9 hr9 => ?_)
        subst r9
        have e_0 := Option.some.inj hE
        rw [hQ]
        exact W.iret (v := r_73) hx hb hr (fun t ht _ => ⟨_, rfl, e_0, ht⟩) (fun q h => by cases h) dX3_turnedSign_76
      · replace hE := (if_neg c_9_2).symm.trans hE
        by_cases c_9_3 : p1 = (4 : Int32)
        · replace hE := (if_pos c_9_3).symm.trans hE
          refine lv_tableIn (tgt := 77) hx hb dX3_turnedSign_9 (by rw [c_9_3]; decide) (by rw [c_9_3]; decide) (by rw [c_9_3]; rfl) (by decide) ?_
          refine lv_aload_n hx hb dX3_turnedSign_77 rfl (lv_at hl 1 rfl) ?_
          refine lv_iload_n hx hb dX3_turnedSign_78 rfl (lv_at hl 3 rfl) ?_
          refine lv_iload hx hb dX3_turnedSign_79 (lv_at hl 0 rfl) ?_
          refine lv_iload_n hx hb dX3_turnedSign_81 rfl (lv_at hl 4 rfl) ?_
          refine lv_isub hx hb dX3_turnedSign_82 ?_
          obtain ⟨y83, hC_83, hE⟩ := Option.bind_eq_some_iff.mp hE
          obtain ⟨r_83, ex9⟩ : ∃ z, z = y83 := ⟨_, rfl⟩
          subst ex9
          try dsimp only at hE
          refine vp_callSi (va_Run.run (va_runV (As := [.int p2, .int ((t_size - (1 : Int32)) - p3)]) (rest := []) ⟨hx, hb, hml, hown, hts⟩ (c_X3_signAt (l := l) (G := G) (p1 := p2) (p2 := (t_size - (1 : Int32)) - p3) (q_t := q_t) (t_size := t_size) (q_t_corners := q_t_corners) (t_corners := t_corners) hC_83) (cwV 2 hts gX3_turnedSign_X3_signAt rfl rfl rfl kd_X3_signAt ⟨Nat.le_of_ble_eq_true rfl, Nat.le_of_ble_eq_true rfl⟩) (pv_V hKW (hP.sub (ws' := [oX3 q_t t_size q_t_corners, aI (G.2 1) q_t_corners 49 t_corners]) [0, 1] rfl) (ci := 3) (q0 := 0) rfl rfl) rfl rfl hl.1 rfl (lv_room (Nat.le_of_ble_eq_true rfl)) dX3_turnedSign_83 ⟨Nat.zero_le _, Nat.zero_le _⟩)) (fun r9 hr9 => ?_)
          subst r9
          have e_0 := Option.some.inj hE
          rw [hQ]
          exact W.iret (v := r_83) hx hb hr (fun t ht _ => ⟨_, rfl, e_0, ht⟩) (fun q h => by cases h) dX3_turnedSign_86
        · replace hE := (if_neg c_9_3).symm.trans hE
          by_cases c_9_4 : p1 = (5 : Int32)
          · replace hE := (if_pos c_9_4).symm.trans hE
            refine lv_tableIn (tgt := 87) hx hb dX3_turnedSign_9 (by rw [c_9_4]; decide) (by rw [c_9_4]; decide) (by rw [c_9_4]; rfl) (by decide) ?_
            refine lv_aload_n hx hb dX3_turnedSign_87 rfl (lv_at hl 1 rfl) ?_
            refine lv_iload hx hb dX3_turnedSign_88 (lv_at hl 0 rfl) ?_
            refine lv_iload_n hx hb dX3_turnedSign_90 rfl (lv_at hl 3 rfl) ?_
            refine lv_isub hx hb dX3_turnedSign_91 ?_
            refine lv_iload_n hx hb dX3_turnedSign_92 rfl (lv_at hl 4 rfl) ?_
            obtain ⟨y93, hC_93, hE⟩ := Option.bind_eq_some_iff.mp hE
            obtain ⟨r_93, ex9⟩ : ∃ z, z = y93 := ⟨_, rfl⟩
            subst ex9
            try dsimp only at hE
            refine vp_callSi (va_Run.run (va_runV (As := [.int ((t_size - (1 : Int32)) - p2), .int p3]) (rest := []) ⟨hx, hb, hml, hown, hts⟩ (c_X3_signAt (l := l) (G := G) (p1 := (t_size - (1 : Int32)) - p2) (p2 := p3) (q_t := q_t) (t_size := t_size) (q_t_corners := q_t_corners) (t_corners := t_corners) hC_93) (cwV 2 hts gX3_turnedSign_X3_signAt rfl rfl rfl kd_X3_signAt ⟨Nat.le_of_ble_eq_true rfl, Nat.le_of_ble_eq_true rfl⟩) (pv_V hKW (hP.sub (ws' := [oX3 q_t t_size q_t_corners, aI (G.2 1) q_t_corners 49 t_corners]) [0, 1] rfl) (ci := 3) (q0 := 0) rfl rfl) rfl rfl hl.1 rfl (lv_room (Nat.le_of_ble_eq_true rfl)) dX3_turnedSign_93 ⟨Nat.zero_le _, Nat.zero_le _⟩)) (fun r9 hr9 => ?_)
            subst r9
            have e_0 := Option.some.inj hE
            rw [hQ]
            exact W.iret (v := r_93) hx hb hr (fun t ht _ => ⟨_, rfl, e_0, ht⟩) (fun q h => by cases h) dX3_turnedSign_96
          · replace hE := (if_neg c_9_4).symm.trans hE
            refine lv_tableOut (tgt := 97) hx hb dX3_turnedSign_9 (by have n_0 := lv_neT c_9_0 (a := 1) (by decide); have n_1 := lv_neT c_9_1 (a := 2) (by decide); have n_2 := lv_neT c_9_2 (a := 3) (by decide); have n_3 := lv_neT c_9_3 (a := 4) (by decide); have n_4 := lv_neT c_9_4 (a := 5) (by decide); omega) (by decide) ?_
            refine lv_aload_n hx hb dX3_turnedSign_97 rfl (lv_at hl 1 rfl) ?_
            refine lv_iload_n hx hb dX3_turnedSign_98 rfl (lv_at hl 4 rfl) ?_
            refine lv_iload_n hx hb dX3_turnedSign_99 rfl (lv_at hl 3 rfl) ?_
            obtain ⟨y100, hC_100, hE⟩ := Option.bind_eq_some_iff.mp hE
            obtain ⟨r_100, ex9⟩ : ∃ z, z = y100 := ⟨_, rfl⟩
            subst ex9
            try dsimp only at hE
            refine vp_callSi (va_Run.run (va_runV (As := [.int p3, .int p2]) (rest := []) ⟨hx, hb, hml, hown, hts⟩ (c_X3_signAt (l := l) (G := G) (p1 := p3) (p2 := p2) (q_t := q_t) (t_size := t_size) (q_t_corners := q_t_corners) (t_corners := t_corners) hC_100) (cwV 2 hts gX3_turnedSign_X3_signAt rfl rfl rfl kd_X3_signAt ⟨Nat.le_of_ble_eq_true rfl, Nat.le_of_ble_eq_true rfl⟩) (pv_V hKW (hP.sub (ws' := [oX3 q_t t_size q_t_corners, aI (G.2 1) q_t_corners 49 t_corners]) [0, 1] rfl) (ci := 3) (q0 := 0) rfl rfl) rfl rfl hl.1 rfl (lv_room (Nat.le_of_ble_eq_true rfl)) dX3_turnedSign_100 ⟨Nat.zero_le _, Nat.zero_le _⟩)) (fun r9 hr9 => ?_)
            subst r9
            have e_0 := Option.some.inj hE
            rw [hQ]
            exact W.iret (v := r_100) hx hb hr (fun t ht _ => ⟨_, rfl, e_0, ht⟩) (fun q h => by cases h) dX3_turnedSign_103
def S_X3_putTurned (p1 : Int32) (t_size : Int32) (t_corners : Nat → Int32) (p2_size : Int32) (p2_corners : Nat → Int32) : Option (Nat → Int32) := itr (fun (x1 : Int32 × (Nat → Int32)) => if t_size ≤ x1.1 then some (.inr x1.2) else itr (fun (x2 : Int32 × Int32 × (Nat → Int32)) => if t_size ≤ x2.2.1 then some (.inr (.inl (x1.1 + (1 : Int32), x2.2.2))) else (S_X3_turnedSign p1 x1.1 x2.2.1 p2_size p2_corners).bind (fun (y32 : Int32) => (S_X3_cornerAt x1.1 (x2.2.1 + (1 : Int32)) x2.2.2).bind (fun (y52 : Int32) => (S_X3_putCorner (x1.1 + (1 : Int32)) (x2.2.1 + (1 : Int32)) (y52 + (x2.1 + y32)) x2.2.2).bind (fun (y58 : Nat → Int32) => some (.inl (x2.1 + y32, x2.2.1 + (1 : Int32), y58)))))) 10000 ((0 : Int32), (0 : Int32), x1.2)) 10000 ((0 : Int32), t_corners)
theorem kd_X3_putTurned : yX3_putTurned.cls = RX3 ∧ yX3_putTurned.cls ≠ "java/lang/invoke/MethodHandle" ∧ yX3_putTurned.cls ≠ "java/lang/invoke/VarHandle" ∧ (parseMethodDescriptor yX3_putTurned.desc).map (fun d => d.parameters.length) = some 2 := by decide +kernel
set_option maxHeartbeats 4000000 in
set_option maxRecDepth 100000 in
theorem c_X3_putTurned {l : Launch} {G : kG} (sz : Nat) {p1 : Int32} {q_t : Nat} {t_size : Int32} {q_t_corners : Nat} {t_corners : Nat → Int32} {q_p2 : Nat} {p2_size : Int32} {q_p2_corners : Nat} {p2_corners : Nat → Int32} {res : Nat → Int32} (hE : S_X3_putTurned p1 t_size t_corners p2_size p2_corners = some res) : Met l yX3_putTurned wsX3_putTurned ({ frames := 4, cells := 0, slots := 0, locals := 90 }) (va_Pc [.ref q_t, .int p1, .ref q_p2] (fun U => U.heap.size = sz ∧ va_P G.1 vwCl [oX3 q_t t_size q_t_corners, aI (G.2 1) q_t_corners 49 t_corners, oX3 q_p2 p2_size q_p2_corners, aI (G.2 1) q_p2_corners 49 p2_corners] U.heap ∧ kw G U ∧ va_D (fun _ => True) [oX3 q_t t_size q_t_corners, aI (G.2 1) q_t_corners 49 t_corners, oX3 q_p2 p2_size q_p2_corners, aI (G.2 1) q_p2_corners 49 p2_corners])) (va_Qv (fun (_ : Unit) => True) (fun _ t => va_P G.1 vwCl [oX3 q_t t_size q_t_corners, aI (G.2 1) q_t_corners 49 res, oX3 q_p2 p2_size q_p2_corners, aI (G.2 1) q_p2_corners 49 p2_corners] t.heap ∧ va_D (va_A [oX3 q_t t_size q_t_corners, aI (G.2 1) q_t_corners 49 t_corners, oX3 q_p2 p2_size q_p2_corners, aI (G.2 1) q_p2_corners 49 p2_corners] sz) [oX3 q_t t_size q_t_corners, aI (G.2 1) q_t_corners 49 res, oX3 q_p2 p2_size q_p2_corners, aI (G.2 1) q_p2_corners 49 p2_corners]) (va_A [oX3 q_t t_size q_t_corners, aI (G.2 1) q_t_corners 49 t_corners, oX3 q_p2 p2_size q_p2_corners, aI (G.2 1) q_p2_corners 49 p2_corners] sz)) 0 0 (va_A [oX3 q_t t_size q_t_corners, aI (G.2 1) q_t_corners 49 t_corners, oX3 q_p2 p2_size q_p2_corners, aI (G.2 1) q_p2_corners 49 p2_corners] sz) := by
  refine Met.ofQ (cc := cX3_putTurned) (maxL := 6) (ret := none) (by decide) rfl ?_
  intro p e s m args below meth c s₁ Q hQ B hml hv
  obtain ⟨rfl, hsz, hP, hKW, hD0⟩ := hv
  have hK := hKW.1
  have hx := B.exec
  have hb := B.bytes
  have hr := B.returns
  have hts := atoms_spec (ws := wsX3_putTurned) B.pre
  have hown : s.vm.findClass RX3 = some m.cls := findClass_of_methodNamed B.named
  have hlocks := B.notSynchronized
  have iX3 : ∀ w ∈ u_ws RX3 TX3 2, w ∈ wsX3_putTurned := by decide +kernel
  have fl_15 := hts (.fieldLink RX3 15 "AlternateSigns$Table" "size" "I") (by decide +kernel)
  subst hsz
  have hD := hD0.self (sz := s.heap.size)
  generalize hAe : va_A [oX3 q_t t_size q_t_corners, aI (G.2 1) q_t_corners 49 t_corners, oX3 q_p2 p2_size q_p2_corners, aI (G.2 1) q_p2_corners 49 p2_corners] s.heap.size = A at hD hQ
  have hA : ∀ q : Nat, s.heap.size ≤ q → A q := fun q h => by rw [← hAe]; exact Or.inr h
  have hS : va_S A s.heap s.heap [] := va_S.rf
  have hl := lv_entry ([.ref q_t, .int p1, .ref q_p2]) (n := 6) (Nat.le_of_ble_eq_true rfl)
  rw [lg_entry_eq]
  generalize (lg_sl ([.ref q_t, .int p1, .ref q_p2]) ++ List.replicate (6 - (lg_sl ([.ref q_t, .int p1, .ref q_p2])).length) Slot.unset).toArray = ls at hl ⊢
  have hl : lv_has ls 6 [(0, .ref q_t), (1, .int p1), (2, .ref q_p2)] := hl
  unfold S_X3_putTurned at hE
  refine lv_iconst (v := 0) hx hb dX3_putTurned_0 (by decide) ?_
  refine lv_istore_n (lv' := [(3, .int (0 : Int32)), (0, .ref q_t), (1, .int p1), (2, .ref q_p2)]) hx hb dX3_putTurned_1 rfl hl (by decide) rfl (fun ls hl => ?_)
  refine itr_ind (fun (x1 : Int32 × (Nat → Int32)) => ∀ (H : Heap) (locs : List Loc) (ls : Array Slot), va_P G.1 vwCl [oX3 q_t t_size q_t_corners, aI (G.2 1) q_t_corners 49 x1.2, oX3 q_p2 p2_size q_p2_corners, aI (G.2 1) q_p2_corners 49 p2_corners] H → va_D A [oX3 q_t t_size q_t_corners, aI (G.2 1) q_t_corners 49 x1.2, oX3 q_p2 p2_size q_p2_corners, aI (G.2 1) q_p2_corners 49 p2_corners] → va_S A s.heap H locs → lv_has ls 6 [(0, .ref q_t), (1, .int p1), (2, .ref q_p2), (3, .int x1.1)] → W p l e (headSpec wsX3_putTurned ({ frames := 4, cells := 0, slots := 0, locals := 90 })).room s m ([.ref q_t, .int p1, .ref q_p2] : List Value).toArray below meth c H locs 0 0 Q (F0 m 2 ls [])) (fun x1 o_1 hE ih_1 hr_1 => ?_) _ _ hE _ _ ls hP hD hS (lv_sub hl [1, 2, 3, 0] rfl)
  obtain ⟨v3_1, w_t_corners_1⟩ := x1
  try dsimp only at hE
  intro H locs ls hP hD hS hl
  try dsimp only at hP hD hl ⊢
  refine lv_iload_n hx hb dX3_putTurned_2 rfl (lv_at hl 3 rfl) ?_
  refine lv_aload_n hx hb dX3_putTurned_3 rfl (lv_at hl 0 rfl) ?_
  refine va_get (D := G.1) (ci := 3) (v := .int t_size) (C := RX3) (T := TX3) (N := 2) hx hb hts iX3 hown hK hP 0 rfl rfl 0 (by decide) fl_15 (fun _ h9 => h9) rfl dX3_putTurned_4 ?_
  refine lv_icmp_ge (tgt := 73) hx hb dX3_putTurned_7 (by decide) (fun c_7 => ?_) (fun c_7 => ?_)
  · replace hE := (if_pos c_7).symm.trans hE
    have e_1 := Option.some.inj hE
    have e_0 := hr_1 _ e_1.symm
    subst e_0
    rw [hQ]
    exact W.vret hx hb hr (fun t ht _ => ⟨⟨(), rfl, trivial, by rw [ht]; exact hP, hD⟩, hS.F ht⟩) hS.2.2 dX3_putTurned_73
  · replace hE := (if_neg c_7).symm.trans hE
    refine lv_iconst (v := 0) hx hb dX3_putTurned_10 (by decide) ?_
    refine lv_istore (lv' := [(4, .int (0 : Int32)), (0, .ref q_t), (1, .int p1), (2, .ref q_p2), (3, .int v3_1)]) hx hb dX3_putTurned_11 hl (by decide) rfl (fun ls hl => ?_)
    refine lv_iconst (v := 0) hx hb dX3_putTurned_13 (by decide) ?_
    refine lv_istore (lv' := [(5, .int (0 : Int32)), (4, .int (0 : Int32)), (0, .ref q_t), (1, .int p1), (2, .ref q_p2), (3, .int v3_1)]) hx hb dX3_putTurned_14 hl (by decide) rfl (fun ls hl => ?_)
    refine itr_ind (fun (x2 : Int32 × Int32 × (Nat → Int32)) => ∀ (H : Heap) (locs : List Loc) (ls : Array Slot), va_P G.1 vwCl [oX3 q_t t_size q_t_corners, aI (G.2 1) q_t_corners 49 x2.2.2, oX3 q_p2 p2_size q_p2_corners, aI (G.2 1) q_p2_corners 49 p2_corners] H → va_D A [oX3 q_t t_size q_t_corners, aI (G.2 1) q_t_corners 49 x2.2.2, oX3 q_p2 p2_size q_p2_corners, aI (G.2 1) q_p2_corners 49 p2_corners] → va_S A s.heap H locs → lv_has ls 6 [(0, .ref q_t), (1, .int p1), (2, .ref q_p2), (3, .int v3_1), (4, .int x2.1), (5, .int x2.2.1)] → W p l e (headSpec wsX3_putTurned ({ frames := 4, cells := 0, slots := 0, locals := 90 })).room s m ([.ref q_t, .int p1, .ref q_p2] : List Value).toArray below meth c H locs 0 0 Q (F0 m 16 ls [])) (fun x2 o_2 hE ih_2 hr_2 => ?_) _ _ hE _ _ ls hP hD hS (lv_sub hl [2, 3, 4, 5, 1, 0] rfl)
    obtain ⟨v4_2, v5_2, w_t_corners_2⟩ := x2
    try dsimp only at hE
    intro H locs ls hP hD hS hl
    try dsimp only at hP hD hl ⊢
    refine lv_iload hx hb dX3_putTurned_16 (lv_at hl 5 rfl) ?_
    refine lv_aload_n hx hb dX3_putTurned_18 rfl (lv_at hl 0 rfl) ?_
    refine va_get (D := G.1) (ci := 3) (v := .int t_size) (C := RX3) (T := TX3) (N := 2) hx hb hts iX3 hown hK hP 0 rfl rfl 0 (by decide) fl_15 (fun _ h9 => h9) rfl dX3_putTurned_19 ?_
    refine lv_icmp_ge (tgt := 67) hx hb dX3_putTurned_22 (by decide) (fun c_22 => ?_) (fun c_22 => ?_)
    · replace hE := (if_pos c_22).symm.trans hE
      refine lv_iinc (v := v3_1 + (1 : Int32)) (lv' := [(3, .int (v3_1 + (1 : Int32))), (0, .ref q_t), (1, .int p1), (2, .ref q_p2), (4, .int v4_2), (5, .int v5_2)]) hx hb dX3_putTurned_67 hl (k := 3) rfl rfl (by decide) rfl (fun ls hl => ?_)
      refine lv_goto (tgt := 2) hx hb dX3_putTurned_70 (by decide) ?_
      have e_2 := Option.some.inj hE
      have e_1 := hr_2 _ e_2.symm
      exact ih_1 _ e_1.symm _ _ ls hP hD hS (lv_sub hl [1, 2, 3, 0] rfl)
    · replace hE := (if_neg c_22).symm.trans hE
      refine lv_iload hx hb dX3_putTurned_25 (lv_at hl 4 rfl) ?_
      refine lv_aload_n hx hb dX3_putTurned_27 rfl (lv_at hl 2 rfl) ?_
      refine lv_iload_n hx hb dX3_putTurned_28 rfl (lv_at hl 1 rfl) ?_
      refine lv_iload_n hx hb dX3_putTurned_29 rfl (lv_at hl 3 rfl) ?_
      refine lv_iload hx hb dX3_putTurned_30 (lv_at hl 5 rfl) ?_
      obtain ⟨y32, hC_32, hE⟩ := Option.bind_eq_some_iff.mp hE
      obtain ⟨r_32, ex9⟩ : ∃ z, z = y32 := ⟨_, rfl⟩
      subst ex9
      try dsimp only at hE
      refine vp_callSi (va_Run.run (va_runV (As := [.int p1, .int v3_1, .int v5_2]) (rest := [.int v4_2]) ⟨hx, hb, hml, hown, hts⟩ (c_X3_turnedSign (l := l) (G := G) (p1 := p1) (p2 := v3_1) (p3 := v5_2) (q_t := q_p2) (t_size := p2_size) (q_t_corners := q_p2_corners) (t_corners := p2_corners) hC_32) (cwV 3 hts gX3_putTurned_X3_turnedSign rfl rfl rfl kd_X3_turnedSign ⟨Nat.le_of_ble_eq_true rfl, Nat.le_of_ble_eq_true rfl⟩) (pv_V hKW (hP.sub (ws' := [oX3 q_p2 p2_size q_p2_corners, aI (G.2 1) q_p2_corners 49 p2_corners]) [2, 3] rfl) (ci := 3) (q0 := 0) rfl rfl) rfl rfl hl.1 rfl (lv_room (Nat.le_of_ble_eq_true rfl)) dX3_putTurned_32 ⟨Nat.zero_le _, Nat.zero_le _⟩)) (fun r9 hr9 => ?_)
      subst r9
      refine lv_iadd hx hb dX3_putTurned_35 ?_
      refine lv_istore (lv' := [(4, .int (v4_2 + r_32)), (0, .ref q_t), (1, .int p1), (2, .ref q_p2), (3, .int v3_1), (5, .int v5_2)]) hx hb dX3_putTurned_36 hl (by decide) rfl (fun ls hl => ?_)
      refine lv_aload_n hx hb dX3_putTurned_38 rfl (lv_at hl 1 rfl) ?_
      refine lv_iload_n hx hb dX3_putTurned_39 rfl (lv_at hl 4 rfl) ?_
      refine lv_iconst (v := 1) hx hb dX3_putTurned_40 (by decide) ?_
      refine lv_iadd hx hb dX3_putTurned_41 ?_
      refine lv_iload hx hb dX3_putTurned_42 (lv_at hl 5 rfl) ?_
      refine lv_iconst (v := 1) hx hb dX3_putTurned_44 (by decide) ?_
      refine lv_iadd hx hb dX3_putTurned_45 ?_
      refine lv_aload_n hx hb dX3_putTurned_46 rfl (lv_at hl 1 rfl) ?_
      refine lv_iload_n hx hb dX3_putTurned_47 rfl (lv_at hl 4 rfl) ?_
      refine lv_iload hx hb dX3_putTurned_48 (lv_at hl 5 rfl) ?_
      refine lv_iconst (v := 1) hx hb dX3_putTurned_50 (by decide) ?_
      refine lv_iadd hx hb dX3_putTurned_51 ?_
      obtain ⟨y52, hC_52, hE⟩ := Option.bind_eq_some_iff.mp hE
      obtain ⟨r_52, ex9⟩ : ∃ z, z = y52 := ⟨_, rfl⟩
      subst ex9
      try dsimp only at hE
      refine vp_callSi (va_Run.run (va_runV (As := [.int v3_1, .int (v5_2 + (1 : Int32))]) (rest := [.int (v5_2 + (1 : Int32)), .int (v3_1 + (1 : Int32)), .ref q_t]) ⟨hx, hb, hml, hown, hts⟩ (c_X3_cornerAt (l := l) (G := G) (p1 := v3_1) (p2 := v5_2 + (1 : Int32)) (q_t := q_t) (t_size := t_size) (q_t_corners := q_t_corners) (t_corners := w_t_corners_2) hC_52) (cwV 2 hts gX3_putTurned_X3_cornerAt rfl rfl rfl kd_X3_cornerAt ⟨Nat.le_of_ble_eq_true rfl, Nat.le_of_ble_eq_true rfl⟩) (pv_V hKW (hP.sub (ws' := [oX3 q_t t_size q_t_corners, aI (G.2 1) q_t_corners 49 w_t_corners_2]) [0, 1] rfl) (ci := 3) (q0 := 0) rfl rfl) rfl rfl hl.1 rfl (lv_room (Nat.le_of_ble_eq_true rfl)) dX3_putTurned_52 ⟨Nat.zero_le _, Nat.zero_le _⟩)) (fun r9 hr9 => ?_)
      subst r9
      refine lv_iload hx hb dX3_putTurned_55 (lv_at hl 0 rfl) ?_
      refine lv_iadd hx hb dX3_putTurned_57 ?_
      obtain ⟨y58, hC_58, hE⟩ := Option.bind_eq_some_iff.mp hE
      obtain ⟨m_58_0, ex9⟩ : ∃ z, z = y58 := ⟨_, rfl⟩
      subst ex9
      try dsimp only at hE
      have hPc := hP.sub (ws' := [oX3 q_t t_size q_t_corners, aI (G.2 1) q_t_corners 49 w_t_corners_2]) [0, 1] rfl
      have hDc := hD.sub (ws' := [oX3 q_t t_size q_t_corners, aI (G.2 1) q_t_corners 49 w_t_corners_2]) [0, 1] (by decide) rfl
      have hFc := va_free (wc := [oX3 q_t t_size q_t_corners, aI (G.2 1) q_t_corners 49 w_t_corners_2]) hD hS hA [0, 1] rfl
      refine va_callv (va_runV (As := [.int (v3_1 + (1 : Int32)), .int (v5_2 + (1 : Int32)), .int (r_52 + (v4_2 + r_32))]) (rest := []) ⟨hx, hb, hml, hown, hts⟩ (c_X3_putCorner (l := l) (G := G) _ (p1 := v3_1 + (1 : Int32)) (p2 := v5_2 + (1 : Int32)) (p3 := r_52 + (v4_2 + r_32)) (q_t := q_t) (t_size := t_size) (q_t_corners := q_t_corners) (t_corners := w_t_corners_2) hC_58) (cwV 3 hts gX3_putTurned_X3_putCorner rfl rfl rfl kd_X3_putCorner ⟨Nat.le_of_ble_eq_true rfl, Nat.le_of_ble_eq_true rfl⟩) (iv_V hKW hPc hDc (ci := 3) (q0 := 0) rfl rfl) rfl rfl hl.1 rfl (lv_room (Nat.le_of_ble_eq_true rfl)) dX3_putTurned_58 ⟨Nat.zero_le _, Nat.zero_le _⟩) hS (fun q _ h => hFc q h) hFc (fun u9 t9 H1 locs ht9 hvm9 hw9 hB9 hz9 hk9 hS => ?_)
      obtain ⟨hP1, hD1⟩ := hB9
      rw [ht9] at hP1
      obtain ⟨hP, hD⟩ := va_join (wr := [oX3 q_p2 p2_size q_p2_corners, aI (G.2 1) q_p2_corners 49 p2_corners]) (w1 := [oX3 q_t t_size q_t_corners, aI (G.2 1) q_t_corners 49 m_58_0]) hP hD [0, 1] [2, 3] rfl rfl (by decide) (by decide) hk9 hFc hP1 hD1
      have hP := hP.sub (ws' := [oX3 q_t t_size q_t_corners, aI (G.2 1) q_t_corners 49 m_58_0, oX3 q_p2 p2_size q_p2_corners, aI (G.2 1) q_p2_corners 49 p2_corners]) [2, 3, 0, 1] rfl
      have hD := hD.sub (ws' := [oX3 q_t t_size q_t_corners, aI (G.2 1) q_t_corners 49 m_58_0, oX3 q_p2 p2_size q_p2_corners, aI (G.2 1) q_p2_corners 49 p2_corners]) [2, 3, 0, 1] (by decide) rfl
      clear hPc hDc hFc hP1 hD1 hk9 hz9 hvm9
      refine lv_iinc (v := v5_2 + (1 : Int32)) (lv' := [(5, .int (v5_2 + (1 : Int32))), (4, .int (v4_2 + r_32)), (0, .ref q_t), (1, .int p1), (2, .ref q_p2), (3, .int v3_1)]) hx hb dX3_putTurned_61 hl (k := 5) rfl rfl (by decide) rfl (fun ls hl => ?_)
      refine lv_goto (tgt := 16) hx hb dX3_putTurned_64 (by decide) ?_
      have e_2 := Option.some.inj hE
      exact ih_2 _ e_2.symm _ _ ls hP hD hS (lv_sub hl [2, 3, 4, 5, 1, 0] rfl)
def S_X3_unlikeSigns (t_size : Int32) (t_corners : Nat → Int32) (p1_corners : Nat → Int32) : Option Int32 := itr (fun (x1 : Int32 × Int32) => if t_size ≤ x1.2 then some (.inr x1.1) else itr (fun (x2 : Int32 × Int32) => if t_size ≤ x2.2 then some (.inr (.inl (x2.1, x1.2 + (1 : Int32)))) else (S_X3_signAt x1.2 x2.2 t_corners).bind (fun (y28 : Int32) => (S_X3_signAt x1.2 x2.2 p1_corners).bind (fun (y35 : Int32) => if y28 = y35 then some (.inl (x2.1, x2.2 + (1 : Int32))) else some (.inl (x2.1 + (1 : Int32), x2.2 + (1 : Int32)))))) 10000 (x1.1, (0 : Int32))) 10000 ((0 : Int32), (0 : Int32))
theorem kd_X3_unlikeSigns : yX3_unlikeSigns.cls = RX3 ∧ yX3_unlikeSigns.cls ≠ "java/lang/invoke/MethodHandle" ∧ yX3_unlikeSigns.cls ≠ "java/lang/invoke/VarHandle" ∧ (parseMethodDescriptor yX3_unlikeSigns.desc).map (fun d => d.parameters.length) = some 1 := by decide +kernel
set_option maxHeartbeats 4000000 in
set_option maxRecDepth 100000 in
theorem c_X3_unlikeSigns {l : Launch} {G : kG} {q_t : Nat} {t_size : Int32} {q_t_corners : Nat} {t_corners : Nat → Int32} {q_p1 : Nat} {p1_size : Int32} {q_p1_corners : Nat} {p1_corners : Nat → Int32} {res : Int32} (hE : S_X3_unlikeSigns t_size t_corners p1_corners = some res) : Met l yX3_unlikeSigns wsX3_unlikeSigns ({ frames := 3, cells := 0, slots := 0, locals := 66 }) (va_Pc [.ref q_t, .ref q_p1] (fun U => va_P G.1 vwCl [oX3 q_t t_size q_t_corners, aI (G.2 1) q_t_corners 49 t_corners, oX3 q_p1 p1_size q_p1_corners, aI (G.2 1) q_p1_corners 49 p1_corners] U.heap ∧ kw G U)) (vp_Si (fun r => r = res)) 0 0 (fun _ => False) := by
  refine Met.ofQ (cc := cX3_unlikeSigns) (maxL := 5) (ret := (some .int)) (by decide) rfl ?_
  intro p e s m args below meth c s₁ Q hQ B hml hv
  obtain ⟨rfl, hP, hKW⟩ := hv
  have hK := hKW.1
  have hx := B.exec
  have hb := B.bytes
  have hr := B.returns
  have hts := atoms_spec (ws := wsX3_unlikeSigns) B.pre
  have hown : s.vm.findClass RX3 = some m.cls := findClass_of_methodNamed B.named
  have hlocks := B.notSynchronized
  have iX3 : ∀ w ∈ u_ws RX3 TX3 2, w ∈ wsX3_unlikeSigns := by decide +kernel
  have fl_15 := hts (.fieldLink RX3 15 "AlternateSigns$Table" "size" "I") (by decide +kernel)
  have hl := lv_entry ([.ref q_t, .ref q_p1]) (n := 5) (Nat.le_of_ble_eq_true rfl)
  rw [lg_entry_eq]
  generalize (lg_sl ([.ref q_t, .ref q_p1]) ++ List.replicate (5 - (lg_sl ([.ref q_t, .ref q_p1])).length) Slot.unset).toArray = ls at hl ⊢
  have hl : lv_has ls 5 [(0, .ref q_t), (1, .ref q_p1)] := hl
  unfold S_X3_unlikeSigns at hE
  refine lv_iconst (v := 0) hx hb dX3_unlikeSigns_0 (by decide) ?_
  refine lv_istore_n (lv' := [(2, .int (0 : Int32)), (0, .ref q_t), (1, .ref q_p1)]) hx hb dX3_unlikeSigns_1 rfl hl (by decide) rfl (fun ls hl => ?_)
  refine lv_iconst (v := 0) hx hb dX3_unlikeSigns_2 (by decide) ?_
  refine lv_istore_n (lv' := [(3, .int (0 : Int32)), (2, .int (0 : Int32)), (0, .ref q_t), (1, .ref q_p1)]) hx hb dX3_unlikeSigns_3 rfl hl (by decide) rfl (fun ls hl => ?_)
  refine itr_ind (fun (x1 : Int32 × Int32) => ∀ (ls : Array Slot), lv_has ls 5 [(0, .ref q_t), (1, .ref q_p1), (2, .int x1.1), (3, .int x1.2)] → W p l e (headSpec wsX3_unlikeSigns ({ frames := 3, cells := 0, slots := 0, locals := 66 })).room s m ([.ref q_t, .ref q_p1] : List Value).toArray below meth c s.heap [] 0 0 Q (F0 m 4 ls [])) (fun x1 o_1 hE ih_1 hr_1 => ?_) _ _ hE ls (lv_sub hl [2, 3, 1, 0] rfl)
  obtain ⟨v2_1, v3_1⟩ := x1
  try dsimp only at hE
  intro ls hl
  try dsimp only at hl ⊢
  refine lv_iload_n hx hb dX3_unlikeSigns_4 rfl (lv_at hl 3 rfl) ?_
  refine lv_aload_n hx hb dX3_unlikeSigns_5 rfl (lv_at hl 0 rfl) ?_
  refine va_get (D := G.1) (ci := 3) (v := .int t_size) (C := RX3) (T := TX3) (N := 2) hx hb hts iX3 hown hK hP 0 rfl rfl 0 (by decide) fl_15 (fun _ h9 => h9) rfl dX3_unlikeSigns_6 ?_
  refine lv_icmp_ge (tgt := 56) hx hb dX3_unlikeSigns_9 (by decide) (fun c_9 => ?_) (fun c_9 => ?_)
  · replace hE := (if_pos c_9).symm.trans hE
    refine lv_iload_n hx hb dX3_unlikeSigns_56 rfl (lv_at hl 2 rfl) ?_
    have e_1 := Option.some.inj hE
    have e_0 := hr_1 _ e_1.symm
    rw [hQ]
    exact W.iret (v := v2_1) hx hb hr (fun t ht _ => ⟨_, rfl, e_0, ht⟩) (fun q h => by cases h) dX3_unlikeSigns_57
  · replace hE := (if_neg c_9).symm.trans hE
    refine lv_iconst (v := 0) hx hb dX3_unlikeSigns_12 (by decide) ?_
    refine lv_istore (lv' := [(4, .int (0 : Int32)), (0, .ref q_t), (1, .ref q_p1), (2, .int v2_1), (3, .int v3_1)]) hx hb dX3_unlikeSigns_13 hl (by decide) rfl (fun ls hl => ?_)
    refine itr_ind (fun (x2 : Int32 × Int32) => ∀ (ls : Array Slot), lv_has ls 5 [(0, .ref q_t), (1, .ref q_p1), (2, .int x2.1), (3, .int v3_1), (4, .int x2.2)] → W p l e (headSpec wsX3_unlikeSigns ({ frames := 3, cells := 0, slots := 0, locals := 66 })).room s m ([.ref q_t, .ref q_p1] : List Value).toArray below meth c s.heap [] 0 0 Q (F0 m 15 ls [])) (fun x2 o_2 hE ih_2 hr_2 => ?_) _ _ hE ls (lv_sub hl [1, 2, 3, 4, 0] rfl)
    obtain ⟨v2_2, v4_2⟩ := x2
    try dsimp only at hE
    intro ls hl
    try dsimp only at hl ⊢
    refine lv_iload hx hb dX3_unlikeSigns_15 (lv_at hl 4 rfl) ?_
    refine lv_aload_n hx hb dX3_unlikeSigns_17 rfl (lv_at hl 0 rfl) ?_
    refine va_get (D := G.1) (ci := 3) (v := .int t_size) (C := RX3) (T := TX3) (N := 2) hx hb hts iX3 hown hK hP 0 rfl rfl 0 (by decide) fl_15 (fun _ h9 => h9) rfl dX3_unlikeSigns_18 ?_
    refine lv_icmp_ge (tgt := 50) hx hb dX3_unlikeSigns_21 (by decide) (fun c_21 => ?_) (fun c_21 => ?_)
    · replace hE := (if_pos c_21).symm.trans hE
      refine lv_iinc (v := v3_1 + (1 : Int32)) (lv' := [(3, .int (v3_1 + (1 : Int32))), (0, .ref q_t), (1, .ref q_p1), (2, .int v2_2), (4, .int v4_2)]) hx hb dX3_unlikeSigns_50 hl (k := 3) rfl rfl (by decide) rfl (fun ls hl => ?_)
      refine lv_goto (tgt := 4) hx hb dX3_unlikeSigns_53 (by decide) ?_
      have e_2 := Option.some.inj hE
      have e_1 := hr_2 _ e_2.symm
      exact ih_1 _ e_1.symm ls (lv_sub hl [1, 2, 3, 0] rfl)
    · replace hE := (if_neg c_21).symm.trans hE
      refine lv_aload_n hx hb dX3_unlikeSigns_24 rfl (lv_at hl 0 rfl) ?_
      refine lv_iload_n hx hb dX3_unlikeSigns_25 rfl (lv_at hl 3 rfl) ?_
      refine lv_iload hx hb dX3_unlikeSigns_26 (lv_at hl 4 rfl) ?_
      obtain ⟨y28, hC_28, hE⟩ := Option.bind_eq_some_iff.mp hE
      obtain ⟨r_28, ex9⟩ : ∃ z, z = y28 := ⟨_, rfl⟩
      subst ex9
      try dsimp only at hE
      refine vp_callSi (va_Run.run (va_runV (As := [.int v3_1, .int v4_2]) (rest := []) ⟨hx, hb, hml, hown, hts⟩ (c_X3_signAt (l := l) (G := G) (p1 := v3_1) (p2 := v4_2) (q_t := q_t) (t_size := t_size) (q_t_corners := q_t_corners) (t_corners := t_corners) hC_28) (cwV 2 hts gX3_unlikeSigns_X3_signAt rfl rfl rfl kd_X3_signAt ⟨Nat.le_of_ble_eq_true rfl, Nat.le_of_ble_eq_true rfl⟩) (pv_V hKW (hP.sub (ws' := [oX3 q_t t_size q_t_corners, aI (G.2 1) q_t_corners 49 t_corners]) [0, 1] rfl) (ci := 3) (q0 := 0) rfl rfl) rfl rfl hl.1 rfl (lv_room (Nat.le_of_ble_eq_true rfl)) dX3_unlikeSigns_28 ⟨Nat.zero_le _, Nat.zero_le _⟩)) (fun r9 hr9 => ?_)
      subst r9
      refine lv_aload_n hx hb dX3_unlikeSigns_31 rfl (lv_at hl 1 rfl) ?_
      refine lv_iload_n hx hb dX3_unlikeSigns_32 rfl (lv_at hl 3 rfl) ?_
      refine lv_iload hx hb dX3_unlikeSigns_33 (lv_at hl 4 rfl) ?_
      obtain ⟨y35, hC_35, hE⟩ := Option.bind_eq_some_iff.mp hE
      obtain ⟨r_35, ex9⟩ : ∃ z, z = y35 := ⟨_, rfl⟩
      subst ex9
      try dsimp only at hE
      refine vp_callSi (va_Run.run (va_runV (As := [.int v3_1, .int v4_2]) (rest := [.int r_28]) ⟨hx, hb, hml, hown, hts⟩ (c_X3_signAt (l := l) (G := G) (p1 := v3_1) (p2 := v4_2) (q_t := q_p1) (t_size := p1_size) (q_t_corners := q_p1_corners) (t_corners := p1_corners) hC_35) (cwV 2 hts gX3_unlikeSigns_X3_signAt rfl rfl rfl kd_X3_signAt ⟨Nat.le_of_ble_eq_true rfl, Nat.le_of_ble_eq_true rfl⟩) (pv_V hKW (hP.sub (ws' := [oX3 q_p1 p1_size q_p1_corners, aI (G.2 1) q_p1_corners 49 p1_corners]) [2, 3] rfl) (ci := 3) (q0 := 0) rfl rfl) rfl rfl hl.1 rfl (lv_room (Nat.le_of_ble_eq_true rfl)) dX3_unlikeSigns_35 ⟨Nat.zero_le _, Nat.zero_le _⟩)) (fun r9 hr9 => ?_)
      subst r9
      refine lv_icmp_eq (tgt := 44) hx hb dX3_unlikeSigns_38 (by decide) (fun c_38 => ?_) (fun c_38 => ?_)
      · replace hE := (if_pos c_38).symm.trans hE
        refine lv_iinc (v := v4_2 + (1 : Int32)) (lv' := [(4, .int (v4_2 + (1 : Int32))), (0, .ref q_t), (1, .ref q_p1), (2, .int v2_2), (3, .int v3_1)]) hx hb dX3_unlikeSigns_44 hl (k := 4) rfl rfl (by decide) rfl (fun ls hl => ?_)
        refine lv_goto (tgt := 15) hx hb dX3_unlikeSigns_47 (by decide) ?_
        have e_2 := Option.some.inj hE
        exact ih_2 _ e_2.symm ls (lv_sub hl [1, 2, 3, 4, 0] rfl)
      · replace hE := (if_neg c_38).symm.trans hE
        refine lv_iinc (v := v2_2 + (1 : Int32)) (lv' := [(2, .int (v2_2 + (1 : Int32))), (0, .ref q_t), (1, .ref q_p1), (3, .int v3_1), (4, .int v4_2)]) hx hb dX3_unlikeSigns_41 hl (k := 2) rfl rfl (by decide) rfl (fun ls hl => ?_)
        refine lv_iinc (v := v4_2 + (1 : Int32)) (lv' := [(4, .int (v4_2 + (1 : Int32))), (2, .int (v2_2 + (1 : Int32))), (0, .ref q_t), (1, .ref q_p1), (3, .int v3_1)]) hx hb dX3_unlikeSigns_44 hl (k := 4) rfl rfl (by decide) rfl (fun ls hl => ?_)
        refine lv_goto (tgt := 15) hx hb dX3_unlikeSigns_47 (by decide) ?_
        have e_2 := Option.some.inj hE
        exact ih_2 _ e_2.symm ls (lv_sub hl [2, 3, 1, 4, 0] rfl)
def S_X3_fullColumns (p1 : Int32) (t_size : Int32) (t_corners : Nat → Int32) : Option Int32 := itr (fun (x1 : Int32 × Int32) => if t_size < x1.2 then some (.inr x1.1) else (S_X3_columnSum p1 x1.2 t_corners).bind (fun (y18 : Int32) => some (.inl (((2 : Int32) * x1.1) + y18, x1.2 + (1 : Int32))))) 10000 ((0 : Int32), (1 : Int32))
theorem kd_X3_fullColumns : yX3_fullColumns.cls = RX3 ∧ yX3_fullColumns.cls ≠ "java/lang/invoke/MethodHandle" ∧ yX3_fullColumns.cls ≠ "java/lang/invoke/VarHandle" ∧ (parseMethodDescriptor yX3_fullColumns.desc).map (fun d => d.parameters.length) = some 1 := by decide +kernel
set_option maxHeartbeats 4000000 in
set_option maxRecDepth 100000 in
theorem c_X3_fullColumns {l : Launch} {G : kG} {p1 : Int32} {q_t : Nat} {t_size : Int32} {q_t_corners : Nat} {t_corners : Nat → Int32} {res : Int32} (hE : S_X3_fullColumns p1 t_size t_corners = some res) : Met l yX3_fullColumns wsX3_fullColumns ({ frames := 2, cells := 0, slots := 0, locals := 44 }) (va_Pc [.ref q_t, .int p1] (fun U => va_P G.1 vwCl [oX3 q_t t_size q_t_corners, aI (G.2 1) q_t_corners 49 t_corners] U.heap ∧ kw G U)) (vp_Si (fun r => r = res)) 0 0 (fun _ => False) := by
  refine Met.ofQ (cc := cX3_fullColumns) (maxL := 4) (ret := (some .int)) (by decide) rfl ?_
  intro p e s m args below meth c s₁ Q hQ B hml hv
  obtain ⟨rfl, hP, hKW⟩ := hv
  have hK := hKW.1
  have hx := B.exec
  have hb := B.bytes
  have hr := B.returns
  have hts := atoms_spec (ws := wsX3_fullColumns) B.pre
  have hown : s.vm.findClass RX3 = some m.cls := findClass_of_methodNamed B.named
  have hlocks := B.notSynchronized
  have iX3 : ∀ w ∈ u_ws RX3 TX3 2, w ∈ wsX3_fullColumns := by decide +kernel
  have fl_15 := hts (.fieldLink RX3 15 "AlternateSigns$Table" "size" "I") (by decide +kernel)
  have hl := lv_entry ([.ref q_t, .int p1]) (n := 4) (Nat.le_of_ble_eq_true rfl)
  rw [lg_entry_eq]
  generalize (lg_sl ([.ref q_t, .int p1]) ++ List.replicate (4 - (lg_sl ([.ref q_t, .int p1])).length) Slot.unset).toArray = ls at hl ⊢
  have hl : lv_has ls 4 [(0, .ref q_t), (1, .int p1)] := hl
  unfold S_X3_fullColumns at hE
  refine lv_iconst (v := 0) hx hb dX3_fullColumns_0 (by decide) ?_
  refine lv_istore_n (lv' := [(2, .int (0 : Int32)), (0, .ref q_t), (1, .int p1)]) hx hb dX3_fullColumns_1 rfl hl (by decide) rfl (fun ls hl => ?_)
  refine lv_iconst (v := 1) hx hb dX3_fullColumns_2 (by decide) ?_
  refine lv_istore_n (lv' := [(3, .int (1 : Int32)), (2, .int (0 : Int32)), (0, .ref q_t), (1, .int p1)]) hx hb dX3_fullColumns_3 rfl hl (by decide) rfl (fun ls hl => ?_)
  refine itr_ind (fun (x1 : Int32 × Int32) => ∀ (ls : Array Slot), lv_has ls 4 [(0, .ref q_t), (1, .int p1), (2, .int x1.1), (3, .int x1.2)] → W p l e (headSpec wsX3_fullColumns ({ frames := 2, cells := 0, slots := 0, locals := 44 })).room s m ([.ref q_t, .int p1] : List Value).toArray below meth c s.heap [] 0 0 Q (F0 m 4 ls [])) (fun x1 o_1 hE ih_1 hr_1 => ?_) _ _ hE ls (lv_sub hl [2, 3, 1, 0] rfl)
  obtain ⟨v2_1, v3_1⟩ := x1
  try dsimp only at hE
  intro ls hl
  try dsimp only at hl ⊢
  refine lv_iload_n hx hb dX3_fullColumns_4 rfl (lv_at hl 3 rfl) ?_
  refine lv_aload_n hx hb dX3_fullColumns_5 rfl (lv_at hl 0 rfl) ?_
  refine va_get (D := G.1) (ci := 3) (v := .int t_size) (C := RX3) (T := TX3) (N := 2) hx hb hts iX3 hown hK hP 0 rfl rfl 0 (by decide) fl_15 (fun _ h9 => h9) rfl dX3_fullColumns_6 ?_
  refine lv_icmp_gt (tgt := 29) hx hb dX3_fullColumns_9 (by decide) (fun c_9 => ?_) (fun c_9 => ?_)
  · replace hE := (if_pos c_9).symm.trans hE
    refine lv_iload_n hx hb dX3_fullColumns_29 rfl (lv_at hl 2 rfl) ?_
    have e_1 := Option.some.inj hE
    have e_0 := hr_1 _ e_1.symm
    rw [hQ]
    exact W.iret (v := v2_1) hx hb hr (fun t ht _ => ⟨_, rfl, e_0, ht⟩) (fun q h => by cases h) dX3_fullColumns_30
  · replace hE := (if_neg c_9).symm.trans hE
    refine lv_iconst (v := 2) hx hb dX3_fullColumns_12 (by decide) ?_
    refine lv_iload_n hx hb dX3_fullColumns_13 rfl (lv_at hl 2 rfl) ?_
    refine lv_imul hx hb dX3_fullColumns_14 ?_
    refine lv_aload_n hx hb dX3_fullColumns_15 rfl (lv_at hl 0 rfl) ?_
    refine lv_iload_n hx hb dX3_fullColumns_16 rfl (lv_at hl 1 rfl) ?_
    refine lv_iload_n hx hb dX3_fullColumns_17 rfl (lv_at hl 3 rfl) ?_
    obtain ⟨y18, hC_18, hE⟩ := Option.bind_eq_some_iff.mp hE
    obtain ⟨r_18, ex9⟩ : ∃ z, z = y18 := ⟨_, rfl⟩
    subst ex9
    try dsimp only at hE
    refine vp_callSi (va_Run.run (va_runV (As := [.int p1, .int v3_1]) (rest := [.int ((2 : Int32) * v2_1)]) ⟨hx, hb, hml, hown, hts⟩ (c_X3_columnSum (l := l) (G := G) (p1 := p1) (p2 := v3_1) (q_t := q_t) (t_size := t_size) (q_t_corners := q_t_corners) (t_corners := t_corners) hC_18) (cwV 2 hts gX3_fullColumns_X3_columnSum rfl rfl rfl kd_X3_columnSum ⟨Nat.le_of_ble_eq_true rfl, Nat.le_of_ble_eq_true rfl⟩) (pv_V hKW (hP.sub (ws' := [oX3 q_t t_size q_t_corners, aI (G.2 1) q_t_corners 49 t_corners]) [0, 1] rfl) (ci := 3) (q0 := 0) rfl rfl) rfl rfl hl.1 rfl (lv_room (Nat.le_of_ble_eq_true rfl)) dX3_fullColumns_18 ⟨Nat.zero_le _, Nat.zero_le _⟩)) (fun r9 hr9 => ?_)
    subst r9
    refine lv_iadd hx hb dX3_fullColumns_21 ?_
    refine lv_istore_n (lv' := [(2, .int (((2 : Int32) * v2_1) + r_18)), (0, .ref q_t), (1, .int p1), (3, .int v3_1)]) hx hb dX3_fullColumns_22 rfl hl (by decide) rfl (fun ls hl => ?_)
    refine lv_iinc (v := v3_1 + (1 : Int32)) (lv' := [(3, .int (v3_1 + (1 : Int32))), (2, .int (((2 : Int32) * v2_1) + r_18)), (0, .ref q_t), (1, .int p1)]) hx hb dX3_fullColumns_23 hl (k := 3) rfl rfl (by decide) rfl (fun ls hl => ?_)
    refine lv_goto (tgt := 4) hx hb dX3_fullColumns_26 (by decide) ?_
    have e_1 := Option.some.inj hE
    exact ih_1 _ e_1.symm ls (lv_sub hl [2, 3, 1, 0] rfl)
