def S_X2_forget : Option Int32 := some (0 : Int32)
theorem kd_X2_forget : yX2_forget.cls = RX2 ∧ yX2_forget.cls ≠ "java/lang/invoke/MethodHandle" ∧ yX2_forget.cls ≠ "java/lang/invoke/VarHandle" ∧ (parseMethodDescriptor yX2_forget.desc).map (fun d => d.parameters.length) = some 0 := by decide +kernel
set_option maxHeartbeats 4000000 in
set_option maxRecDepth 100000 in
theorem c_X2_forget {l : Launch} {G : kG} (sz : Nat) {q_t : Nat} {q_t_tables : Nat} {t_free : Int32} {t_held : Int32} {res : Int32} (hE : S_X2_forget = some res) : Met l yX2_forget wsX2_forget ({ frames := 0, cells := 0, slots := 0, locals := 0 }) (va_Pc [.ref q_t] (fun U => U.heap.size = sz ∧ va_P G.1 vwCl [oX2 q_t q_t_tables t_free t_held] U.heap ∧ kw G U ∧ va_D (fun _ => True) [oX2 q_t q_t_tables t_free t_held])) (va_Qv (fun (_ : Unit) => True) (fun _ t => va_P G.1 vwCl [oX2 q_t q_t_tables t_free res] t.heap ∧ va_D (va_A [oX2 q_t q_t_tables t_free t_held] sz) [oX2 q_t q_t_tables t_free res]) (va_A [oX2 q_t q_t_tables t_free t_held] sz)) 0 0 (va_A [oX2 q_t q_t_tables t_free t_held] sz) := by
  refine Met.ofQ (cc := cX2_forget) (maxL := 1) (ret := none) (by decide) rfl ?_
  intro p e s m args below meth c s₁ Q hQ B hml hv
  obtain ⟨rfl, hsz, hP, hKW, hD0⟩ := hv
  have hK := hKW.1
  have hx := B.exec
  have hb := B.bytes
  have hr := B.returns
  have hts := atoms_spec (ws := wsX2_forget) B.pre
  have hown : s.vm.findClass RX2 = some m.cls := findClass_of_methodNamed B.named
  have hlocks := B.notSynchronized
  have iX2 : ∀ w ∈ u_ws RX2 TX2 3, w ∈ wsX2_forget := by decide +kernel
  have fl_26 := hts (.fieldLink RX2 26 "AlternateSigns$Past" "held" "I") (by decide +kernel)
  subst hsz
  have hD := hD0.self (sz := s.heap.size)
  generalize hAe : va_A [oX2 q_t q_t_tables t_free t_held] s.heap.size = A at hD hQ
  have hA : ∀ q : Nat, s.heap.size ≤ q → A q := fun q h => by rw [← hAe]; exact Or.inr h
  have hS : va_S A s.heap s.heap [] := va_S.rf
  have hl := lv_entry ([.ref q_t]) (n := 1) (Nat.le_of_ble_eq_true rfl)
  rw [lg_entry_eq]
  generalize (lg_sl ([.ref q_t]) ++ List.replicate (1 - (lg_sl ([.ref q_t])).length) Slot.unset).toArray = ls at hl ⊢
  have hl : lv_has ls 1 [(0, .ref q_t)] := hl
  unfold S_X2_forget at hE
  refine lv_aload_n hx hb dX2_forget_0 rfl (lv_at hl 0 rfl) ?_
  refine lv_iconst (v := 0) hx hb dX2_forget_1 (by decide) ?_
  refine va_put (D := G.1) (ci := 2) (v := .int (0 : Int32)) (ty := .int) (C := RX2) (T := TX2) (N := 3) hx hb hts iX2 tyX2 tyX2_ok nmX2 hown hK hP hD hS 0 rfl rfl 2 (by decide) fl_26 (fun _ h9 => h9) rfl (by decide +kernel) rfl rfl (Nat.le_of_ble_eq_true rfl) dX2_forget_2 (fun H locs hP hD hS => ?_)
  have hP : va_P G.1 vwCl [oX2 q_t q_t_tables t_free (0 : Int32)] H := hP
  have hD : va_D A [oX2 q_t q_t_tables t_free (0 : Int32)] := hD
  have e_0 := Option.some.inj hE
  subst e_0
  rw [hQ]
  exact W.vret hx hb hr (fun t ht _ => ⟨⟨(), rfl, trivial, by rw [ht]; exact hP, hD⟩, hS.F ht⟩) hS.2.2 dX2_forget_5
def S_X2_remember (t_free : Int32) (t_held : Int32) (t_tables_e_corners : Nat → Int32) (p1_size : Int32) (p1_corners : Nat → Int32) : Option (Int32 × Int32 × Int32 × (Nat → Int32)) := ck (inb t_free 6) ((S_X3_copy t_tables_e_corners p1_size p1_corners).bind (fun (y10 : Int32 × (Nat → Int32)) => some ((t_free + (1 : Int32)) - (t_free + (1 : Int32)) / (6 : Int32) * (6 : Int32), if (6 : Int32) < (t_held + (1 : Int32)) then (6 : Int32) else (t_held + (1 : Int32)), y10.1, y10.2)))
theorem kd_X2_remember : yX2_remember.cls = RX2 ∧ yX2_remember.cls ≠ "java/lang/invoke/MethodHandle" ∧ yX2_remember.cls ≠ "java/lang/invoke/VarHandle" ∧ (parseMethodDescriptor yX2_remember.desc).map (fun d => d.parameters.length) = some 1 := by decide +kernel
set_option maxHeartbeats 4000000 in
set_option maxRecDepth 100000 in
theorem c_X2_remember {l : Launch} {G : kG} (sz : Nat) {q_t : Nat} {q_t_tables : Nat} {t_free : Int32} {t_held : Int32} {t_tables : Nat → Option Nat} {q_t_tables_e : Nat} {t_tables_e_size : Int32} {q_t_tables_e_corners : Nat} {t_tables_e_corners : Nat → Int32} {q_p1 : Nat} {p1_size : Int32} {q_p1_corners : Nat} {p1_corners : Nat → Int32} {res : Int32 × Int32 × Int32 × (Nat → Int32)} (he_0 : inb t_free 6 = true → t_tables t_free.toNatClampNeg = some q_t_tables_e) (hE : S_X2_remember t_free t_held t_tables_e_corners p1_size p1_corners = some res) : Met l yX2_remember wsX2_remember ({ frames := 2, cells := 0, slots := 0, locals := 61 }) (va_Pc [.ref q_t, .ref q_p1] (fun U => U.heap.size = sz ∧ va_P G.1 vwCl [oX2 q_t q_t_tables t_free t_held, aQ (G.2 5) q_t_tables 6 t_tables, oX3 q_t_tables_e t_tables_e_size q_t_tables_e_corners, aI (G.2 1) q_t_tables_e_corners 49 t_tables_e_corners, oX3 q_p1 p1_size q_p1_corners, aI (G.2 1) q_p1_corners 49 p1_corners] U.heap ∧ kw G U ∧ va_D (fun _ => True) [oX2 q_t q_t_tables t_free t_held, aQ (G.2 5) q_t_tables 6 t_tables, oX3 q_t_tables_e t_tables_e_size q_t_tables_e_corners, aI (G.2 1) q_t_tables_e_corners 49 t_tables_e_corners, oX3 q_p1 p1_size q_p1_corners, aI (G.2 1) q_p1_corners 49 p1_corners])) (va_Qv (fun (_ : Unit) => True) (fun _ t => va_P G.1 vwCl [oX2 q_t q_t_tables res.1 res.2.1, aQ (G.2 5) q_t_tables 6 t_tables, oX3 q_t_tables_e res.2.2.1 q_t_tables_e_corners, aI (G.2 1) q_t_tables_e_corners 49 res.2.2.2, oX3 q_p1 p1_size q_p1_corners, aI (G.2 1) q_p1_corners 49 p1_corners] t.heap ∧ va_D (va_A [oX2 q_t q_t_tables t_free t_held, aQ (G.2 5) q_t_tables 6 t_tables, oX3 q_t_tables_e t_tables_e_size q_t_tables_e_corners, aI (G.2 1) q_t_tables_e_corners 49 t_tables_e_corners, oX3 q_p1 p1_size q_p1_corners, aI (G.2 1) q_p1_corners 49 p1_corners] sz) [oX2 q_t q_t_tables res.1 res.2.1, aQ (G.2 5) q_t_tables 6 t_tables, oX3 q_t_tables_e res.2.2.1 q_t_tables_e_corners, aI (G.2 1) q_t_tables_e_corners 49 res.2.2.2, oX3 q_p1 p1_size q_p1_corners, aI (G.2 1) q_p1_corners 49 p1_corners]) (va_A [oX2 q_t q_t_tables t_free t_held, aQ (G.2 5) q_t_tables 6 t_tables, oX3 q_t_tables_e t_tables_e_size q_t_tables_e_corners, aI (G.2 1) q_t_tables_e_corners 49 t_tables_e_corners, oX3 q_p1 p1_size q_p1_corners, aI (G.2 1) q_p1_corners 49 p1_corners] sz)) 0 0 (va_A [oX2 q_t q_t_tables t_free t_held, aQ (G.2 5) q_t_tables 6 t_tables, oX3 q_t_tables_e t_tables_e_size q_t_tables_e_corners, aI (G.2 1) q_t_tables_e_corners 49 t_tables_e_corners, oX3 q_p1 p1_size q_p1_corners, aI (G.2 1) q_p1_corners 49 p1_corners] sz) := by
  refine Met.ofQ (cc := cX2_remember) (maxL := 2) (ret := none) (by decide) rfl ?_
  intro p e s m args below meth c s₁ Q hQ B hml hv
  obtain ⟨rfl, hsz, hP, hKW, hD0⟩ := hv
  have hK := hKW.1
  have hx := B.exec
  have hb := B.bytes
  have hr := B.returns
  have hts := atoms_spec (ws := wsX2_remember) B.pre
  have hown : s.vm.findClass RX2 = some m.cls := findClass_of_methodNamed B.named
  have hlocks := B.notSynchronized
  have iX2 : ∀ w ∈ u_ws RX2 TX2 3, w ∈ wsX2_remember := by decide +kernel
  have fl_11 := hts (.fieldLink RX2 11 "AlternateSigns$Past" "tables" "[LAlternateSigns$Table;") (by decide +kernel)
  have fl_18 := hts (.fieldLink RX2 18 "AlternateSigns$Past" "free" "I") (by decide +kernel)
  have fl_26 := hts (.fieldLink RX2 26 "AlternateSigns$Past" "held" "I") (by decide +kernel)
  subst hsz
  have hD := hD0.self (sz := s.heap.size)
  generalize hAe : va_A [oX2 q_t q_t_tables t_free t_held, aQ (G.2 5) q_t_tables 6 t_tables, oX3 q_t_tables_e t_tables_e_size q_t_tables_e_corners, aI (G.2 1) q_t_tables_e_corners 49 t_tables_e_corners, oX3 q_p1 p1_size q_p1_corners, aI (G.2 1) q_p1_corners 49 p1_corners] s.heap.size = A at hD hQ
  have hA : ∀ q : Nat, s.heap.size ≤ q → A q := fun q h => by rw [← hAe]; exact Or.inr h
  have hS : va_S A s.heap s.heap [] := va_S.rf
  have hl := lv_entry ([.ref q_t, .ref q_p1]) (n := 2) (Nat.le_of_ble_eq_true rfl)
  rw [lg_entry_eq]
  generalize (lg_sl ([.ref q_t, .ref q_p1]) ++ List.replicate (2 - (lg_sl ([.ref q_t, .ref q_p1])).length) Slot.unset).toArray = ls at hl ⊢
  have hl : lv_has ls 2 [(0, .ref q_t), (1, .ref q_p1)] := hl
  unfold S_X2_remember at hE
  refine lv_aload_n hx hb dX2_remember_0 rfl (lv_at hl 0 rfl) ?_
  refine va_get (D := G.1) (ci := 2) (v := .ref q_t_tables) (C := RX2) (T := TX2) (N := 3) hx hb hts iX2 hown hK hP 0 rfl rfl 0 (by decide) fl_11 (fun _ h9 => h9) rfl dX2_remember_1 ?_
  refine lv_aload_n hx hb dX2_remember_4 rfl (lv_at hl 0 rfl) ?_
  refine va_get (D := G.1) (ci := 2) (v := .int t_free) (C := RX2) (T := TX2) (N := 3) hx hb hts iX2 hown hK hP 0 rfl rfl 1 (by decide) fl_18 (fun _ h9 => h9) rfl dX2_remember_5 ?_
  obtain ⟨hi_8, hE⟩ := ck_some hE
  refine va_aldq (C := RX3) hx hb hK hP 1 5 rfl rfl (inb_in hi_8) dX2_remember_8 ?_
  rw [he_0 hi_8]
  refine W.eq (g2 := F0 m 9 ls [.ref q_t_tables_e]) rfl ?_
  refine lv_aload_n hx hb dX2_remember_9 rfl (lv_at hl 1 rfl) ?_
  obtain ⟨y10, hC_10, hE⟩ := Option.bind_eq_some_iff.mp hE
  obtain ⟨m_10_0, m_10_1⟩ := y10
  try dsimp only at hE
  have hPc := hP.sub (ws' := [oX3 q_t_tables_e t_tables_e_size q_t_tables_e_corners, aI (G.2 1) q_t_tables_e_corners 49 t_tables_e_corners, oX3 q_p1 p1_size q_p1_corners, aI (G.2 1) q_p1_corners 49 p1_corners]) [2, 3, 4, 5] rfl
  have hDc := hD.sub (ws' := [oX3 q_t_tables_e t_tables_e_size q_t_tables_e_corners, aI (G.2 1) q_t_tables_e_corners 49 t_tables_e_corners, oX3 q_p1 p1_size q_p1_corners, aI (G.2 1) q_p1_corners 49 p1_corners]) [2, 3, 4, 5] (by decide) rfl
  have hFc := va_free (wc := [oX3 q_t_tables_e t_tables_e_size q_t_tables_e_corners, aI (G.2 1) q_t_tables_e_corners 49 t_tables_e_corners, oX3 q_p1 p1_size q_p1_corners, aI (G.2 1) q_p1_corners 49 p1_corners]) hD hS hA [2, 3, 4, 5] rfl
  refine va_callv (va_runV (As := [.ref q_p1]) (rest := []) ⟨hx, hb, hml, hown, hts⟩ (c_X3_copy (l := l) (G := G) _ (q_t := q_t_tables_e) (t_size := t_tables_e_size) (q_t_corners := q_t_tables_e_corners) (t_corners := t_tables_e_corners) (q_p1 := q_p1) (p1_size := p1_size) (q_p1_corners := q_p1_corners) (p1_corners := p1_corners) hC_10) (cwV 1 hts gX2_remember_X3_copy rfl rfl rfl kd_X3_copy ⟨Nat.le_of_ble_eq_true rfl, Nat.le_of_ble_eq_true rfl⟩) (iv_V hKW hPc hDc (ci := 3) (q0 := 0) rfl rfl) rfl rfl hl.1 rfl (lv_room (Nat.le_of_ble_eq_true rfl)) dX2_remember_10 ⟨Nat.zero_le _, Nat.zero_le _⟩) hS (fun q _ h => hFc q h) hFc (fun u9 t9 H1 locs ht9 hvm9 hw9 hB9 hz9 hk9 hS => ?_)
  obtain ⟨hP1, hD1⟩ := hB9
  rw [ht9] at hP1
  obtain ⟨hP, hD⟩ := va_join (wr := [oX2 q_t q_t_tables t_free t_held, aQ (G.2 5) q_t_tables 6 t_tables]) (w1 := [oX3 q_t_tables_e m_10_0 q_t_tables_e_corners, aI (G.2 1) q_t_tables_e_corners 49 m_10_1, oX3 q_p1 p1_size q_p1_corners, aI (G.2 1) q_p1_corners 49 p1_corners]) hP hD [2, 3, 4, 5] [0, 1] rfl rfl (by decide) (by decide) hk9 hFc hP1 hD1
  have hP := hP.sub (ws' := [oX2 q_t q_t_tables t_free t_held, aQ (G.2 5) q_t_tables 6 t_tables, oX3 q_t_tables_e m_10_0 q_t_tables_e_corners, aI (G.2 1) q_t_tables_e_corners 49 m_10_1, oX3 q_p1 p1_size q_p1_corners, aI (G.2 1) q_p1_corners 49 p1_corners]) [0, 1, 2, 3, 4, 5] rfl
  have hD := hD.sub (ws' := [oX2 q_t q_t_tables t_free t_held, aQ (G.2 5) q_t_tables 6 t_tables, oX3 q_t_tables_e m_10_0 q_t_tables_e_corners, aI (G.2 1) q_t_tables_e_corners 49 m_10_1, oX3 q_p1 p1_size q_p1_corners, aI (G.2 1) q_p1_corners 49 p1_corners]) [0, 1, 2, 3, 4, 5] (by decide) rfl
  clear hPc hDc hFc hP1 hD1 hk9 hz9 hvm9
  refine lv_aload_n hx hb dX2_remember_13 rfl (lv_at hl 0 rfl) ?_
  refine lv_aload_n hx hb dX2_remember_14 rfl (lv_at hl 0 rfl) ?_
  refine va_get (D := G.1) (ci := 2) (v := .int t_free) (C := RX2) (T := TX2) (N := 3) hx hb hts iX2 hown hK hP 0 rfl rfl 1 (by decide) fl_18 (fun _ h9 => h9) rfl dX2_remember_15 ?_
  refine lv_iconst (v := 1) hx hb dX2_remember_18 (by decide) ?_
  refine lv_iadd hx hb dX2_remember_19 ?_
  refine lv_bipush (v := 6) hx hb dX2_remember_20 (by decide) ?_
  refine lv_irem hx hb dX2_remember_22 (by decide) ?_
  refine va_put (D := G.1) (ci := 2) (v := .int ((t_free + (1 : Int32)) - (t_free + (1 : Int32)) / (6 : Int32) * (6 : Int32))) (ty := .int) (C := RX2) (T := TX2) (N := 3) hx hb hts iX2 tyX2 tyX2_ok nmX2 hown hK hP hD hS 0 rfl rfl 1 (by decide) fl_18 (fun _ h9 => h9) rfl (by decide +kernel) rfl rfl (Nat.le_of_ble_eq_true rfl) dX2_remember_23 (fun H locs hP hD hS => ?_)
  have hP : va_P G.1 vwCl [oX2 q_t q_t_tables ((t_free + (1 : Int32)) - (t_free + (1 : Int32)) / (6 : Int32) * (6 : Int32)) t_held, aQ (G.2 5) q_t_tables 6 t_tables, oX3 q_t_tables_e m_10_0 q_t_tables_e_corners, aI (G.2 1) q_t_tables_e_corners 49 m_10_1, oX3 q_p1 p1_size q_p1_corners, aI (G.2 1) q_p1_corners 49 p1_corners] H := hP
  have hD : va_D A [oX2 q_t q_t_tables ((t_free + (1 : Int32)) - (t_free + (1 : Int32)) / (6 : Int32) * (6 : Int32)) t_held, aQ (G.2 5) q_t_tables 6 t_tables, oX3 q_t_tables_e m_10_0 q_t_tables_e_corners, aI (G.2 1) q_t_tables_e_corners 49 m_10_1, oX3 q_p1 p1_size q_p1_corners, aI (G.2 1) q_p1_corners 49 p1_corners] := hD
  refine lv_aload_n hx hb dX2_remember_26 rfl (lv_at hl 0 rfl) ?_
  refine lv_aload_n hx hb dX2_remember_27 rfl (lv_at hl 0 rfl) ?_
  refine va_get (D := G.1) (ci := 2) (v := .int t_held) (C := RX2) (T := TX2) (N := 3) hx hb hts iX2 hown hK hP 0 rfl rfl 2 (by decide) fl_26 (fun _ h9 => h9) rfl dX2_remember_28 ?_
  refine lv_iconst (v := 1) hx hb dX2_remember_31 (by decide) ?_
  refine lv_iadd hx hb dX2_remember_32 ?_
  refine lv_bipush (v := 6) hx hb dX2_remember_33 (by decide) ?_
  refine va_mmin hx hb (hml.trans hl.1.symm) hown (hts (.methodLink RX2 29 Lib.Math.min.name) (by decide +kernel)) (hts (.static Lib.Math.min.name) (by decide +kernel)) (hts (.initialized "java/lang/Math") (by decide +kernel)) (hts (.code Lib.Math.min.name Lib.Math.min.code 2 (some .int)) (by decide +kernel)) (Nat.le_of_ble_eq_true rfl) (Nat.le_of_ble_eq_true rfl) (Nat.zero_le _) (Nat.zero_le _) dX2_remember_35 ?_
  refine va_put (D := G.1) (ci := 2) (v := .int (if (6 : Int32) < (t_held + (1 : Int32)) then (6 : Int32) else (t_held + (1 : Int32)))) (ty := .int) (C := RX2) (T := TX2) (N := 3) hx hb hts iX2 tyX2 tyX2_ok nmX2 hown hK hP hD hS 0 rfl rfl 2 (by decide) fl_26 (fun _ h9 => h9) rfl (by decide +kernel) rfl rfl (Nat.le_of_ble_eq_true rfl) dX2_remember_38 (fun H locs hP hD hS => ?_)
  have hP : va_P G.1 vwCl [oX2 q_t q_t_tables ((t_free + (1 : Int32)) - (t_free + (1 : Int32)) / (6 : Int32) * (6 : Int32)) (if (6 : Int32) < (t_held + (1 : Int32)) then (6 : Int32) else (t_held + (1 : Int32))), aQ (G.2 5) q_t_tables 6 t_tables, oX3 q_t_tables_e m_10_0 q_t_tables_e_corners, aI (G.2 1) q_t_tables_e_corners 49 m_10_1, oX3 q_p1 p1_size q_p1_corners, aI (G.2 1) q_p1_corners 49 p1_corners] H := hP
  have hD : va_D A [oX2 q_t q_t_tables ((t_free + (1 : Int32)) - (t_free + (1 : Int32)) / (6 : Int32) * (6 : Int32)) (if (6 : Int32) < (t_held + (1 : Int32)) then (6 : Int32) else (t_held + (1 : Int32))), aQ (G.2 5) q_t_tables 6 t_tables, oX3 q_t_tables_e m_10_0 q_t_tables_e_corners, aI (G.2 1) q_t_tables_e_corners 49 m_10_1, oX3 q_p1 p1_size q_p1_corners, aI (G.2 1) q_p1_corners 49 p1_corners] := hD
  have e_0 := Option.some.inj hE
  subst e_0
  rw [hQ]
  exact W.vret hx hb hr (fun t ht _ => ⟨⟨(), rfl, trivial, by rw [ht]; exact hP, hD⟩, hS.F ht⟩) hS.2.2 dX2_remember_41
def S_X2_giveBack (t_free : Int32) (t_held : Int32) (t_tables_e_size : Int32) (t_tables_e_corners : Nat → Int32) (p1_size : Int32) (p1_corners : Nat → Int32) : Option (Int32 × Int32 × Int32 × (Nat → Int32)) := if t_held ≤ 0 then some (t_free, t_held, p1_size, p1_corners) else ck (inb (((t_free + (6 : Int32)) - (1 : Int32)) - ((t_free + (6 : Int32)) - (1 : Int32)) / (6 : Int32) * (6 : Int32)) 6) ((S_X3_copy p1_corners t_tables_e_size t_tables_e_corners).bind (fun (y43 : Int32 × (Nat → Int32)) => some (((t_free + (6 : Int32)) - (1 : Int32)) - ((t_free + (6 : Int32)) - (1 : Int32)) / (6 : Int32) * (6 : Int32), t_held - (1 : Int32), y43.1, y43.2)))
theorem kd_X2_giveBack : yX2_giveBack.cls = RX2 ∧ yX2_giveBack.cls ≠ "java/lang/invoke/MethodHandle" ∧ yX2_giveBack.cls ≠ "java/lang/invoke/VarHandle" ∧ (parseMethodDescriptor yX2_giveBack.desc).map (fun d => d.parameters.length) = some 1 := by decide +kernel
set_option maxHeartbeats 4000000 in
set_option maxRecDepth 100000 in
theorem c_X2_giveBack {l : Launch} {G : kG} (sz : Nat) {q_t : Nat} {q_t_tables : Nat} {t_free : Int32} {t_held : Int32} {t_tables : Nat → Option Nat} {q_t_tables_e : Nat} {t_tables_e_size : Int32} {q_t_tables_e_corners : Nat} {t_tables_e_corners : Nat → Int32} {q_p1 : Nat} {p1_size : Int32} {q_p1_corners : Nat} {p1_corners : Nat → Int32} {res : Int32 × Int32 × Int32 × (Nat → Int32)} (he_0 : inb (((t_free + (6 : Int32)) - (1 : Int32)) - ((t_free + (6 : Int32)) - (1 : Int32)) / (6 : Int32) * (6 : Int32)) 6 = true → t_tables (((t_free + (6 : Int32)) - (1 : Int32)) - ((t_free + (6 : Int32)) - (1 : Int32)) / (6 : Int32) * (6 : Int32)).toNatClampNeg = some q_t_tables_e) (hE : S_X2_giveBack t_free t_held t_tables_e_size t_tables_e_corners p1_size p1_corners = some res) : Met l yX2_giveBack wsX2_giveBack ({ frames := 2, cells := 0, slots := 0, locals := 61 }) (va_Pc [.ref q_t, .ref q_p1] (fun U => U.heap.size = sz ∧ va_P G.1 vwCl [oX2 q_t q_t_tables t_free t_held, aQ (G.2 5) q_t_tables 6 t_tables, oX3 q_t_tables_e t_tables_e_size q_t_tables_e_corners, aI (G.2 1) q_t_tables_e_corners 49 t_tables_e_corners, oX3 q_p1 p1_size q_p1_corners, aI (G.2 1) q_p1_corners 49 p1_corners] U.heap ∧ kw G U ∧ va_D (fun _ => True) [oX2 q_t q_t_tables t_free t_held, aQ (G.2 5) q_t_tables 6 t_tables, oX3 q_t_tables_e t_tables_e_size q_t_tables_e_corners, aI (G.2 1) q_t_tables_e_corners 49 t_tables_e_corners, oX3 q_p1 p1_size q_p1_corners, aI (G.2 1) q_p1_corners 49 p1_corners])) (va_Qv (fun (_ : Unit) => True) (fun _ t => va_P G.1 vwCl [oX2 q_t q_t_tables res.1 res.2.1, aQ (G.2 5) q_t_tables 6 t_tables, oX3 q_t_tables_e t_tables_e_size q_t_tables_e_corners, aI (G.2 1) q_t_tables_e_corners 49 t_tables_e_corners, oX3 q_p1 res.2.2.1 q_p1_corners, aI (G.2 1) q_p1_corners 49 res.2.2.2] t.heap ∧ va_D (va_A [oX2 q_t q_t_tables t_free t_held, aQ (G.2 5) q_t_tables 6 t_tables, oX3 q_t_tables_e t_tables_e_size q_t_tables_e_corners, aI (G.2 1) q_t_tables_e_corners 49 t_tables_e_corners, oX3 q_p1 p1_size q_p1_corners, aI (G.2 1) q_p1_corners 49 p1_corners] sz) [oX2 q_t q_t_tables res.1 res.2.1, aQ (G.2 5) q_t_tables 6 t_tables, oX3 q_t_tables_e t_tables_e_size q_t_tables_e_corners, aI (G.2 1) q_t_tables_e_corners 49 t_tables_e_corners, oX3 q_p1 res.2.2.1 q_p1_corners, aI (G.2 1) q_p1_corners 49 res.2.2.2]) (va_A [oX2 q_t q_t_tables t_free t_held, aQ (G.2 5) q_t_tables 6 t_tables, oX3 q_t_tables_e t_tables_e_size q_t_tables_e_corners, aI (G.2 1) q_t_tables_e_corners 49 t_tables_e_corners, oX3 q_p1 p1_size q_p1_corners, aI (G.2 1) q_p1_corners 49 p1_corners] sz)) 0 0 (va_A [oX2 q_t q_t_tables t_free t_held, aQ (G.2 5) q_t_tables 6 t_tables, oX3 q_t_tables_e t_tables_e_size q_t_tables_e_corners, aI (G.2 1) q_t_tables_e_corners 49 t_tables_e_corners, oX3 q_p1 p1_size q_p1_corners, aI (G.2 1) q_p1_corners 49 p1_corners] sz) := by
  refine Met.ofQ (cc := cX2_giveBack) (maxL := 2) (ret := none) (by decide) rfl ?_
  intro p e s m args below meth c s₁ Q hQ B hml hv
  obtain ⟨rfl, hsz, hP, hKW, hD0⟩ := hv
  have hK := hKW.1
  have hx := B.exec
  have hb := B.bytes
  have hr := B.returns
  have hts := atoms_spec (ws := wsX2_giveBack) B.pre
  have hown : s.vm.findClass RX2 = some m.cls := findClass_of_methodNamed B.named
  have hlocks := B.notSynchronized
  have iX2 : ∀ w ∈ u_ws RX2 TX2 3, w ∈ wsX2_giveBack := by decide +kernel
  have fl_26 := hts (.fieldLink RX2 26 "AlternateSigns$Past" "held" "I") (by decide +kernel)
  have fl_18 := hts (.fieldLink RX2 18 "AlternateSigns$Past" "free" "I") (by decide +kernel)
  have fl_11 := hts (.fieldLink RX2 11 "AlternateSigns$Past" "tables" "[LAlternateSigns$Table;") (by decide +kernel)
  subst hsz
  have hD := hD0.self (sz := s.heap.size)
  generalize hAe : va_A [oX2 q_t q_t_tables t_free t_held, aQ (G.2 5) q_t_tables 6 t_tables, oX3 q_t_tables_e t_tables_e_size q_t_tables_e_corners, aI (G.2 1) q_t_tables_e_corners 49 t_tables_e_corners, oX3 q_p1 p1_size q_p1_corners, aI (G.2 1) q_p1_corners 49 p1_corners] s.heap.size = A at hD hQ
  have hA : ∀ q : Nat, s.heap.size ≤ q → A q := fun q h => by rw [← hAe]; exact Or.inr h
  have hS : va_S A s.heap s.heap [] := va_S.rf
  have hl := lv_entry ([.ref q_t, .ref q_p1]) (n := 2) (Nat.le_of_ble_eq_true rfl)
  rw [lg_entry_eq]
  generalize (lg_sl ([.ref q_t, .ref q_p1]) ++ List.replicate (2 - (lg_sl ([.ref q_t, .ref q_p1])).length) Slot.unset).toArray = ls at hl ⊢
  have hl : lv_has ls 2 [(0, .ref q_t), (1, .ref q_p1)] := hl
  unfold S_X2_giveBack at hE
  refine lv_aload_n hx hb dX2_giveBack_0 rfl (lv_at hl 0 rfl) ?_
  refine va_get (D := G.1) (ci := 2) (v := .int t_held) (C := RX2) (T := TX2) (N := 3) hx hb hts iX2 hown hK hP 0 rfl rfl 2 (by decide) fl_26 (fun _ h9 => h9) rfl dX2_giveBack_1 ?_
  refine lv_if_le (tgt := 46) hx hb dX2_giveBack_4 (by decide) (fun c_4 => ?_) (fun c_4 => ?_)
  · replace hE := (if_pos c_4).symm.trans hE
    have e_0 := Option.some.inj hE
    subst e_0
    rw [hQ]
    exact W.vret hx hb hr (fun t ht _ => ⟨⟨(), rfl, trivial, by rw [ht]; exact hP, hD⟩, hS.F ht⟩) hS.2.2 dX2_giveBack_46
  · replace hE := (if_neg c_4).symm.trans hE
    refine lv_aload_n hx hb dX2_giveBack_7 rfl (lv_at hl 0 rfl) ?_
    refine lv_aload_n hx hb dX2_giveBack_8 rfl (lv_at hl 0 rfl) ?_
    refine va_get (D := G.1) (ci := 2) (v := .int t_free) (C := RX2) (T := TX2) (N := 3) hx hb hts iX2 hown hK hP 0 rfl rfl 1 (by decide) fl_18 (fun _ h9 => h9) rfl dX2_giveBack_9 ?_
    refine lv_bipush (v := 6) hx hb dX2_giveBack_12 (by decide) ?_
    refine lv_iadd hx hb dX2_giveBack_14 ?_
    refine lv_iconst (v := 1) hx hb dX2_giveBack_15 (by decide) ?_
    refine lv_isub hx hb dX2_giveBack_16 ?_
    refine lv_bipush (v := 6) hx hb dX2_giveBack_17 (by decide) ?_
    refine lv_irem hx hb dX2_giveBack_19 (by decide) ?_
    refine va_put (D := G.1) (ci := 2) (v := .int (((t_free + (6 : Int32)) - (1 : Int32)) - ((t_free + (6 : Int32)) - (1 : Int32)) / (6 : Int32) * (6 : Int32))) (ty := .int) (C := RX2) (T := TX2) (N := 3) hx hb hts iX2 tyX2 tyX2_ok nmX2 hown hK hP hD hS 0 rfl rfl 1 (by decide) fl_18 (fun _ h9 => h9) rfl (by decide +kernel) rfl rfl (Nat.le_of_ble_eq_true rfl) dX2_giveBack_20 (fun H locs hP hD hS => ?_)
    have hP : va_P G.1 vwCl [oX2 q_t q_t_tables (((t_free + (6 : Int32)) - (1 : Int32)) - ((t_free + (6 : Int32)) - (1 : Int32)) / (6 : Int32) * (6 : Int32)) t_held, aQ (G.2 5) q_t_tables 6 t_tables, oX3 q_t_tables_e t_tables_e_size q_t_tables_e_corners, aI (G.2 1) q_t_tables_e_corners 49 t_tables_e_corners, oX3 q_p1 p1_size q_p1_corners, aI (G.2 1) q_p1_corners 49 p1_corners] H := hP
    have hD : va_D A [oX2 q_t q_t_tables (((t_free + (6 : Int32)) - (1 : Int32)) - ((t_free + (6 : Int32)) - (1 : Int32)) / (6 : Int32) * (6 : Int32)) t_held, aQ (G.2 5) q_t_tables 6 t_tables, oX3 q_t_tables_e t_tables_e_size q_t_tables_e_corners, aI (G.2 1) q_t_tables_e_corners 49 t_tables_e_corners, oX3 q_p1 p1_size q_p1_corners, aI (G.2 1) q_p1_corners 49 p1_corners] := hD
    refine lv_aload_n hx hb dX2_giveBack_23 rfl (lv_at hl 0 rfl) ?_
    refine lv_dup hx hb dX2_giveBack_24 rfl ?_
    refine va_get (D := G.1) (ci := 2) (v := .int t_held) (C := RX2) (T := TX2) (N := 3) hx hb hts iX2 hown hK hP 0 rfl rfl 2 (by decide) fl_26 (fun _ h9 => h9) rfl dX2_giveBack_25 ?_
    refine lv_iconst (v := 1) hx hb dX2_giveBack_28 (by decide) ?_
    refine lv_isub hx hb dX2_giveBack_29 ?_
    refine va_put (D := G.1) (ci := 2) (v := .int (t_held - (1 : Int32))) (ty := .int) (C := RX2) (T := TX2) (N := 3) hx hb hts iX2 tyX2 tyX2_ok nmX2 hown hK hP hD hS 0 rfl rfl 2 (by decide) fl_26 (fun _ h9 => h9) rfl (by decide +kernel) rfl rfl (Nat.le_of_ble_eq_true rfl) dX2_giveBack_30 (fun H locs hP hD hS => ?_)
    have hP : va_P G.1 vwCl [oX2 q_t q_t_tables (((t_free + (6 : Int32)) - (1 : Int32)) - ((t_free + (6 : Int32)) - (1 : Int32)) / (6 : Int32) * (6 : Int32)) (t_held - (1 : Int32)), aQ (G.2 5) q_t_tables 6 t_tables, oX3 q_t_tables_e t_tables_e_size q_t_tables_e_corners, aI (G.2 1) q_t_tables_e_corners 49 t_tables_e_corners, oX3 q_p1 p1_size q_p1_corners, aI (G.2 1) q_p1_corners 49 p1_corners] H := hP
    have hD : va_D A [oX2 q_t q_t_tables (((t_free + (6 : Int32)) - (1 : Int32)) - ((t_free + (6 : Int32)) - (1 : Int32)) / (6 : Int32) * (6 : Int32)) (t_held - (1 : Int32)), aQ (G.2 5) q_t_tables 6 t_tables, oX3 q_t_tables_e t_tables_e_size q_t_tables_e_corners, aI (G.2 1) q_t_tables_e_corners 49 t_tables_e_corners, oX3 q_p1 p1_size q_p1_corners, aI (G.2 1) q_p1_corners 49 p1_corners] := hD
    refine lv_aload_n hx hb dX2_giveBack_33 rfl (lv_at hl 1 rfl) ?_
    refine lv_aload_n hx hb dX2_giveBack_34 rfl (lv_at hl 0 rfl) ?_
    refine va_get (D := G.1) (ci := 2) (v := .ref q_t_tables) (C := RX2) (T := TX2) (N := 3) hx hb hts iX2 hown hK hP 0 rfl rfl 0 (by decide) fl_11 (fun _ h9 => h9) rfl dX2_giveBack_35 ?_
    refine lv_aload_n hx hb dX2_giveBack_38 rfl (lv_at hl 0 rfl) ?_
    refine va_get (D := G.1) (ci := 2) (v := .int (((t_free + (6 : Int32)) - (1 : Int32)) - ((t_free + (6 : Int32)) - (1 : Int32)) / (6 : Int32) * (6 : Int32))) (C := RX2) (T := TX2) (N := 3) hx hb hts iX2 hown hK hP 0 rfl rfl 1 (by decide) fl_18 (fun _ h9 => h9) rfl dX2_giveBack_39 ?_
    obtain ⟨hi_42, hE⟩ := ck_some hE
    refine va_aldq (C := RX3) hx hb hK hP 1 5 rfl rfl (inb_in hi_42) dX2_giveBack_42 ?_
    rw [he_0 hi_42]
    refine W.eq (g2 := F0 m 43 ls [.ref q_t_tables_e, .ref q_p1]) rfl ?_
    obtain ⟨y43, hC_43, hE⟩ := Option.bind_eq_some_iff.mp hE
    obtain ⟨m_43_0, m_43_1⟩ := y43
    try dsimp only at hE
    have hPc := hP.sub (ws' := [oX3 q_p1 p1_size q_p1_corners, aI (G.2 1) q_p1_corners 49 p1_corners, oX3 q_t_tables_e t_tables_e_size q_t_tables_e_corners, aI (G.2 1) q_t_tables_e_corners 49 t_tables_e_corners]) [4, 5, 2, 3] rfl
    have hDc := hD.sub (ws' := [oX3 q_p1 p1_size q_p1_corners, aI (G.2 1) q_p1_corners 49 p1_corners, oX3 q_t_tables_e t_tables_e_size q_t_tables_e_corners, aI (G.2 1) q_t_tables_e_corners 49 t_tables_e_corners]) [4, 5, 2, 3] (by decide) rfl
    have hFc := va_free (wc := [oX3 q_p1 p1_size q_p1_corners, aI (G.2 1) q_p1_corners 49 p1_corners, oX3 q_t_tables_e t_tables_e_size q_t_tables_e_corners, aI (G.2 1) q_t_tables_e_corners 49 t_tables_e_corners]) hD hS hA [4, 5, 2, 3] rfl
    refine va_callv (va_runV (As := [.ref q_t_tables_e]) (rest := []) ⟨hx, hb, hml, hown, hts⟩ (c_X3_copy (l := l) (G := G) _ (q_t := q_p1) (t_size := p1_size) (q_t_corners := q_p1_corners) (t_corners := p1_corners) (q_p1 := q_t_tables_e) (p1_size := t_tables_e_size) (q_p1_corners := q_t_tables_e_corners) (p1_corners := t_tables_e_corners) hC_43) (cwV 1 hts gX2_giveBack_X3_copy rfl rfl rfl kd_X3_copy ⟨Nat.le_of_ble_eq_true rfl, Nat.le_of_ble_eq_true rfl⟩) (iv_V hKW hPc hDc (ci := 3) (q0 := 0) rfl rfl) rfl rfl hl.1 rfl (lv_room (Nat.le_of_ble_eq_true rfl)) dX2_giveBack_43 ⟨Nat.zero_le _, Nat.zero_le _⟩) hS (fun q _ h => hFc q h) hFc (fun u9 t9 H1 locs ht9 hvm9 hw9 hB9 hz9 hk9 hS => ?_)
    obtain ⟨hP1, hD1⟩ := hB9
    rw [ht9] at hP1
    obtain ⟨hP, hD⟩ := va_join (wr := [oX2 q_t q_t_tables (((t_free + (6 : Int32)) - (1 : Int32)) - ((t_free + (6 : Int32)) - (1 : Int32)) / (6 : Int32) * (6 : Int32)) (t_held - (1 : Int32)), aQ (G.2 5) q_t_tables 6 t_tables]) (w1 := [oX3 q_p1 m_43_0 q_p1_corners, aI (G.2 1) q_p1_corners 49 m_43_1, oX3 q_t_tables_e t_tables_e_size q_t_tables_e_corners, aI (G.2 1) q_t_tables_e_corners 49 t_tables_e_corners]) hP hD [4, 5, 2, 3] [0, 1] rfl rfl (by decide) (by decide) hk9 hFc hP1 hD1
    have hP := hP.sub (ws' := [oX2 q_t q_t_tables (((t_free + (6 : Int32)) - (1 : Int32)) - ((t_free + (6 : Int32)) - (1 : Int32)) / (6 : Int32) * (6 : Int32)) (t_held - (1 : Int32)), aQ (G.2 5) q_t_tables 6 t_tables, oX3 q_t_tables_e t_tables_e_size q_t_tables_e_corners, aI (G.2 1) q_t_tables_e_corners 49 t_tables_e_corners, oX3 q_p1 m_43_0 q_p1_corners, aI (G.2 1) q_p1_corners 49 m_43_1]) [0, 1, 4, 5, 2, 3] rfl
    have hD := hD.sub (ws' := [oX2 q_t q_t_tables (((t_free + (6 : Int32)) - (1 : Int32)) - ((t_free + (6 : Int32)) - (1 : Int32)) / (6 : Int32) * (6 : Int32)) (t_held - (1 : Int32)), aQ (G.2 5) q_t_tables 6 t_tables, oX3 q_t_tables_e t_tables_e_size q_t_tables_e_corners, aI (G.2 1) q_t_tables_e_corners 49 t_tables_e_corners, oX3 q_p1 m_43_0 q_p1_corners, aI (G.2 1) q_p1_corners 49 m_43_1]) [0, 1, 4, 5, 2, 3] (by decide) rfl
    clear hPc hDc hFc hP1 hD1 hk9 hz9 hvm9
    have e_0 := Option.some.inj hE
    subst e_0
    rw [hQ]
    exact W.vret hx hb hr (fun t ht _ => ⟨⟨(), rfl, trivial, by rw [ht]; exact hP, hD⟩, hS.F ht⟩) hS.2.2 dX2_giveBack_46
