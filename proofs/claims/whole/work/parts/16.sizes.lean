def S_X0_canFollow (p1 : Int32) (p2 : Int32) (t_size : Int32) : Option Int32 := itr (fun (x1 : Int32 × Int32) => if x1.2 < 0 then if x1.1 = (1 : Int32) then some (.inr (1 : Int32)) else some (.inr (0 : Int32)) else (some (x1.1 + (((p2 >>> (x1.2 &&& 31)) &&& (1 : Int32)) - ((p1 >>> (x1.2 &&& 31)) &&& (1 : Int32))))).bind (fun (z_30 : Int32) => if z_30 < 0 then some (.inr (0 : Int32)) else if z_30 ≤ (1 : Int32) then some (.inl (z_30, x1.2 + (-1 : Int32))) else some (.inr (0 : Int32)))) 10000 ((0 : Int32), t_size - (1 : Int32))
theorem kd_X0_canFollow : yX0_canFollow.cls = RX0 ∧ yX0_canFollow.cls ≠ "java/lang/invoke/MethodHandle" ∧ yX0_canFollow.cls ≠ "java/lang/invoke/VarHandle" ∧ (parseMethodDescriptor yX0_canFollow.desc).map (fun d => d.parameters.length) = some 2 := by decide +kernel
set_option maxHeartbeats 4000000 in
set_option maxRecDepth 100000 in
theorem c_X0_canFollow {l : Launch} {G : kG} {p1 : Int32} {p2 : Int32} {q_t : Nat} {t_size : Int32} {t_masks : Int32} {q_t_endings : Nat} {t_areEndingsCounted : Int32} {q_t_codes : Nat} {q_t_tally : Nat} {t_ways : Int32} {res : Int32} (hE : S_X0_canFollow p1 p2 t_size = some res) : Met l yX0_canFollow wsX0_canFollow ({ frames := 0, cells := 0, slots := 0, locals := 0 }) (va_Pc [.ref q_t, .int p1, .int p2] (fun U => va_P G.1 vwCl [oX0 q_t t_size t_masks q_t_endings t_areEndingsCounted q_t_codes q_t_tally t_ways] U.heap ∧ kw G U)) (vp_Si (fun r => r = res)) 0 0 (fun _ => False) := by
  refine Met.ofQ (cc := cX0_canFollow) (maxL := 5) (ret := (some .boolean)) (by decide) rfl ?_
  intro p e s m args below meth c s₁ Q hQ B hml hv
  obtain ⟨rfl, hP, hKW⟩ := hv
  have hK := hKW.1
  have hx := B.exec
  have hb := B.bytes
  have hr := B.returns
  have hts := atoms_spec (ws := wsX0_canFollow) B.pre
  have hown : s.vm.findClass RX0 = some m.cls := findClass_of_methodNamed B.named
  have hlocks := B.notSynchronized
  have iX0 : ∀ w ∈ u_ws RX0 TX0 7, w ∈ wsX0_canFollow := by decide +kernel
  have fl_22 := hts (.fieldLink RX0 22 "AlternateSigns$AllOfSize" "size" "I") (by decide +kernel)
  have hl := lv_entry ([.ref q_t, .int p1, .int p2]) (n := 5) (Nat.le_of_ble_eq_true rfl)
  rw [lg_entry_eq]
  generalize (lg_sl ([.ref q_t, .int p1, .int p2]) ++ List.replicate (5 - (lg_sl ([.ref q_t, .int p1, .int p2])).length) Slot.unset).toArray = ls at hl ⊢
  have hl : lv_has ls 5 [(0, .ref q_t), (1, .int p1), (2, .int p2)] := hl
  unfold S_X0_canFollow at hE
  refine lv_iconst (v := 0) hx hb dX0_canFollow_0 (by decide) ?_
  refine lv_istore_n (lv' := [(3, .int (0 : Int32)), (0, .ref q_t), (1, .int p1), (2, .int p2)]) hx hb dX0_canFollow_1 rfl hl (by decide) rfl (fun ls hl => ?_)
  refine lv_aload_n hx hb dX0_canFollow_2 rfl (lv_at hl 1 rfl) ?_
  refine va_get (D := G.1) (ci := 0) (v := .int t_size) (C := RX0) (T := TX0) (N := 7) hx hb hts iX0 hown hK hP 0 rfl rfl 0 (by decide) fl_22 (fun _ h9 => h9) rfl dX0_canFollow_3 ?_
  refine lv_iconst (v := 1) hx hb dX0_canFollow_6 (by decide) ?_
  refine lv_isub hx hb dX0_canFollow_7 ?_
  refine lv_istore (lv' := [(4, .int (t_size - (1 : Int32))), (3, .int (0 : Int32)), (0, .ref q_t), (1, .int p1), (2, .int p2)]) hx hb dX0_canFollow_8 hl (by decide) rfl (fun ls hl => ?_)
  refine itr_ind (fun (x1 : Int32 × Int32) => ∀ (ls : Array Slot), lv_has ls 5 [(1, .int p1), (2, .int p2), (3, .int x1.1), (4, .int x1.2)] → W p l e (headSpec wsX0_canFollow ({ frames := 0, cells := 0, slots := 0, locals := 0 })).room s m ([.ref q_t, .int p1, .int p2] : List Value).toArray below meth c s.heap [] 0 0 Q (F0 m 10 ls [])) (fun x1 o_1 hE ih_1 hr_1 => ?_) _ _ hE ls (lv_sub hl [3, 4, 1, 0] rfl)
  obtain ⟨v3_1, v4_1⟩ := x1
  try dsimp only at hE
  intro ls hl
  try dsimp only at hl ⊢
  refine lv_iload hx hb dX0_canFollow_10 (lv_at hl 3 rfl) ?_
  refine lv_if_lt (tgt := 48) hx hb dX0_canFollow_12 (by decide) (fun c_12 => ?_) (fun c_12 => ?_)
  · replace hE := (if_pos c_12).symm.trans hE
    refine lv_iload_n hx hb dX0_canFollow_48 rfl (lv_at hl 2 rfl) ?_
    refine lv_iconst (v := 1) hx hb dX0_canFollow_49 (by decide) ?_
    refine lv_icmp_ne (tgt := 57) hx hb dX0_canFollow_50 (by decide) (fun c_50 => ?_) (fun c_50 => ?_)
    · replace hE := (if_neg c_50).symm.trans hE
      refine lv_iconst (v := 0) hx hb dX0_canFollow_57 (by decide) ?_
      have e_1 := Option.some.inj hE
      have e_0 := hr_1 _ e_1.symm
      rw [hQ]
      exact W.zret (v := (0 : Int32)) hx hb hr rfl (fun t ht _ => ⟨_, rfl, e_0, ht⟩) (fun q h => by cases h) dX0_canFollow_58
    · replace hE := (if_pos c_50).symm.trans hE
      refine lv_iconst (v := 1) hx hb dX0_canFollow_53 (by decide) ?_
      refine lv_goto (tgt := 58) hx hb dX0_canFollow_54 (by decide) ?_
      have e_1 := Option.some.inj hE
      have e_0 := hr_1 _ e_1.symm
      rw [hQ]
      exact W.zret (v := (1 : Int32)) hx hb hr rfl (fun t ht _ => ⟨_, rfl, e_0, ht⟩) (fun q h => by cases h) dX0_canFollow_58
  · replace hE := (if_neg c_12).symm.trans hE
    refine lv_iload_n hx hb dX0_canFollow_15 rfl (lv_at hl 2 rfl) ?_
    refine lv_iload_n hx hb dX0_canFollow_16 rfl (lv_at hl 1 rfl) ?_
    refine lv_iload hx hb dX0_canFollow_17 (lv_at hl 3 rfl) ?_
    refine lv_ishr hx hb dX0_canFollow_19 ?_
    refine lv_iconst (v := 1) hx hb dX0_canFollow_20 (by decide) ?_
    refine lv_iand hx hb dX0_canFollow_21 ?_
    refine lv_iload_n hx hb dX0_canFollow_22 rfl (lv_at hl 0 rfl) ?_
    refine lv_iload hx hb dX0_canFollow_23 (lv_at hl 3 rfl) ?_
    refine lv_ishr hx hb dX0_canFollow_25 ?_
    refine lv_iconst (v := 1) hx hb dX0_canFollow_26 (by decide) ?_
    refine lv_iand hx hb dX0_canFollow_27 ?_
    refine lv_isub hx hb dX0_canFollow_28 ?_
    refine lv_iadd hx hb dX0_canFollow_29 ?_
    refine lv_topi (fun z_30 ez9 => ?_)
    rw [← ez9] at hE
    replace hE := bs_some hE
    try dsimp only at hE
    clear ez9
    refine lv_istore_n (lv' := [(3, .int z_30), (1, .int p1), (2, .int p2), (4, .int v4_1)]) hx hb dX0_canFollow_30 rfl hl (by decide) rfl (fun ls hl => ?_)
    refine lv_iload_n hx hb dX0_canFollow_31 rfl (lv_at hl 0 rfl) ?_
    refine lv_if_lt (tgt := 40) hx hb dX0_canFollow_32 (by decide) (fun c_32 => ?_) (fun c_32 => ?_)
    · replace hE := (if_pos c_32).symm.trans hE
      refine lv_iconst (v := 0) hx hb dX0_canFollow_40 (by decide) ?_
      have e_1 := Option.some.inj hE
      have e_0 := hr_1 _ e_1.symm
      rw [hQ]
      exact W.zret (v := (0 : Int32)) hx hb hr rfl (fun t ht _ => ⟨_, rfl, e_0, ht⟩) (fun q h => by cases h) dX0_canFollow_41
    · replace hE := (if_neg c_32).symm.trans hE
      refine lv_iload_n hx hb dX0_canFollow_35 rfl (lv_at hl 0 rfl) ?_
      refine lv_iconst (v := 1) hx hb dX0_canFollow_36 (by decide) ?_
      refine lv_icmp_le (tgt := 42) hx hb dX0_canFollow_37 (by decide) (fun c_37 => ?_) (fun c_37 => ?_)
      · replace hE := (if_pos c_37).symm.trans hE
        refine lv_iinc (v := v4_1 + (-1 : Int32)) (lv' := [(4, .int (v4_1 + (-1 : Int32))), (3, .int z_30), (1, .int p1), (2, .int p2)]) hx hb dX0_canFollow_42 hl (k := 3) rfl rfl (by decide) rfl (fun ls hl => ?_)
        refine lv_goto (tgt := 10) hx hb dX0_canFollow_45 (by decide) ?_
        have e_1 := Option.some.inj hE
        exact ih_1 _ e_1.symm ls (lv_sub hl [2, 3, 1, 0] rfl)
      · replace hE := (if_neg c_37).symm.trans hE
        refine lv_iconst (v := 0) hx hb dX0_canFollow_40 (by decide) ?_
        have e_1 := Option.some.inj hE
        have e_0 := hr_1 _ e_1.symm
        rw [hQ]
        exact W.zret (v := (0 : Int32)) hx hb hr rfl (fun t ht _ => ⟨_, rfl, e_0, ht⟩) (fun q h => by cases h) dX0_canFollow_41
def S_X0_endingsFrom (p1 : Int32) (p2 : Int32) (t_size : Int32) (t_masks : Int32) (t_endings : Nat → Int32) : Option Int32 := itr (fun (x1 : Int32 × Int32) => if t_masks ≤ x1.2 then some (.inr x1.1) else (S_X0_canFollow p1 x1.2 t_size).bind (fun (y18 : Int32) => if y18 = 0 then some (.inl (x1.1, x1.2 + (1 : Int32))) else ck (inb x1.2 64) (some (.inl (x1.1 + (t_endings x1.2.toNatClampNeg), x1.2 + (1 : Int32)))))) 10000 ((0 : Int32), p2)
theorem kd_X0_endingsFrom : yX0_endingsFrom.cls = RX0 ∧ yX0_endingsFrom.cls ≠ "java/lang/invoke/MethodHandle" ∧ yX0_endingsFrom.cls ≠ "java/lang/invoke/VarHandle" ∧ (parseMethodDescriptor yX0_endingsFrom.desc).map (fun d => d.parameters.length) = some 2 := by decide +kernel
set_option maxHeartbeats 4000000 in
set_option maxRecDepth 100000 in
theorem c_X0_endingsFrom {l : Launch} {G : kG} {p1 : Int32} {p2 : Int32} {q_t : Nat} {t_size : Int32} {t_masks : Int32} {q_t_endings : Nat} {t_areEndingsCounted : Int32} {q_t_codes : Nat} {q_t_tally : Nat} {t_ways : Int32} {t_endings : Nat → Int32} {res : Int32} (hE : S_X0_endingsFrom p1 p2 t_size t_masks t_endings = some res) : Met l yX0_endingsFrom wsX0_endingsFrom ({ frames := 1, cells := 0, slots := 0, locals := 24 }) (va_Pc [.ref q_t, .int p1, .int p2] (fun U => va_P G.1 vwCl [oX0 q_t t_size t_masks q_t_endings t_areEndingsCounted q_t_codes q_t_tally t_ways, aI (G.2 1) q_t_endings 64 t_endings] U.heap ∧ kw G U)) (vp_Si (fun r => r = res)) 0 0 (fun _ => False) := by
  refine Met.ofQ (cc := cX0_endingsFrom) (maxL := 5) (ret := (some .int)) (by decide) rfl ?_
  intro p e s m args below meth c s₁ Q hQ B hml hv
  obtain ⟨rfl, hP, hKW⟩ := hv
  have hK := hKW.1
  have hx := B.exec
  have hb := B.bytes
  have hr := B.returns
  have hts := atoms_spec (ws := wsX0_endingsFrom) B.pre
  have hown : s.vm.findClass RX0 = some m.cls := findClass_of_methodNamed B.named
  have hlocks := B.notSynchronized
  have iX0 : ∀ w ∈ u_ws RX0 TX0 7, w ∈ wsX0_endingsFrom := by decide +kernel
  have fl_26 := hts (.fieldLink RX0 26 "AlternateSigns$AllOfSize" "masks" "I") (by decide +kernel)
  have fl_9 := hts (.fieldLink RX0 9 "AlternateSigns$AllOfSize" "endings" "[I") (by decide +kernel)
  have hl := lv_entry ([.ref q_t, .int p1, .int p2]) (n := 5) (Nat.le_of_ble_eq_true rfl)
  rw [lg_entry_eq]
  generalize (lg_sl ([.ref q_t, .int p1, .int p2]) ++ List.replicate (5 - (lg_sl ([.ref q_t, .int p1, .int p2])).length) Slot.unset).toArray = ls at hl ⊢
  have hl : lv_has ls 5 [(0, .ref q_t), (1, .int p1), (2, .int p2)] := hl
  unfold S_X0_endingsFrom at hE
  refine lv_iconst (v := 0) hx hb dX0_endingsFrom_0 (by decide) ?_
  refine lv_istore_n (lv' := [(3, .int (0 : Int32)), (0, .ref q_t), (1, .int p1), (2, .int p2)]) hx hb dX0_endingsFrom_1 rfl hl (by decide) rfl (fun ls hl => ?_)
  refine lv_iload_n hx hb dX0_endingsFrom_2 rfl (lv_at hl 3 rfl) ?_
  refine lv_istore (lv' := [(4, .int p2), (3, .int (0 : Int32)), (0, .ref q_t), (1, .int p1), (2, .int p2)]) hx hb dX0_endingsFrom_3 hl (by decide) rfl (fun ls hl => ?_)
  refine itr_ind (fun (x1 : Int32 × Int32) => ∀ (ls : Array Slot), lv_has ls 5 [(0, .ref q_t), (1, .int p1), (3, .int x1.1), (4, .int x1.2)] → W p l e (headSpec wsX0_endingsFrom ({ frames := 1, cells := 0, slots := 0, locals := 24 })).room s m ([.ref q_t, .int p1, .int p2] : List Value).toArray below meth c s.heap [] 0 0 Q (F0 m 5 ls [])) (fun x1 o_1 hE ih_1 hr_1 => ?_) _ _ hE ls (lv_sub hl [2, 3, 1, 0] rfl)
  obtain ⟨v3_1, v4_1⟩ := x1
  try dsimp only at hE
  intro ls hl
  try dsimp only at hl ⊢
  refine lv_iload hx hb dX0_endingsFrom_5 (lv_at hl 3 rfl) ?_
  refine lv_aload_n hx hb dX0_endingsFrom_7 rfl (lv_at hl 0 rfl) ?_
  refine va_get (D := G.1) (ci := 0) (v := .int t_masks) (C := RX0) (T := TX0) (N := 7) hx hb hts iX0 hown hK hP 0 rfl rfl 1 (by decide) fl_26 (fun _ h9 => h9) rfl dX0_endingsFrom_8 ?_
  refine lv_icmp_ge (tgt := 40) hx hb dX0_endingsFrom_11 (by decide) (fun c_11 => ?_) (fun c_11 => ?_)
  · replace hE := (if_pos c_11).symm.trans hE
    refine lv_iload_n hx hb dX0_endingsFrom_40 rfl (lv_at hl 2 rfl) ?_
    have e_1 := Option.some.inj hE
    have e_0 := hr_1 _ e_1.symm
    rw [hQ]
    exact W.iret (v := v3_1) hx hb hr (fun t ht _ => ⟨_, rfl, e_0, ht⟩) (fun q h => by cases h) dX0_endingsFrom_41
  · replace hE := (if_neg c_11).symm.trans hE
    refine lv_aload_n hx hb dX0_endingsFrom_14 rfl (lv_at hl 0 rfl) ?_
    refine lv_iload_n hx hb dX0_endingsFrom_15 rfl (lv_at hl 1 rfl) ?_
    refine lv_iload hx hb dX0_endingsFrom_16 (lv_at hl 3 rfl) ?_
    obtain ⟨y18, hC_18, hE⟩ := Option.bind_eq_some_iff.mp hE
    obtain ⟨r_18, ex9⟩ : ∃ z, z = y18 := ⟨_, rfl⟩
    subst ex9
    try dsimp only at hE
    refine vp_callSi (va_Run.run (va_runV (As := [.int p1, .int v4_1]) (rest := []) ⟨hx, hb, hml, hown, hts⟩ (c_X0_canFollow (l := l) (G := G) (p1 := p1) (p2 := v4_1) (q_t := q_t) (t_size := t_size) (t_masks := t_masks) (q_t_endings := q_t_endings) (t_areEndingsCounted := t_areEndingsCounted) (q_t_codes := q_t_codes) (q_t_tally := q_t_tally) (t_ways := t_ways) hC_18) (cwV 2 hts gX0_endingsFrom_X0_canFollow rfl rfl rfl kd_X0_canFollow ⟨Nat.le_of_ble_eq_true rfl, Nat.le_of_ble_eq_true rfl⟩) (pv_V hKW (hP.sub (ws' := [oX0 q_t t_size t_masks q_t_endings t_areEndingsCounted q_t_codes q_t_tally t_ways]) [0] rfl) (ci := 0) (q0 := 0) rfl rfl) rfl rfl hl.1 rfl (lv_room (Nat.le_of_ble_eq_true rfl)) dX0_endingsFrom_18 ⟨Nat.zero_le _, Nat.zero_le _⟩)) (fun r9 hr9 => ?_)
    subst r9
    refine lv_if_eq (tgt := 34) hx hb dX0_endingsFrom_21 (by decide) (fun c_21 => ?_) (fun c_21 => ?_)
    · replace hE := (if_pos c_21).symm.trans hE
      refine lv_iinc (v := v4_1 + (1 : Int32)) (lv' := [(4, .int (v4_1 + (1 : Int32))), (0, .ref q_t), (1, .int p1), (3, .int v3_1)]) hx hb dX0_endingsFrom_34 hl (k := 3) rfl rfl (by decide) rfl (fun ls hl => ?_)
      refine lv_goto (tgt := 5) hx hb dX0_endingsFrom_37 (by decide) ?_
      have e_1 := Option.some.inj hE
      exact ih_1 _ e_1.symm ls (lv_sub hl [1, 2, 3, 0] rfl)
    · replace hE := (if_neg c_21).symm.trans hE
      refine lv_iload_n hx hb dX0_endingsFrom_24 rfl (lv_at hl 2 rfl) ?_
      refine lv_aload_n hx hb dX0_endingsFrom_25 rfl (lv_at hl 0 rfl) ?_
      refine va_get (D := G.1) (ci := 0) (v := .ref q_t_endings) (C := RX0) (T := TX0) (N := 7) hx hb hts iX0 hown hK hP 0 rfl rfl 2 (by decide) fl_9 (fun _ h9 => h9) rfl dX0_endingsFrom_26 ?_
      refine lv_iload hx hb dX0_endingsFrom_29 (lv_at hl 3 rfl) ?_
      obtain ⟨hi_31, hE⟩ := ck_some hE
      refine va_iald hx hb hK hP 1 1 rfl rfl (inb_in hi_31) dX0_endingsFrom_31 ?_
      refine lv_iadd hx hb dX0_endingsFrom_32 ?_
      refine lv_istore_n (lv' := [(3, .int (v3_1 + (t_endings v4_1.toNatClampNeg))), (0, .ref q_t), (1, .int p1), (4, .int v4_1)]) hx hb dX0_endingsFrom_33 rfl hl (by decide) rfl (fun ls hl => ?_)
      refine lv_iinc (v := v4_1 + (1 : Int32)) (lv' := [(4, .int (v4_1 + (1 : Int32))), (3, .int (v3_1 + (t_endings v4_1.toNatClampNeg))), (0, .ref q_t), (1, .int p1)]) hx hb dX0_endingsFrom_34 hl (k := 3) rfl rfl (by decide) rfl (fun ls hl => ?_)
      refine lv_goto (tgt := 5) hx hb dX0_endingsFrom_37 (by decide) ?_
      have e_1 := Option.some.inj hE
      exact ih_1 _ e_1.symm ls (lv_sub hl [2, 3, 1, 0] rfl)
def S_X0_countEndings (t_size : Int32) (t_masks : Int32) (t_areEndingsCounted : Int32) (t_endings : Nat → Int32) : Option (Int32 × (Nat → Int32)) := if t_areEndingsCounted = 0 then ck (inb (t_masks - (1 : Int32)) 64) (itr (fun (x1 : Int32 × (Nat → Int32)) => if x1.1 < 0 then some (.inr ((1 : Int32), x1.2)) else itr (fun (x2 : Int32 × (Nat → Int32)) => if t_masks ≤ x2.1 then some (.inr (.inl (x1.1 + (-1 : Int32), x2.2))) else (S_J6_bitCount_0f7a4 x2.1).bind (fun (y47 : Int32) => if y47 = x1.1 then (S_X0_endingsFrom x2.1 (0 : Int32) t_size t_masks x2.2).bind (fun (y62 : Int32) => ck (inb x2.1 64) (some (.inl (x2.1 + (1 : Int32), upd x2.2 x2.1.toNatClampNeg y62)))) else some (.inl (x2.1 + (1 : Int32), x2.2)))) 10000 ((0 : Int32), x1.2)) 10000 (t_size - (1 : Int32), upd t_endings (t_masks - (1 : Int32)).toNatClampNeg (1 : Int32))) else some (t_areEndingsCounted, t_endings)
theorem kd_X0_countEndings : yX0_countEndings.cls = RX0 ∧ yX0_countEndings.cls ≠ "java/lang/invoke/MethodHandle" ∧ yX0_countEndings.cls ≠ "java/lang/invoke/VarHandle" ∧ (parseMethodDescriptor yX0_countEndings.desc).map (fun d => d.parameters.length) = some 0 := by decide +kernel
set_option maxHeartbeats 4000000 in
set_option maxRecDepth 100000 in
theorem c_X0_countEndings {l : Launch} {G : kG} (sz : Nat) {q_t : Nat} {t_size : Int32} {t_masks : Int32} {q_t_endings : Nat} {t_areEndingsCounted : Int32} {q_t_codes : Nat} {q_t_tally : Nat} {t_ways : Int32} {t_endings : Nat → Int32} {res : Int32 × (Nat → Int32)} (hE : S_X0_countEndings t_size t_masks t_areEndingsCounted t_endings = some res) : Met l yX0_countEndings wsX0_countEndings ({ frames := 2, cells := 0, slots := 0, locals := 48 }) (va_Pc [.ref q_t] (fun U => U.heap.size = sz ∧ va_P G.1 vwCl [oX0 q_t t_size t_masks q_t_endings t_areEndingsCounted q_t_codes q_t_tally t_ways, aI (G.2 1) q_t_endings 64 t_endings] U.heap ∧ kw G U ∧ va_D (fun _ => True) [oX0 q_t t_size t_masks q_t_endings t_areEndingsCounted q_t_codes q_t_tally t_ways, aI (G.2 1) q_t_endings 64 t_endings])) (va_Qv (fun (_ : Unit) => True) (fun _ t => va_P G.1 vwCl [oX0 q_t t_size t_masks q_t_endings res.1 q_t_codes q_t_tally t_ways, aI (G.2 1) q_t_endings 64 res.2] t.heap ∧ va_D (va_A [oX0 q_t t_size t_masks q_t_endings t_areEndingsCounted q_t_codes q_t_tally t_ways, aI (G.2 1) q_t_endings 64 t_endings] sz) [oX0 q_t t_size t_masks q_t_endings res.1 q_t_codes q_t_tally t_ways, aI (G.2 1) q_t_endings 64 res.2]) (va_A [oX0 q_t t_size t_masks q_t_endings t_areEndingsCounted q_t_codes q_t_tally t_ways, aI (G.2 1) q_t_endings 64 t_endings] sz)) 0 0 (va_A [oX0 q_t t_size t_masks q_t_endings t_areEndingsCounted q_t_codes q_t_tally t_ways, aI (G.2 1) q_t_endings 64 t_endings] sz) := by
  refine Met.ofQ (cc := cX0_countEndings) (maxL := 3) (ret := none) (by decide) rfl ?_
  intro p e s m args below meth c s₁ Q hQ B hml hv
  obtain ⟨rfl, hsz, hP, hKW, hD0⟩ := hv
  have hK := hKW.1
  have hx := B.exec
  have hb := B.bytes
  have hr := B.returns
  have hts := atoms_spec (ws := wsX0_countEndings) B.pre
  have hown : s.vm.findClass RX0 = some m.cls := findClass_of_methodNamed B.named
  have hlocks := B.notSynchronized
  have iX0 : ∀ w ∈ u_ws RX0 TX0 7, w ∈ wsX0_countEndings := by decide +kernel
  have fl_80 := hts (.fieldLink RX0 80 "AlternateSigns$AllOfSize" "areEndingsCounted" "Z") (by decide +kernel)
  have fl_9 := hts (.fieldLink RX0 9 "AlternateSigns$AllOfSize" "endings" "[I") (by decide +kernel)
  have fl_26 := hts (.fieldLink RX0 26 "AlternateSigns$AllOfSize" "masks" "I") (by decide +kernel)
  have fl_22 := hts (.fieldLink RX0 22 "AlternateSigns$AllOfSize" "size" "I") (by decide +kernel)
  subst hsz
  have hD := hD0.self (sz := s.heap.size)
  generalize hAe : va_A [oX0 q_t t_size t_masks q_t_endings t_areEndingsCounted q_t_codes q_t_tally t_ways, aI (G.2 1) q_t_endings 64 t_endings] s.heap.size = A at hD hQ
  have hA : ∀ q : Nat, s.heap.size ≤ q → A q := fun q h => by rw [← hAe]; exact Or.inr h
  have hS : va_S A s.heap s.heap [] := va_S.rf
  have hl := lv_entry ([.ref q_t]) (n := 3) (Nat.le_of_ble_eq_true rfl)
  rw [lg_entry_eq]
  generalize (lg_sl ([.ref q_t]) ++ List.replicate (3 - (lg_sl ([.ref q_t])).length) Slot.unset).toArray = ls at hl ⊢
  have hl : lv_has ls 3 [(0, .ref q_t)] := hl
  unfold S_X0_countEndings at hE
  refine lv_aload_n hx hb dX0_countEndings_0 rfl (lv_at hl 0 rfl) ?_
  refine va_get (D := G.1) (ci := 0) (v := .int t_areEndingsCounted) (C := RX0) (T := TX0) (N := 7) hx hb hts iX0 hown hK hP 0 rfl rfl 3 (by decide) fl_80 (fun _ h9 => h9) rfl dX0_countEndings_1 ?_
  refine lv_if_eq (tgt := 8) hx hb dX0_countEndings_4 (by decide) (fun c_4 => ?_) (fun c_4 => ?_)
  · replace hE := (if_pos c_4).symm.trans hE
    refine lv_aload_n hx hb dX0_countEndings_8 rfl (lv_at hl 0 rfl) ?_
    refine lv_iconst (v := 1) hx hb dX0_countEndings_9 (by decide) ?_
    refine va_put (D := G.1) (ci := 0) (v := .int (1 : Int32)) (ty := .boolean) (C := RX0) (T := TX0) (N := 7) hx hb hts iX0 tyX0 tyX0_ok nmX0 hown hK hP hD hS 0 rfl rfl 3 (by decide) fl_80 (fun _ h9 => h9) rfl (by decide +kernel) rfl rfl (Nat.le_of_ble_eq_true rfl) dX0_countEndings_10 (fun H locs hP hD hS => ?_)
    have hP : va_P G.1 vwCl [oX0 q_t t_size t_masks q_t_endings (1 : Int32) q_t_codes q_t_tally t_ways, aI (G.2 1) q_t_endings 64 t_endings] H := hP
    have hD : va_D A [oX0 q_t t_size t_masks q_t_endings (1 : Int32) q_t_codes q_t_tally t_ways, aI (G.2 1) q_t_endings 64 t_endings] := hD
    refine lv_aload_n hx hb dX0_countEndings_13 rfl (lv_at hl 0 rfl) ?_
    refine va_get (D := G.1) (ci := 0) (v := .ref q_t_endings) (C := RX0) (T := TX0) (N := 7) hx hb hts iX0 hown hK hP 0 rfl rfl 2 (by decide) fl_9 (fun _ h9 => h9) rfl dX0_countEndings_14 ?_
    refine lv_aload_n hx hb dX0_countEndings_17 rfl (lv_at hl 0 rfl) ?_
    refine va_get (D := G.1) (ci := 0) (v := .int t_masks) (C := RX0) (T := TX0) (N := 7) hx hb hts iX0 hown hK hP 0 rfl rfl 1 (by decide) fl_26 (fun _ h9 => h9) rfl dX0_countEndings_18 ?_
    refine lv_iconst (v := 1) hx hb dX0_countEndings_21 (by decide) ?_
    refine lv_isub hx hb dX0_countEndings_22 ?_
    refine lv_iconst (v := 1) hx hb dX0_countEndings_23 (by decide) ?_
    obtain ⟨hi_24, hE⟩ := ck_some hE
    refine va_iast hx hb hK hP hD hS 1 1 rfl rfl (inb_in hi_24) dX0_countEndings_24 (fun H locs hP hD hS => ?_)
    have hP : va_P G.1 vwCl [oX0 q_t t_size t_masks q_t_endings (1 : Int32) q_t_codes q_t_tally t_ways, aI (G.2 1) q_t_endings 64 (upd t_endings (t_masks - (1 : Int32)).toNatClampNeg (1 : Int32))] H := hP
    have hD : va_D A [oX0 q_t t_size t_masks q_t_endings (1 : Int32) q_t_codes q_t_tally t_ways, aI (G.2 1) q_t_endings 64 (upd t_endings (t_masks - (1 : Int32)).toNatClampNeg (1 : Int32))] := hD
    refine lv_aload_n hx hb dX0_countEndings_25 rfl (lv_at hl 0 rfl) ?_
    refine va_get (D := G.1) (ci := 0) (v := .int t_size) (C := RX0) (T := TX0) (N := 7) hx hb hts iX0 hown hK hP 0 rfl rfl 0 (by decide) fl_22 (fun _ h9 => h9) rfl dX0_countEndings_26 ?_
    refine lv_iconst (v := 1) hx hb dX0_countEndings_29 (by decide) ?_
    refine lv_isub hx hb dX0_countEndings_30 ?_
    refine lv_istore_n (lv' := [(1, .int (t_size - (1 : Int32))), (0, .ref q_t)]) hx hb dX0_countEndings_31 rfl hl (by decide) rfl (fun ls hl => ?_)
    refine itr_ind (fun (x1 : Int32 × (Nat → Int32)) => ∀ (H : Heap) (locs : List Loc) (ls : Array Slot), va_P G.1 vwCl [oX0 q_t t_size t_masks q_t_endings (1 : Int32) q_t_codes q_t_tally t_ways, aI (G.2 1) q_t_endings 64 x1.2] H → va_D A [oX0 q_t t_size t_masks q_t_endings (1 : Int32) q_t_codes q_t_tally t_ways, aI (G.2 1) q_t_endings 64 x1.2] → va_S A s.heap H locs → lv_has ls 3 [(0, .ref q_t), (1, .int x1.1)] → W p l e (headSpec wsX0_countEndings ({ frames := 2, cells := 0, slots := 0, locals := 48 })).room s m ([.ref q_t] : List Value).toArray below meth c H locs 0 0 Q (F0 m 32 ls [])) (fun x1 o_1 hE ih_1 hr_1 => ?_) _ _ hE _ _ ls hP hD hS (lv_sub hl [1, 0] rfl)
    obtain ⟨v1_1, w_t_endings_1⟩ := x1
    try dsimp only at hE
    intro H locs ls hP hD hS hl
    try dsimp only at hP hD hl ⊢
    refine lv_iload_n hx hb dX0_countEndings_32 rfl (lv_at hl 1 rfl) ?_
    refine lv_if_lt (tgt := 78) hx hb dX0_countEndings_33 (by decide) (fun c_33 => ?_) (fun c_33 => ?_)
    · replace hE := (if_pos c_33).symm.trans hE
      have e_1 := Option.some.inj hE
      have e_0 := hr_1 _ e_1.symm
      subst e_0
      rw [hQ]
      exact W.vret hx hb hr (fun t ht _ => ⟨⟨(), rfl, trivial, by rw [ht]; exact hP, hD⟩, hS.F ht⟩) hS.2.2 dX0_countEndings_78
    · replace hE := (if_neg c_33).symm.trans hE
      refine lv_iconst (v := 0) hx hb dX0_countEndings_36 (by decide) ?_
      refine lv_istore_n (lv' := [(2, .int (0 : Int32)), (0, .ref q_t), (1, .int v1_1)]) hx hb dX0_countEndings_37 rfl hl (by decide) rfl (fun ls hl => ?_)
      refine itr_ind (fun (x2 : Int32 × (Nat → Int32)) => ∀ (H : Heap) (locs : List Loc) (ls : Array Slot), va_P G.1 vwCl [oX0 q_t t_size t_masks q_t_endings (1 : Int32) q_t_codes q_t_tally t_ways, aI (G.2 1) q_t_endings 64 x2.2] H → va_D A [oX0 q_t t_size t_masks q_t_endings (1 : Int32) q_t_codes q_t_tally t_ways, aI (G.2 1) q_t_endings 64 x2.2] → va_S A s.heap H locs → lv_has ls 3 [(0, .ref q_t), (1, .int v1_1), (2, .int x2.1)] → W p l e (headSpec wsX0_countEndings ({ frames := 2, cells := 0, slots := 0, locals := 48 })).room s m ([.ref q_t] : List Value).toArray below meth c H locs 0 0 Q (F0 m 38 ls [])) (fun x2 o_2 hE ih_2 hr_2 => ?_) _ _ hE _ _ ls hP hD hS (lv_sub hl [1, 2, 0] rfl)
      obtain ⟨v2_2, w_t_endings_2⟩ := x2
      try dsimp only at hE
      intro H locs ls hP hD hS hl
      try dsimp only at hP hD hl ⊢
      refine lv_iload_n hx hb dX0_countEndings_38 rfl (lv_at hl 2 rfl) ?_
      refine lv_aload_n hx hb dX0_countEndings_39 rfl (lv_at hl 0 rfl) ?_
      refine va_get (D := G.1) (ci := 0) (v := .int t_masks) (C := RX0) (T := TX0) (N := 7) hx hb hts iX0 hown hK hP 0 rfl rfl 1 (by decide) fl_26 (fun _ h9 => h9) rfl dX0_countEndings_40 ?_
      refine lv_icmp_ge (tgt := 72) hx hb dX0_countEndings_43 (by decide) (fun c_43 => ?_) (fun c_43 => ?_)
      · replace hE := (if_pos c_43).symm.trans hE
        refine lv_iinc (v := v1_1 + (-1 : Int32)) (lv' := [(1, .int (v1_1 + (-1 : Int32))), (0, .ref q_t), (2, .int v2_2)]) hx hb dX0_countEndings_72 hl (k := 1) rfl rfl (by decide) rfl (fun ls hl => ?_)
        refine lv_goto (tgt := 32) hx hb dX0_countEndings_75 (by decide) ?_
        have e_2 := Option.some.inj hE
        have e_1 := hr_2 _ e_2.symm
        exact ih_1 _ e_1.symm _ _ ls hP hD hS (lv_sub hl [1, 0] rfl)
      · replace hE := (if_neg c_43).symm.trans hE
        refine lv_iload_n hx hb dX0_countEndings_46 rfl (lv_at hl 2 rfl) ?_
        obtain ⟨y47, hC_47, hE⟩ := Option.bind_eq_some_iff.mp hE
        obtain ⟨r_47, ex9⟩ : ∃ z, z = y47 := ⟨_, rfl⟩
        subst ex9
        try dsimp only at hE
        refine vp_callSi (va_Run.run (va_runS (As := [.int v2_2]) (rest := []) ⟨hx, hb, hml, hown, hts⟩ (c_J6_bitCount_0f7a4 (l := l) (G := G) (p1 := v2_2) hC_47) (va_cwS 1 hts gX0_countEndings_J6_bitCount_0f7a4 rfl rfl rfl kd_J6_bitCount_0f7a4 ⟨Nat.le_of_ble_eq_true rfl, Nat.le_of_ble_eq_true rfl⟩) (pv_S hKW (hP.sub (ws' := []) [] rfl)) rfl rfl hl.1 rfl (lv_room (Nat.le_of_ble_eq_true rfl)) dX0_countEndings_47 ⟨Nat.zero_le _, Nat.zero_le _⟩)) (fun r9 hr9 => ?_)
        subst r9
        refine lv_iload_n hx hb dX0_countEndings_50 rfl (lv_at hl 1 rfl) ?_
        refine lv_icmp_ne (tgt := 66) hx hb dX0_countEndings_51 (by decide) (fun c_51 => ?_) (fun c_51 => ?_)
        · replace hE := (if_neg c_51).symm.trans hE
          refine lv_iinc (v := v2_2 + (1 : Int32)) (lv' := [(2, .int (v2_2 + (1 : Int32))), (0, .ref q_t), (1, .int v1_1)]) hx hb dX0_countEndings_66 hl (k := 2) rfl rfl (by decide) rfl (fun ls hl => ?_)
          refine lv_goto (tgt := 38) hx hb dX0_countEndings_69 (by decide) ?_
          have e_2 := Option.some.inj hE
          exact ih_2 _ e_2.symm _ _ ls hP hD hS (lv_sub hl [1, 2, 0] rfl)
        · replace hE := (if_pos c_51).symm.trans hE
          refine lv_aload_n hx hb dX0_countEndings_54 rfl (lv_at hl 0 rfl) ?_
          refine va_get (D := G.1) (ci := 0) (v := .ref q_t_endings) (C := RX0) (T := TX0) (N := 7) hx hb hts iX0 hown hK hP 0 rfl rfl 2 (by decide) fl_9 (fun _ h9 => h9) rfl dX0_countEndings_55 ?_
          refine lv_iload_n hx hb dX0_countEndings_58 rfl (lv_at hl 2 rfl) ?_
          refine lv_aload_n hx hb dX0_countEndings_59 rfl (lv_at hl 0 rfl) ?_
          refine lv_iload_n hx hb dX0_countEndings_60 rfl (lv_at hl 2 rfl) ?_
          refine lv_iconst (v := 0) hx hb dX0_countEndings_61 (by decide) ?_
          obtain ⟨y62, hC_62, hE⟩ := Option.bind_eq_some_iff.mp hE
          obtain ⟨r_62, ex9⟩ : ∃ z, z = y62 := ⟨_, rfl⟩
          subst ex9
          try dsimp only at hE
          refine vp_callSi (va_Run.run (va_runV (As := [.int v2_2, .int (0 : Int32)]) (rest := [.int v2_2, .ref q_t_endings]) ⟨hx, hb, hml, hown, hts⟩ (c_X0_endingsFrom (l := l) (G := G) (p1 := v2_2) (p2 := (0 : Int32)) (q_t := q_t) (t_size := t_size) (t_masks := t_masks) (q_t_endings := q_t_endings) (t_areEndingsCounted := (1 : Int32)) (q_t_codes := q_t_codes) (q_t_tally := q_t_tally) (t_ways := t_ways) (t_endings := w_t_endings_2) hC_62) (cwV 2 hts gX0_countEndings_X0_endingsFrom rfl rfl rfl kd_X0_endingsFrom ⟨Nat.le_of_ble_eq_true rfl, Nat.le_of_ble_eq_true rfl⟩) (pv_V hKW (hP.sub (ws' := [oX0 q_t t_size t_masks q_t_endings (1 : Int32) q_t_codes q_t_tally t_ways, aI (G.2 1) q_t_endings 64 w_t_endings_2]) [0, 1] rfl) (ci := 0) (q0 := 0) rfl rfl) rfl rfl hl.1 rfl (lv_room (Nat.le_of_ble_eq_true rfl)) dX0_countEndings_62 ⟨Nat.zero_le _, Nat.zero_le _⟩)) (fun r9 hr9 => ?_)
          subst r9
          obtain ⟨hi_65, hE⟩ := ck_some hE
          refine va_iast hx hb hK hP hD hS 1 1 rfl rfl (inb_in hi_65) dX0_countEndings_65 (fun H locs hP hD hS => ?_)
          have hP : va_P G.1 vwCl [oX0 q_t t_size t_masks q_t_endings (1 : Int32) q_t_codes q_t_tally t_ways, aI (G.2 1) q_t_endings 64 (upd w_t_endings_2 v2_2.toNatClampNeg r_62)] H := hP
          have hD : va_D A [oX0 q_t t_size t_masks q_t_endings (1 : Int32) q_t_codes q_t_tally t_ways, aI (G.2 1) q_t_endings 64 (upd w_t_endings_2 v2_2.toNatClampNeg r_62)] := hD
          refine lv_iinc (v := v2_2 + (1 : Int32)) (lv' := [(2, .int (v2_2 + (1 : Int32))), (0, .ref q_t), (1, .int v1_1)]) hx hb dX0_countEndings_66 hl (k := 2) rfl rfl (by decide) rfl (fun ls hl => ?_)
          refine lv_goto (tgt := 38) hx hb dX0_countEndings_69 (by decide) ?_
          have e_2 := Option.some.inj hE
          exact ih_2 _ e_2.symm _ _ ls hP hD hS (lv_sub hl [1, 2, 0] rfl)
  · replace hE := (if_neg c_4).symm.trans hE
    have e_0 := Option.some.inj hE
    subst e_0
    rw [hQ]
    exact W.vret hx hb hr (fun t ht _ => ⟨⟨(), rfl, trivial, by rw [ht]; exact hP, hD⟩, hS.F ht⟩) hS.2.2 dX0_countEndings_7
def S_X0_total (t_size : Int32) (t_masks : Int32) (t_areEndingsCounted : Int32) (t_endings : Nat → Int32) : Option (Int32 × Int32 × (Nat → Int32)) := (S_X0_countEndings t_size t_masks t_areEndingsCounted t_endings).bind (fun (y1 : Int32 × (Nat → Int32)) => ck (inb (0 : Int32) 64) (some (y1.2 (0 : Int32).toNatClampNeg, y1.1, y1.2)))
theorem kd_X0_total : yX0_total.cls = RX0 ∧ yX0_total.cls ≠ "java/lang/invoke/MethodHandle" ∧ yX0_total.cls ≠ "java/lang/invoke/VarHandle" ∧ (parseMethodDescriptor yX0_total.desc).map (fun d => d.parameters.length) = some 0 := by decide +kernel
set_option maxHeartbeats 4000000 in
set_option maxRecDepth 100000 in
theorem c_X0_total {l : Launch} {G : kG} (sz : Nat) {q_t : Nat} {t_size : Int32} {t_masks : Int32} {q_t_endings : Nat} {t_areEndingsCounted : Int32} {q_t_codes : Nat} {q_t_tally : Nat} {t_ways : Int32} {t_endings : Nat → Int32} {res : Int32 × Int32 × (Nat → Int32)} (hE : S_X0_total t_size t_masks t_areEndingsCounted t_endings = some res) : Met l yX0_total wsX0_total ({ frames := 3, cells := 0, slots := 0, locals := 70 }) (va_Pc [.ref q_t] (fun U => U.heap.size = sz ∧ va_P G.1 vwCl [oX0 q_t t_size t_masks q_t_endings t_areEndingsCounted q_t_codes q_t_tally t_ways, aI (G.2 1) q_t_endings 64 t_endings] U.heap ∧ kw G U ∧ va_D (fun _ => True) [oX0 q_t t_size t_masks q_t_endings t_areEndingsCounted q_t_codes q_t_tally t_ways, aI (G.2 1) q_t_endings 64 t_endings])) (va_Qi (fun r (_ : Unit) => r = res.1) (fun _ t => va_P G.1 vwCl [oX0 q_t t_size t_masks q_t_endings res.2.1 q_t_codes q_t_tally t_ways, aI (G.2 1) q_t_endings 64 res.2.2] t.heap ∧ va_D (va_A [oX0 q_t t_size t_masks q_t_endings t_areEndingsCounted q_t_codes q_t_tally t_ways, aI (G.2 1) q_t_endings 64 t_endings] sz) [oX0 q_t t_size t_masks q_t_endings res.2.1 q_t_codes q_t_tally t_ways, aI (G.2 1) q_t_endings 64 res.2.2]) (va_A [oX0 q_t t_size t_masks q_t_endings t_areEndingsCounted q_t_codes q_t_tally t_ways, aI (G.2 1) q_t_endings 64 t_endings] sz)) 0 0 (va_A [oX0 q_t t_size t_masks q_t_endings t_areEndingsCounted q_t_codes q_t_tally t_ways, aI (G.2 1) q_t_endings 64 t_endings] sz) := by
  refine Met.ofQ (cc := cX0_total) (maxL := 1) (ret := (some .int)) (by decide) rfl ?_
  intro p e s m args below meth c s₁ Q hQ B hml hv
  obtain ⟨rfl, hsz, hP, hKW, hD0⟩ := hv
  have hK := hKW.1
  have hx := B.exec
  have hb := B.bytes
  have hr := B.returns
  have hts := atoms_spec (ws := wsX0_total) B.pre
  have hown : s.vm.findClass RX0 = some m.cls := findClass_of_methodNamed B.named
  have hlocks := B.notSynchronized
  have iX0 : ∀ w ∈ u_ws RX0 TX0 7, w ∈ wsX0_total := by decide +kernel
  have fl_9 := hts (.fieldLink RX0 9 "AlternateSigns$AllOfSize" "endings" "[I") (by decide +kernel)
  subst hsz
  have hD := hD0.self (sz := s.heap.size)
  generalize hAe : va_A [oX0 q_t t_size t_masks q_t_endings t_areEndingsCounted q_t_codes q_t_tally t_ways, aI (G.2 1) q_t_endings 64 t_endings] s.heap.size = A at hD hQ
  have hA : ∀ q : Nat, s.heap.size ≤ q → A q := fun q h => by rw [← hAe]; exact Or.inr h
  have hS : va_S A s.heap s.heap [] := va_S.rf
  have hl := lv_entry ([.ref q_t]) (n := 1) (Nat.le_of_ble_eq_true rfl)
  rw [lg_entry_eq]
  generalize (lg_sl ([.ref q_t]) ++ List.replicate (1 - (lg_sl ([.ref q_t])).length) Slot.unset).toArray = ls at hl ⊢
  have hl : lv_has ls 1 [(0, .ref q_t)] := hl
  unfold S_X0_total at hE
  refine lv_aload_n hx hb dX0_total_0 rfl (lv_at hl 0 rfl) ?_
  obtain ⟨y1, hC_1, hE⟩ := Option.bind_eq_some_iff.mp hE
  obtain ⟨m_1_0, m_1_1⟩ := y1
  try dsimp only at hE
  have hPc := hP.sub (ws' := [oX0 q_t t_size t_masks q_t_endings t_areEndingsCounted q_t_codes q_t_tally t_ways, aI (G.2 1) q_t_endings 64 t_endings]) [0, 1] rfl
  have hDc := hD.sub (ws' := [oX0 q_t t_size t_masks q_t_endings t_areEndingsCounted q_t_codes q_t_tally t_ways, aI (G.2 1) q_t_endings 64 t_endings]) [0, 1] (by decide) rfl
  have hFc := va_free (wc := [oX0 q_t t_size t_masks q_t_endings t_areEndingsCounted q_t_codes q_t_tally t_ways, aI (G.2 1) q_t_endings 64 t_endings]) hD hS hA [0, 1] rfl
  refine va_callv (va_runV (As := []) (rest := []) ⟨hx, hb, hml, hown, hts⟩ (c_X0_countEndings (l := l) (G := G) _ (q_t := q_t) (t_size := t_size) (t_masks := t_masks) (q_t_endings := q_t_endings) (t_areEndingsCounted := t_areEndingsCounted) (q_t_codes := q_t_codes) (q_t_tally := q_t_tally) (t_ways := t_ways) (t_endings := t_endings) hC_1) (cwV 0 hts gX0_total_X0_countEndings rfl rfl rfl kd_X0_countEndings ⟨Nat.le_of_ble_eq_true rfl, Nat.le_of_ble_eq_true rfl⟩) (iv_V hKW hPc hDc (ci := 0) (q0 := 0) rfl rfl) rfl rfl hl.1 rfl (lv_room (Nat.le_of_ble_eq_true rfl)) dX0_total_1 ⟨Nat.zero_le _, Nat.zero_le _⟩) hS (fun q _ h => hFc q h) hFc (fun u9 t9 H1 locs ht9 hvm9 hw9 hB9 hz9 hk9 hS => ?_)
  obtain ⟨hP1, hD1⟩ := hB9
  rw [ht9] at hP1
  obtain ⟨hP, hD⟩ := va_join (wr := []) (w1 := [oX0 q_t t_size t_masks q_t_endings m_1_0 q_t_codes q_t_tally t_ways, aI (G.2 1) q_t_endings 64 m_1_1]) hP hD [0, 1] [] rfl rfl (by decide) (by decide) hk9 hFc hP1 hD1
  have hP := hP.sub (ws' := [oX0 q_t t_size t_masks q_t_endings m_1_0 q_t_codes q_t_tally t_ways, aI (G.2 1) q_t_endings 64 m_1_1]) [0, 1] rfl
  have hD := hD.sub (ws' := [oX0 q_t t_size t_masks q_t_endings m_1_0 q_t_codes q_t_tally t_ways, aI (G.2 1) q_t_endings 64 m_1_1]) [0, 1] (by decide) rfl
  clear hPc hDc hFc hP1 hD1 hk9 hz9 hvm9
  refine lv_aload_n hx hb dX0_total_4 rfl (lv_at hl 0 rfl) ?_
  refine va_get (D := G.1) (ci := 0) (v := .ref q_t_endings) (C := RX0) (T := TX0) (N := 7) hx hb hts iX0 hown hK hP 0 rfl rfl 2 (by decide) fl_9 (fun _ h9 => h9) rfl dX0_total_5 ?_
  refine lv_iconst (v := 0) hx hb dX0_total_8 (by decide) ?_
  obtain ⟨hi_9, hE⟩ := ck_some hE
  refine va_iald hx hb hK hP 1 1 rfl rfl (inb_in hi_9) dX0_total_9 ?_
  have e_0 := Option.some.inj hE
  subst e_0
  rw [hQ]
  exact W.iret (v := m_1_1 (0 : Int32).toNatClampNeg) hx hb hr (fun t ht _ => ⟨⟨_, (), rfl, rfl, by rw [ht]; exact hP, hD⟩, hS.F ht⟩) hS.2.2 dX0_total_10
def S_X0_put (p1 : Int32) (t_size : Int32) (t_masks : Int32) (t_areEndingsCounted : Int32) (t_endings : Nat → Int32) (p2_corners : Nat → Int32) : Option (Int32 × (Nat → Int32) × Int32 × (Nat → Int32)) := (S_X0_countEndings t_size t_masks t_areEndingsCounted t_endings).bind (fun (y1 : Int32 × (Nat → Int32)) => itr (fun (x1 : Int32 × Int32 × Int32 × (Nat → Int32)) => if t_size < x1.2.2.1 then some (.inr (y1.1, y1.2, t_size, x1.2.2.2)) else itr (fun (x2 : Int32 × Int32) => jn (if x2.2 ≤ 0 then some (.inl (x2.1, x2.2)) else (S_X0_canFollow x1.2.1 x2.2 t_size).bind (fun (y47 : Int32) => jn (if y47 = 0 then some (.inl (0 : Int32)) else ck (inb x2.2 64) (some (.inl (y1.2 x2.2.toNatClampNeg)))) (fun (x4 : Int32) => if x4 ≤ x2.1 then some (.inr (.inl (x2.1 - x4, x2.2 + (-1 : Int32)))) else some (.inl (x2.1, x2.2))))) (fun (x3 : Int32 × Int32) => (S_X3_putFullColumns x1.2.2.1 x3.2 t_size x1.2.2.2).bind (fun (y91 : Nat → Int32) => some (.inr (.inl (x3.1, x3.2, x1.2.2.1 + (1 : Int32), y91)))))) 10000 (x1.1, t_masks - (1 : Int32))) 10000 (p1, (0 : Int32), (1 : Int32), p2_corners))
theorem kd_X0_put : yX0_put.cls = RX0 ∧ yX0_put.cls ≠ "java/lang/invoke/MethodHandle" ∧ yX0_put.cls ≠ "java/lang/invoke/VarHandle" ∧ (parseMethodDescriptor yX0_put.desc).map (fun d => d.parameters.length) = some 2 := by decide +kernel
set_option maxHeartbeats 4000000 in
set_option maxRecDepth 100000 in
theorem c_X0_put {l : Launch} {G : kG} (sz : Nat) {p1 : Int32} {q_t : Nat} {t_size : Int32} {t_masks : Int32} {q_t_endings : Nat} {t_areEndingsCounted : Int32} {q_t_codes : Nat} {q_t_tally : Nat} {t_ways : Int32} {t_endings : Nat → Int32} {q_p2 : Nat} {p2_size : Int32} {q_p2_corners : Nat} {p2_corners : Nat → Int32} {res : Int32 × (Nat → Int32) × Int32 × (Nat → Int32)} (hE : S_X0_put p1 t_size t_masks t_areEndingsCounted t_endings p2_corners = some res) : Met l yX0_put wsX0_put ({ frames := 3, cells := 0, slots := 0, locals := 70 }) (va_Pc [.ref q_t, .int p1, .ref q_p2] (fun U => U.heap.size = sz ∧ va_P G.1 vwCl [oX0 q_t t_size t_masks q_t_endings t_areEndingsCounted q_t_codes q_t_tally t_ways, aI (G.2 1) q_t_endings 64 t_endings, oX3 q_p2 p2_size q_p2_corners, aI (G.2 1) q_p2_corners 49 p2_corners] U.heap ∧ kw G U ∧ va_D (fun _ => True) [oX0 q_t t_size t_masks q_t_endings t_areEndingsCounted q_t_codes q_t_tally t_ways, aI (G.2 1) q_t_endings 64 t_endings, oX3 q_p2 p2_size q_p2_corners, aI (G.2 1) q_p2_corners 49 p2_corners])) (va_Qv (fun (_ : Unit) => True) (fun _ t => va_P G.1 vwCl [oX0 q_t t_size t_masks q_t_endings res.1 q_t_codes q_t_tally t_ways, aI (G.2 1) q_t_endings 64 res.2.1, oX3 q_p2 res.2.2.1 q_p2_corners, aI (G.2 1) q_p2_corners 49 res.2.2.2] t.heap ∧ va_D (va_A [oX0 q_t t_size t_masks q_t_endings t_areEndingsCounted q_t_codes q_t_tally t_ways, aI (G.2 1) q_t_endings 64 t_endings, oX3 q_p2 p2_size q_p2_corners, aI (G.2 1) q_p2_corners 49 p2_corners] sz) [oX0 q_t t_size t_masks q_t_endings res.1 q_t_codes q_t_tally t_ways, aI (G.2 1) q_t_endings 64 res.2.1, oX3 q_p2 res.2.2.1 q_p2_corners, aI (G.2 1) q_p2_corners 49 res.2.2.2]) (va_A [oX0 q_t t_size t_masks q_t_endings t_areEndingsCounted q_t_codes q_t_tally t_ways, aI (G.2 1) q_t_endings 64 t_endings, oX3 q_p2 p2_size q_p2_corners, aI (G.2 1) q_p2_corners 49 p2_corners] sz)) 0 0 (va_A [oX0 q_t t_size t_masks q_t_endings t_areEndingsCounted q_t_codes q_t_tally t_ways, aI (G.2 1) q_t_endings 64 t_endings, oX3 q_p2 p2_size q_p2_corners, aI (G.2 1) q_p2_corners 49 p2_corners] sz) := by
  refine Met.ofQ (cc := cX0_put) (maxL := 8) (ret := none) (by decide) rfl ?_
  intro p e s m args below meth c s₁ Q hQ B hml hv
  obtain ⟨rfl, hsz, hP, hKW, hD0⟩ := hv
  have hK := hKW.1
  have hx := B.exec
  have hb := B.bytes
  have hr := B.returns
  have hts := atoms_spec (ws := wsX0_put) B.pre
  have hown : s.vm.findClass RX0 = some m.cls := findClass_of_methodNamed B.named
  have hlocks := B.notSynchronized
  have iX0 : ∀ w ∈ u_ws RX0 TX0 7, w ∈ wsX0_put := by decide +kernel
  have iX3 : ∀ w ∈ u_ws RX3 TX3 2, w ∈ wsX0_put := by decide +kernel
  have fl_22 := hts (.fieldLink RX0 22 "AlternateSigns$AllOfSize" "size" "I") (by decide +kernel)
  have fl_42 := hts (.fieldLink RX0 42 "AlternateSigns$Table" "size" "I") (by decide +kernel)
  have fl_26 := hts (.fieldLink RX0 26 "AlternateSigns$AllOfSize" "masks" "I") (by decide +kernel)
  have fl_9 := hts (.fieldLink RX0 9 "AlternateSigns$AllOfSize" "endings" "[I") (by decide +kernel)
  subst hsz
  have hD := hD0.self (sz := s.heap.size)
  generalize hAe : va_A [oX0 q_t t_size t_masks q_t_endings t_areEndingsCounted q_t_codes q_t_tally t_ways, aI (G.2 1) q_t_endings 64 t_endings, oX3 q_p2 p2_size q_p2_corners, aI (G.2 1) q_p2_corners 49 p2_corners] s.heap.size = A at hD hQ
  have hA : ∀ q : Nat, s.heap.size ≤ q → A q := fun q h => by rw [← hAe]; exact Or.inr h
  have hS : va_S A s.heap s.heap [] := va_S.rf
  have hl := lv_entry ([.ref q_t, .int p1, .ref q_p2]) (n := 8) (Nat.le_of_ble_eq_true rfl)
  rw [lg_entry_eq]
  generalize (lg_sl ([.ref q_t, .int p1, .ref q_p2]) ++ List.replicate (8 - (lg_sl ([.ref q_t, .int p1, .ref q_p2])).length) Slot.unset).toArray = ls at hl ⊢
  have hl : lv_has ls 8 [(0, .ref q_t), (1, .int p1), (2, .ref q_p2)] := hl
  unfold S_X0_put at hE
  refine lv_aload_n hx hb dX0_put_0 rfl (lv_at hl 0 rfl) ?_
  obtain ⟨y1, hC_1, hE⟩ := Option.bind_eq_some_iff.mp hE
  obtain ⟨m_1_0, m_1_1⟩ := y1
  try dsimp only at hE
  have hPc := hP.sub (ws' := [oX0 q_t t_size t_masks q_t_endings t_areEndingsCounted q_t_codes q_t_tally t_ways, aI (G.2 1) q_t_endings 64 t_endings]) [0, 1] rfl
  have hDc := hD.sub (ws' := [oX0 q_t t_size t_masks q_t_endings t_areEndingsCounted q_t_codes q_t_tally t_ways, aI (G.2 1) q_t_endings 64 t_endings]) [0, 1] (by decide) rfl
  have hFc := va_free (wc := [oX0 q_t t_size t_masks q_t_endings t_areEndingsCounted q_t_codes q_t_tally t_ways, aI (G.2 1) q_t_endings 64 t_endings]) hD hS hA [0, 1] rfl
  refine va_callv (va_runV (As := []) (rest := []) ⟨hx, hb, hml, hown, hts⟩ (c_X0_countEndings (l := l) (G := G) _ (q_t := q_t) (t_size := t_size) (t_masks := t_masks) (q_t_endings := q_t_endings) (t_areEndingsCounted := t_areEndingsCounted) (q_t_codes := q_t_codes) (q_t_tally := q_t_tally) (t_ways := t_ways) (t_endings := t_endings) hC_1) (cwV 0 hts gX0_put_X0_countEndings rfl rfl rfl kd_X0_countEndings ⟨Nat.le_of_ble_eq_true rfl, Nat.le_of_ble_eq_true rfl⟩) (iv_V hKW hPc hDc (ci := 0) (q0 := 0) rfl rfl) rfl rfl hl.1 rfl (lv_room (Nat.le_of_ble_eq_true rfl)) dX0_put_1 ⟨Nat.zero_le _, Nat.zero_le _⟩) hS (fun q _ h => hFc q h) hFc (fun u9 t9 H1 locs ht9 hvm9 hw9 hB9 hz9 hk9 hS => ?_)
  obtain ⟨hP1, hD1⟩ := hB9
  rw [ht9] at hP1
  obtain ⟨hP, hD⟩ := va_join (wr := [oX3 q_p2 p2_size q_p2_corners, aI (G.2 1) q_p2_corners 49 p2_corners]) (w1 := [oX0 q_t t_size t_masks q_t_endings m_1_0 q_t_codes q_t_tally t_ways, aI (G.2 1) q_t_endings 64 m_1_1]) hP hD [0, 1] [2, 3] rfl rfl (by decide) (by decide) hk9 hFc hP1 hD1
  have hP := hP.sub (ws' := [oX0 q_t t_size t_masks q_t_endings m_1_0 q_t_codes q_t_tally t_ways, aI (G.2 1) q_t_endings 64 m_1_1, oX3 q_p2 p2_size q_p2_corners, aI (G.2 1) q_p2_corners 49 p2_corners]) [2, 3, 0, 1] rfl
  have hD := hD.sub (ws' := [oX0 q_t t_size t_masks q_t_endings m_1_0 q_t_codes q_t_tally t_ways, aI (G.2 1) q_t_endings 64 m_1_1, oX3 q_p2 p2_size q_p2_corners, aI (G.2 1) q_p2_corners 49 p2_corners]) [2, 3, 0, 1] (by decide) rfl
  clear hPc hDc hFc hP1 hD1 hk9 hz9 hvm9
  refine lv_aload_n hx hb dX0_put_4 rfl (lv_at hl 2 rfl) ?_
  refine lv_aload_n hx hb dX0_put_5 rfl (lv_at hl 0 rfl) ?_
  refine va_get (D := G.1) (ci := 0) (v := .int t_size) (C := RX0) (T := TX0) (N := 7) hx hb hts iX0 hown hK hP 0 rfl rfl 0 (by decide) fl_22 (fun _ h9 => h9) rfl dX0_put_6 ?_
  refine va_put (D := G.1) (ci := 3) (v := .int t_size) (ty := .int) (C := RX3) (T := TX3) (N := 2) hx hb hts iX3 tyX3 tyX3_ok nmX3 hown hK hP hD hS 2 rfl rfl 0 (by decide) fl_42 (fun _ h9 => h9) rfl (by decide +kernel) rfl rfl (Nat.le_of_ble_eq_true rfl) dX0_put_9 (fun H locs hP hD hS => ?_)
  have hP : va_P G.1 vwCl [oX0 q_t t_size t_masks q_t_endings m_1_0 q_t_codes q_t_tally t_ways, aI (G.2 1) q_t_endings 64 m_1_1, oX3 q_p2 t_size q_p2_corners, aI (G.2 1) q_p2_corners 49 p2_corners] H := hP
  have hD : va_D A [oX0 q_t t_size t_masks q_t_endings m_1_0 q_t_codes q_t_tally t_ways, aI (G.2 1) q_t_endings 64 m_1_1, oX3 q_p2 t_size q_p2_corners, aI (G.2 1) q_p2_corners 49 p2_corners] := hD
  refine lv_iload_n hx hb dX0_put_12 rfl (lv_at hl 1 rfl) ?_
  refine lv_istore_n (lv' := [(3, .int p1), (0, .ref q_t), (1, .int p1), (2, .ref q_p2)]) hx hb dX0_put_13 rfl hl (by decide) rfl (fun ls hl => ?_)
  refine lv_iconst (v := 0) hx hb dX0_put_14 (by decide) ?_
  refine lv_istore (lv' := [(4, .int (0 : Int32)), (3, .int p1), (0, .ref q_t), (1, .int p1), (2, .ref q_p2)]) hx hb dX0_put_15 hl (by decide) rfl (fun ls hl => ?_)
  refine lv_iconst (v := 1) hx hb dX0_put_17 (by decide) ?_
  refine lv_istore (lv' := [(5, .int (1 : Int32)), (4, .int (0 : Int32)), (3, .int p1), (0, .ref q_t), (1, .int p1), (2, .ref q_p2)]) hx hb dX0_put_18 hl (by decide) rfl (fun ls hl => ?_)
  refine itr_ind (fun (x1 : Int32 × Int32 × Int32 × (Nat → Int32)) => ∀ (H : Heap) (locs : List Loc) (ls : Array Slot), va_P G.1 vwCl [oX0 q_t t_size t_masks q_t_endings m_1_0 q_t_codes q_t_tally t_ways, aI (G.2 1) q_t_endings 64 m_1_1, oX3 q_p2 t_size q_p2_corners, aI (G.2 1) q_p2_corners 49 x1.2.2.2] H → va_D A [oX0 q_t t_size t_masks q_t_endings m_1_0 q_t_codes q_t_tally t_ways, aI (G.2 1) q_t_endings 64 m_1_1, oX3 q_p2 t_size q_p2_corners, aI (G.2 1) q_p2_corners 49 x1.2.2.2] → va_S A s.heap H locs → lv_has ls 8 [(0, .ref q_t), (2, .ref q_p2), (3, .int x1.1), (4, .int x1.2.1), (5, .int x1.2.2.1)] → W p l e (headSpec wsX0_put ({ frames := 3, cells := 0, slots := 0, locals := 70 })).room s m ([.ref q_t, .int p1, .ref q_p2] : List Value).toArray below meth c H locs 0 0 Q (F0 m 20 ls [])) (fun x1 o_1 hE ih_1 hr_1 => ?_) _ _ hE _ _ ls hP hD hS (lv_sub hl [3, 5, 2, 1, 0] rfl)
  obtain ⟨v3_1, v4_1, v5_1, w_p2_corners_1⟩ := x1
  try dsimp only at hE
  intro H locs ls hP hD hS hl
  try dsimp only at hP hD hl ⊢
  refine lv_iload hx hb dX0_put_20 (lv_at hl 4 rfl) ?_
  refine lv_aload_n hx hb dX0_put_22 rfl (lv_at hl 0 rfl) ?_
  refine va_get (D := G.1) (ci := 0) (v := .int t_size) (C := RX0) (T := TX0) (N := 7) hx hb hts iX0 hown hK hP 0 rfl rfl 0 (by decide) fl_22 (fun _ h9 => h9) rfl dX0_put_23 ?_
  refine lv_icmp_gt (tgt := 104) hx hb dX0_put_26 (by decide) (fun c_26 => ?_) (fun c_26 => ?_)
  · replace hE := (if_pos c_26).symm.trans hE
    have e_1 := Option.some.inj hE
    have e_0 := hr_1 _ e_1.symm
    subst e_0
    rw [hQ]
    exact W.vret hx hb hr (fun t ht _ => ⟨⟨(), rfl, trivial, by rw [ht]; exact hP, hD⟩, hS.F ht⟩) hS.2.2 dX0_put_104
  · replace hE := (if_neg c_26).symm.trans hE
    refine lv_aload_n hx hb dX0_put_29 rfl (lv_at hl 0 rfl) ?_
    refine va_get (D := G.1) (ci := 0) (v := .int t_masks) (C := RX0) (T := TX0) (N := 7) hx hb hts iX0 hown hK hP 0 rfl rfl 1 (by decide) fl_26 (fun _ h9 => h9) rfl dX0_put_30 ?_
    refine lv_iconst (v := 1) hx hb dX0_put_33 (by decide) ?_
    refine lv_isub hx hb dX0_put_34 ?_
    refine lv_istore (lv' := [(6, .int (t_masks - (1 : Int32))), (0, .ref q_t), (2, .ref q_p2), (3, .int v3_1), (4, .int v4_1), (5, .int v5_1)]) hx hb dX0_put_35 hl (by decide) rfl (fun ls hl => ?_)
    refine itr_ind (fun (x2 : Int32 × Int32) => ∀ (H : Heap) (locs : List Loc) (ls : Array Slot), va_P G.1 vwCl [oX0 q_t t_size t_masks q_t_endings m_1_0 q_t_codes q_t_tally t_ways, aI (G.2 1) q_t_endings 64 m_1_1, oX3 q_p2 t_size q_p2_corners, aI (G.2 1) q_p2_corners 49 w_p2_corners_1] H → va_D A [oX0 q_t t_size t_masks q_t_endings m_1_0 q_t_codes q_t_tally t_ways, aI (G.2 1) q_t_endings 64 m_1_1, oX3 q_p2 t_size q_p2_corners, aI (G.2 1) q_p2_corners 49 w_p2_corners_1] → va_S A s.heap H locs → lv_has ls 8 [(0, .ref q_t), (2, .ref q_p2), (3, .int x2.1), (4, .int v4_1), (5, .int v5_1), (6, .int x2.2)] → W p l e (headSpec wsX0_put ({ frames := 3, cells := 0, slots := 0, locals := 70 })).room s m ([.ref q_t, .int p1, .ref q_p2] : List Value).toArray below meth c H locs 0 0 Q (F0 m 37 ls [])) (fun x2 o_2 hE ih_2 hr_2 => ?_) _ _ hE _ _ ls hP hD hS (lv_sub hl [1, 2, 3, 4, 5, 0] rfl)
    obtain ⟨v3_2, v6_2⟩ := x2
    try dsimp only at hE
    intro H locs ls hP hD hS hl
    try dsimp only at hP hD hl ⊢
    refine lv_iload hx hb dX0_put_37 (lv_at hl 5 rfl) ?_
    obtain ⟨o_3, hEp, hk9, hr_3⟩ := jn_some hE
    have ih_3 : ∀ (x3 : Int32 × Int32), o_3 = .inl x3 → ∀ (H : Heap) (locs : List Loc) (ls : Array Slot), va_P G.1 vwCl [oX0 q_t t_size t_masks q_t_endings m_1_0 q_t_codes q_t_tally t_ways, aI (G.2 1) q_t_endings 64 m_1_1, oX3 q_p2 t_size q_p2_corners, aI (G.2 1) q_p2_corners 49 w_p2_corners_1] H → va_D A [oX0 q_t t_size t_masks q_t_endings m_1_0 q_t_codes q_t_tally t_ways, aI (G.2 1) q_t_endings 64 m_1_1, oX3 q_p2 t_size q_p2_corners, aI (G.2 1) q_p2_corners 49 w_p2_corners_1] → va_S A s.heap H locs → lv_has ls 8 [(0, .ref q_t), (2, .ref q_p2), (3, .int x3.1), (5, .int v5_1), (6, .int x3.2)] → W p l e (headSpec wsX0_put ({ frames := 3, cells := 0, slots := 0, locals := 70 })).room s m ([.ref q_t, .int p1, .ref q_p2] : List Value).toArray below meth c H locs 0 0 Q (F0 m 86 ls []) := by
      intro x3 ho9
      have hE := hk9 _ ho9
      obtain ⟨v3_3, v6_3⟩ := x3
      try dsimp only at hE
      intro H locs ls hP hD hS hl
      try dsimp only at hP hD hl ⊢
      refine lv_aload_n hx hb dX0_put_86 rfl (lv_at hl 1 rfl) ?_
      refine lv_iload hx hb dX0_put_87 (lv_at hl 3 rfl) ?_
      refine lv_iload hx hb dX0_put_89 (lv_at hl 4 rfl) ?_
      obtain ⟨y91, hC_91, hE⟩ := Option.bind_eq_some_iff.mp hE
      obtain ⟨m_91_0, ex9⟩ : ∃ z, z = y91 := ⟨_, rfl⟩
      subst ex9
      try dsimp only at hE
      have hPc := hP.sub (ws' := [oX3 q_p2 t_size q_p2_corners, aI (G.2 1) q_p2_corners 49 w_p2_corners_1]) [2, 3] rfl
      have hDc := hD.sub (ws' := [oX3 q_p2 t_size q_p2_corners, aI (G.2 1) q_p2_corners 49 w_p2_corners_1]) [2, 3] (by decide) rfl
      have hFc := va_free (wc := [oX3 q_p2 t_size q_p2_corners, aI (G.2 1) q_p2_corners 49 w_p2_corners_1]) hD hS hA [2, 3] rfl
      refine va_callv (va_runV (As := [.int v5_1, .int v6_3]) (rest := []) ⟨hx, hb, hml, hown, hts⟩ (c_X3_putFullColumns (l := l) (G := G) _ (p1 := v5_1) (p2 := v6_3) (q_t := q_p2) (t_size := t_size) (q_t_corners := q_p2_corners) (t_corners := w_p2_corners_1) hC_91) (cwV 2 hts gX0_put_X3_putFullColumns rfl rfl rfl kd_X3_putFullColumns ⟨Nat.le_of_ble_eq_true rfl, Nat.le_of_ble_eq_true rfl⟩) (iv_V hKW hPc hDc (ci := 3) (q0 := 0) rfl rfl) rfl rfl hl.1 rfl (lv_room (Nat.le_of_ble_eq_true rfl)) dX0_put_91 ⟨Nat.zero_le _, Nat.zero_le _⟩) hS (fun q _ h => hFc q h) hFc (fun u9 t9 H1 locs ht9 hvm9 hw9 hB9 hz9 hk9 hS => ?_)
      obtain ⟨hP1, hD1⟩ := hB9
      rw [ht9] at hP1
      obtain ⟨hP, hD⟩ := va_join (wr := [oX0 q_t t_size t_masks q_t_endings m_1_0 q_t_codes q_t_tally t_ways, aI (G.2 1) q_t_endings 64 m_1_1]) (w1 := [oX3 q_p2 t_size q_p2_corners, aI (G.2 1) q_p2_corners 49 m_91_0]) hP hD [2, 3] [0, 1] rfl rfl (by decide) (by decide) hk9 hFc hP1 hD1
      have hP := hP.sub (ws' := [oX0 q_t t_size t_masks q_t_endings m_1_0 q_t_codes q_t_tally t_ways, aI (G.2 1) q_t_endings 64 m_1_1, oX3 q_p2 t_size q_p2_corners, aI (G.2 1) q_p2_corners 49 m_91_0]) [0, 1, 2, 3] rfl
      have hD := hD.sub (ws' := [oX0 q_t t_size t_masks q_t_endings m_1_0 q_t_codes q_t_tally t_ways, aI (G.2 1) q_t_endings 64 m_1_1, oX3 q_p2 t_size q_p2_corners, aI (G.2 1) q_p2_corners 49 m_91_0]) [0, 1, 2, 3] (by decide) rfl
      clear hPc hDc hFc hP1 hD1 hk9 hz9 hvm9
      refine lv_iload hx hb dX0_put_94 (lv_at hl 4 rfl) ?_
      refine lv_istore (lv' := [(4, .int v6_3), (0, .ref q_t), (2, .ref q_p2), (3, .int v3_3), (5, .int v5_1), (6, .int v6_3)]) hx hb dX0_put_96 hl (by decide) rfl (fun ls hl => ?_)
      refine lv_iinc (v := v5_1 + (1 : Int32)) (lv' := [(5, .int (v5_1 + (1 : Int32))), (4, .int v6_3), (0, .ref q_t), (2, .ref q_p2), (3, .int v3_3), (6, .int v6_3)]) hx hb dX0_put_98 hl (k := 4) rfl rfl (by decide) rfl (fun ls hl => ?_)
      refine lv_goto (tgt := 20) hx hb dX0_put_101 (by decide) ?_
      have e_2 := Option.some.inj hE
      have e_1 := hr_2 _ e_2.symm
      exact ih_1 _ e_1.symm _ _ ls hP hD hS (lv_sub hl [2, 3, 4, 1, 0] rfl)
    clear hE hk9
    have hE := hEp
    clear hEp
    refine lv_if_le (tgt := 86) hx hb dX0_put_39 (by decide) (fun c_39 => ?_) (fun c_39 => ?_)
    · replace hE := (if_pos c_39).symm.trans hE
      have e_3 := Option.some.inj hE
      exact ih_3 _ e_3.symm _ _ ls hP hD hS (lv_sub hl [0, 1, 2, 4, 5] rfl)
    · replace hE := (if_neg c_39).symm.trans hE
      refine lv_aload_n hx hb dX0_put_42 rfl (lv_at hl 0 rfl) ?_
      refine lv_iload hx hb dX0_put_43 (lv_at hl 3 rfl) ?_
      refine lv_iload hx hb dX0_put_45 (lv_at hl 5 rfl) ?_
      obtain ⟨y47, hC_47, hE⟩ := Option.bind_eq_some_iff.mp hE
      obtain ⟨r_47, ex9⟩ : ∃ z, z = y47 := ⟨_, rfl⟩
      subst ex9
      try dsimp only at hE
      refine vp_callSi (va_Run.run (va_runV (As := [.int v4_1, .int v6_2]) (rest := []) ⟨hx, hb, hml, hown, hts⟩ (c_X0_canFollow (l := l) (G := G) (p1 := v4_1) (p2 := v6_2) (q_t := q_t) (t_size := t_size) (t_masks := t_masks) (q_t_endings := q_t_endings) (t_areEndingsCounted := m_1_0) (q_t_codes := q_t_codes) (q_t_tally := q_t_tally) (t_ways := t_ways) hC_47) (cwV 2 hts gX0_put_X0_canFollow rfl rfl rfl kd_X0_canFollow ⟨Nat.le_of_ble_eq_true rfl, Nat.le_of_ble_eq_true rfl⟩) (pv_V hKW (hP.sub (ws' := [oX0 q_t t_size t_masks q_t_endings m_1_0 q_t_codes q_t_tally t_ways]) [0] rfl) (ci := 0) (q0 := 0) rfl rfl) rfl rfl hl.1 rfl (lv_room (Nat.le_of_ble_eq_true rfl)) dX0_put_47 ⟨Nat.zero_le _, Nat.zero_le _⟩)) (fun r9 hr9 => ?_)
      subst r9
      obtain ⟨o_4, hEp, hk9, hr_4⟩ := jn_some hE
      have ih_4 : ∀ (x4 : Int32), o_4 = .inl x4 → ∀ (H : Heap) (locs : List Loc) (ls : Array Slot), va_P G.1 vwCl [oX0 q_t t_size t_masks q_t_endings m_1_0 q_t_codes q_t_tally t_ways, aI (G.2 1) q_t_endings 64 m_1_1, oX3 q_p2 t_size q_p2_corners, aI (G.2 1) q_p2_corners 49 w_p2_corners_1] H → va_D A [oX0 q_t t_size t_masks q_t_endings m_1_0 q_t_codes q_t_tally t_ways, aI (G.2 1) q_t_endings 64 m_1_1, oX3 q_p2 t_size q_p2_corners, aI (G.2 1) q_p2_corners 49 w_p2_corners_1] → va_S A s.heap H locs → lv_has ls 8 [(0, .ref q_t), (2, .ref q_p2), (3, .int v3_2), (4, .int v4_1), (5, .int v5_1), (6, .int v6_2)] → W p l e (headSpec wsX0_put ({ frames := 3, cells := 0, slots := 0, locals := 70 })).room s m ([.ref q_t, .int p1, .ref q_p2] : List Value).toArray below meth c H locs 0 0 Q (F0 m 64 ls [.int x4]) := by
        intro x4 ho9
        have hE := hk9 _ ho9
        obtain ⟨k0_4, ex9⟩ : ∃ z, z = x4 := ⟨_, rfl⟩
        subst ex9
        try dsimp only at hE
        intro H locs ls hP hD hS hl
        try dsimp only at hP hD hl ⊢
        refine lv_istore (lv' := [(7, .int k0_4), (0, .ref q_t), (2, .ref q_p2), (3, .int v3_2), (4, .int v4_1), (5, .int v5_1), (6, .int v6_2)]) hx hb dX0_put_64 hl (by decide) rfl (fun ls hl => ?_)
        refine lv_iload_n hx hb dX0_put_66 rfl (lv_at hl 3 rfl) ?_
        refine lv_iload hx hb dX0_put_67 (lv_at hl 0 rfl) ?_
        refine lv_icmp_ge (tgt := 75) hx hb dX0_put_69 (by decide) (fun c_69 => ?_) (fun c_69 => ?_)
        · replace hE := (if_pos c_69).symm.trans hE
          refine lv_iload_n hx hb dX0_put_75 rfl (lv_at hl 3 rfl) ?_
          refine lv_iload hx hb dX0_put_76 (lv_at hl 0 rfl) ?_
          refine lv_isub hx hb dX0_put_78 ?_
          refine lv_istore_n (lv' := [(3, .int (v3_2 - k0_4)), (7, .int k0_4), (0, .ref q_t), (2, .ref q_p2), (4, .int v4_1), (5, .int v5_1), (6, .int v6_2)]) hx hb dX0_put_79 rfl hl (by decide) rfl (fun ls hl => ?_)
          refine lv_iinc (v := v6_2 + (-1 : Int32)) (lv' := [(6, .int (v6_2 + (-1 : Int32))), (3, .int (v3_2 - k0_4)), (7, .int k0_4), (0, .ref q_t), (2, .ref q_p2), (4, .int v4_1), (5, .int v5_1)]) hx hb dX0_put_80 hl (k := 6) rfl rfl (by decide) rfl (fun ls hl => ?_)
          refine lv_goto (tgt := 37) hx hb dX0_put_83 (by decide) ?_
          have e_3 := Option.some.inj hE
          have e_2 := hr_3 _ e_3.symm
          exact ih_2 _ e_2.symm _ _ ls hP hD hS (lv_sub hl [3, 4, 1, 5, 6, 0] rfl)
        · replace hE := (if_neg c_69).symm.trans hE
          refine lv_goto (tgt := 86) hx hb dX0_put_72 (by decide) ?_
          have e_3 := Option.some.inj hE
          exact ih_3 _ e_3.symm _ _ ls hP hD hS (lv_sub hl [1, 2, 3, 5, 6] rfl)
      clear hE hk9
      have hE := hEp
      clear hEp
      refine lv_if_eq (tgt := 63) hx hb dX0_put_50 (by decide) (fun c_50 => ?_) (fun c_50 => ?_)
      · replace hE := (if_pos c_50).symm.trans hE
        refine lv_iconst (v := 0) hx hb dX0_put_63 (by decide) ?_
        have e_4 := Option.some.inj hE
        exact ih_4 _ e_4.symm _ _ ls hP hD hS (lv_sub hl [0, 1, 2, 3, 4, 5] rfl)
      · replace hE := (if_neg c_50).symm.trans hE
        refine lv_aload_n hx hb dX0_put_53 rfl (lv_at hl 0 rfl) ?_
        refine va_get (D := G.1) (ci := 0) (v := .ref q_t_endings) (C := RX0) (T := TX0) (N := 7) hx hb hts iX0 hown hK hP 0 rfl rfl 2 (by decide) fl_9 (fun _ h9 => h9) rfl dX0_put_54 ?_
        refine lv_iload hx hb dX0_put_57 (lv_at hl 5 rfl) ?_
        obtain ⟨hi_59, hE⟩ := ck_some hE
        refine va_iald hx hb hK hP 1 1 rfl rfl (inb_in hi_59) dX0_put_59 ?_
        refine lv_goto (tgt := 64) hx hb dX0_put_60 (by decide) ?_
        have e_4 := Option.some.inj hE
        exact ih_4 _ e_4.symm _ _ ls hP hD hS (lv_sub hl [0, 1, 2, 3, 4, 5] rfl)
def S_X0_rankOf (t_size : Int32) (t_masks : Int32) (t_areEndingsCounted : Int32) (t_endings : Nat → Int32) (p1_size : Int32) (p1_corners : Nat → Int32) : Option (Int32 × Int32 × (Nat → Int32)) := (S_X0_countEndings t_size t_masks t_areEndingsCounted t_endings).bind (fun (y1 : Int32 × (Nat → Int32)) => itr (fun (x1 : Int32 × Int32 × Int32) => if t_size < x1.2.2 then some (.inr (x1.1, y1.1, y1.2)) else (S_X3_fullColumns x1.2.2 p1_size p1_corners).bind (fun (y23 : Int32) => (S_X0_endingsFrom x1.2.1 (y23 + (1 : Int32)) t_size t_masks y1.2).bind (fun (y35 : Int32) => some (.inl (x1.1 + y35, y23, x1.2.2 + (1 : Int32)))))) 10000 ((0 : Int32), (0 : Int32), (1 : Int32)))
theorem kd_X0_rankOf : yX0_rankOf.cls = RX0 ∧ yX0_rankOf.cls ≠ "java/lang/invoke/MethodHandle" ∧ yX0_rankOf.cls ≠ "java/lang/invoke/VarHandle" ∧ (parseMethodDescriptor yX0_rankOf.desc).map (fun d => d.parameters.length) = some 1 := by decide +kernel
set_option maxHeartbeats 4000000 in
set_option maxRecDepth 100000 in
theorem c_X0_rankOf {l : Launch} {G : kG} (sz : Nat) {q_t : Nat} {t_size : Int32} {t_masks : Int32} {q_t_endings : Nat} {t_areEndingsCounted : Int32} {q_t_codes : Nat} {q_t_tally : Nat} {t_ways : Int32} {t_endings : Nat → Int32} {q_p1 : Nat} {p1_size : Int32} {q_p1_corners : Nat} {p1_corners : Nat → Int32} {res : Int32 × Int32 × (Nat → Int32)} (hE : S_X0_rankOf t_size t_masks t_areEndingsCounted t_endings p1_size p1_corners = some res) : Met l yX0_rankOf wsX0_rankOf ({ frames := 3, cells := 0, slots := 0, locals := 70 }) (va_Pc [.ref q_t, .ref q_p1] (fun U => U.heap.size = sz ∧ va_P G.1 vwCl [oX0 q_t t_size t_masks q_t_endings t_areEndingsCounted q_t_codes q_t_tally t_ways, aI (G.2 1) q_t_endings 64 t_endings, oX3 q_p1 p1_size q_p1_corners, aI (G.2 1) q_p1_corners 49 p1_corners] U.heap ∧ kw G U ∧ va_D (fun _ => True) [oX0 q_t t_size t_masks q_t_endings t_areEndingsCounted q_t_codes q_t_tally t_ways, aI (G.2 1) q_t_endings 64 t_endings, oX3 q_p1 p1_size q_p1_corners, aI (G.2 1) q_p1_corners 49 p1_corners])) (va_Qi (fun r (_ : Unit) => r = res.1) (fun _ t => va_P G.1 vwCl [oX0 q_t t_size t_masks q_t_endings res.2.1 q_t_codes q_t_tally t_ways, aI (G.2 1) q_t_endings 64 res.2.2, oX3 q_p1 p1_size q_p1_corners, aI (G.2 1) q_p1_corners 49 p1_corners] t.heap ∧ va_D (va_A [oX0 q_t t_size t_masks q_t_endings t_areEndingsCounted q_t_codes q_t_tally t_ways, aI (G.2 1) q_t_endings 64 t_endings, oX3 q_p1 p1_size q_p1_corners, aI (G.2 1) q_p1_corners 49 p1_corners] sz) [oX0 q_t t_size t_masks q_t_endings res.2.1 q_t_codes q_t_tally t_ways, aI (G.2 1) q_t_endings 64 res.2.2, oX3 q_p1 p1_size q_p1_corners, aI (G.2 1) q_p1_corners 49 p1_corners]) (va_A [oX0 q_t t_size t_masks q_t_endings t_areEndingsCounted q_t_codes q_t_tally t_ways, aI (G.2 1) q_t_endings 64 t_endings, oX3 q_p1 p1_size q_p1_corners, aI (G.2 1) q_p1_corners 49 p1_corners] sz)) 0 0 (va_A [oX0 q_t t_size t_masks q_t_endings t_areEndingsCounted q_t_codes q_t_tally t_ways, aI (G.2 1) q_t_endings 64 t_endings, oX3 q_p1 p1_size q_p1_corners, aI (G.2 1) q_p1_corners 49 p1_corners] sz) := by
  refine Met.ofQ (cc := cX0_rankOf) (maxL := 6) (ret := (some .int)) (by decide) rfl ?_
  intro p e s m args below meth c s₁ Q hQ B hml hv
  obtain ⟨rfl, hsz, hP, hKW, hD0⟩ := hv
  have hK := hKW.1
  have hx := B.exec
  have hb := B.bytes
  have hr := B.returns
  have hts := atoms_spec (ws := wsX0_rankOf) B.pre
  have hown : s.vm.findClass RX0 = some m.cls := findClass_of_methodNamed B.named
  have hlocks := B.notSynchronized
  have iX0 : ∀ w ∈ u_ws RX0 TX0 7, w ∈ wsX0_rankOf := by decide +kernel
  have fl_22 := hts (.fieldLink RX0 22 "AlternateSigns$AllOfSize" "size" "I") (by decide +kernel)
  subst hsz
  have hD := hD0.self (sz := s.heap.size)
  generalize hAe : va_A [oX0 q_t t_size t_masks q_t_endings t_areEndingsCounted q_t_codes q_t_tally t_ways, aI (G.2 1) q_t_endings 64 t_endings, oX3 q_p1 p1_size q_p1_corners, aI (G.2 1) q_p1_corners 49 p1_corners] s.heap.size = A at hD hQ
  have hA : ∀ q : Nat, s.heap.size ≤ q → A q := fun q h => by rw [← hAe]; exact Or.inr h
  have hS : va_S A s.heap s.heap [] := va_S.rf
  have hl := lv_entry ([.ref q_t, .ref q_p1]) (n := 6) (Nat.le_of_ble_eq_true rfl)
  rw [lg_entry_eq]
  generalize (lg_sl ([.ref q_t, .ref q_p1]) ++ List.replicate (6 - (lg_sl ([.ref q_t, .ref q_p1])).length) Slot.unset).toArray = ls at hl ⊢
  have hl : lv_has ls 6 [(0, .ref q_t), (1, .ref q_p1)] := hl
  unfold S_X0_rankOf at hE
  refine lv_aload_n hx hb dX0_rankOf_0 rfl (lv_at hl 0 rfl) ?_
  obtain ⟨y1, hC_1, hE⟩ := Option.bind_eq_some_iff.mp hE
  obtain ⟨m_1_0, m_1_1⟩ := y1
  try dsimp only at hE
  have hPc := hP.sub (ws' := [oX0 q_t t_size t_masks q_t_endings t_areEndingsCounted q_t_codes q_t_tally t_ways, aI (G.2 1) q_t_endings 64 t_endings]) [0, 1] rfl
  have hDc := hD.sub (ws' := [oX0 q_t t_size t_masks q_t_endings t_areEndingsCounted q_t_codes q_t_tally t_ways, aI (G.2 1) q_t_endings 64 t_endings]) [0, 1] (by decide) rfl
  have hFc := va_free (wc := [oX0 q_t t_size t_masks q_t_endings t_areEndingsCounted q_t_codes q_t_tally t_ways, aI (G.2 1) q_t_endings 64 t_endings]) hD hS hA [0, 1] rfl
  refine va_callv (va_runV (As := []) (rest := []) ⟨hx, hb, hml, hown, hts⟩ (c_X0_countEndings (l := l) (G := G) _ (q_t := q_t) (t_size := t_size) (t_masks := t_masks) (q_t_endings := q_t_endings) (t_areEndingsCounted := t_areEndingsCounted) (q_t_codes := q_t_codes) (q_t_tally := q_t_tally) (t_ways := t_ways) (t_endings := t_endings) hC_1) (cwV 0 hts gX0_rankOf_X0_countEndings rfl rfl rfl kd_X0_countEndings ⟨Nat.le_of_ble_eq_true rfl, Nat.le_of_ble_eq_true rfl⟩) (iv_V hKW hPc hDc (ci := 0) (q0 := 0) rfl rfl) rfl rfl hl.1 rfl (lv_room (Nat.le_of_ble_eq_true rfl)) dX0_rankOf_1 ⟨Nat.zero_le _, Nat.zero_le _⟩) hS (fun q _ h => hFc q h) hFc (fun u9 t9 H1 locs ht9 hvm9 hw9 hB9 hz9 hk9 hS => ?_)
  obtain ⟨hP1, hD1⟩ := hB9
  rw [ht9] at hP1
  obtain ⟨hP, hD⟩ := va_join (wr := [oX3 q_p1 p1_size q_p1_corners, aI (G.2 1) q_p1_corners 49 p1_corners]) (w1 := [oX0 q_t t_size t_masks q_t_endings m_1_0 q_t_codes q_t_tally t_ways, aI (G.2 1) q_t_endings 64 m_1_1]) hP hD [0, 1] [2, 3] rfl rfl (by decide) (by decide) hk9 hFc hP1 hD1
  have hP := hP.sub (ws' := [oX0 q_t t_size t_masks q_t_endings m_1_0 q_t_codes q_t_tally t_ways, aI (G.2 1) q_t_endings 64 m_1_1, oX3 q_p1 p1_size q_p1_corners, aI (G.2 1) q_p1_corners 49 p1_corners]) [2, 3, 0, 1] rfl
  have hD := hD.sub (ws' := [oX0 q_t t_size t_masks q_t_endings m_1_0 q_t_codes q_t_tally t_ways, aI (G.2 1) q_t_endings 64 m_1_1, oX3 q_p1 p1_size q_p1_corners, aI (G.2 1) q_p1_corners 49 p1_corners]) [2, 3, 0, 1] (by decide) rfl
  clear hPc hDc hFc hP1 hD1 hk9 hz9 hvm9
  refine lv_iconst (v := 0) hx hb dX0_rankOf_4 (by decide) ?_
  refine lv_istore_n (lv' := [(2, .int (0 : Int32)), (0, .ref q_t), (1, .ref q_p1)]) hx hb dX0_rankOf_5 rfl hl (by decide) rfl (fun ls hl => ?_)
  refine lv_iconst (v := 0) hx hb dX0_rankOf_6 (by decide) ?_
  refine lv_istore_n (lv' := [(3, .int (0 : Int32)), (2, .int (0 : Int32)), (0, .ref q_t), (1, .ref q_p1)]) hx hb dX0_rankOf_7 rfl hl (by decide) rfl (fun ls hl => ?_)
  refine lv_iconst (v := 1) hx hb dX0_rankOf_8 (by decide) ?_
  refine lv_istore (lv' := [(4, .int (1 : Int32)), (3, .int (0 : Int32)), (2, .int (0 : Int32)), (0, .ref q_t), (1, .ref q_p1)]) hx hb dX0_rankOf_9 hl (by decide) rfl (fun ls hl => ?_)
  refine itr_ind (fun (x1 : Int32 × Int32 × Int32) => ∀ (H : Heap) (locs : List Loc) (ls : Array Slot), va_P G.1 vwCl [oX0 q_t t_size t_masks q_t_endings m_1_0 q_t_codes q_t_tally t_ways, aI (G.2 1) q_t_endings 64 m_1_1, oX3 q_p1 p1_size q_p1_corners, aI (G.2 1) q_p1_corners 49 p1_corners] H → va_D A [oX0 q_t t_size t_masks q_t_endings m_1_0 q_t_codes q_t_tally t_ways, aI (G.2 1) q_t_endings 64 m_1_1, oX3 q_p1 p1_size q_p1_corners, aI (G.2 1) q_p1_corners 49 p1_corners] → va_S A s.heap H locs → lv_has ls 6 [(0, .ref q_t), (1, .ref q_p1), (2, .int x1.1), (3, .int x1.2.1), (4, .int x1.2.2)] → W p l e (headSpec wsX0_rankOf ({ frames := 3, cells := 0, slots := 0, locals := 70 })).room s m ([.ref q_t, .ref q_p1] : List Value).toArray below meth c H locs 0 0 Q (F0 m 11 ls [])) (fun x1 o_1 hE ih_1 hr_1 => ?_) _ _ hE _ _ ls hP hD hS (lv_sub hl [3, 4, 2, 1, 0] rfl)
  obtain ⟨v2_1, v3_1, v4_1⟩ := x1
  try dsimp only at hE
  intro H locs ls hP hD hS hl
  try dsimp only at hP hD hl ⊢
  refine lv_iload hx hb dX0_rankOf_11 (lv_at hl 4 rfl) ?_
  refine lv_aload_n hx hb dX0_rankOf_13 rfl (lv_at hl 0 rfl) ?_
  refine va_get (D := G.1) (ci := 0) (v := .int t_size) (C := RX0) (T := TX0) (N := 7) hx hb hts iX0 hown hK hP 0 rfl rfl 0 (by decide) fl_22 (fun _ h9 => h9) rfl dX0_rankOf_14 ?_
  refine lv_icmp_gt (tgt := 49) hx hb dX0_rankOf_17 (by decide) (fun c_17 => ?_) (fun c_17 => ?_)
  · replace hE := (if_pos c_17).symm.trans hE
    refine lv_iload_n hx hb dX0_rankOf_49 rfl (lv_at hl 2 rfl) ?_
    have e_1 := Option.some.inj hE
    have e_0 := hr_1 _ e_1.symm
    subst e_0
    rw [hQ]
    exact W.iret (v := v2_1) hx hb hr (fun t ht _ => ⟨⟨_, (), rfl, rfl, by rw [ht]; exact hP, hD⟩, hS.F ht⟩) hS.2.2 dX0_rankOf_50
  · replace hE := (if_neg c_17).symm.trans hE
    refine lv_aload_n hx hb dX0_rankOf_20 rfl (lv_at hl 1 rfl) ?_
    refine lv_iload hx hb dX0_rankOf_21 (lv_at hl 4 rfl) ?_
    obtain ⟨y23, hC_23, hE⟩ := Option.bind_eq_some_iff.mp hE
    obtain ⟨r_23, ex9⟩ : ∃ z, z = y23 := ⟨_, rfl⟩
    subst ex9
    try dsimp only at hE
    refine vp_callSi (va_Run.run (va_runV (As := [.int v4_1]) (rest := []) ⟨hx, hb, hml, hown, hts⟩ (c_X3_fullColumns (l := l) (G := G) (p1 := v4_1) (q_t := q_p1) (t_size := p1_size) (q_t_corners := q_p1_corners) (t_corners := p1_corners) hC_23) (cwV 1 hts gX0_rankOf_X3_fullColumns rfl rfl rfl kd_X3_fullColumns ⟨Nat.le_of_ble_eq_true rfl, Nat.le_of_ble_eq_true rfl⟩) (pv_V hKW (hP.sub (ws' := [oX3 q_p1 p1_size q_p1_corners, aI (G.2 1) q_p1_corners 49 p1_corners]) [2, 3] rfl) (ci := 3) (q0 := 0) rfl rfl) rfl rfl hl.1 rfl (lv_room (Nat.le_of_ble_eq_true rfl)) dX0_rankOf_23 ⟨Nat.zero_le _, Nat.zero_le _⟩)) (fun r9 hr9 => ?_)
    subst r9
    refine lv_istore (lv' := [(5, .int r_23), (0, .ref q_t), (1, .ref q_p1), (2, .int v2_1), (3, .int v3_1), (4, .int v4_1)]) hx hb dX0_rankOf_26 hl (by decide) rfl (fun ls hl => ?_)
    refine lv_iload_n hx hb dX0_rankOf_28 rfl (lv_at hl 3 rfl) ?_
    refine lv_aload_n hx hb dX0_rankOf_29 rfl (lv_at hl 1 rfl) ?_
    refine lv_iload_n hx hb dX0_rankOf_30 rfl (lv_at hl 4 rfl) ?_
    refine lv_iload hx hb dX0_rankOf_31 (lv_at hl 0 rfl) ?_
    refine lv_iconst (v := 1) hx hb dX0_rankOf_33 (by decide) ?_
    refine lv_iadd hx hb dX0_rankOf_34 ?_
    obtain ⟨y35, hC_35, hE⟩ := Option.bind_eq_some_iff.mp hE
    obtain ⟨r_35, ex9⟩ : ∃ z, z = y35 := ⟨_, rfl⟩
    subst ex9
    try dsimp only at hE
    refine vp_callSi (va_Run.run (va_runV (As := [.int v3_1, .int (r_23 + (1 : Int32))]) (rest := [.int v2_1]) ⟨hx, hb, hml, hown, hts⟩ (c_X0_endingsFrom (l := l) (G := G) (p1 := v3_1) (p2 := r_23 + (1 : Int32)) (q_t := q_t) (t_size := t_size) (t_masks := t_masks) (q_t_endings := q_t_endings) (t_areEndingsCounted := m_1_0) (q_t_codes := q_t_codes) (q_t_tally := q_t_tally) (t_ways := t_ways) (t_endings := m_1_1) hC_35) (cwV 2 hts gX0_rankOf_X0_endingsFrom rfl rfl rfl kd_X0_endingsFrom ⟨Nat.le_of_ble_eq_true rfl, Nat.le_of_ble_eq_true rfl⟩) (pv_V hKW (hP.sub (ws' := [oX0 q_t t_size t_masks q_t_endings m_1_0 q_t_codes q_t_tally t_ways, aI (G.2 1) q_t_endings 64 m_1_1]) [0, 1] rfl) (ci := 0) (q0 := 0) rfl rfl) rfl rfl hl.1 rfl (lv_room (Nat.le_of_ble_eq_true rfl)) dX0_rankOf_35 ⟨Nat.zero_le _, Nat.zero_le _⟩)) (fun r9 hr9 => ?_)
    subst r9
    refine lv_iadd hx hb dX0_rankOf_38 ?_
    refine lv_istore_n (lv' := [(2, .int (v2_1 + r_35)), (5, .int r_23), (0, .ref q_t), (1, .ref q_p1), (3, .int v3_1), (4, .int v4_1)]) hx hb dX0_rankOf_39 rfl hl (by decide) rfl (fun ls hl => ?_)
    refine lv_iload hx hb dX0_rankOf_40 (lv_at hl 1 rfl) ?_
    refine lv_istore_n (lv' := [(3, .int r_23), (2, .int (v2_1 + r_35)), (5, .int r_23), (0, .ref q_t), (1, .ref q_p1), (4, .int v4_1)]) hx hb dX0_rankOf_42 rfl hl (by decide) rfl (fun ls hl => ?_)
    refine lv_iinc (v := v4_1 + (1 : Int32)) (lv' := [(4, .int (v4_1 + (1 : Int32))), (3, .int r_23), (2, .int (v2_1 + r_35)), (5, .int r_23), (0, .ref q_t), (1, .ref q_p1)]) hx hb dX0_rankOf_43 hl (k := 5) rfl rfl (by decide) rfl (fun ls hl => ?_)
    refine lv_goto (tgt := 11) hx hb dX0_rankOf_46 (by decide) ?_
    have e_1 := Option.some.inj hE
    exact ih_1 _ e_1.symm _ _ ls hP hD hS (lv_sub hl [4, 5, 2, 1, 0] rfl)
def S_X0_withFirstOne (p1 : Int32) (t_size : Int32) (t_masks : Int32) (t_areEndingsCounted : Int32) (t_endings : Nat → Int32) : Option (Int32 × Int32 × (Nat → Int32)) := (S_X0_countEndings t_size t_masks t_areEndingsCounted t_endings).bind (fun (y1 : Int32 × (Nat → Int32)) => ck (inb ((1 : Int32) <<< (((t_size - (1 : Int32)) - p1) &&& 31)) 64) (some (y1.2 ((1 : Int32) <<< (((t_size - (1 : Int32)) - p1) &&& 31)).toNatClampNeg, y1.1, y1.2)))
theorem kd_X0_withFirstOne : yX0_withFirstOne.cls = RX0 ∧ yX0_withFirstOne.cls ≠ "java/lang/invoke/MethodHandle" ∧ yX0_withFirstOne.cls ≠ "java/lang/invoke/VarHandle" ∧ (parseMethodDescriptor yX0_withFirstOne.desc).map (fun d => d.parameters.length) = some 1 := by decide +kernel
set_option maxHeartbeats 4000000 in
set_option maxRecDepth 100000 in
theorem c_X0_withFirstOne {l : Launch} {G : kG} (sz : Nat) {p1 : Int32} {q_t : Nat} {t_size : Int32} {t_masks : Int32} {q_t_endings : Nat} {t_areEndingsCounted : Int32} {q_t_codes : Nat} {q_t_tally : Nat} {t_ways : Int32} {t_endings : Nat → Int32} {res : Int32 × Int32 × (Nat → Int32)} (hE : S_X0_withFirstOne p1 t_size t_masks t_areEndingsCounted t_endings = some res) : Met l yX0_withFirstOne wsX0_withFirstOne ({ frames := 3, cells := 0, slots := 0, locals := 70 }) (va_Pc [.ref q_t, .int p1] (fun U => U.heap.size = sz ∧ va_P G.1 vwCl [oX0 q_t t_size t_masks q_t_endings t_areEndingsCounted q_t_codes q_t_tally t_ways, aI (G.2 1) q_t_endings 64 t_endings] U.heap ∧ kw G U ∧ va_D (fun _ => True) [oX0 q_t t_size t_masks q_t_endings t_areEndingsCounted q_t_codes q_t_tally t_ways, aI (G.2 1) q_t_endings 64 t_endings])) (va_Qi (fun r (_ : Unit) => r = res.1) (fun _ t => va_P G.1 vwCl [oX0 q_t t_size t_masks q_t_endings res.2.1 q_t_codes q_t_tally t_ways, aI (G.2 1) q_t_endings 64 res.2.2] t.heap ∧ va_D (va_A [oX0 q_t t_size t_masks q_t_endings t_areEndingsCounted q_t_codes q_t_tally t_ways, aI (G.2 1) q_t_endings 64 t_endings] sz) [oX0 q_t t_size t_masks q_t_endings res.2.1 q_t_codes q_t_tally t_ways, aI (G.2 1) q_t_endings 64 res.2.2]) (va_A [oX0 q_t t_size t_masks q_t_endings t_areEndingsCounted q_t_codes q_t_tally t_ways, aI (G.2 1) q_t_endings 64 t_endings] sz)) 0 0 (va_A [oX0 q_t t_size t_masks q_t_endings t_areEndingsCounted q_t_codes q_t_tally t_ways, aI (G.2 1) q_t_endings 64 t_endings] sz) := by
  refine Met.ofQ (cc := cX0_withFirstOne) (maxL := 2) (ret := (some .int)) (by decide) rfl ?_
  intro p e s m args below meth c s₁ Q hQ B hml hv
  obtain ⟨rfl, hsz, hP, hKW, hD0⟩ := hv
  have hK := hKW.1
  have hx := B.exec
  have hb := B.bytes
  have hr := B.returns
  have hts := atoms_spec (ws := wsX0_withFirstOne) B.pre
  have hown : s.vm.findClass RX0 = some m.cls := findClass_of_methodNamed B.named
  have hlocks := B.notSynchronized
  have iX0 : ∀ w ∈ u_ws RX0 TX0 7, w ∈ wsX0_withFirstOne := by decide +kernel
  have fl_9 := hts (.fieldLink RX0 9 "AlternateSigns$AllOfSize" "endings" "[I") (by decide +kernel)
  have fl_22 := hts (.fieldLink RX0 22 "AlternateSigns$AllOfSize" "size" "I") (by decide +kernel)
  subst hsz
  have hD := hD0.self (sz := s.heap.size)
  generalize hAe : va_A [oX0 q_t t_size t_masks q_t_endings t_areEndingsCounted q_t_codes q_t_tally t_ways, aI (G.2 1) q_t_endings 64 t_endings] s.heap.size = A at hD hQ
  have hA : ∀ q : Nat, s.heap.size ≤ q → A q := fun q h => by rw [← hAe]; exact Or.inr h
  have hS : va_S A s.heap s.heap [] := va_S.rf
  have hl := lv_entry ([.ref q_t, .int p1]) (n := 2) (Nat.le_of_ble_eq_true rfl)
  rw [lg_entry_eq]
  generalize (lg_sl ([.ref q_t, .int p1]) ++ List.replicate (2 - (lg_sl ([.ref q_t, .int p1])).length) Slot.unset).toArray = ls at hl ⊢
  have hl : lv_has ls 2 [(0, .ref q_t), (1, .int p1)] := hl
  unfold S_X0_withFirstOne at hE
  refine lv_aload_n hx hb dX0_withFirstOne_0 rfl (lv_at hl 0 rfl) ?_
  obtain ⟨y1, hC_1, hE⟩ := Option.bind_eq_some_iff.mp hE
  obtain ⟨m_1_0, m_1_1⟩ := y1
  try dsimp only at hE
  have hPc := hP.sub (ws' := [oX0 q_t t_size t_masks q_t_endings t_areEndingsCounted q_t_codes q_t_tally t_ways, aI (G.2 1) q_t_endings 64 t_endings]) [0, 1] rfl
  have hDc := hD.sub (ws' := [oX0 q_t t_size t_masks q_t_endings t_areEndingsCounted q_t_codes q_t_tally t_ways, aI (G.2 1) q_t_endings 64 t_endings]) [0, 1] (by decide) rfl
  have hFc := va_free (wc := [oX0 q_t t_size t_masks q_t_endings t_areEndingsCounted q_t_codes q_t_tally t_ways, aI (G.2 1) q_t_endings 64 t_endings]) hD hS hA [0, 1] rfl
  refine va_callv (va_runV (As := []) (rest := []) ⟨hx, hb, hml, hown, hts⟩ (c_X0_countEndings (l := l) (G := G) _ (q_t := q_t) (t_size := t_size) (t_masks := t_masks) (q_t_endings := q_t_endings) (t_areEndingsCounted := t_areEndingsCounted) (q_t_codes := q_t_codes) (q_t_tally := q_t_tally) (t_ways := t_ways) (t_endings := t_endings) hC_1) (cwV 0 hts gX0_withFirstOne_X0_countEndings rfl rfl rfl kd_X0_countEndings ⟨Nat.le_of_ble_eq_true rfl, Nat.le_of_ble_eq_true rfl⟩) (iv_V hKW hPc hDc (ci := 0) (q0 := 0) rfl rfl) rfl rfl hl.1 rfl (lv_room (Nat.le_of_ble_eq_true rfl)) dX0_withFirstOne_1 ⟨Nat.zero_le _, Nat.zero_le _⟩) hS (fun q _ h => hFc q h) hFc (fun u9 t9 H1 locs ht9 hvm9 hw9 hB9 hz9 hk9 hS => ?_)
  obtain ⟨hP1, hD1⟩ := hB9
  rw [ht9] at hP1
  obtain ⟨hP, hD⟩ := va_join (wr := []) (w1 := [oX0 q_t t_size t_masks q_t_endings m_1_0 q_t_codes q_t_tally t_ways, aI (G.2 1) q_t_endings 64 m_1_1]) hP hD [0, 1] [] rfl rfl (by decide) (by decide) hk9 hFc hP1 hD1
  have hP := hP.sub (ws' := [oX0 q_t t_size t_masks q_t_endings m_1_0 q_t_codes q_t_tally t_ways, aI (G.2 1) q_t_endings 64 m_1_1]) [0, 1] rfl
  have hD := hD.sub (ws' := [oX0 q_t t_size t_masks q_t_endings m_1_0 q_t_codes q_t_tally t_ways, aI (G.2 1) q_t_endings 64 m_1_1]) [0, 1] (by decide) rfl
  clear hPc hDc hFc hP1 hD1 hk9 hz9 hvm9
  refine lv_aload_n hx hb dX0_withFirstOne_4 rfl (lv_at hl 0 rfl) ?_
  refine va_get (D := G.1) (ci := 0) (v := .ref q_t_endings) (C := RX0) (T := TX0) (N := 7) hx hb hts iX0 hown hK hP 0 rfl rfl 2 (by decide) fl_9 (fun _ h9 => h9) rfl dX0_withFirstOne_5 ?_
  refine lv_iconst (v := 1) hx hb dX0_withFirstOne_8 (by decide) ?_
  refine lv_aload_n hx hb dX0_withFirstOne_9 rfl (lv_at hl 0 rfl) ?_
  refine va_get (D := G.1) (ci := 0) (v := .int t_size) (C := RX0) (T := TX0) (N := 7) hx hb hts iX0 hown hK hP 0 rfl rfl 0 (by decide) fl_22 (fun _ h9 => h9) rfl dX0_withFirstOne_10 ?_
  refine lv_iconst (v := 1) hx hb dX0_withFirstOne_13 (by decide) ?_
  refine lv_isub hx hb dX0_withFirstOne_14 ?_
  refine lv_iload_n hx hb dX0_withFirstOne_15 rfl (lv_at hl 1 rfl) ?_
  refine lv_isub hx hb dX0_withFirstOne_16 ?_
  refine lv_ishl hx hb dX0_withFirstOne_17 ?_
  obtain ⟨hi_18, hE⟩ := ck_some hE
  refine va_iald hx hb hK hP 1 1 rfl rfl (inb_in hi_18) dX0_withFirstOne_18 ?_
  have e_0 := Option.some.inj hE
  subst e_0
  rw [hQ]
  exact W.iret (v := m_1_1 ((1 : Int32) <<< (((t_size - (1 : Int32)) - p1) &&& 31)).toNatClampNeg) hx hb hr (fun t ht _ => ⟨⟨_, (), rfl, rfl, by rw [ht]; exact hP, hD⟩, hS.F ht⟩) hS.2.2 dX0_withFirstOne_19
def S_X0_wayOf (p1 : Int64) (t_ways : Int32) (t_codes : Nat → Int64) : Option Int32 := itr (fun (x1 : Int32) => if t_ways ≤ x1 then some (.inr t_ways) else ck (inb x1 42) (if (lg_cmp (t_codes x1.toNatClampNeg) p1) = 0 then some (.inr x1) else some (.inl (x1 + (1 : Int32))))) 10000 (0 : Int32)
theorem kd_X0_wayOf : yX0_wayOf.cls = RX0 ∧ yX0_wayOf.cls ≠ "java/lang/invoke/MethodHandle" ∧ yX0_wayOf.cls ≠ "java/lang/invoke/VarHandle" ∧ (parseMethodDescriptor yX0_wayOf.desc).map (fun d => d.parameters.length) = some 1 := by decide +kernel
set_option maxHeartbeats 4000000 in
set_option maxRecDepth 100000 in
theorem c_X0_wayOf {l : Launch} {G : kG} {p1 : Int64} {q_t : Nat} {t_size : Int32} {t_masks : Int32} {q_t_endings : Nat} {t_areEndingsCounted : Int32} {q_t_codes : Nat} {q_t_tally : Nat} {t_ways : Int32} {t_codes : Nat → Int64} {res : Int32} (hE : S_X0_wayOf p1 t_ways t_codes = some res) : Met l yX0_wayOf wsX0_wayOf ({ frames := 0, cells := 0, slots := 0, locals := 0 }) (va_Pc [.ref q_t, .long p1] (fun U => va_P G.1 vwCl [oX0 q_t t_size t_masks q_t_endings t_areEndingsCounted q_t_codes q_t_tally t_ways, aJ (G.2 2) q_t_codes 42 t_codes] U.heap ∧ kw G U)) (vp_Si (fun r => r = res)) 0 0 (fun _ => False) := by
  refine Met.ofQ (cc := cX0_wayOf) (maxL := 4) (ret := (some .int)) (by decide) rfl ?_
  intro p e s m args below meth c s₁ Q hQ B hml hv
  obtain ⟨rfl, hP, hKW⟩ := hv
  have hK := hKW.1
  have hx := B.exec
  have hb := B.bytes
  have hr := B.returns
  have hts := atoms_spec (ws := wsX0_wayOf) B.pre
  have hown : s.vm.findClass RX0 = some m.cls := findClass_of_methodNamed B.named
  have hlocks := B.notSynchronized
  have iX0 : ∀ w ∈ u_ws RX0 TX0 7, w ∈ wsX0_wayOf := by decide +kernel
  have fl_51 := hts (.fieldLink RX0 51 "AlternateSigns$AllOfSize" "ways" "I") (by decide +kernel)
  have fl_15 := hts (.fieldLink RX0 15 "AlternateSigns$AllOfSize" "codes" "[J") (by decide +kernel)
  have hl := lv_entry ([.ref q_t, .long p1]) (n := 4) (Nat.le_of_ble_eq_true rfl)
  rw [lg_entry_eq]
  generalize (lg_sl ([.ref q_t, .long p1]) ++ List.replicate (4 - (lg_sl ([.ref q_t, .long p1])).length) Slot.unset).toArray = ls at hl ⊢
  have hl : lv_has ls 4 [(0, .ref q_t), (1, .long p1)] := hl
  unfold S_X0_wayOf at hE
  refine lv_iconst (v := 0) hx hb dX0_wayOf_0 (by decide) ?_
  refine lv_istore_n (lv' := [(3, .int (0 : Int32)), (0, .ref q_t), (1, .long p1)]) hx hb dX0_wayOf_1 rfl hl (by decide) rfl (fun ls hl => ?_)
  refine itr_ind (fun (x1 : Int32) => ∀ (ls : Array Slot), lv_has ls 4 [(0, .ref q_t), (1, .long p1), (3, .int x1)] → W p l e (headSpec wsX0_wayOf ({ frames := 0, cells := 0, slots := 0, locals := 0 })).room s m ([.ref q_t, .long p1] : List Value).toArray below meth c s.heap [] 0 0 Q (F0 m 2 ls [])) (fun x1 o_1 hE ih_1 hr_1 => ?_) _ _ hE ls (lv_sub hl [1, 2, 0] rfl)
  obtain ⟨v3_1, ex9⟩ : ∃ z, z = x1 := ⟨_, rfl⟩
  subst ex9
  try dsimp only at hE
  intro ls hl
  try dsimp only at hl ⊢
  refine lv_iload_n hx hb dX0_wayOf_2 rfl (lv_at hl 2 rfl) ?_
  refine lv_aload_n hx hb dX0_wayOf_3 rfl (lv_at hl 0 rfl) ?_
  refine va_get (D := G.1) (ci := 0) (v := .int t_ways) (C := RX0) (T := TX0) (N := 7) hx hb hts iX0 hown hK hP 0 rfl rfl 6 (by decide) fl_51 (fun _ h9 => h9) rfl dX0_wayOf_4 ?_
  refine lv_icmp_ge (tgt := 29) hx hb dX0_wayOf_7 (by decide) (fun c_7 => ?_) (fun c_7 => ?_)
  · replace hE := (if_pos c_7).symm.trans hE
    refine lv_aload_n hx hb dX0_wayOf_29 rfl (lv_at hl 0 rfl) ?_
    refine va_get (D := G.1) (ci := 0) (v := .int t_ways) (C := RX0) (T := TX0) (N := 7) hx hb hts iX0 hown hK hP 0 rfl rfl 6 (by decide) fl_51 (fun _ h9 => h9) rfl dX0_wayOf_30 ?_
    have e_1 := Option.some.inj hE
    have e_0 := hr_1 _ e_1.symm
    rw [hQ]
    exact W.iret (v := t_ways) hx hb hr (fun t ht _ => ⟨_, rfl, e_0, ht⟩) (fun q h => by cases h) dX0_wayOf_33
  · replace hE := (if_neg c_7).symm.trans hE
    refine lv_aload_n hx hb dX0_wayOf_10 rfl (lv_at hl 0 rfl) ?_
    refine va_get (D := G.1) (ci := 0) (v := .ref q_t_codes) (C := RX0) (T := TX0) (N := 7) hx hb hts iX0 hown hK hP 0 rfl rfl 4 (by decide) fl_15 (fun _ h9 => h9) rfl dX0_wayOf_11 ?_
    refine lv_iload_n hx hb dX0_wayOf_14 rfl (lv_at hl 2 rfl) ?_
    obtain ⟨hi_15, hE⟩ := ck_some hE
    refine va_lald hx hb hK hP 1 2 rfl rfl (inb_in hi_15) dX0_wayOf_15 ?_
    refine lv_lload_n hx hb dX0_wayOf_16 rfl (lv_at hl 1 rfl) ?_
    refine W.lcmp hx hb dX0_wayOf_17 ?_
    refine lv_if_ne (tgt := 23) hx hb dX0_wayOf_18 (by decide) (fun c_18 => ?_) (fun c_18 => ?_)
    · replace hE := (if_neg c_18).symm.trans hE
      refine lv_iinc (v := v3_1 + (1 : Int32)) (lv' := [(3, .int (v3_1 + (1 : Int32))), (0, .ref q_t), (1, .long p1)]) hx hb dX0_wayOf_23 hl (k := 2) rfl rfl (by decide) rfl (fun ls hl => ?_)
      refine lv_goto (tgt := 2) hx hb dX0_wayOf_26 (by decide) ?_
      have e_1 := Option.some.inj hE
      exact ih_1 _ e_1.symm ls (lv_sub hl [1, 2, 0] rfl)
    · replace hE := (if_pos c_18).symm.trans hE
      refine lv_iload_n hx hb dX0_wayOf_21 rfl (lv_at hl 2 rfl) ?_
      have e_1 := Option.some.inj hE
      have e_0 := hr_1 _ e_1.symm
      rw [hQ]
      exact W.iret (v := v3_1) hx hb hr (fun t ht _ => ⟨_, rfl, e_0, ht⟩) (fun q h => by cases h) dX0_wayOf_22
def S_X0_addToWay (p1 : Int64) (t_ways : Int32) (t_codes : Nat → Int64) (t_tally : Nat → Int32) : Option (Int32 × (Nat → Int64) × (Nat → Int32)) := (S_X0_wayOf p1 t_ways t_codes).bind (fun (y2 : Int32) => if y2 < (42 : Int32) then if y2 = t_ways then ck (inb y2 42) (ck (inb y2 42) (ck (inb y2 42) (some (t_ways + (1 : Int32), vp_updL t_codes y2.toNatClampNeg p1, upd t_tally y2.toNatClampNeg ((t_tally y2.toNatClampNeg) + (1 : Int32)))))) else ck (inb y2 42) (ck (inb y2 42) (some (t_ways, t_codes, upd t_tally y2.toNatClampNeg ((t_tally y2.toNatClampNeg) + (1 : Int32))))) else some (t_ways, t_codes, t_tally))
theorem kd_X0_addToWay : yX0_addToWay.cls = RX0 ∧ yX0_addToWay.cls ≠ "java/lang/invoke/MethodHandle" ∧ yX0_addToWay.cls ≠ "java/lang/invoke/VarHandle" ∧ (parseMethodDescriptor yX0_addToWay.desc).map (fun d => d.parameters.length) = some 1 := by decide +kernel
set_option maxHeartbeats 4000000 in
set_option maxRecDepth 100000 in
theorem c_X0_addToWay {l : Launch} {G : kG} (sz : Nat) {p1 : Int64} {q_t : Nat} {t_size : Int32} {t_masks : Int32} {q_t_endings : Nat} {t_areEndingsCounted : Int32} {q_t_codes : Nat} {q_t_tally : Nat} {t_ways : Int32} {t_codes : Nat → Int64} {t_tally : Nat → Int32} {res : Int32 × (Nat → Int64) × (Nat → Int32)} (hE : S_X0_addToWay p1 t_ways t_codes t_tally = some res) : Met l yX0_addToWay wsX0_addToWay ({ frames := 1, cells := 0, slots := 0, locals := 23 }) (va_Pc [.ref q_t, .long p1] (fun U => U.heap.size = sz ∧ va_P G.1 vwCl [oX0 q_t t_size t_masks q_t_endings t_areEndingsCounted q_t_codes q_t_tally t_ways, aJ (G.2 2) q_t_codes 42 t_codes, aI (G.2 1) q_t_tally 42 t_tally] U.heap ∧ kw G U ∧ va_D (fun _ => True) [oX0 q_t t_size t_masks q_t_endings t_areEndingsCounted q_t_codes q_t_tally t_ways, aJ (G.2 2) q_t_codes 42 t_codes, aI (G.2 1) q_t_tally 42 t_tally])) (va_Qv (fun (_ : Unit) => True) (fun _ t => va_P G.1 vwCl [oX0 q_t t_size t_masks q_t_endings t_areEndingsCounted q_t_codes q_t_tally res.1, aJ (G.2 2) q_t_codes 42 res.2.1, aI (G.2 1) q_t_tally 42 res.2.2] t.heap ∧ va_D (va_A [oX0 q_t t_size t_masks q_t_endings t_areEndingsCounted q_t_codes q_t_tally t_ways, aJ (G.2 2) q_t_codes 42 t_codes, aI (G.2 1) q_t_tally 42 t_tally] sz) [oX0 q_t t_size t_masks q_t_endings t_areEndingsCounted q_t_codes q_t_tally res.1, aJ (G.2 2) q_t_codes 42 res.2.1, aI (G.2 1) q_t_tally 42 res.2.2]) (va_A [oX0 q_t t_size t_masks q_t_endings t_areEndingsCounted q_t_codes q_t_tally t_ways, aJ (G.2 2) q_t_codes 42 t_codes, aI (G.2 1) q_t_tally 42 t_tally] sz)) 0 0 (va_A [oX0 q_t t_size t_masks q_t_endings t_areEndingsCounted q_t_codes q_t_tally t_ways, aJ (G.2 2) q_t_codes 42 t_codes, aI (G.2 1) q_t_tally 42 t_tally] sz) := by
  refine Met.ofQ (cc := cX0_addToWay) (maxL := 4) (ret := none) (by decide) rfl ?_
  intro p e s m args below meth c s₁ Q hQ B hml hv
  obtain ⟨rfl, hsz, hP, hKW, hD0⟩ := hv
  have hK := hKW.1
  have hx := B.exec
  have hb := B.bytes
  have hr := B.returns
  have hts := atoms_spec (ws := wsX0_addToWay) B.pre
  have hown : s.vm.findClass RX0 = some m.cls := findClass_of_methodNamed B.named
  have hlocks := B.notSynchronized
  have iX0 : ∀ w ∈ u_ws RX0 TX0 7, w ∈ wsX0_addToWay := by decide +kernel
  have fl_51 := hts (.fieldLink RX0 51 "AlternateSigns$AllOfSize" "ways" "I") (by decide +kernel)
  have fl_15 := hts (.fieldLink RX0 15 "AlternateSigns$AllOfSize" "codes" "[J") (by decide +kernel)
  have fl_19 := hts (.fieldLink RX0 19 "AlternateSigns$AllOfSize" "tally" "[I") (by decide +kernel)
  subst hsz
  have hD := hD0.self (sz := s.heap.size)
  generalize hAe : va_A [oX0 q_t t_size t_masks q_t_endings t_areEndingsCounted q_t_codes q_t_tally t_ways, aJ (G.2 2) q_t_codes 42 t_codes, aI (G.2 1) q_t_tally 42 t_tally] s.heap.size = A at hD hQ
  have hA : ∀ q : Nat, s.heap.size ≤ q → A q := fun q h => by rw [← hAe]; exact Or.inr h
  have hS : va_S A s.heap s.heap [] := va_S.rf
  have hl := lv_entry ([.ref q_t, .long p1]) (n := 4) (Nat.le_of_ble_eq_true rfl)
  rw [lg_entry_eq]
  generalize (lg_sl ([.ref q_t, .long p1]) ++ List.replicate (4 - (lg_sl ([.ref q_t, .long p1])).length) Slot.unset).toArray = ls at hl ⊢
  have hl : lv_has ls 4 [(0, .ref q_t), (1, .long p1)] := hl
  unfold S_X0_addToWay at hE
  refine lv_aload_n hx hb dX0_addToWay_0 rfl (lv_at hl 0 rfl) ?_
  refine lv_lload_n hx hb dX0_addToWay_1 rfl (lv_at hl 1 rfl) ?_
  obtain ⟨y2, hC_2, hE⟩ := Option.bind_eq_some_iff.mp hE
  obtain ⟨r_2, ex9⟩ : ∃ z, z = y2 := ⟨_, rfl⟩
  subst ex9
  try dsimp only at hE
  refine vp_callSi (va_Run.run (va_runV (As := [.long p1]) (rest := []) ⟨hx, hb, hml, hown, hts⟩ (c_X0_wayOf (l := l) (G := G) (p1 := p1) (q_t := q_t) (t_size := t_size) (t_masks := t_masks) (q_t_endings := q_t_endings) (t_areEndingsCounted := t_areEndingsCounted) (q_t_codes := q_t_codes) (q_t_tally := q_t_tally) (t_ways := t_ways) (t_codes := t_codes) hC_2) (cwV 1 hts gX0_addToWay_X0_wayOf rfl rfl rfl kd_X0_wayOf ⟨Nat.le_of_ble_eq_true rfl, Nat.le_of_ble_eq_true rfl⟩) (pv_V hKW (hP.sub (ws' := [oX0 q_t t_size t_masks q_t_endings t_areEndingsCounted q_t_codes q_t_tally t_ways, aJ (G.2 2) q_t_codes 42 t_codes]) [0, 1] rfl) (ci := 0) (q0 := 0) rfl rfl) rfl rfl hl.1 rfl (lv_room (Nat.le_of_ble_eq_true rfl)) dX0_addToWay_2 ⟨Nat.zero_le _, Nat.zero_le _⟩)) (fun r9 hr9 => ?_)
  subst r9
  refine lv_istore_n (lv' := [(3, .int r_2), (0, .ref q_t), (1, .long p1)]) hx hb dX0_addToWay_5 rfl hl (by decide) rfl (fun ls hl => ?_)
  refine lv_iload_n hx hb dX0_addToWay_6 rfl (lv_at hl 0 rfl) ?_
  refine lv_bipush (v := 42) hx hb dX0_addToWay_7 (by decide) ?_
  refine lv_icmp_lt (tgt := 13) hx hb dX0_addToWay_9 (by decide) (fun c_9 => ?_) (fun c_9 => ?_)
  · replace hE := (if_pos c_9).symm.trans hE
    refine lv_iload_n hx hb dX0_addToWay_13 rfl (lv_at hl 0 rfl) ?_
    refine lv_aload_n hx hb dX0_addToWay_14 rfl (lv_at hl 1 rfl) ?_
    refine va_get (D := G.1) (ci := 0) (v := .int t_ways) (C := RX0) (T := TX0) (N := 7) hx hb hts iX0 hown hK hP 0 rfl rfl 6 (by decide) fl_51 (fun _ h9 => h9) rfl dX0_addToWay_15 ?_
    refine lv_icmp_ne (tgt := 38) hx hb dX0_addToWay_18 (by decide) (fun c_18 => ?_) (fun c_18 => ?_)
    · replace hE := (if_neg c_18).symm.trans hE
      refine lv_aload_n hx hb dX0_addToWay_38 rfl (lv_at hl 1 rfl) ?_
      refine va_get (D := G.1) (ci := 0) (v := .ref q_t_tally) (C := RX0) (T := TX0) (N := 7) hx hb hts iX0 hown hK hP 0 rfl rfl 5 (by decide) fl_19 (fun _ h9 => h9) rfl dX0_addToWay_39 ?_
      refine lv_iload_n hx hb dX0_addToWay_42 rfl (lv_at hl 0 rfl) ?_
      refine lv_dup2_11 hx hb dX0_addToWay_43 rfl rfl ?_
      obtain ⟨hi_44, hE⟩ := ck_some hE
      refine va_iald hx hb hK hP 2 1 rfl rfl (inb_in hi_44) dX0_addToWay_44 ?_
      refine lv_iconst (v := 1) hx hb dX0_addToWay_45 (by decide) ?_
      refine lv_iadd hx hb dX0_addToWay_46 ?_
      obtain ⟨hi_47, hE⟩ := ck_some hE
      refine va_iast hx hb hK hP hD hS 2 1 rfl rfl (inb_in hi_47) dX0_addToWay_47 (fun H locs hP hD hS => ?_)
      have hP : va_P G.1 vwCl [oX0 q_t t_size t_masks q_t_endings t_areEndingsCounted q_t_codes q_t_tally t_ways, aJ (G.2 2) q_t_codes 42 t_codes, aI (G.2 1) q_t_tally 42 (upd t_tally r_2.toNatClampNeg ((t_tally r_2.toNatClampNeg) + (1 : Int32)))] H := hP
      have hD : va_D A [oX0 q_t t_size t_masks q_t_endings t_areEndingsCounted q_t_codes q_t_tally t_ways, aJ (G.2 2) q_t_codes 42 t_codes, aI (G.2 1) q_t_tally 42 (upd t_tally r_2.toNatClampNeg ((t_tally r_2.toNatClampNeg) + (1 : Int32)))] := hD
      have e_0 := Option.some.inj hE
      subst e_0
      rw [hQ]
      exact W.vret hx hb hr (fun t ht _ => ⟨⟨(), rfl, trivial, by rw [ht]; exact hP, hD⟩, hS.F ht⟩) hS.2.2 dX0_addToWay_48
    · replace hE := (if_pos c_18).symm.trans hE
      refine lv_aload_n hx hb dX0_addToWay_21 rfl (lv_at hl 1 rfl) ?_
      refine va_get (D := G.1) (ci := 0) (v := .ref q_t_codes) (C := RX0) (T := TX0) (N := 7) hx hb hts iX0 hown hK hP 0 rfl rfl 4 (by decide) fl_15 (fun _ h9 => h9) rfl dX0_addToWay_22 ?_
      refine lv_iload_n hx hb dX0_addToWay_25 rfl (lv_at hl 0 rfl) ?_
      refine lv_lload_n hx hb dX0_addToWay_26 rfl (lv_at hl 2 rfl) ?_
      obtain ⟨hi_27, hE⟩ := ck_some hE
      refine va_last hx hb hK hP hD hS 1 2 rfl rfl (inb_in hi_27) dX0_addToWay_27 (fun H locs hP hD hS => ?_)
      have hP : va_P G.1 vwCl [oX0 q_t t_size t_masks q_t_endings t_areEndingsCounted q_t_codes q_t_tally t_ways, aJ (G.2 2) q_t_codes 42 (vp_updL t_codes r_2.toNatClampNeg p1), aI (G.2 1) q_t_tally 42 t_tally] H := hP
      have hD : va_D A [oX0 q_t t_size t_masks q_t_endings t_areEndingsCounted q_t_codes q_t_tally t_ways, aJ (G.2 2) q_t_codes 42 (vp_updL t_codes r_2.toNatClampNeg p1), aI (G.2 1) q_t_tally 42 t_tally] := hD
      refine lv_aload_n hx hb dX0_addToWay_28 rfl (lv_at hl 1 rfl) ?_
      refine lv_dup hx hb dX0_addToWay_29 rfl ?_
      refine va_get (D := G.1) (ci := 0) (v := .int t_ways) (C := RX0) (T := TX0) (N := 7) hx hb hts iX0 hown hK hP 0 rfl rfl 6 (by decide) fl_51 (fun _ h9 => h9) rfl dX0_addToWay_30 ?_
      refine lv_iconst (v := 1) hx hb dX0_addToWay_33 (by decide) ?_
      refine lv_iadd hx hb dX0_addToWay_34 ?_
      refine va_put (D := G.1) (ci := 0) (v := .int (t_ways + (1 : Int32))) (ty := .int) (C := RX0) (T := TX0) (N := 7) hx hb hts iX0 tyX0 tyX0_ok nmX0 hown hK hP hD hS 0 rfl rfl 6 (by decide) fl_51 (fun _ h9 => h9) rfl (by decide +kernel) rfl rfl (Nat.le_of_ble_eq_true rfl) dX0_addToWay_35 (fun H locs hP hD hS => ?_)
      have hP : va_P G.1 vwCl [oX0 q_t t_size t_masks q_t_endings t_areEndingsCounted q_t_codes q_t_tally (t_ways + (1 : Int32)), aJ (G.2 2) q_t_codes 42 (vp_updL t_codes r_2.toNatClampNeg p1), aI (G.2 1) q_t_tally 42 t_tally] H := hP
      have hD : va_D A [oX0 q_t t_size t_masks q_t_endings t_areEndingsCounted q_t_codes q_t_tally (t_ways + (1 : Int32)), aJ (G.2 2) q_t_codes 42 (vp_updL t_codes r_2.toNatClampNeg p1), aI (G.2 1) q_t_tally 42 t_tally] := hD
      refine lv_aload_n hx hb dX0_addToWay_38 rfl (lv_at hl 1 rfl) ?_
      refine va_get (D := G.1) (ci := 0) (v := .ref q_t_tally) (C := RX0) (T := TX0) (N := 7) hx hb hts iX0 hown hK hP 0 rfl rfl 5 (by decide) fl_19 (fun _ h9 => h9) rfl dX0_addToWay_39 ?_
      refine lv_iload_n hx hb dX0_addToWay_42 rfl (lv_at hl 0 rfl) ?_
      refine lv_dup2_11 hx hb dX0_addToWay_43 rfl rfl ?_
      obtain ⟨hi_44, hE⟩ := ck_some hE
      refine va_iald hx hb hK hP 2 1 rfl rfl (inb_in hi_44) dX0_addToWay_44 ?_
      refine lv_iconst (v := 1) hx hb dX0_addToWay_45 (by decide) ?_
      refine lv_iadd hx hb dX0_addToWay_46 ?_
      obtain ⟨hi_47, hE⟩ := ck_some hE
      refine va_iast hx hb hK hP hD hS 2 1 rfl rfl (inb_in hi_47) dX0_addToWay_47 (fun H locs hP hD hS => ?_)
      have hP : va_P G.1 vwCl [oX0 q_t t_size t_masks q_t_endings t_areEndingsCounted q_t_codes q_t_tally (t_ways + (1 : Int32)), aJ (G.2 2) q_t_codes 42 (vp_updL t_codes r_2.toNatClampNeg p1), aI (G.2 1) q_t_tally 42 (upd t_tally r_2.toNatClampNeg ((t_tally r_2.toNatClampNeg) + (1 : Int32)))] H := hP
      have hD : va_D A [oX0 q_t t_size t_masks q_t_endings t_areEndingsCounted q_t_codes q_t_tally (t_ways + (1 : Int32)), aJ (G.2 2) q_t_codes 42 (vp_updL t_codes r_2.toNatClampNeg p1), aI (G.2 1) q_t_tally 42 (upd t_tally r_2.toNatClampNeg ((t_tally r_2.toNatClampNeg) + (1 : Int32)))] := hD
      have e_0 := Option.some.inj hE
      subst e_0
      rw [hQ]
      exact W.vret hx hb hr (fun t ht _ => ⟨⟨(), rfl, trivial, by rw [ht]; exact hP, hD⟩, hS.F ht⟩) hS.2.2 dX0_addToWay_48
  · replace hE := (if_neg c_9).symm.trans hE
    have e_0 := Option.some.inj hE
    subst e_0
    rw [hQ]
    exact W.vret hx hb hr (fun t ht _ => ⟨⟨(), rfl, trivial, by rw [ht]; exact hP, hD⟩, hS.F ht⟩) hS.2.2 dX0_addToWay_12
def S_X0_sortByPartners (t_size : Int32) (t_masks : Int32) (t_areEndingsCounted : Int32) (t_ways : Int32) (t_endings : Nat → Int32) (t_codes : Nat → Int64) (t_tally : Nat → Int32) (p1_ringEdges : Int32) (p1_rings : Int32) (p1_size : Int32) (p1_ends : Int32) (p1_row : Int32) (p1_column : Int32) (p1_side : Int32) (p1_partners : Nat → Int32) (p1_lengths : Nat → Int32) (p1_open : Nat → Int32) (p1_endAtRim : Nat → Int32) (p2_size : Int32) (p2_corners : Nat → Int32) : Option (Int32 × Int32 × (Nat → Int32) × (Nat → Int64) × (Nat → Int32) × Int32 × Int32 × Int32 × Int32 × Int32 × Int32 × Int32 × (Nat → Int32) × (Nat → Int32) × (Nat → Int32) × (Nat → Int32) × Int32 × (Nat → Int32)) := if t_ways ≤ 0 then (S_X0_total t_size t_masks t_areEndingsCounted t_endings).bind (fun (y9 : Int32 × Int32 × (Nat → Int32)) => itr (fun (x1 : Int32 × Int32 × Int32 × (Nat → Int32) × (Nat → Int64) × (Nat → Int32) × Int32 × Int32 × Int32 × Int32 × Int32 × Int32 × Int32 × (Nat → Int32) × (Nat → Int32) × (Nat → Int32) × (Nat → Int32) × Int32 × (Nat → Int32)) => if y9.1 ≤ x1.1 then some (.inr (x1.2.1, x1.2.2.1, x1.2.2.2.1, x1.2.2.2.2.1, x1.2.2.2.2.2.1, x1.2.2.2.2.2.2.1, x1.2.2.2.2.2.2.2.1, x1.2.2.2.2.2.2.2.2.1, x1.2.2.2.2.2.2.2.2.2.1, x1.2.2.2.2.2.2.2.2.2.2.1, x1.2.2.2.2.2.2.2.2.2.2.2.1, x1.2.2.2.2.2.2.2.2.2.2.2.2.1, x1.2.2.2.2.2.2.2.2.2.2.2.2.2.1, x1.2.2.2.2.2.2.2.2.2.2.2.2.2.2.1, x1.2.2.2.2.2.2.2.2.2.2.2.2.2.2.2.1, x1.2.2.2.2.2.2.2.2.2.2.2.2.2.2.2.2.1, x1.2.2.2.2.2.2.2.2.2.2.2.2.2.2.2.2.2.1, x1.2.2.2.2.2.2.2.2.2.2.2.2.2.2.2.2.2.2)) else (S_X0_put x1.1 t_size t_masks x1.2.1 x1.2.2.2.1 x1.2.2.2.2.2.2.2.2.2.2.2.2.2.2.2.2.2.2).bind (fun (y26 : Int32 × (Nat → Int32) × Int32 × (Nat → Int32)) => (S_X1_trace x1.2.2.2.2.2.2.2.2.2.2.1 x1.2.2.2.2.2.2.2.2.2.2.2.1 x1.2.2.2.2.2.2.2.2.2.2.2.2.1 x1.2.2.2.2.2.2.2.2.2.2.2.2.2.1 x1.2.2.2.2.2.2.2.2.2.2.2.2.2.2.1 x1.2.2.2.2.2.2.2.2.2.2.2.2.2.2.2.1 x1.2.2.2.2.2.2.2.2.2.2.2.2.2.2.2.2.1 y26.2.2.1 y26.2.2.2).bind (fun (y31 : Int32 × Int32 × Int32 × Int32 × Int32 × Int32 × Int32 × (Nat → Int32) × (Nat → Int32) × (Nat → Int32) × (Nat → Int32)) => (S_X1_partnersCode y31.2.2.2.1 y31.2.2.2.2.2.2.2.1).bind (fun (y36 : Int64) => (S_X0_addToWay y36 x1.2.2.1 x1.2.2.2.2.1 x1.2.2.2.2.2.1).bind (fun (y39 : Int32 × (Nat → Int64) × (Nat → Int32)) => some (.inl (x1.1 + (1 : Int32), y26.1, y39.1, y26.2.1, y39.2.1, y39.2.2, y31.1, y31.2.1, y31.2.2.1, y31.2.2.2.1, y31.2.2.2.2.1, y31.2.2.2.2.2.1, y31.2.2.2.2.2.2.1, y31.2.2.2.2.2.2.2.1, y31.2.2.2.2.2.2.2.2.1, y31.2.2.2.2.2.2.2.2.2.1, y31.2.2.2.2.2.2.2.2.2.2, y26.2.2.1, y26.2.2.2))))))) 10000 ((0 : Int32), y9.2.1, t_ways, y9.2.2, t_codes, t_tally, p1_ringEdges, p1_rings, p1_size, p1_ends, p1_row, p1_column, p1_side, p1_partners, p1_lengths, p1_open, p1_endAtRim, p2_size, p2_corners)) else some (t_areEndingsCounted, t_ways, t_endings, t_codes, t_tally, p1_ringEdges, p1_rings, p1_size, p1_ends, p1_row, p1_column, p1_side, p1_partners, p1_lengths, p1_open, p1_endAtRim, p2_size, p2_corners)
theorem kd_X0_sortByPartners : yX0_sortByPartners.cls = RX0 ∧ yX0_sortByPartners.cls ≠ "java/lang/invoke/MethodHandle" ∧ yX0_sortByPartners.cls ≠ "java/lang/invoke/VarHandle" ∧ (parseMethodDescriptor yX0_sortByPartners.desc).map (fun d => d.parameters.length) = some 2 := by decide +kernel
set_option maxHeartbeats 4000000 in
set_option maxRecDepth 100000 in
theorem c_X0_sortByPartners {l : Launch} {G : kG} (sz : Nat) {q_t : Nat} {t_size : Int32} {t_masks : Int32} {q_t_endings : Nat} {t_areEndingsCounted : Int32} {q_t_codes : Nat} {q_t_tally : Nat} {t_ways : Int32} {t_endings : Nat → Int32} {t_codes : Nat → Int64} {t_tally : Nat → Int32} {q_p1 : Nat} {q_p1_partners : Nat} {q_p1_lengths : Nat} {p1_ringEdges : Int32} {p1_rings : Int32} {p1_size : Int32} {p1_ends : Int32} {q_p1_open : Nat} {q_p1_endAtRim : Nat} {p1_row : Int32} {p1_column : Int32} {p1_side : Int32} {p1_partners : Nat → Int32} {p1_lengths : Nat → Int32} {p1_open : Nat → Int32} {p1_endAtRim : Nat → Int32} {q_p2 : Nat} {p2_size : Int32} {q_p2_corners : Nat} {p2_corners : Nat → Int32} {res : Int32 × Int32 × (Nat → Int32) × (Nat → Int64) × (Nat → Int32) × Int32 × Int32 × Int32 × Int32 × Int32 × Int32 × Int32 × (Nat → Int32) × (Nat → Int32) × (Nat → Int32) × (Nat → Int32) × Int32 × (Nat → Int32)} (hE : S_X0_sortByPartners t_size t_masks t_areEndingsCounted t_ways t_endings t_codes t_tally p1_ringEdges p1_rings p1_size p1_ends p1_row p1_column p1_side p1_partners p1_lengths p1_open p1_endAtRim p2_size p2_corners = some res) : Met l yX0_sortByPartners wsX0_sortByPartners ({ frames := 5, cells := 0, slots := 0, locals := 113 }) (va_Pc [.ref q_t, .ref q_p1, .ref q_p2] (fun U => U.heap.size = sz ∧ va_P G.1 vwCl [oX0 q_t t_size t_masks q_t_endings t_areEndingsCounted q_t_codes q_t_tally t_ways, aI (G.2 1) q_t_endings 64 t_endings, aJ (G.2 2) q_t_codes 42 t_codes, aI (G.2 1) q_t_tally 42 t_tally, oX1 q_p1 q_p1_partners q_p1_lengths p1_ringEdges p1_rings p1_size p1_ends q_p1_open q_p1_endAtRim p1_row p1_column p1_side, aI (G.2 1) q_p1_partners 12 p1_partners, aI (G.2 1) q_p1_lengths 12 p1_lengths, aI (G.2 1) q_p1_open 49 p1_open, aI (G.2 1) q_p1_endAtRim 24 p1_endAtRim, oX3 q_p2 p2_size q_p2_corners, aI (G.2 1) q_p2_corners 49 p2_corners] U.heap ∧ kw G U ∧ va_D (fun _ => True) [oX0 q_t t_size t_masks q_t_endings t_areEndingsCounted q_t_codes q_t_tally t_ways, aI (G.2 1) q_t_endings 64 t_endings, aJ (G.2 2) q_t_codes 42 t_codes, aI (G.2 1) q_t_tally 42 t_tally, oX1 q_p1 q_p1_partners q_p1_lengths p1_ringEdges p1_rings p1_size p1_ends q_p1_open q_p1_endAtRim p1_row p1_column p1_side, aI (G.2 1) q_p1_partners 12 p1_partners, aI (G.2 1) q_p1_lengths 12 p1_lengths, aI (G.2 1) q_p1_open 49 p1_open, aI (G.2 1) q_p1_endAtRim 24 p1_endAtRim, oX3 q_p2 p2_size q_p2_corners, aI (G.2 1) q_p2_corners 49 p2_corners])) (va_Qv (fun (_ : Unit) => True) (fun _ t => va_P G.1 vwCl [oX0 q_t t_size t_masks q_t_endings res.1 q_t_codes q_t_tally res.2.1, aI (G.2 1) q_t_endings 64 res.2.2.1, aJ (G.2 2) q_t_codes 42 res.2.2.2.1, aI (G.2 1) q_t_tally 42 res.2.2.2.2.1, oX1 q_p1 q_p1_partners q_p1_lengths res.2.2.2.2.2.1 res.2.2.2.2.2.2.1 res.2.2.2.2.2.2.2.1 res.2.2.2.2.2.2.2.2.1 q_p1_open q_p1_endAtRim res.2.2.2.2.2.2.2.2.2.1 res.2.2.2.2.2.2.2.2.2.2.1 res.2.2.2.2.2.2.2.2.2.2.2.1, aI (G.2 1) q_p1_partners 12 res.2.2.2.2.2.2.2.2.2.2.2.2.1, aI (G.2 1) q_p1_lengths 12 res.2.2.2.2.2.2.2.2.2.2.2.2.2.1, aI (G.2 1) q_p1_open 49 res.2.2.2.2.2.2.2.2.2.2.2.2.2.2.1, aI (G.2 1) q_p1_endAtRim 24 res.2.2.2.2.2.2.2.2.2.2.2.2.2.2.2.1, oX3 q_p2 res.2.2.2.2.2.2.2.2.2.2.2.2.2.2.2.2.1 q_p2_corners, aI (G.2 1) q_p2_corners 49 res.2.2.2.2.2.2.2.2.2.2.2.2.2.2.2.2.2] t.heap ∧ va_D (va_A [oX0 q_t t_size t_masks q_t_endings t_areEndingsCounted q_t_codes q_t_tally t_ways, aI (G.2 1) q_t_endings 64 t_endings, aJ (G.2 2) q_t_codes 42 t_codes, aI (G.2 1) q_t_tally 42 t_tally, oX1 q_p1 q_p1_partners q_p1_lengths p1_ringEdges p1_rings p1_size p1_ends q_p1_open q_p1_endAtRim p1_row p1_column p1_side, aI (G.2 1) q_p1_partners 12 p1_partners, aI (G.2 1) q_p1_lengths 12 p1_lengths, aI (G.2 1) q_p1_open 49 p1_open, aI (G.2 1) q_p1_endAtRim 24 p1_endAtRim, oX3 q_p2 p2_size q_p2_corners, aI (G.2 1) q_p2_corners 49 p2_corners] sz) [oX0 q_t t_size t_masks q_t_endings res.1 q_t_codes q_t_tally res.2.1, aI (G.2 1) q_t_endings 64 res.2.2.1, aJ (G.2 2) q_t_codes 42 res.2.2.2.1, aI (G.2 1) q_t_tally 42 res.2.2.2.2.1, oX1 q_p1 q_p1_partners q_p1_lengths res.2.2.2.2.2.1 res.2.2.2.2.2.2.1 res.2.2.2.2.2.2.2.1 res.2.2.2.2.2.2.2.2.1 q_p1_open q_p1_endAtRim res.2.2.2.2.2.2.2.2.2.1 res.2.2.2.2.2.2.2.2.2.2.1 res.2.2.2.2.2.2.2.2.2.2.2.1, aI (G.2 1) q_p1_partners 12 res.2.2.2.2.2.2.2.2.2.2.2.2.1, aI (G.2 1) q_p1_lengths 12 res.2.2.2.2.2.2.2.2.2.2.2.2.2.1, aI (G.2 1) q_p1_open 49 res.2.2.2.2.2.2.2.2.2.2.2.2.2.2.1, aI (G.2 1) q_p1_endAtRim 24 res.2.2.2.2.2.2.2.2.2.2.2.2.2.2.2.1, oX3 q_p2 res.2.2.2.2.2.2.2.2.2.2.2.2.2.2.2.2.1 q_p2_corners, aI (G.2 1) q_p2_corners 49 res.2.2.2.2.2.2.2.2.2.2.2.2.2.2.2.2.2]) (va_A [oX0 q_t t_size t_masks q_t_endings t_areEndingsCounted q_t_codes q_t_tally t_ways, aI (G.2 1) q_t_endings 64 t_endings, aJ (G.2 2) q_t_codes 42 t_codes, aI (G.2 1) q_t_tally 42 t_tally, oX1 q_p1 q_p1_partners q_p1_lengths p1_ringEdges p1_rings p1_size p1_ends q_p1_open q_p1_endAtRim p1_row p1_column p1_side, aI (G.2 1) q_p1_partners 12 p1_partners, aI (G.2 1) q_p1_lengths 12 p1_lengths, aI (G.2 1) q_p1_open 49 p1_open, aI (G.2 1) q_p1_endAtRim 24 p1_endAtRim, oX3 q_p2 p2_size q_p2_corners, aI (G.2 1) q_p2_corners 49 p2_corners] sz)) 0 0 (va_A [oX0 q_t t_size t_masks q_t_endings t_areEndingsCounted q_t_codes q_t_tally t_ways, aI (G.2 1) q_t_endings 64 t_endings, aJ (G.2 2) q_t_codes 42 t_codes, aI (G.2 1) q_t_tally 42 t_tally, oX1 q_p1 q_p1_partners q_p1_lengths p1_ringEdges p1_rings p1_size p1_ends q_p1_open q_p1_endAtRim p1_row p1_column p1_side, aI (G.2 1) q_p1_partners 12 p1_partners, aI (G.2 1) q_p1_lengths 12 p1_lengths, aI (G.2 1) q_p1_open 49 p1_open, aI (G.2 1) q_p1_endAtRim 24 p1_endAtRim, oX3 q_p2 p2_size q_p2_corners, aI (G.2 1) q_p2_corners 49 p2_corners] sz) := by
  refine Met.ofQ (cc := cX0_sortByPartners) (maxL := 5) (ret := none) (by decide) rfl ?_
  intro p e s m args below meth c s₁ Q hQ B hml hv
  obtain ⟨rfl, hsz, hP, hKW, hD0⟩ := hv
  have hK := hKW.1
  have hx := B.exec
  have hb := B.bytes
  have hr := B.returns
  have hts := atoms_spec (ws := wsX0_sortByPartners) B.pre
  have hown : s.vm.findClass RX0 = some m.cls := findClass_of_methodNamed B.named
  have hlocks := B.notSynchronized
  have iX0 : ∀ w ∈ u_ws RX0 TX0 7, w ∈ wsX0_sortByPartners := by decide +kernel
  have fl_51 := hts (.fieldLink RX0 51 "AlternateSigns$AllOfSize" "ways" "I") (by decide +kernel)
  subst hsz
  have hD := hD0.self (sz := s.heap.size)
  generalize hAe : va_A [oX0 q_t t_size t_masks q_t_endings t_areEndingsCounted q_t_codes q_t_tally t_ways, aI (G.2 1) q_t_endings 64 t_endings, aJ (G.2 2) q_t_codes 42 t_codes, aI (G.2 1) q_t_tally 42 t_tally, oX1 q_p1 q_p1_partners q_p1_lengths p1_ringEdges p1_rings p1_size p1_ends q_p1_open q_p1_endAtRim p1_row p1_column p1_side, aI (G.2 1) q_p1_partners 12 p1_partners, aI (G.2 1) q_p1_lengths 12 p1_lengths, aI (G.2 1) q_p1_open 49 p1_open, aI (G.2 1) q_p1_endAtRim 24 p1_endAtRim, oX3 q_p2 p2_size q_p2_corners, aI (G.2 1) q_p2_corners 49 p2_corners] s.heap.size = A at hD hQ
  have hA : ∀ q : Nat, s.heap.size ≤ q → A q := fun q h => by rw [← hAe]; exact Or.inr h
  have hS : va_S A s.heap s.heap [] := va_S.rf
  have hl := lv_entry ([.ref q_t, .ref q_p1, .ref q_p2]) (n := 5) (Nat.le_of_ble_eq_true rfl)
  rw [lg_entry_eq]
  generalize (lg_sl ([.ref q_t, .ref q_p1, .ref q_p2]) ++ List.replicate (5 - (lg_sl ([.ref q_t, .ref q_p1, .ref q_p2])).length) Slot.unset).toArray = ls at hl ⊢
  have hl : lv_has ls 5 [(0, .ref q_t), (1, .ref q_p1), (2, .ref q_p2)] := hl
  unfold S_X0_sortByPartners at hE
  refine lv_aload_n hx hb dX0_sortByPartners_0 rfl (lv_at hl 0 rfl) ?_
  refine va_get (D := G.1) (ci := 0) (v := .int t_ways) (C := RX0) (T := TX0) (N := 7) hx hb hts iX0 hown hK hP 0 rfl rfl 6 (by decide) fl_51 (fun _ h9 => h9) rfl dX0_sortByPartners_1 ?_
  refine lv_if_le (tgt := 8) hx hb dX0_sortByPartners_4 (by decide) (fun c_4 => ?_) (fun c_4 => ?_)
  · replace hE := (if_pos c_4).symm.trans hE
    refine lv_aload_n hx hb dX0_sortByPartners_8 rfl (lv_at hl 0 rfl) ?_
    obtain ⟨y9, hC_9, hE⟩ := Option.bind_eq_some_iff.mp hE
    obtain ⟨r_9, m_9_0, m_9_1⟩ := y9
    try dsimp only at hE
    have hPc := hP.sub (ws' := [oX0 q_t t_size t_masks q_t_endings t_areEndingsCounted q_t_codes q_t_tally t_ways, aI (G.2 1) q_t_endings 64 t_endings]) [0, 1] rfl
    have hDc := hD.sub (ws' := [oX0 q_t t_size t_masks q_t_endings t_areEndingsCounted q_t_codes q_t_tally t_ways, aI (G.2 1) q_t_endings 64 t_endings]) [0, 1] (by decide) rfl
    have hFc := va_free (wc := [oX0 q_t t_size t_masks q_t_endings t_areEndingsCounted q_t_codes q_t_tally t_ways, aI (G.2 1) q_t_endings 64 t_endings]) hD hS hA [0, 1] rfl
    refine va_calli (va_runV (As := []) (rest := []) ⟨hx, hb, hml, hown, hts⟩ (c_X0_total (l := l) (G := G) _ (q_t := q_t) (t_size := t_size) (t_masks := t_masks) (q_t_endings := q_t_endings) (t_areEndingsCounted := t_areEndingsCounted) (q_t_codes := q_t_codes) (q_t_tally := q_t_tally) (t_ways := t_ways) (t_endings := t_endings) hC_9) (cwV 0 hts gX0_sortByPartners_X0_total rfl rfl rfl kd_X0_total ⟨Nat.le_of_ble_eq_true rfl, Nat.le_of_ble_eq_true rfl⟩) (iv_V hKW hPc hDc (ci := 0) (q0 := 0) rfl rfl) rfl rfl hl.1 rfl (lv_room (Nat.le_of_ble_eq_true rfl)) dX0_sortByPartners_9 ⟨Nat.zero_le _, Nat.zero_le _⟩) hS (fun q _ h => hFc q h) hFc (fun r9 u9 t9 H1 locs ht9 hvm9 hw9 hB9 hz9 hk9 hS => ?_)
    subst r9
    obtain ⟨hP1, hD1⟩ := hB9
    rw [ht9] at hP1
    obtain ⟨hP, hD⟩ := va_join (wr := [aJ (G.2 2) q_t_codes 42 t_codes, aI (G.2 1) q_t_tally 42 t_tally, oX1 q_p1 q_p1_partners q_p1_lengths p1_ringEdges p1_rings p1_size p1_ends q_p1_open q_p1_endAtRim p1_row p1_column p1_side, aI (G.2 1) q_p1_partners 12 p1_partners, aI (G.2 1) q_p1_lengths 12 p1_lengths, aI (G.2 1) q_p1_open 49 p1_open, aI (G.2 1) q_p1_endAtRim 24 p1_endAtRim, oX3 q_p2 p2_size q_p2_corners, aI (G.2 1) q_p2_corners 49 p2_corners]) (w1 := [oX0 q_t t_size t_masks q_t_endings m_9_0 q_t_codes q_t_tally t_ways, aI (G.2 1) q_t_endings 64 m_9_1]) hP hD [0, 1] [2, 3, 4, 5, 6, 7, 8, 9, 10] rfl rfl (by decide) (by decide) hk9 hFc hP1 hD1
    have hP := hP.sub (ws' := [oX0 q_t t_size t_masks q_t_endings m_9_0 q_t_codes q_t_tally t_ways, aI (G.2 1) q_t_endings 64 m_9_1, aJ (G.2 2) q_t_codes 42 t_codes, aI (G.2 1) q_t_tally 42 t_tally, oX1 q_p1 q_p1_partners q_p1_lengths p1_ringEdges p1_rings p1_size p1_ends q_p1_open q_p1_endAtRim p1_row p1_column p1_side, aI (G.2 1) q_p1_partners 12 p1_partners, aI (G.2 1) q_p1_lengths 12 p1_lengths, aI (G.2 1) q_p1_open 49 p1_open, aI (G.2 1) q_p1_endAtRim 24 p1_endAtRim, oX3 q_p2 p2_size q_p2_corners, aI (G.2 1) q_p2_corners 49 p2_corners]) [9, 10, 0, 1, 2, 3, 4, 5, 6, 7, 8] rfl
    have hD := hD.sub (ws' := [oX0 q_t t_size t_masks q_t_endings m_9_0 q_t_codes q_t_tally t_ways, aI (G.2 1) q_t_endings 64 m_9_1, aJ (G.2 2) q_t_codes 42 t_codes, aI (G.2 1) q_t_tally 42 t_tally, oX1 q_p1 q_p1_partners q_p1_lengths p1_ringEdges p1_rings p1_size p1_ends q_p1_open q_p1_endAtRim p1_row p1_column p1_side, aI (G.2 1) q_p1_partners 12 p1_partners, aI (G.2 1) q_p1_lengths 12 p1_lengths, aI (G.2 1) q_p1_open 49 p1_open, aI (G.2 1) q_p1_endAtRim 24 p1_endAtRim, oX3 q_p2 p2_size q_p2_corners, aI (G.2 1) q_p2_corners 49 p2_corners]) [9, 10, 0, 1, 2, 3, 4, 5, 6, 7, 8] (by decide) rfl
    clear hPc hDc hFc hP1 hD1 hk9 hz9 hvm9
    refine lv_istore_n (lv' := [(3, .int r_9), (0, .ref q_t), (1, .ref q_p1), (2, .ref q_p2)]) hx hb dX0_sortByPartners_12 rfl hl (by decide) rfl (fun ls hl => ?_)
    refine lv_iconst (v := 0) hx hb dX0_sortByPartners_13 (by decide) ?_
    refine lv_istore (lv' := [(4, .int (0 : Int32)), (3, .int r_9), (0, .ref q_t), (1, .ref q_p1), (2, .ref q_p2)]) hx hb dX0_sortByPartners_14 hl (by decide) rfl (fun ls hl => ?_)
    refine itr_ind (fun (x1 : Int32 × Int32 × Int32 × (Nat → Int32) × (Nat → Int64) × (Nat → Int32) × Int32 × Int32 × Int32 × Int32 × Int32 × Int32 × Int32 × (Nat → Int32) × (Nat → Int32) × (Nat → Int32) × (Nat → Int32) × Int32 × (Nat → Int32)) => ∀ (H : Heap) (locs : List Loc) (ls : Array Slot), va_P G.1 vwCl [oX0 q_t t_size t_masks q_t_endings x1.2.1 q_t_codes q_t_tally x1.2.2.1, aI (G.2 1) q_t_endings 64 x1.2.2.2.1, aJ (G.2 2) q_t_codes 42 x1.2.2.2.2.1, aI (G.2 1) q_t_tally 42 x1.2.2.2.2.2.1, oX1 q_p1 q_p1_partners q_p1_lengths x1.2.2.2.2.2.2.1 x1.2.2.2.2.2.2.2.1 x1.2.2.2.2.2.2.2.2.1 x1.2.2.2.2.2.2.2.2.2.1 q_p1_open q_p1_endAtRim x1.2.2.2.2.2.2.2.2.2.2.1 x1.2.2.2.2.2.2.2.2.2.2.2.1 x1.2.2.2.2.2.2.2.2.2.2.2.2.1, aI (G.2 1) q_p1_partners 12 x1.2.2.2.2.2.2.2.2.2.2.2.2.2.1, aI (G.2 1) q_p1_lengths 12 x1.2.2.2.2.2.2.2.2.2.2.2.2.2.2.1, aI (G.2 1) q_p1_open 49 x1.2.2.2.2.2.2.2.2.2.2.2.2.2.2.2.1, aI (G.2 1) q_p1_endAtRim 24 x1.2.2.2.2.2.2.2.2.2.2.2.2.2.2.2.2.1, oX3 q_p2 x1.2.2.2.2.2.2.2.2.2.2.2.2.2.2.2.2.2.1 q_p2_corners, aI (G.2 1) q_p2_corners 49 x1.2.2.2.2.2.2.2.2.2.2.2.2.2.2.2.2.2.2] H → va_D A [oX0 q_t t_size t_masks q_t_endings x1.2.1 q_t_codes q_t_tally x1.2.2.1, aI (G.2 1) q_t_endings 64 x1.2.2.2.1, aJ (G.2 2) q_t_codes 42 x1.2.2.2.2.1, aI (G.2 1) q_t_tally 42 x1.2.2.2.2.2.1, oX1 q_p1 q_p1_partners q_p1_lengths x1.2.2.2.2.2.2.1 x1.2.2.2.2.2.2.2.1 x1.2.2.2.2.2.2.2.2.1 x1.2.2.2.2.2.2.2.2.2.1 q_p1_open q_p1_endAtRim x1.2.2.2.2.2.2.2.2.2.2.1 x1.2.2.2.2.2.2.2.2.2.2.2.1 x1.2.2.2.2.2.2.2.2.2.2.2.2.1, aI (G.2 1) q_p1_partners 12 x1.2.2.2.2.2.2.2.2.2.2.2.2.2.1, aI (G.2 1) q_p1_lengths 12 x1.2.2.2.2.2.2.2.2.2.2.2.2.2.2.1, aI (G.2 1) q_p1_open 49 x1.2.2.2.2.2.2.2.2.2.2.2.2.2.2.2.1, aI (G.2 1) q_p1_endAtRim 24 x1.2.2.2.2.2.2.2.2.2.2.2.2.2.2.2.2.1, oX3 q_p2 x1.2.2.2.2.2.2.2.2.2.2.2.2.2.2.2.2.2.1 q_p2_corners, aI (G.2 1) q_p2_corners 49 x1.2.2.2.2.2.2.2.2.2.2.2.2.2.2.2.2.2.2] → va_S A s.heap H locs → lv_has ls 5 [(0, .ref q_t), (1, .ref q_p1), (2, .ref q_p2), (3, .int r_9), (4, .int x1.1)] → W p l e (headSpec wsX0_sortByPartners ({ frames := 5, cells := 0, slots := 0, locals := 113 })).room s m ([.ref q_t, .ref q_p1, .ref q_p2] : List Value).toArray below meth c H locs 0 0 Q (F0 m 16 ls [])) (fun x1 o_1 hE ih_1 hr_1 => ?_) _ _ hE _ _ ls hP hD hS (lv_sub hl [2, 3, 4, 1, 0] rfl)
    obtain ⟨v4_1, w_t_areEndingsCounted_1, w_t_ways_1, w_t_endings_1, w_t_codes_1, w_t_tally_1, w_p1_ringEdges_1, w_p1_rings_1, w_p1_size_1, w_p1_ends_1, w_p1_row_1, w_p1_column_1, w_p1_side_1, w_p1_partners_1, w_p1_lengths_1, w_p1_open_1, w_p1_endAtRim_1, w_p2_size_1, w_p2_corners_1⟩ := x1
    try dsimp only at hE
    intro H locs ls hP hD hS hl
    try dsimp only at hP hD hl ⊢
    refine lv_iload hx hb dX0_sortByPartners_16 (lv_at hl 4 rfl) ?_
    refine lv_iload_n hx hb dX0_sortByPartners_18 rfl (lv_at hl 3 rfl) ?_
    refine lv_icmp_ge (tgt := 48) hx hb dX0_sortByPartners_19 (by decide) (fun c_19 => ?_) (fun c_19 => ?_)
    · replace hE := (if_pos c_19).symm.trans hE
      have e_1 := Option.some.inj hE
      have e_0 := hr_1 _ e_1.symm
      subst e_0
      rw [hQ]
      exact W.vret hx hb hr (fun t ht _ => ⟨⟨(), rfl, trivial, by rw [ht]; exact hP, hD⟩, hS.F ht⟩) hS.2.2 dX0_sortByPartners_48
    · replace hE := (if_neg c_19).symm.trans hE
      refine lv_aload_n hx hb dX0_sortByPartners_22 rfl (lv_at hl 0 rfl) ?_
      refine lv_iload hx hb dX0_sortByPartners_23 (lv_at hl 4 rfl) ?_
      refine lv_aload_n hx hb dX0_sortByPartners_25 rfl (lv_at hl 2 rfl) ?_
      obtain ⟨y26, hC_26, hE⟩ := Option.bind_eq_some_iff.mp hE
      obtain ⟨m_26_0, m_26_1, m_26_2, m_26_3⟩ := y26
      try dsimp only at hE
      have hPc := hP.sub (ws' := [oX0 q_t t_size t_masks q_t_endings w_t_areEndingsCounted_1 q_t_codes q_t_tally w_t_ways_1, aI (G.2 1) q_t_endings 64 w_t_endings_1, oX3 q_p2 w_p2_size_1 q_p2_corners, aI (G.2 1) q_p2_corners 49 w_p2_corners_1]) [0, 1, 9, 10] rfl
      have hDc := hD.sub (ws' := [oX0 q_t t_size t_masks q_t_endings w_t_areEndingsCounted_1 q_t_codes q_t_tally w_t_ways_1, aI (G.2 1) q_t_endings 64 w_t_endings_1, oX3 q_p2 w_p2_size_1 q_p2_corners, aI (G.2 1) q_p2_corners 49 w_p2_corners_1]) [0, 1, 9, 10] (by decide) rfl
      have hFc := va_free (wc := [oX0 q_t t_size t_masks q_t_endings w_t_areEndingsCounted_1 q_t_codes q_t_tally w_t_ways_1, aI (G.2 1) q_t_endings 64 w_t_endings_1, oX3 q_p2 w_p2_size_1 q_p2_corners, aI (G.2 1) q_p2_corners 49 w_p2_corners_1]) hD hS hA [0, 1, 9, 10] rfl
      refine va_callv (va_runV (As := [.int v4_1, .ref q_p2]) (rest := []) ⟨hx, hb, hml, hown, hts⟩ (c_X0_put (l := l) (G := G) _ (p1 := v4_1) (q_t := q_t) (t_size := t_size) (t_masks := t_masks) (q_t_endings := q_t_endings) (t_areEndingsCounted := w_t_areEndingsCounted_1) (q_t_codes := q_t_codes) (q_t_tally := q_t_tally) (t_ways := w_t_ways_1) (t_endings := w_t_endings_1) (q_p2 := q_p2) (p2_size := w_p2_size_1) (q_p2_corners := q_p2_corners) (p2_corners := w_p2_corners_1) hC_26) (cwV 2 hts gX0_sortByPartners_X0_put rfl rfl rfl kd_X0_put ⟨Nat.le_of_ble_eq_true rfl, Nat.le_of_ble_eq_true rfl⟩) (iv_V hKW hPc hDc (ci := 0) (q0 := 0) rfl rfl) rfl rfl hl.1 rfl (lv_room (Nat.le_of_ble_eq_true rfl)) dX0_sortByPartners_26 ⟨Nat.zero_le _, Nat.zero_le _⟩) hS (fun q _ h => hFc q h) hFc (fun u9 t9 H1 locs ht9 hvm9 hw9 hB9 hz9 hk9 hS => ?_)
      obtain ⟨hP1, hD1⟩ := hB9
      rw [ht9] at hP1
      obtain ⟨hP, hD⟩ := va_join (wr := [aJ (G.2 2) q_t_codes 42 w_t_codes_1, aI (G.2 1) q_t_tally 42 w_t_tally_1, oX1 q_p1 q_p1_partners q_p1_lengths w_p1_ringEdges_1 w_p1_rings_1 w_p1_size_1 w_p1_ends_1 q_p1_open q_p1_endAtRim w_p1_row_1 w_p1_column_1 w_p1_side_1, aI (G.2 1) q_p1_partners 12 w_p1_partners_1, aI (G.2 1) q_p1_lengths 12 w_p1_lengths_1, aI (G.2 1) q_p1_open 49 w_p1_open_1, aI (G.2 1) q_p1_endAtRim 24 w_p1_endAtRim_1]) (w1 := [oX0 q_t t_size t_masks q_t_endings m_26_0 q_t_codes q_t_tally w_t_ways_1, aI (G.2 1) q_t_endings 64 m_26_1, oX3 q_p2 m_26_2 q_p2_corners, aI (G.2 1) q_p2_corners 49 m_26_3]) hP hD [0, 1, 9, 10] [2, 3, 4, 5, 6, 7, 8] rfl rfl (by decide) (by decide) hk9 hFc hP1 hD1
      have hP := hP.sub (ws' := [oX0 q_t t_size t_masks q_t_endings m_26_0 q_t_codes q_t_tally w_t_ways_1, aI (G.2 1) q_t_endings 64 m_26_1, aJ (G.2 2) q_t_codes 42 w_t_codes_1, aI (G.2 1) q_t_tally 42 w_t_tally_1, oX1 q_p1 q_p1_partners q_p1_lengths w_p1_ringEdges_1 w_p1_rings_1 w_p1_size_1 w_p1_ends_1 q_p1_open q_p1_endAtRim w_p1_row_1 w_p1_column_1 w_p1_side_1, aI (G.2 1) q_p1_partners 12 w_p1_partners_1, aI (G.2 1) q_p1_lengths 12 w_p1_lengths_1, aI (G.2 1) q_p1_open 49 w_p1_open_1, aI (G.2 1) q_p1_endAtRim 24 w_p1_endAtRim_1, oX3 q_p2 m_26_2 q_p2_corners, aI (G.2 1) q_p2_corners 49 m_26_3]) [7, 8, 0, 1, 2, 3, 4, 5, 6, 9, 10] rfl
      have hD := hD.sub (ws' := [oX0 q_t t_size t_masks q_t_endings m_26_0 q_t_codes q_t_tally w_t_ways_1, aI (G.2 1) q_t_endings 64 m_26_1, aJ (G.2 2) q_t_codes 42 w_t_codes_1, aI (G.2 1) q_t_tally 42 w_t_tally_1, oX1 q_p1 q_p1_partners q_p1_lengths w_p1_ringEdges_1 w_p1_rings_1 w_p1_size_1 w_p1_ends_1 q_p1_open q_p1_endAtRim w_p1_row_1 w_p1_column_1 w_p1_side_1, aI (G.2 1) q_p1_partners 12 w_p1_partners_1, aI (G.2 1) q_p1_lengths 12 w_p1_lengths_1, aI (G.2 1) q_p1_open 49 w_p1_open_1, aI (G.2 1) q_p1_endAtRim 24 w_p1_endAtRim_1, oX3 q_p2 m_26_2 q_p2_corners, aI (G.2 1) q_p2_corners 49 m_26_3]) [7, 8, 0, 1, 2, 3, 4, 5, 6, 9, 10] (by decide) rfl
      clear hPc hDc hFc hP1 hD1 hk9 hz9 hvm9
      refine lv_aload_n hx hb dX0_sortByPartners_29 rfl (lv_at hl 1 rfl) ?_
      refine lv_aload_n hx hb dX0_sortByPartners_30 rfl (lv_at hl 2 rfl) ?_
      obtain ⟨y31, hC_31, hE⟩ := Option.bind_eq_some_iff.mp hE
      obtain ⟨m_31_0, m_31_1, m_31_2, m_31_3, m_31_4, m_31_5, m_31_6, m_31_7, m_31_8, m_31_9, m_31_10⟩ := y31
      try dsimp only at hE
      have hPc := hP.sub (ws' := [oX1 q_p1 q_p1_partners q_p1_lengths w_p1_ringEdges_1 w_p1_rings_1 w_p1_size_1 w_p1_ends_1 q_p1_open q_p1_endAtRim w_p1_row_1 w_p1_column_1 w_p1_side_1, aI (G.2 1) q_p1_partners 12 w_p1_partners_1, aI (G.2 1) q_p1_lengths 12 w_p1_lengths_1, aI (G.2 1) q_p1_open 49 w_p1_open_1, aI (G.2 1) q_p1_endAtRim 24 w_p1_endAtRim_1, oX3 q_p2 m_26_2 q_p2_corners, aI (G.2 1) q_p2_corners 49 m_26_3]) [4, 5, 6, 7, 8, 9, 10] rfl
      have hDc := hD.sub (ws' := [oX1 q_p1 q_p1_partners q_p1_lengths w_p1_ringEdges_1 w_p1_rings_1 w_p1_size_1 w_p1_ends_1 q_p1_open q_p1_endAtRim w_p1_row_1 w_p1_column_1 w_p1_side_1, aI (G.2 1) q_p1_partners 12 w_p1_partners_1, aI (G.2 1) q_p1_lengths 12 w_p1_lengths_1, aI (G.2 1) q_p1_open 49 w_p1_open_1, aI (G.2 1) q_p1_endAtRim 24 w_p1_endAtRim_1, oX3 q_p2 m_26_2 q_p2_corners, aI (G.2 1) q_p2_corners 49 m_26_3]) [4, 5, 6, 7, 8, 9, 10] (by decide) rfl
      have hFc := va_free (wc := [oX1 q_p1 q_p1_partners q_p1_lengths w_p1_ringEdges_1 w_p1_rings_1 w_p1_size_1 w_p1_ends_1 q_p1_open q_p1_endAtRim w_p1_row_1 w_p1_column_1 w_p1_side_1, aI (G.2 1) q_p1_partners 12 w_p1_partners_1, aI (G.2 1) q_p1_lengths 12 w_p1_lengths_1, aI (G.2 1) q_p1_open 49 w_p1_open_1, aI (G.2 1) q_p1_endAtRim 24 w_p1_endAtRim_1, oX3 q_p2 m_26_2 q_p2_corners, aI (G.2 1) q_p2_corners 49 m_26_3]) hD hS hA [4, 5, 6, 7, 8, 9, 10] rfl
      refine va_callv (va_runV (As := [.ref q_p2]) (rest := []) ⟨hx, hb, hml, hown, hts⟩ (c_X1_trace (l := l) (G := G) _ (q_t := q_p1) (q_t_partners := q_p1_partners) (q_t_lengths := q_p1_lengths) (t_ringEdges := w_p1_ringEdges_1) (t_rings := w_p1_rings_1) (t_size := w_p1_size_1) (t_ends := w_p1_ends_1) (q_t_open := q_p1_open) (q_t_endAtRim := q_p1_endAtRim) (t_row := w_p1_row_1) (t_column := w_p1_column_1) (t_side := w_p1_side_1) (t_partners := w_p1_partners_1) (t_lengths := w_p1_lengths_1) (t_open := w_p1_open_1) (t_endAtRim := w_p1_endAtRim_1) (q_p1 := q_p2) (p1_size := m_26_2) (q_p1_corners := q_p2_corners) (p1_corners := m_26_3) hC_31) (cwV 1 hts gX0_sortByPartners_X1_trace rfl rfl rfl kd_X1_trace ⟨Nat.le_of_ble_eq_true rfl, Nat.le_of_ble_eq_true rfl⟩) (iv_V hKW hPc hDc (ci := 1) (q0 := 0) rfl rfl) rfl rfl hl.1 rfl (lv_room (Nat.le_of_ble_eq_true rfl)) dX0_sortByPartners_31 ⟨Nat.zero_le _, Nat.zero_le _⟩) hS (fun q _ h => hFc q h) hFc (fun u9 t9 H1 locs ht9 hvm9 hw9 hB9 hz9 hk9 hS => ?_)
      obtain ⟨hP1, hD1⟩ := hB9
      rw [ht9] at hP1
      obtain ⟨hP, hD⟩ := va_join (wr := [oX0 q_t t_size t_masks q_t_endings m_26_0 q_t_codes q_t_tally w_t_ways_1, aI (G.2 1) q_t_endings 64 m_26_1, aJ (G.2 2) q_t_codes 42 w_t_codes_1, aI (G.2 1) q_t_tally 42 w_t_tally_1]) (w1 := [oX1 q_p1 q_p1_partners q_p1_lengths m_31_0 m_31_1 m_31_2 m_31_3 q_p1_open q_p1_endAtRim m_31_4 m_31_5 m_31_6, aI (G.2 1) q_p1_partners 12 m_31_7, aI (G.2 1) q_p1_lengths 12 m_31_8, aI (G.2 1) q_p1_open 49 m_31_9, aI (G.2 1) q_p1_endAtRim 24 m_31_10, oX3 q_p2 m_26_2 q_p2_corners, aI (G.2 1) q_p2_corners 49 m_26_3]) hP hD [4, 5, 6, 7, 8, 9, 10] [0, 1, 2, 3] rfl rfl (by decide) (by decide) hk9 hFc hP1 hD1
      have hP := hP.sub (ws' := [oX0 q_t t_size t_masks q_t_endings m_26_0 q_t_codes q_t_tally w_t_ways_1, aI (G.2 1) q_t_endings 64 m_26_1, aJ (G.2 2) q_t_codes 42 w_t_codes_1, aI (G.2 1) q_t_tally 42 w_t_tally_1, oX1 q_p1 q_p1_partners q_p1_lengths m_31_0 m_31_1 m_31_2 m_31_3 q_p1_open q_p1_endAtRim m_31_4 m_31_5 m_31_6, aI (G.2 1) q_p1_partners 12 m_31_7, aI (G.2 1) q_p1_lengths 12 m_31_8, aI (G.2 1) q_p1_open 49 m_31_9, aI (G.2 1) q_p1_endAtRim 24 m_31_10, oX3 q_p2 m_26_2 q_p2_corners, aI (G.2 1) q_p2_corners 49 m_26_3]) [0, 1, 2, 3, 4, 5, 6, 7, 8, 9, 10] rfl
      have hD := hD.sub (ws' := [oX0 q_t t_size t_masks q_t_endings m_26_0 q_t_codes q_t_tally w_t_ways_1, aI (G.2 1) q_t_endings 64 m_26_1, aJ (G.2 2) q_t_codes 42 w_t_codes_1, aI (G.2 1) q_t_tally 42 w_t_tally_1, oX1 q_p1 q_p1_partners q_p1_lengths m_31_0 m_31_1 m_31_2 m_31_3 q_p1_open q_p1_endAtRim m_31_4 m_31_5 m_31_6, aI (G.2 1) q_p1_partners 12 m_31_7, aI (G.2 1) q_p1_lengths 12 m_31_8, aI (G.2 1) q_p1_open 49 m_31_9, aI (G.2 1) q_p1_endAtRim 24 m_31_10, oX3 q_p2 m_26_2 q_p2_corners, aI (G.2 1) q_p2_corners 49 m_26_3]) [0, 1, 2, 3, 4, 5, 6, 7, 8, 9, 10] (by decide) rfl
      clear hPc hDc hFc hP1 hD1 hk9 hz9 hvm9
      refine lv_aload_n hx hb dX0_sortByPartners_34 rfl (lv_at hl 0 rfl) ?_
      refine lv_aload_n hx hb dX0_sortByPartners_35 rfl (lv_at hl 1 rfl) ?_
      obtain ⟨y36, hC_36, hE⟩ := Option.bind_eq_some_iff.mp hE
      obtain ⟨r_36, ex9⟩ : ∃ z, z = y36 := ⟨_, rfl⟩
      subst ex9
      try dsimp only at hE
      refine vp_callSl (va_Run.run (va_runV (As := []) (rest := [.ref q_t]) ⟨hx, hb, hml, hown, hts⟩ (c_X1_partnersCode (l := l) (G := G) (q_t := q_p1) (q_t_partners := q_p1_partners) (q_t_lengths := q_p1_lengths) (t_ringEdges := m_31_0) (t_rings := m_31_1) (t_size := m_31_2) (t_ends := m_31_3) (q_t_open := q_p1_open) (q_t_endAtRim := q_p1_endAtRim) (t_row := m_31_4) (t_column := m_31_5) (t_side := m_31_6) (t_partners := m_31_7) hC_36) (cwV 0 hts gX0_sortByPartners_X1_partnersCode rfl rfl rfl kd_X1_partnersCode ⟨Nat.le_of_ble_eq_true rfl, Nat.le_of_ble_eq_true rfl⟩) (pv_V hKW (hP.sub (ws' := [oX1 q_p1 q_p1_partners q_p1_lengths m_31_0 m_31_1 m_31_2 m_31_3 q_p1_open q_p1_endAtRim m_31_4 m_31_5 m_31_6, aI (G.2 1) q_p1_partners 12 m_31_7]) [4, 5] rfl) (ci := 1) (q0 := 0) rfl rfl) rfl rfl hl.1 rfl (lv_room (Nat.le_of_ble_eq_true rfl)) dX0_sortByPartners_36 ⟨Nat.zero_le _, Nat.zero_le _⟩)) (fun r9 hr9 => ?_)
      subst r9
      obtain ⟨y39, hC_39, hE⟩ := Option.bind_eq_some_iff.mp hE
      obtain ⟨m_39_0, m_39_1, m_39_2⟩ := y39
      try dsimp only at hE
      have hPc := hP.sub (ws' := [oX0 q_t t_size t_masks q_t_endings m_26_0 q_t_codes q_t_tally w_t_ways_1, aJ (G.2 2) q_t_codes 42 w_t_codes_1, aI (G.2 1) q_t_tally 42 w_t_tally_1]) [0, 2, 3] rfl
      have hDc := hD.sub (ws' := [oX0 q_t t_size t_masks q_t_endings m_26_0 q_t_codes q_t_tally w_t_ways_1, aJ (G.2 2) q_t_codes 42 w_t_codes_1, aI (G.2 1) q_t_tally 42 w_t_tally_1]) [0, 2, 3] (by decide) rfl
      have hFc := va_free (wc := [oX0 q_t t_size t_masks q_t_endings m_26_0 q_t_codes q_t_tally w_t_ways_1, aJ (G.2 2) q_t_codes 42 w_t_codes_1, aI (G.2 1) q_t_tally 42 w_t_tally_1]) hD hS hA [0, 2, 3] rfl
      refine va_callv (va_runV (As := [.long r_36]) (rest := []) ⟨hx, hb, hml, hown, hts⟩ (c_X0_addToWay (l := l) (G := G) _ (p1 := r_36) (q_t := q_t) (t_size := t_size) (t_masks := t_masks) (q_t_endings := q_t_endings) (t_areEndingsCounted := m_26_0) (q_t_codes := q_t_codes) (q_t_tally := q_t_tally) (t_ways := w_t_ways_1) (t_codes := w_t_codes_1) (t_tally := w_t_tally_1) hC_39) (cwV 1 hts gX0_sortByPartners_X0_addToWay rfl rfl rfl kd_X0_addToWay ⟨Nat.le_of_ble_eq_true rfl, Nat.le_of_ble_eq_true rfl⟩) (iv_V hKW hPc hDc (ci := 0) (q0 := 0) rfl rfl) rfl rfl hl.1 rfl (lv_room (Nat.le_of_ble_eq_true rfl)) dX0_sortByPartners_39 ⟨Nat.zero_le _, Nat.zero_le _⟩) hS (fun q _ h => hFc q h) hFc (fun u9 t9 H1 locs ht9 hvm9 hw9 hB9 hz9 hk9 hS => ?_)
      obtain ⟨hP1, hD1⟩ := hB9
      rw [ht9] at hP1
      obtain ⟨hP, hD⟩ := va_join (wr := [aI (G.2 1) q_t_endings 64 m_26_1, oX1 q_p1 q_p1_partners q_p1_lengths m_31_0 m_31_1 m_31_2 m_31_3 q_p1_open q_p1_endAtRim m_31_4 m_31_5 m_31_6, aI (G.2 1) q_p1_partners 12 m_31_7, aI (G.2 1) q_p1_lengths 12 m_31_8, aI (G.2 1) q_p1_open 49 m_31_9, aI (G.2 1) q_p1_endAtRim 24 m_31_10, oX3 q_p2 m_26_2 q_p2_corners, aI (G.2 1) q_p2_corners 49 m_26_3]) (w1 := [oX0 q_t t_size t_masks q_t_endings m_26_0 q_t_codes q_t_tally m_39_0, aJ (G.2 2) q_t_codes 42 m_39_1, aI (G.2 1) q_t_tally 42 m_39_2]) hP hD [0, 2, 3] [1, 4, 5, 6, 7, 8, 9, 10] rfl rfl (by decide) (by decide) hk9 hFc hP1 hD1
      have hP := hP.sub (ws' := [oX0 q_t t_size t_masks q_t_endings m_26_0 q_t_codes q_t_tally m_39_0, aI (G.2 1) q_t_endings 64 m_26_1, aJ (G.2 2) q_t_codes 42 m_39_1, aI (G.2 1) q_t_tally 42 m_39_2, oX1 q_p1 q_p1_partners q_p1_lengths m_31_0 m_31_1 m_31_2 m_31_3 q_p1_open q_p1_endAtRim m_31_4 m_31_5 m_31_6, aI (G.2 1) q_p1_partners 12 m_31_7, aI (G.2 1) q_p1_lengths 12 m_31_8, aI (G.2 1) q_p1_open 49 m_31_9, aI (G.2 1) q_p1_endAtRim 24 m_31_10, oX3 q_p2 m_26_2 q_p2_corners, aI (G.2 1) q_p2_corners 49 m_26_3]) [8, 0, 9, 10, 1, 2, 3, 4, 5, 6, 7] rfl
      have hD := hD.sub (ws' := [oX0 q_t t_size t_masks q_t_endings m_26_0 q_t_codes q_t_tally m_39_0, aI (G.2 1) q_t_endings 64 m_26_1, aJ (G.2 2) q_t_codes 42 m_39_1, aI (G.2 1) q_t_tally 42 m_39_2, oX1 q_p1 q_p1_partners q_p1_lengths m_31_0 m_31_1 m_31_2 m_31_3 q_p1_open q_p1_endAtRim m_31_4 m_31_5 m_31_6, aI (G.2 1) q_p1_partners 12 m_31_7, aI (G.2 1) q_p1_lengths 12 m_31_8, aI (G.2 1) q_p1_open 49 m_31_9, aI (G.2 1) q_p1_endAtRim 24 m_31_10, oX3 q_p2 m_26_2 q_p2_corners, aI (G.2 1) q_p2_corners 49 m_26_3]) [8, 0, 9, 10, 1, 2, 3, 4, 5, 6, 7] (by decide) rfl
      clear hPc hDc hFc hP1 hD1 hk9 hz9 hvm9
      refine lv_iinc (v := v4_1 + (1 : Int32)) (lv' := [(4, .int (v4_1 + (1 : Int32))), (0, .ref q_t), (1, .ref q_p1), (2, .ref q_p2), (3, .int r_9)]) hx hb dX0_sortByPartners_42 hl (k := 4) rfl rfl (by decide) rfl (fun ls hl => ?_)
      refine lv_goto (tgt := 16) hx hb dX0_sortByPartners_45 (by decide) ?_
      have e_1 := Option.some.inj hE
      exact ih_1 _ e_1.symm _ _ ls hP hD hS (lv_sub hl [1, 2, 3, 4, 0] rfl)
  · replace hE := (if_neg c_4).symm.trans hE
    have e_0 := Option.some.inj hE
    subst e_0
    rw [hQ]
    exact W.vret hx hb hr (fun t ht _ => ⟨⟨(), rfl, trivial, by rw [ht]; exact hP, hD⟩, hS.F ht⟩) hS.2.2 dX0_sortByPartners_7
