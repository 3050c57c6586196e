def S_X1_openPlaces (t_size : Int32) (t_open : Nat → Int32) (p1_corners : Nat → Int32) : Option (Nat → Int32) := itr (fun (x1 : Int32 × (Nat → Int32)) => if t_size < x1.1 then some (.inr x1.2) else itr (fun (x2 : Int32 × (Nat → Int32)) => if t_size < x2.1 then some (.inr (.inl (x1.1 + (1 : Int32), x2.2))) else (S_X3_isDrawnDown (x1.1 - (1 : Int32)) x2.1 p1_corners).bind (fun (y30 : Int32) => jn (if y30 = 0 then some (.inl (0 : Int32)) else some (.inl (1 : Int32))) (fun (x3 : Int32) => (S_X3_isDrawnAcross x1.1 x2.1 p1_corners).bind (fun (y49 : Int32) => jn (if y49 = 0 then some (.inl (0 : Int32)) else some (.inl (2 : Int32))) (fun (x4 : Int32) => (S_X3_isDrawnDown x1.1 x2.1 p1_corners).bind (fun (y68 : Int32) => jn (if y68 = 0 then some (.inl (0 : Int32)) else some (.inl (4 : Int32))) (fun (x5 : Int32) => (S_X3_isDrawnAcross x1.1 (x2.1 - (1 : Int32)) p1_corners).bind (fun (y89 : Int32) => jn (if y89 = 0 then some (.inl (0 : Int32)) else some (.inl (8 : Int32))) (fun (x6 : Int32) => ck (inb ((x1.1 * (7 : Int32)) + x2.1) 49) ((some (upd x2.2 ((x1.1 * (7 : Int32)) + x2.1).toNatClampNeg (((((0 : Int32) ||| x3) ||| x4) ||| x5) ||| x6))).bind (fun (z_116 : Nat → Int32) => some (.inl (x2.1 + (1 : Int32), z_116))))))))))))) 10000 ((1 : Int32), x1.2)) 10000 ((1 : Int32), t_open)
theorem kd_X1_openPlaces : yX1_openPlaces.cls = RX1 ∧ yX1_openPlaces.cls ≠ "java/lang/invoke/MethodHandle" ∧ yX1_openPlaces.cls ≠ "java/lang/invoke/VarHandle" ∧ (parseMethodDescriptor yX1_openPlaces.desc).map (fun d => d.parameters.length) = some 1 := by decide +kernel
set_option maxHeartbeats 4000000 in
set_option maxRecDepth 100000 in
theorem c_X1_openPlaces {l : Launch} {G : kG} (sz : Nat) {q_t : Nat} {q_t_partners : Nat} {q_t_lengths : Nat} {t_ringEdges : Int32} {t_rings : Int32} {t_size : Int32} {t_ends : Int32} {q_t_open : Nat} {q_t_endAtRim : Nat} {t_row : Int32} {t_column : Int32} {t_side : Int32} {t_open : Nat → Int32} {q_p1 : Nat} {p1_size : Int32} {q_p1_corners : Nat} {p1_corners : Nat → Int32} {res : Nat → Int32} (hE : S_X1_openPlaces t_size t_open p1_corners = some res) : Met l yX1_openPlaces wsX1_openPlaces ({ frames := 3, cells := 0, slots := 0, locals := 66 }) (va_Pc [.ref q_t, .ref q_p1] (fun U => U.heap.size = sz ∧ va_P G.1 vwCl [oX1 q_t q_t_partners q_t_lengths t_ringEdges t_rings t_size t_ends q_t_open q_t_endAtRim t_row t_column t_side, aI (G.2 1) q_t_open 49 t_open, oX3 q_p1 p1_size q_p1_corners, aI (G.2 1) q_p1_corners 49 p1_corners] U.heap ∧ kw G U ∧ va_D (fun _ => True) [oX1 q_t q_t_partners q_t_lengths t_ringEdges t_rings t_size t_ends q_t_open q_t_endAtRim t_row t_column t_side, aI (G.2 1) q_t_open 49 t_open, oX3 q_p1 p1_size q_p1_corners, aI (G.2 1) q_p1_corners 49 p1_corners])) (va_Qv (fun (_ : Unit) => True) (fun _ t => va_P G.1 vwCl [oX1 q_t q_t_partners q_t_lengths t_ringEdges t_rings t_size t_ends q_t_open q_t_endAtRim t_row t_column t_side, aI (G.2 1) q_t_open 49 res, oX3 q_p1 p1_size q_p1_corners, aI (G.2 1) q_p1_corners 49 p1_corners] t.heap ∧ va_D (va_A [oX1 q_t q_t_partners q_t_lengths t_ringEdges t_rings t_size t_ends q_t_open q_t_endAtRim t_row t_column t_side, aI (G.2 1) q_t_open 49 t_open, oX3 q_p1 p1_size q_p1_corners, aI (G.2 1) q_p1_corners 49 p1_corners] sz) [oX1 q_t q_t_partners q_t_lengths t_ringEdges t_rings t_size t_ends q_t_open q_t_endAtRim t_row t_column t_side, aI (G.2 1) q_t_open 49 res, oX3 q_p1 p1_size q_p1_corners, aI (G.2 1) q_p1_corners 49 p1_corners]) (va_A [oX1 q_t q_t_partners q_t_lengths t_ringEdges t_rings t_size t_ends q_t_open q_t_endAtRim t_row t_column t_side, aI (G.2 1) q_t_open 49 t_open, oX3 q_p1 p1_size q_p1_corners, aI (G.2 1) q_p1_corners 49 p1_corners] sz)) 0 0 (va_A [oX1 q_t q_t_partners q_t_lengths t_ringEdges t_rings t_size t_ends q_t_open q_t_endAtRim t_row t_column t_side, aI (G.2 1) q_t_open 49 t_open, oX3 q_p1 p1_size q_p1_corners, aI (G.2 1) q_p1_corners 49 p1_corners] sz) := by
  refine Met.ofQ (cc := cX1_openPlaces) (maxL := 5) (ret := none) (by decide) rfl ?_
  intro p e s m args below meth c s₁ Q hQ B hml hv
  obtain ⟨rfl, hsz, hP, hKW, hD0⟩ := hv
  have hK := hKW.1
  have hx := B.exec
  have hb := B.bytes
  have hr := B.returns
  have hts := atoms_spec (ws := wsX1_openPlaces) B.pre
  have hown : s.vm.findClass RX1 = some m.cls := findClass_of_methodNamed B.named
  have hlocks := B.notSynchronized
  have iX1 : ∀ w ∈ u_ws RX1 TX1 11, w ∈ wsX1_openPlaces := by decide +kernel
  have fl_30 := hts (.fieldLink RX1 30 "AlternateSigns$Lines" "size" "I") (by decide +kernel)
  have fl_18 := hts (.fieldLink RX1 18 "AlternateSigns$Lines" "open" "[I") (by decide +kernel)
  subst hsz
  have hD := hD0.self (sz := s.heap.size)
  generalize hAe : va_A [oX1 q_t q_t_partners q_t_lengths t_ringEdges t_rings t_size t_ends q_t_open q_t_endAtRim t_row t_column t_side, aI (G.2 1) q_t_open 49 t_open, oX3 q_p1 p1_size q_p1_corners, aI (G.2 1) q_p1_corners 49 p1_corners] s.heap.size = A at hD hQ
  have hA : ∀ q : Nat, s.heap.size ≤ q → A q := fun q h => by rw [← hAe]; exact Or.inr h
  have hS : va_S A s.heap s.heap [] := va_S.rf
  have hl := lv_entry ([.ref q_t, .ref q_p1]) (n := 5) (Nat.le_of_ble_eq_true rfl)
  rw [lg_entry_eq]
  generalize (lg_sl ([.ref q_t, .ref q_p1]) ++ List.replicate (5 - (lg_sl ([.ref q_t, .ref q_p1])).length) Slot.unset).toArray = ls at hl ⊢
  have hl : lv_has ls 5 [(0, .ref q_t), (1, .ref q_p1)] := hl
  unfold S_X1_openPlaces at hE
  refine lv_iconst (v := 1) hx hb dX1_openPlaces_0 (by decide) ?_
  refine lv_istore_n (lv' := [(2, .int (1 : Int32)), (0, .ref q_t), (1, .ref q_p1)]) hx hb dX1_openPlaces_1 rfl hl (by decide) rfl (fun ls hl => ?_)
  refine itr_ind (fun (x1 : Int32 × (Nat → Int32)) => ∀ (H : Heap) (locs : List Loc) (ls : Array Slot), va_P G.1 vwCl [oX1 q_t q_t_partners q_t_lengths t_ringEdges t_rings t_size t_ends q_t_open q_t_endAtRim t_row t_column t_side, aI (G.2 1) q_t_open 49 x1.2, oX3 q_p1 p1_size q_p1_corners, aI (G.2 1) q_p1_corners 49 p1_corners] H → va_D A [oX1 q_t q_t_partners q_t_lengths t_ringEdges t_rings t_size t_ends q_t_open q_t_endAtRim t_row t_column t_side, aI (G.2 1) q_t_open 49 x1.2, oX3 q_p1 p1_size q_p1_corners, aI (G.2 1) q_p1_corners 49 p1_corners] → va_S A s.heap H locs → lv_has ls 5 [(0, .ref q_t), (1, .ref q_p1), (2, .int x1.1)] → W p l e (headSpec wsX1_openPlaces ({ frames := 3, cells := 0, slots := 0, locals := 66 })).room s m ([.ref q_t, .ref q_p1] : List Value).toArray below meth c H locs 0 0 Q (F0 m 2 ls [])) (fun x1 o_1 hE ih_1 hr_1 => ?_) _ _ hE _ _ ls hP hD hS (lv_sub hl [1, 2, 0] rfl)
  obtain ⟨v2_1, w_t_open_1⟩ := x1
  try dsimp only at hE
  intro H locs ls hP hD hS hl
  try dsimp only at hP hD hl ⊢
  refine lv_iload_n hx hb dX1_openPlaces_2 rfl (lv_at hl 2 rfl) ?_
  refine lv_aload_n hx hb dX1_openPlaces_3 rfl (lv_at hl 0 rfl) ?_
  refine va_get (D := G.1) (ci := 1) (v := .int t_size) (C := RX1) (T := TX1) (N := 11) hx hb hts iX1 hown hK hP 0 rfl rfl 4 (by decide) fl_30 (fun _ h9 => h9) rfl dX1_openPlaces_4 ?_
  refine lv_icmp_gt (tgt := 129) hx hb dX1_openPlaces_7 (by decide) (fun c_7 => ?_) (fun c_7 => ?_)
  · replace hE := (if_pos c_7).symm.trans hE
    have e_1 := Option.some.inj hE
    have e_0 := hr_1 _ e_1.symm
    subst e_0
    rw [hQ]
    exact W.vret hx hb hr (fun t ht _ => ⟨⟨(), rfl, trivial, by rw [ht]; exact hP, hD⟩, hS.F ht⟩) hS.2.2 dX1_openPlaces_129
  · replace hE := (if_neg c_7).symm.trans hE
    refine lv_iconst (v := 1) hx hb dX1_openPlaces_10 (by decide) ?_
    refine lv_istore_n (lv' := [(3, .int (1 : Int32)), (0, .ref q_t), (1, .ref q_p1), (2, .int v2_1)]) hx hb dX1_openPlaces_11 rfl hl (by decide) rfl (fun ls hl => ?_)
    refine itr_ind (fun (x2 : Int32 × (Nat → Int32)) => ∀ (H : Heap) (locs : List Loc) (ls : Array Slot), va_P G.1 vwCl [oX1 q_t q_t_partners q_t_lengths t_ringEdges t_rings t_size t_ends q_t_open q_t_endAtRim t_row t_column t_side, aI (G.2 1) q_t_open 49 x2.2, oX3 q_p1 p1_size q_p1_corners, aI (G.2 1) q_p1_corners 49 p1_corners] H → va_D A [oX1 q_t q_t_partners q_t_lengths t_ringEdges t_rings t_size t_ends q_t_open q_t_endAtRim t_row t_column t_side, aI (G.2 1) q_t_open 49 x2.2, oX3 q_p1 p1_size q_p1_corners, aI (G.2 1) q_p1_corners 49 p1_corners] → va_S A s.heap H locs → lv_has ls 5 [(0, .ref q_t), (1, .ref q_p1), (2, .int v2_1), (3, .int x2.1)] → W p l e (headSpec wsX1_openPlaces ({ frames := 3, cells := 0, slots := 0, locals := 66 })).room s m ([.ref q_t, .ref q_p1] : List Value).toArray below meth c H locs 0 0 Q (F0 m 12 ls [])) (fun x2 o_2 hE ih_2 hr_2 => ?_) _ _ hE _ _ ls hP hD hS (lv_sub hl [1, 2, 3, 0] rfl)
    obtain ⟨v3_2, w_t_open_2⟩ := x2
    try dsimp only at hE
    intro H locs ls hP hD hS hl
    try dsimp only at hP hD hl ⊢
    refine lv_iload_n hx hb dX1_openPlaces_12 rfl (lv_at hl 3 rfl) ?_
    refine lv_aload_n hx hb dX1_openPlaces_13 rfl (lv_at hl 0 rfl) ?_
    refine va_get (D := G.1) (ci := 1) (v := .int t_size) (C := RX1) (T := TX1) (N := 11) hx hb hts iX1 hown hK hP 0 rfl rfl 4 (by decide) fl_30 (fun _ h9 => h9) rfl dX1_openPlaces_14 ?_
    refine lv_icmp_gt (tgt := 123) hx hb dX1_openPlaces_17 (by decide) (fun c_17 => ?_) (fun c_17 => ?_)
    · replace hE := (if_pos c_17).symm.trans hE
      refine lv_iinc (v := v2_1 + (1 : Int32)) (lv' := [(2, .int (v2_1 + (1 : Int32))), (0, .ref q_t), (1, .ref q_p1), (3, .int v3_2)]) hx hb dX1_openPlaces_123 hl (k := 2) rfl rfl (by decide) rfl (fun ls hl => ?_)
      refine lv_goto (tgt := 2) hx hb dX1_openPlaces_126 (by decide) ?_
      have e_2 := Option.some.inj hE
      have e_1 := hr_2 _ e_2.symm
      exact ih_1 _ e_1.symm _ _ ls hP hD hS (lv_sub hl [1, 2, 0] rfl)
    · replace hE := (if_neg c_17).symm.trans hE
      refine lv_iconst (v := 0) hx hb dX1_openPlaces_20 (by decide) ?_
      refine lv_istore (lv' := [(4, .int (0 : Int32)), (0, .ref q_t), (1, .ref q_p1), (2, .int v2_1), (3, .int v3_2)]) hx hb dX1_openPlaces_21 hl (by decide) rfl (fun ls hl => ?_)
      refine lv_iload hx hb dX1_openPlaces_23 (lv_at hl 0 rfl) ?_
      refine lv_aload_n hx hb dX1_openPlaces_25 rfl (lv_at hl 2 rfl) ?_
      refine lv_iload_n hx hb dX1_openPlaces_26 rfl (lv_at hl 3 rfl) ?_
      refine lv_iconst (v := 1) hx hb dX1_openPlaces_27 (by decide) ?_
      refine lv_isub hx hb dX1_openPlaces_28 ?_
      refine lv_iload_n hx hb dX1_openPlaces_29 rfl (lv_at hl 4 rfl) ?_
      obtain ⟨y30, hC_30, hE⟩ := Option.bind_eq_some_iff.mp hE
      obtain ⟨r_30, ex9⟩ : ∃ z, z = y30 := ⟨_, rfl⟩
      subst ex9
      try dsimp only at hE
      refine vp_callSi (va_Run.run (va_runV (As := [.int (v2_1 - (1 : Int32)), .int v3_2]) (rest := [.int (0 : Int32)]) ⟨hx, hb, hml, hown, hts⟩ (c_X3_isDrawnDown (l := l) (G := G) (p1 := v2_1 - (1 : Int32)) (p2 := v3_2) (q_t := q_p1) (t_size := p1_size) (q_t_corners := q_p1_corners) (t_corners := p1_corners) hC_30) (cwV 2 hts gX1_openPlaces_X3_isDrawnDown rfl rfl rfl kd_X3_isDrawnDown ⟨Nat.le_of_ble_eq_true rfl, Nat.le_of_ble_eq_true rfl⟩) (pv_V hKW (hP.sub (ws' := [oX3 q_p1 p1_size q_p1_corners, aI (G.2 1) q_p1_corners 49 p1_corners]) [2, 3] rfl) (ci := 3) (q0 := 0) rfl rfl) rfl rfl hl.1 rfl (lv_room (Nat.le_of_ble_eq_true rfl)) dX1_openPlaces_30 ⟨Nat.zero_le _, Nat.zero_le _⟩)) (fun r9 hr9 => ?_)
      subst r9
      obtain ⟨o_3, hEp, hk9, hr_3⟩ := jn_some hE
      have ih_3 : ∀ (x3 : Int32), o_3 = .inl x3 → ∀ (H : Heap) (locs : List Loc) (ls : Array Slot), va_P G.1 vwCl [oX1 q_t q_t_partners q_t_lengths t_ringEdges t_rings t_size t_ends q_t_open q_t_endAtRim t_row t_column t_side, aI (G.2 1) q_t_open 49 w_t_open_2, oX3 q_p1 p1_size q_p1_corners, aI (G.2 1) q_p1_corners 49 p1_corners] H → va_D A [oX1 q_t q_t_partners q_t_lengths t_ringEdges t_rings t_size t_ends q_t_open q_t_endAtRim t_row t_column t_side, aI (G.2 1) q_t_open 49 w_t_open_2, oX3 q_p1 p1_size q_p1_corners, aI (G.2 1) q_p1_corners 49 p1_corners] → va_S A s.heap H locs → lv_has ls 5 [(0, .ref q_t), (1, .ref q_p1), (2, .int v2_1), (3, .int v3_2)] → W p l e (headSpec wsX1_openPlaces ({ frames := 3, cells := 0, slots := 0, locals := 66 })).room s m ([.ref q_t, .ref q_p1] : List Value).toArray below meth c H locs 0 0 Q (F0 m 41 ls [.int x3, .int (0 : Int32)]) := by
        intro x3 ho9
        have hE := hk9 _ ho9
        obtain ⟨k1_3, ex9⟩ : ∃ z, z = x3 := ⟨_, rfl⟩
        subst ex9
        try dsimp only at hE
        intro H locs ls hP hD hS hl
        try dsimp only at hP hD hl ⊢
        refine lv_ior hx hb dX1_openPlaces_41 ?_
        refine lv_istore (lv' := [(4, .int ((0 : Int32) ||| k1_3)), (0, .ref q_t), (1, .ref q_p1), (2, .int v2_1), (3, .int v3_2)]) hx hb dX1_openPlaces_42 hl (by decide) rfl (fun ls hl => ?_)
        refine lv_iload hx hb dX1_openPlaces_44 (lv_at hl 0 rfl) ?_
        refine lv_aload_n hx hb dX1_openPlaces_46 rfl (lv_at hl 2 rfl) ?_
        refine lv_iload_n hx hb dX1_openPlaces_47 rfl (lv_at hl 3 rfl) ?_
        refine lv_iload_n hx hb dX1_openPlaces_48 rfl (lv_at hl 4 rfl) ?_
        obtain ⟨y49, hC_49, hE⟩ := Option.bind_eq_some_iff.mp hE
        obtain ⟨r_49, ex9⟩ : ∃ z, z = y49 := ⟨_, rfl⟩
        subst ex9
        try dsimp only at hE
        refine vp_callSi (va_Run.run (va_runV (As := [.int v2_1, .int v3_2]) (rest := [.int ((0 : Int32) ||| k1_3)]) ⟨hx, hb, hml, hown, hts⟩ (c_X3_isDrawnAcross (l := l) (G := G) (p1 := v2_1) (p2 := v3_2) (q_t := q_p1) (t_size := p1_size) (q_t_corners := q_p1_corners) (t_corners := p1_corners) hC_49) (cwV 2 hts gX1_openPlaces_X3_isDrawnAcross rfl rfl rfl kd_X3_isDrawnAcross ⟨Nat.le_of_ble_eq_true rfl, Nat.le_of_ble_eq_true rfl⟩) (pv_V hKW (hP.sub (ws' := [oX3 q_p1 p1_size q_p1_corners, aI (G.2 1) q_p1_corners 49 p1_corners]) [2, 3] rfl) (ci := 3) (q0 := 0) rfl rfl) rfl rfl hl.1 rfl (lv_room (Nat.le_of_ble_eq_true rfl)) dX1_openPlaces_49 ⟨Nat.zero_le _, Nat.zero_le _⟩)) (fun r9 hr9 => ?_)
        subst r9
        obtain ⟨o_3, hEp, hk9, hr_3⟩ := jn_some hE
        have ih_3 : ∀ (x4 : Int32), o_3 = .inl x4 → ∀ (H : Heap) (locs : List Loc) (ls : Array Slot), va_P G.1 vwCl [oX1 q_t q_t_partners q_t_lengths t_ringEdges t_rings t_size t_ends q_t_open q_t_endAtRim t_row t_column t_side, aI (G.2 1) q_t_open 49 w_t_open_2, oX3 q_p1 p1_size q_p1_corners, aI (G.2 1) q_p1_corners 49 p1_corners] H → va_D A [oX1 q_t q_t_partners q_t_lengths t_ringEdges t_rings t_size t_ends q_t_open q_t_endAtRim t_row t_column t_side, aI (G.2 1) q_t_open 49 w_t_open_2, oX3 q_p1 p1_size q_p1_corners, aI (G.2 1) q_p1_corners 49 p1_corners] → va_S A s.heap H locs → lv_has ls 5 [(0, .ref q_t), (1, .ref q_p1), (2, .int v2_1), (3, .int v3_2)] → W p l e (headSpec wsX1_openPlaces ({ frames := 3, cells := 0, slots := 0, locals := 66 })).room s m ([.ref q_t, .ref q_p1] : List Value).toArray below meth c H locs 0 0 Q (F0 m 60 ls [.int x4, .int ((0 : Int32) ||| k1_3)]) := by
          intro x4 ho9
          have hE := hk9 _ ho9
          obtain ⟨k1_4, ex9⟩ : ∃ z, z = x4 := ⟨_, rfl⟩
          subst ex9
          try dsimp only at hE
          intro H locs ls hP hD hS hl
          try dsimp only at hP hD hl ⊢
          refine lv_ior hx hb dX1_openPlaces_60 ?_
          refine lv_istore (lv' := [(4, .int (((0 : Int32) ||| k1_3) ||| k1_4)), (0, .ref q_t), (1, .ref q_p1), (2, .int v2_1), (3, .int v3_2)]) hx hb dX1_openPlaces_61 hl (by decide) rfl (fun ls hl => ?_)
          refine lv_iload hx hb dX1_openPlaces_63 (lv_at hl 0 rfl) ?_
          refine lv_aload_n hx hb dX1_openPlaces_65 rfl (lv_at hl 2 rfl) ?_
          refine lv_iload_n hx hb dX1_openPlaces_66 rfl (lv_at hl 3 rfl) ?_
          refine lv_iload_n hx hb dX1_openPlaces_67 rfl (lv_at hl 4 rfl) ?_
          obtain ⟨y68, hC_68, hE⟩ := Option.bind_eq_some_iff.mp hE
          obtain ⟨r_68, ex9⟩ : ∃ z, z = y68 := ⟨_, rfl⟩
          subst ex9
          try dsimp only at hE
          refine vp_callSi (va_Run.run (va_runV (As := [.int v2_1, .int v3_2]) (rest := [.int (((0 : Int32) ||| k1_3) ||| k1_4)]) ⟨hx, hb, hml, hown, hts⟩ (c_X3_isDrawnDown (l := l) (G := G) (p1 := v2_1) (p2 := v3_2) (q_t := q_p1) (t_size := p1_size) (q_t_corners := q_p1_corners) (t_corners := p1_corners) hC_68) (cwV 2 hts gX1_openPlaces_X3_isDrawnDown rfl rfl rfl kd_X3_isDrawnDown ⟨Nat.le_of_ble_eq_true rfl, Nat.le_of_ble_eq_true rfl⟩) (pv_V hKW (hP.sub (ws' := [oX3 q_p1 p1_size q_p1_corners, aI (G.2 1) q_p1_corners 49 p1_corners]) [2, 3] rfl) (ci := 3) (q0 := 0) rfl rfl) rfl rfl hl.1 rfl (lv_room (Nat.le_of_ble_eq_true rfl)) dX1_openPlaces_68 ⟨Nat.zero_le _, Nat.zero_le _⟩)) (fun r9 hr9 => ?_)
          subst r9
          obtain ⟨o_3, hEp, hk9, hr_3⟩ := jn_some hE
          have ih_3 : ∀ (x5 : Int32), o_3 = .inl x5 → ∀ (H : Heap) (locs : List Loc) (ls : Array Slot), va_P G.1 vwCl [oX1 q_t q_t_partners q_t_lengths t_ringEdges t_rings t_size t_ends q_t_open q_t_endAtRim t_row t_column t_side, aI (G.2 1) q_t_open 49 w_t_open_2, oX3 q_p1 p1_size q_p1_corners, aI (G.2 1) q_p1_corners 49 p1_corners] H → va_D A [oX1 q_t q_t_partners q_t_lengths t_ringEdges t_rings t_size t_ends q_t_open q_t_endAtRim t_row t_column t_side, aI (G.2 1) q_t_open 49 w_t_open_2, oX3 q_p1 p1_size q_p1_corners, aI (G.2 1) q_p1_corners 49 p1_corners] → va_S A s.heap H locs → lv_has ls 5 [(0, .ref q_t), (1, .ref q_p1), (2, .int v2_1), (3, .int v3_2)] → W p l e (headSpec wsX1_openPlaces ({ frames := 3, cells := 0, slots := 0, locals := 66 })).room s m ([.ref q_t, .ref q_p1] : List Value).toArray below meth c H locs 0 0 Q (F0 m 79 ls [.int x5, .int (((0 : Int32) ||| k1_3) ||| k1_4)]) := by
            intro x5 ho9
            have hE := hk9 _ ho9
            obtain ⟨k1_5, ex9⟩ : ∃ z, z = x5 := ⟨_, rfl⟩
            subst ex9
            try dsimp only at hE
            intro H locs ls hP hD hS hl
            try dsimp only at hP hD hl ⊢
            refine lv_ior hx hb dX1_openPlaces_79 ?_
            refine lv_istore (lv' := [(4, .int ((((0 : Int32) ||| k1_3) ||| k1_4) ||| k1_5)), (0, .ref q_t), (1, .ref q_p1), (2, .int v2_1), (3, .int v3_2)]) hx hb dX1_openPlaces_80 hl (by decide) rfl (fun ls hl => ?_)
            refine lv_iload hx hb dX1_openPlaces_82 (lv_at hl 0 rfl) ?_
            refine lv_aload_n hx hb dX1_openPlaces_84 rfl (lv_at hl 2 rfl) ?_
            refine lv_iload_n hx hb dX1_openPlaces_85 rfl (lv_at hl 3 rfl) ?_
            refine lv_iload_n hx hb dX1_openPlaces_86 rfl (lv_at hl 4 rfl) ?_
            refine lv_iconst (v := 1) hx hb dX1_openPlaces_87 (by decide) ?_
            refine lv_isub hx hb dX1_openPlaces_88 ?_
            obtain ⟨y89, hC_89, hE⟩ := Option.bind_eq_some_iff.mp hE
            obtain ⟨r_89, ex9⟩ : ∃ z, z = y89 := ⟨_, rfl⟩
            subst ex9
            try dsimp only at hE
            refine vp_callSi (va_Run.run (va_runV (As := [.int v2_1, .int (v3_2 - (1 : Int32))]) (rest := [.int ((((0 : Int32) ||| k1_3) ||| k1_4) ||| k1_5)]) ⟨hx, hb, hml, hown, hts⟩ (c_X3_isDrawnAcross (l := l) (G := G) (p1 := v2_1) (p2 := v3_2 - (1 : Int32)) (q_t := q_p1) (t_size := p1_size) (q_t_corners := q_p1_corners) (t_corners := p1_corners) hC_89) (cwV 2 hts gX1_openPlaces_X3_isDrawnAcross rfl rfl rfl kd_X3_isDrawnAcross ⟨Nat.le_of_ble_eq_true rfl, Nat.le_of_ble_eq_true rfl⟩) (pv_V hKW (hP.sub (ws' := [oX3 q_p1 p1_size q_p1_corners, aI (G.2 1) q_p1_corners 49 p1_corners]) [2, 3] rfl) (ci := 3) (q0 := 0) rfl rfl) rfl rfl hl.1 rfl (lv_room (Nat.le_of_ble_eq_true rfl)) dX1_openPlaces_89 ⟨Nat.zero_le _, Nat.zero_le _⟩)) (fun r9 hr9 => ?_)
            subst r9
            obtain ⟨o_3, hEp, hk9, hr_3⟩ := jn_some hE
            have ih_3 : ∀ (x6 : Int32), o_3 = .inl x6 → ∀ (H : Heap) (locs : List Loc) (ls : Array Slot), va_P G.1 vwCl [oX1 q_t q_t_partners q_t_lengths t_ringEdges t_rings t_size t_ends q_t_open q_t_endAtRim t_row t_column t_side, aI (G.2 1) q_t_open 49 w_t_open_2, oX3 q_p1 p1_size q_p1_corners, aI (G.2 1) q_p1_corners 49 p1_corners] H → va_D A [oX1 q_t q_t_partners q_t_lengths t_ringEdges t_rings t_size t_ends q_t_open q_t_endAtRim t_row t_column t_side, aI (G.2 1) q_t_open 49 w_t_open_2, oX3 q_p1 p1_size q_p1_corners, aI (G.2 1) q_p1_corners 49 p1_corners] → va_S A s.heap H locs → lv_has ls 5 [(0, .ref q_t), (1, .ref q_p1), (2, .int v2_1), (3, .int v3_2)] → W p l e (headSpec wsX1_openPlaces ({ frames := 3, cells := 0, slots := 0, locals := 66 })).room s m ([.ref q_t, .ref q_p1] : List Value).toArray below meth c H locs 0 0 Q (F0 m 101 ls [.int x6, .int ((((0 : Int32) ||| k1_3) ||| k1_4) ||| k1_5)]) := by
              intro x6 ho9
              have hE := hk9 _ ho9
              obtain ⟨k1_6, ex9⟩ : ∃ z, z = x6 := ⟨_, rfl⟩
              subst ex9
              try dsimp only at hE
              intro H locs ls hP hD hS hl
              try dsimp only at hP hD hl ⊢
              refine lv_ior hx hb dX1_openPlaces_101 ?_
              refine lv_istore (lv' := [(4, .int (((((0 : Int32) ||| k1_3) ||| k1_4) ||| k1_5) ||| k1_6)), (0, .ref q_t), (1, .ref q_p1), (2, .int v2_1), (3, .int v3_2)]) hx hb dX1_openPlaces_102 hl (by decide) rfl (fun ls hl => ?_)
              refine lv_aload_n hx hb dX1_openPlaces_104 rfl (lv_at hl 1 rfl) ?_
              refine va_get (D := G.1) (ci := 1) (v := .ref q_t_open) (C := RX1) (T := TX1) (N := 11) hx hb hts iX1 hown hK hP 0 rfl rfl 6 (by decide) fl_18 (fun _ h9 => h9) rfl dX1_openPlaces_105 ?_
              refine lv_iload_n hx hb dX1_openPlaces_108 rfl (lv_at hl 3 rfl) ?_
              refine lv_bipush (v := 7) hx hb dX1_openPlaces_109 (by decide) ?_
              refine lv_imul hx hb dX1_openPlaces_111 ?_
              refine lv_iload_n hx hb dX1_openPlaces_112 rfl (lv_at hl 4 rfl) ?_
              refine lv_iadd hx hb dX1_openPlaces_113 ?_
              refine lv_iload hx hb dX1_openPlaces_114 (lv_at hl 0 rfl) ?_
              obtain ⟨hi_116, hE⟩ := ck_some hE
              refine va_iast hx hb hK hP hD hS 1 1 rfl rfl (inb_in hi_116) dX1_openPlaces_116 (fun H locs hP hD hS => ?_)
              have hP : va_P G.1 vwCl [oX1 q_t q_t_partners q_t_lengths t_ringEdges t_rings t_size t_ends q_t_open q_t_endAtRim t_row t_column t_side, aI (G.2 1) q_t_open 49 (upd w_t_open_2 ((v2_1 * (7 : Int32)) + v3_2).toNatClampNeg (((((0 : Int32) ||| k1_3) ||| k1_4) ||| k1_5) ||| k1_6)), oX3 q_p1 p1_size q_p1_corners, aI (G.2 1) q_p1_corners 49 p1_corners] H := hP
              have hD : va_D A [oX1 q_t q_t_partners q_t_lengths t_ringEdges t_rings t_size t_ends q_t_open q_t_endAtRim t_row t_column t_side, aI (G.2 1) q_t_open 49 (upd w_t_open_2 ((v2_1 * (7 : Int32)) + v3_2).toNatClampNeg (((((0 : Int32) ||| k1_3) ||| k1_4) ||| k1_5) ||| k1_6)), oX3 q_p1 p1_size q_p1_corners, aI (G.2 1) q_p1_corners 49 p1_corners] := hD
              obtain ⟨z_116, ez9⟩ : ∃ w, w = upd w_t_open_2 ((v2_1 * (7 : Int32)) + v3_2).toNatClampNeg (((((0 : Int32) ||| k1_3) ||| k1_4) ||| k1_5) ||| k1_6) := ⟨_, rfl⟩
              rw [← ez9] at hE hP hD
              replace hE := bs_some hE
              try dsimp only at hE
              clear ez9
              refine lv_iinc (v := v3_2 + (1 : Int32)) (lv' := [(3, .int (v3_2 + (1 : Int32))), (4, .int (((((0 : Int32) ||| k1_3) ||| k1_4) ||| k1_5) ||| k1_6)), (0, .ref q_t), (1, .ref q_p1), (2, .int v2_1)]) hx hb dX1_openPlaces_117 hl (k := 4) rfl rfl (by decide) rfl (fun ls hl => ?_)
              refine lv_goto (tgt := 12) hx hb dX1_openPlaces_120 (by decide) ?_
              have e_2 := Option.some.inj hE
              exact ih_2 _ e_2.symm _ _ ls hP hD hS (lv_sub hl [2, 3, 4, 0] rfl)
            clear hE hk9
            have hE := hEp
            clear hEp
            refine lv_if_eq (tgt := 100) hx hb dX1_openPlaces_92 (by decide) (fun c_92 => ?_) (fun c_92 => ?_)
            · replace hE := (if_pos c_92).symm.trans hE
              refine lv_iconst (v := 0) hx hb dX1_openPlaces_100 (by decide) ?_
              have e_3 := Option.some.inj hE
              exact ih_3 _ e_3.symm _ _ ls hP hD hS (lv_sub hl [1, 2, 3, 4] rfl)
            · replace hE := (if_neg c_92).symm.trans hE
              refine lv_bipush (v := 8) hx hb dX1_openPlaces_95 (by decide) ?_
              refine lv_goto (tgt := 101) hx hb dX1_openPlaces_97 (by decide) ?_
              have e_3 := Option.some.inj hE
              exact ih_3 _ e_3.symm _ _ ls hP hD hS (lv_sub hl [1, 2, 3, 4] rfl)
          clear hE hk9
          have hE := hEp
          clear hEp
          refine lv_if_eq (tgt := 78) hx hb dX1_openPlaces_71 (by decide) (fun c_71 => ?_) (fun c_71 => ?_)
          · replace hE := (if_pos c_71).symm.trans hE
            refine lv_iconst (v := 0) hx hb dX1_openPlaces_78 (by decide) ?_
            have e_3 := Option.some.inj hE
            exact ih_3 _ e_3.symm _ _ ls hP hD hS (lv_sub hl [1, 2, 3, 4] rfl)
          · replace hE := (if_neg c_71).symm.trans hE
            refine lv_iconst (v := 4) hx hb dX1_openPlaces_74 (by decide) ?_
            refine lv_goto (tgt := 79) hx hb dX1_openPlaces_75 (by decide) ?_
            have e_3 := Option.some.inj hE
            exact ih_3 _ e_3.symm _ _ ls hP hD hS (lv_sub hl [1, 2, 3, 4] rfl)
        clear hE hk9
        have hE := hEp
        clear hEp
        refine lv_if_eq (tgt := 59) hx hb dX1_openPlaces_52 (by decide) (fun c_52 => ?_) (fun c_52 => ?_)
        · replace hE := (if_pos c_52).symm.trans hE
          refine lv_iconst (v := 0) hx hb dX1_openPlaces_59 (by decide) ?_
          have e_3 := Option.some.inj hE
          exact ih_3 _ e_3.symm _ _ ls hP hD hS (lv_sub hl [1, 2, 3, 4] rfl)
        · replace hE := (if_neg c_52).symm.trans hE
          refine lv_iconst (v := 2) hx hb dX1_openPlaces_55 (by decide) ?_
          refine lv_goto (tgt := 60) hx hb dX1_openPlaces_56 (by decide) ?_
          have e_3 := Option.some.inj hE
          exact ih_3 _ e_3.symm _ _ ls hP hD hS (lv_sub hl [1, 2, 3, 4] rfl)
      clear hE hk9
      have hE := hEp
      clear hEp
      refine lv_if_eq (tgt := 40) hx hb dX1_openPlaces_33 (by decide) (fun c_33 => ?_) (fun c_33 => ?_)
      · replace hE := (if_pos c_33).symm.trans hE
        refine lv_iconst (v := 0) hx hb dX1_openPlaces_40 (by decide) ?_
        have e_3 := Option.some.inj hE
        exact ih_3 _ e_3.symm _ _ ls hP hD hS (lv_sub hl [1, 2, 3, 4] rfl)
      · replace hE := (if_neg c_33).symm.trans hE
        refine lv_iconst (v := 1) hx hb dX1_openPlaces_36 (by decide) ?_
        refine lv_goto (tgt := 41) hx hb dX1_openPlaces_37 (by decide) ?_
        have e_3 := Option.some.inj hE
        exact ih_3 _ e_3.symm _ _ ls hP hD hS (lv_sub hl [1, 2, 3, 4] rfl)
def S_X1_standAtRim (p1 : Int32) (p2 : Int32) (t_size : Int32) : Option (Int32 × Int32 × Int32) := jn (if p1 = 0 then some (.inl (1 : Int32)) else if p1 = (1 : Int32) then some (.inl (p2 + (1 : Int32))) else if p1 = (2 : Int32) then some (.inl t_size) else some (.inl (t_size - p2))) (fun (x1 : Int32) => jn (if p1 = 0 then some (.inl (p2 + (1 : Int32))) else if p1 = (1 : Int32) then some (.inl t_size) else if p1 = (2 : Int32) then some (.inl (t_size - p2)) else some (.inl (1 : Int32))) (fun (x2 : Int32) => some (x1, x2, p1)))
theorem kd_X1_standAtRim : yX1_standAtRim.cls = RX1 ∧ yX1_standAtRim.cls ≠ "java/lang/invoke/MethodHandle" ∧ yX1_standAtRim.cls ≠ "java/lang/invoke/VarHandle" ∧ (parseMethodDescriptor yX1_standAtRim.desc).map (fun d => d.parameters.length) = some 2 := by decide +kernel
set_option maxHeartbeats 4000000 in
set_option maxRecDepth 100000 in
theorem c_X1_standAtRim {l : Launch} {G : kG} (sz : Nat) {p1 : Int32} {p2 : Int32} {q_t : Nat} {q_t_partners : Nat} {q_t_lengths : Nat} {t_ringEdges : Int32} {t_rings : Int32} {t_size : Int32} {t_ends : Int32} {q_t_open : Nat} {q_t_endAtRim : Nat} {t_row : Int32} {t_column : Int32} {t_side : Int32} {res : Int32 × Int32 × Int32} (hE : S_X1_standAtRim p1 p2 t_size = some res) : Met l yX1_standAtRim wsX1_standAtRim ({ frames := 0, cells := 0, slots := 0, locals := 0 }) (va_Pc [.ref q_t, .int p1, .int p2] (fun U => U.heap.size = sz ∧ va_P G.1 vwCl [oX1 q_t q_t_partners q_t_lengths t_ringEdges t_rings t_size t_ends q_t_open q_t_endAtRim t_row t_column t_side] U.heap ∧ kw G U ∧ va_D (fun _ => True) [oX1 q_t q_t_partners q_t_lengths t_ringEdges t_rings t_size t_ends q_t_open q_t_endAtRim t_row t_column t_side])) (va_Qv (fun (_ : Unit) => True) (fun _ t => va_P G.1 vwCl [oX1 q_t q_t_partners q_t_lengths t_ringEdges t_rings t_size t_ends q_t_open q_t_endAtRim res.1 res.2.1 res.2.2] t.heap ∧ va_D (va_A [oX1 q_t q_t_partners q_t_lengths t_ringEdges t_rings t_size t_ends q_t_open q_t_endAtRim t_row t_column t_side] sz) [oX1 q_t q_t_partners q_t_lengths t_ringEdges t_rings t_size t_ends q_t_open q_t_endAtRim res.1 res.2.1 res.2.2]) (va_A [oX1 q_t q_t_partners q_t_lengths t_ringEdges t_rings t_size t_ends q_t_open q_t_endAtRim t_row t_column t_side] sz)) 0 0 (va_A [oX1 q_t q_t_partners q_t_lengths t_ringEdges t_rings t_size t_ends q_t_open q_t_endAtRim t_row t_column t_side] sz) := by
  refine Met.ofQ (cc := cX1_standAtRim) (maxL := 4) (ret := none) (by decide) rfl ?_
  intro p e s m args below meth c s₁ Q hQ B hml hv
  obtain ⟨rfl, hsz, hP, hKW, hD0⟩ := hv
  have hK := hKW.1
  have hx := B.exec
  have hb := B.bytes
  have hr := B.returns
  have hts := atoms_spec (ws := wsX1_standAtRim) B.pre
  have hown : s.vm.findClass RX1 = some m.cls := findClass_of_methodNamed B.named
  have hlocks := B.notSynchronized
  have iX1 : ∀ w ∈ u_ws RX1 TX1 11, w ∈ wsX1_standAtRim := by decide +kernel
  have fl_30 := hts (.fieldLink RX1 30 "AlternateSigns$Lines" "size" "I") (by decide +kernel)
  have fl_64 := hts (.fieldLink RX1 64 "AlternateSigns$Lines" "row" "I") (by decide +kernel)
  have fl_67 := hts (.fieldLink RX1 67 "AlternateSigns$Lines" "column" "I") (by decide +kernel)
  have fl_70 := hts (.fieldLink RX1 70 "AlternateSigns$Lines" "side" "I") (by decide +kernel)
  subst hsz
  have hD := hD0.self (sz := s.heap.size)
  generalize hAe : va_A [oX1 q_t q_t_partners q_t_lengths t_ringEdges t_rings t_size t_ends q_t_open q_t_endAtRim t_row t_column t_side] s.heap.size = A at hD hQ
  have hA : ∀ q : Nat, s.heap.size ≤ q → A q := fun q h => by rw [← hAe]; exact Or.inr h
  have hS : va_S A s.heap s.heap [] := va_S.rf
  have hl := lv_entry ([.ref q_t, .int p1, .int p2]) (n := 4) (Nat.le_of_ble_eq_true rfl)
  rw [lg_entry_eq]
  generalize (lg_sl ([.ref q_t, .int p1, .int p2]) ++ List.replicate (4 - (lg_sl ([.ref q_t, .int p1, .int p2])).length) Slot.unset).toArray = ls at hl ⊢
  have hl : lv_has ls 4 [(0, .ref q_t), (1, .int p1), (2, .int p2)] := hl
  unfold S_X1_standAtRim at hE
  refine lv_aload_n hx hb dX1_standAtRim_0 rfl (lv_at hl 0 rfl) ?_
  refine va_get (D := G.1) (ci := 1) (v := .int t_size) (C := RX1) (T := TX1) (N := 11) hx hb hts iX1 hown hK hP 0 rfl rfl 4 (by decide) fl_30 (fun _ h9 => h9) rfl dX1_standAtRim_1 ?_
  refine lv_iload_n hx hb dX1_standAtRim_4 rfl (lv_at hl 2 rfl) ?_
  refine lv_isub hx hb dX1_standAtRim_5 ?_
  refine lv_istore_n (lv' := [(3, .int (t_size - p2)), (0, .ref q_t), (1, .int p1), (2, .int p2)]) hx hb dX1_standAtRim_6 rfl hl (by decide) rfl (fun ls hl => ?_)
  refine lv_aload_n hx hb dX1_standAtRim_7 rfl (lv_at hl 1 rfl) ?_
  refine lv_iload_n hx hb dX1_standAtRim_8 rfl (lv_at hl 2 rfl) ?_
  obtain ⟨o_1, hEp, hk9, hr_1⟩ := jn_some hE
  have ih_1 : ∀ (x1 : Int32), o_1 = .inl x1 → ∀ (H : Heap) (locs : List Loc) (ls : Array Slot), va_P G.1 vwCl [oX1 q_t q_t_partners q_t_lengths t_ringEdges t_rings t_size t_ends q_t_open q_t_endAtRim t_row t_column t_side] H → va_D A [oX1 q_t q_t_partners q_t_lengths t_ringEdges t_rings t_size t_ends q_t_open q_t_endAtRim t_row t_column t_side] → va_S A s.heap H locs → lv_has ls 4 [(0, .ref q_t), (1, .int p1), (2, .int p2), (3, .int (t_size - p2))] → W p l e (headSpec wsX1_standAtRim ({ frames := 0, cells := 0, slots := 0, locals := 0 })).room s m ([.ref q_t, .int p1, .int p2] : List Value).toArray below meth c H locs 0 0 Q (F0 m 40 ls [.int x1, .ref q_t]) := by
    intro x1 ho9
    have hE := hk9 _ ho9
    obtain ⟨k1_1, ex9⟩ : ∃ z, z = x1 := ⟨_, rfl⟩
    subst ex9
    try dsimp only at hE
    intro H locs ls hP hD hS hl
    try dsimp only at hP hD hl ⊢
    refine va_put (D := G.1) (ci := 1) (v := .int k1_1) (ty := .int) (C := RX1) (T := TX1) (N := 11) hx hb hts iX1 tyX1 tyX1_ok nmX1 hown hK hP hD hS 0 rfl rfl 8 (by decide) fl_64 (fun _ h9 => h9) rfl (by decide +kernel) rfl rfl (Nat.le_of_ble_eq_true rfl) dX1_standAtRim_40 (fun H locs hP hD hS => ?_)
    have hP : va_P G.1 vwCl [oX1 q_t q_t_partners q_t_lengths t_ringEdges t_rings t_size t_ends q_t_open q_t_endAtRim k1_1 t_column t_side] H := hP
    have hD : va_D A [oX1 q_t q_t_partners q_t_lengths t_ringEdges t_rings t_size t_ends q_t_open q_t_endAtRim k1_1 t_column t_side] := hD
    refine lv_aload_n hx hb dX1_standAtRim_43 rfl (lv_at hl 0 rfl) ?_
    refine lv_iload_n hx hb dX1_standAtRim_44 rfl (lv_at hl 1 rfl) ?_
    obtain ⟨o_1, hEp, hk9, hr_1⟩ := jn_some hE
    have ih_1 : ∀ (x2 : Int32), o_1 = .inl x2 → ∀ (H : Heap) (locs : List Loc) (ls : Array Slot), va_P G.1 vwCl [oX1 q_t q_t_partners q_t_lengths t_ringEdges t_rings t_size t_ends q_t_open q_t_endAtRim k1_1 t_column t_side] H → va_D A [oX1 q_t q_t_partners q_t_lengths t_ringEdges t_rings t_size t_ends q_t_open q_t_endAtRim k1_1 t_column t_side] → va_S A s.heap H locs → lv_has ls 4 [(0, .ref q_t), (1, .int p1)] → W p l e (headSpec wsX1_standAtRim ({ frames := 0, cells := 0, slots := 0, locals := 0 })).room s m ([.ref q_t, .int p1, .int p2] : List Value).toArray below meth c H locs 0 0 Q (F0 m 76 ls [.int x2, .ref q_t]) := by
      intro x2 ho9
      have hE := hk9 _ ho9
      obtain ⟨k1_2, ex9⟩ : ∃ z, z = x2 := ⟨_, rfl⟩
      subst ex9
      try dsimp only at hE
      intro H locs ls hP hD hS hl
      try dsimp only at hP hD hl ⊢
      refine va_put (D := G.1) (ci := 1) (v := .int k1_2) (ty := .int) (C := RX1) (T := TX1) (N := 11) hx hb hts iX1 tyX1 tyX1_ok nmX1 hown hK hP hD hS 0 rfl rfl 9 (by decide) fl_67 (fun _ h9 => h9) rfl (by decide +kernel) rfl rfl (Nat.le_of_ble_eq_true rfl) dX1_standAtRim_76 (fun H locs hP hD hS => ?_)
      have hP : va_P G.1 vwCl [oX1 q_t q_t_partners q_t_lengths t_ringEdges t_rings t_size t_ends q_t_open q_t_endAtRim k1_1 k1_2 t_side] H := hP
      have hD : va_D A [oX1 q_t q_t_partners q_t_lengths t_ringEdges t_rings t_size t_ends q_t_open q_t_endAtRim k1_1 k1_2 t_side] := hD
      refine lv_aload_n hx hb dX1_standAtRim_79 rfl (lv_at hl 0 rfl) ?_
      refine lv_iload_n hx hb dX1_standAtRim_80 rfl (lv_at hl 1 rfl) ?_
      refine va_put (D := G.1) (ci := 1) (v := .int p1) (ty := .int) (C := RX1) (T := TX1) (N := 11) hx hb hts iX1 tyX1 tyX1_ok nmX1 hown hK hP hD hS 0 rfl rfl 10 (by decide) fl_70 (fun _ h9 => h9) rfl (by decide +kernel) rfl rfl (Nat.le_of_ble_eq_true rfl) dX1_standAtRim_81 (fun H locs hP hD hS => ?_)
      have hP : va_P G.1 vwCl [oX1 q_t q_t_partners q_t_lengths t_ringEdges t_rings t_size t_ends q_t_open q_t_endAtRim k1_1 k1_2 p1] H := hP
      have hD : va_D A [oX1 q_t q_t_partners q_t_lengths t_ringEdges t_rings t_size t_ends q_t_open q_t_endAtRim k1_1 k1_2 p1] := hD
      have e_0 := Option.some.inj hE
      subst e_0
      rw [hQ]
      exact W.vret hx hb hr (fun t ht _ => ⟨⟨(), rfl, trivial, by rw [ht]; exact hP, hD⟩, hS.F ht⟩) hS.2.2 dX1_standAtRim_84
    clear hE hk9
    have hE := hEp
    clear hEp
    refine lv_if_ne (tgt := 54) hx hb dX1_standAtRim_45 (by decide) (fun c_45 => ?_) (fun c_45 => ?_)
    · replace hE := (if_neg c_45).symm.trans hE
      refine lv_iload_n hx hb dX1_standAtRim_54 rfl (lv_at hl 1 rfl) ?_
      refine lv_iconst (v := 1) hx hb dX1_standAtRim_55 (by decide) ?_
      refine lv_icmp_ne (tgt := 66) hx hb dX1_standAtRim_56 (by decide) (fun c_56 => ?_) (fun c_56 => ?_)
      · replace hE := (if_neg c_56).symm.trans hE
        refine lv_iload_n hx hb dX1_standAtRim_66 rfl (lv_at hl 1 rfl) ?_
        refine lv_iconst (v := 2) hx hb dX1_standAtRim_67 (by decide) ?_
        refine lv_icmp_ne (tgt := 75) hx hb dX1_standAtRim_68 (by decide) (fun c_68 => ?_) (fun c_68 => ?_)
        · replace hE := (if_neg c_68).symm.trans hE
          refine lv_iconst (v := 1) hx hb dX1_standAtRim_75 (by decide) ?_
          have e_1 := Option.some.inj hE
          exact ih_1 _ e_1.symm _ _ ls hP hD hS (lv_sub hl [0, 1] rfl)
        · replace hE := (if_pos c_68).symm.trans hE
          refine lv_iload_n hx hb dX1_standAtRim_71 rfl (lv_at hl 3 rfl) ?_
          refine lv_goto (tgt := 76) hx hb dX1_standAtRim_72 (by decide) ?_
          have e_1 := Option.some.inj hE
          exact ih_1 _ e_1.symm _ _ ls hP hD hS (lv_sub hl [0, 1] rfl)
      · replace hE := (if_pos c_56).symm.trans hE
        refine lv_aload_n hx hb dX1_standAtRim_59 rfl (lv_at hl 0 rfl) ?_
        refine va_get (D := G.1) (ci := 1) (v := .int t_size) (C := RX1) (T := TX1) (N := 11) hx hb hts iX1 hown hK hP 0 rfl rfl 4 (by decide) fl_30 (fun _ h9 => h9) rfl dX1_standAtRim_60 ?_
        refine lv_goto (tgt := 76) hx hb dX1_standAtRim_63 (by decide) ?_
        have e_1 := Option.some.inj hE
        exact ih_1 _ e_1.symm _ _ ls hP hD hS (lv_sub hl [0, 1] rfl)
    · replace hE := (if_pos c_45).symm.trans hE
      refine lv_iload_n hx hb dX1_standAtRim_48 rfl (lv_at hl 2 rfl) ?_
      refine lv_iconst (v := 1) hx hb dX1_standAtRim_49 (by decide) ?_
      refine lv_iadd hx hb dX1_standAtRim_50 ?_
      refine lv_goto (tgt := 76) hx hb dX1_standAtRim_51 (by decide) ?_
      have e_1 := Option.some.inj hE
      exact ih_1 _ e_1.symm _ _ ls hP hD hS (lv_sub hl [0, 1] rfl)
  clear hE hk9
  have hE := hEp
  clear hEp
  refine lv_if_ne (tgt := 16) hx hb dX1_standAtRim_9 (by decide) (fun c_9 => ?_) (fun c_9 => ?_)
  · replace hE := (if_neg c_9).symm.trans hE
    refine lv_iload_n hx hb dX1_standAtRim_16 rfl (lv_at hl 2 rfl) ?_
    refine lv_iconst (v := 1) hx hb dX1_standAtRim_17 (by decide) ?_
    refine lv_icmp_ne (tgt := 27) hx hb dX1_standAtRim_18 (by decide) (fun c_18 => ?_) (fun c_18 => ?_)
    · replace hE := (if_neg c_18).symm.trans hE
      refine lv_iload_n hx hb dX1_standAtRim_27 rfl (lv_at hl 2 rfl) ?_
      refine lv_iconst (v := 2) hx hb dX1_standAtRim_28 (by decide) ?_
      refine lv_icmp_ne (tgt := 39) hx hb dX1_standAtRim_29 (by decide) (fun c_29 => ?_) (fun c_29 => ?_)
      · replace hE := (if_neg c_29).symm.trans hE
        refine lv_iload_n hx hb dX1_standAtRim_39 rfl (lv_at hl 0 rfl) ?_
        have e_1 := Option.some.inj hE
        exact ih_1 _ e_1.symm _ _ ls hP hD hS (lv_sub hl [1, 2, 3, 0] rfl)
      · replace hE := (if_pos c_29).symm.trans hE
        refine lv_aload_n hx hb dX1_standAtRim_32 rfl (lv_at hl 1 rfl) ?_
        refine va_get (D := G.1) (ci := 1) (v := .int t_size) (C := RX1) (T := TX1) (N := 11) hx hb hts iX1 hown hK hP 0 rfl rfl 4 (by decide) fl_30 (fun _ h9 => h9) rfl dX1_standAtRim_33 ?_
        refine lv_goto (tgt := 40) hx hb dX1_standAtRim_36 (by decide) ?_
        have e_1 := Option.some.inj hE
        exact ih_1 _ e_1.symm _ _ ls hP hD hS (lv_sub hl [1, 2, 3, 0] rfl)
    · replace hE := (if_pos c_18).symm.trans hE
      refine lv_iload_n hx hb dX1_standAtRim_21 rfl (lv_at hl 3 rfl) ?_
      refine lv_iconst (v := 1) hx hb dX1_standAtRim_22 (by decide) ?_
      refine lv_iadd hx hb dX1_standAtRim_23 ?_
      refine lv_goto (tgt := 40) hx hb dX1_standAtRim_24 (by decide) ?_
      have e_1 := Option.some.inj hE
      exact ih_1 _ e_1.symm _ _ ls hP hD hS (lv_sub hl [1, 2, 3, 0] rfl)
  · replace hE := (if_pos c_9).symm.trans hE
    refine lv_iconst (v := 1) hx hb dX1_standAtRim_12 (by decide) ?_
    refine lv_goto (tgt := 40) hx hb dX1_standAtRim_13 (by decide) ?_
    have e_1 := Option.some.inj hE
    exact ih_1 _ e_1.symm _ _ ls hP hD hS (lv_sub hl [1, 2, 3, 0] rfl)
def S_X1_isOpen (p1 : Int32) (t_row : Int32) (t_column : Int32) (t_open : Nat → Int32) : Option Int32 := ck (inb ((t_row * (7 : Int32)) + t_column) 49) (if (((t_open ((t_row * (7 : Int32)) + t_column).toNatClampNeg) >>> (p1 &&& 31)) &&& (1 : Int32)) = (1 : Int32) then some (1 : Int32) else some (0 : Int32))
theorem kd_X1_isOpen : yX1_isOpen.cls = RX1 ∧ yX1_isOpen.cls ≠ "java/lang/invoke/MethodHandle" ∧ yX1_isOpen.cls ≠ "java/lang/invoke/VarHandle" ∧ (parseMethodDescriptor yX1_isOpen.desc).map (fun d => d.parameters.length) = some 1 := by decide +kernel
set_option maxHeartbeats 4000000 in
set_option maxRecDepth 100000 in
theorem c_X1_isOpen {l : Launch} {G : kG} {p1 : Int32} {q_t : Nat} {q_t_partners : Nat} {q_t_lengths : Nat} {t_ringEdges : Int32} {t_rings : Int32} {t_size : Int32} {t_ends : Int32} {q_t_open : Nat} {q_t_endAtRim : Nat} {t_row : Int32} {t_column : Int32} {t_side : Int32} {t_open : Nat → Int32} {res : Int32} (hE : S_X1_isOpen p1 t_row t_column t_open = some res) : Met l yX1_isOpen wsX1_isOpen ({ frames := 0, cells := 0, slots := 0, locals := 0 }) (va_Pc [.ref q_t, .int p1] (fun U => va_P G.1 vwCl [oX1 q_t q_t_partners q_t_lengths t_ringEdges t_rings t_size t_ends q_t_open q_t_endAtRim t_row t_column t_side, aI (G.2 1) q_t_open 49 t_open] U.heap ∧ kw G U)) (vp_Si (fun r => r = res)) 0 0 (fun _ => False) := by
  refine Met.ofQ (cc := cX1_isOpen) (maxL := 2) (ret := (some .boolean)) (by decide) rfl ?_
  intro p e s m args below meth c s₁ Q hQ B hml hv
  obtain ⟨rfl, hP, hKW⟩ := hv
  have hK := hKW.1
  have hx := B.exec
  have hb := B.bytes
  have hr := B.returns
  have hts := atoms_spec (ws := wsX1_isOpen) B.pre
  have hown : s.vm.findClass RX1 = some m.cls := findClass_of_methodNamed B.named
  have hlocks := B.notSynchronized
  have iX1 : ∀ w ∈ u_ws RX1 TX1 11, w ∈ wsX1_isOpen := by decide +kernel
  have fl_18 := hts (.fieldLink RX1 18 "AlternateSigns$Lines" "open" "[I") (by decide +kernel)
  have fl_64 := hts (.fieldLink RX1 64 "AlternateSigns$Lines" "row" "I") (by decide +kernel)
  have fl_67 := hts (.fieldLink RX1 67 "AlternateSigns$Lines" "column" "I") (by decide +kernel)
  have hl := lv_entry ([.ref q_t, .int p1]) (n := 2) (Nat.le_of_ble_eq_true rfl)
  rw [lg_entry_eq]
  generalize (lg_sl ([.ref q_t, .int p1]) ++ List.replicate (2 - (lg_sl ([.ref q_t, .int p1])).length) Slot.unset).toArray = ls at hl ⊢
  have hl : lv_has ls 2 [(0, .ref q_t), (1, .int p1)] := hl
  unfold S_X1_isOpen at hE
  refine lv_aload_n hx hb dX1_isOpen_0 rfl (lv_at hl 0 rfl) ?_
  refine va_get (D := G.1) (ci := 1) (v := .ref q_t_open) (C := RX1) (T := TX1) (N := 11) hx hb hts iX1 hown hK hP 0 rfl rfl 6 (by decide) fl_18 (fun _ h9 => h9) rfl dX1_isOpen_1 ?_
  refine lv_aload_n hx hb dX1_isOpen_4 rfl (lv_at hl 0 rfl) ?_
  refine va_get (D := G.1) (ci := 1) (v := .int t_row) (C := RX1) (T := TX1) (N := 11) hx hb hts iX1 hown hK hP 0 rfl rfl 8 (by decide) fl_64 (fun _ h9 => h9) rfl dX1_isOpen_5 ?_
  refine lv_bipush (v := 7) hx hb dX1_isOpen_8 (by decide) ?_
  refine lv_imul hx hb dX1_isOpen_10 ?_
  refine lv_aload_n hx hb dX1_isOpen_11 rfl (lv_at hl 0 rfl) ?_
  refine va_get (D := G.1) (ci := 1) (v := .int t_column) (C := RX1) (T := TX1) (N := 11) hx hb hts iX1 hown hK hP 0 rfl rfl 9 (by decide) fl_67 (fun _ h9 => h9) rfl dX1_isOpen_12 ?_
  refine lv_iadd hx hb dX1_isOpen_15 ?_
  obtain ⟨hi_16, hE⟩ := ck_some hE
  refine va_iald hx hb hK hP 1 1 rfl rfl (inb_in hi_16) dX1_isOpen_16 ?_
  refine lv_iload_n hx hb dX1_isOpen_17 rfl (lv_at hl 1 rfl) ?_
  refine lv_ishr hx hb dX1_isOpen_18 ?_
  refine lv_iconst (v := 1) hx hb dX1_isOpen_19 (by decide) ?_
  refine lv_iand hx hb dX1_isOpen_20 ?_
  refine lv_iconst (v := 1) hx hb dX1_isOpen_21 (by decide) ?_
  refine lv_icmp_ne (tgt := 29) hx hb dX1_isOpen_22 (by decide) (fun c_22 => ?_) (fun c_22 => ?_)
  · replace hE := (if_neg c_22).symm.trans hE
    refine lv_iconst (v := 0) hx hb dX1_isOpen_29 (by decide) ?_
    have e_0 := Option.some.inj hE
    rw [hQ]
    exact W.zret (v := (0 : Int32)) hx hb hr rfl (fun t ht _ => ⟨_, rfl, e_0, ht⟩) (fun q h => by cases h) dX1_isOpen_30
  · replace hE := (if_pos c_22).symm.trans hE
    refine lv_iconst (v := 1) hx hb dX1_isOpen_25 (by decide) ?_
    refine lv_goto (tgt := 30) hx hb dX1_isOpen_26 (by decide) ?_
    have e_0 := Option.some.inj hE
    rw [hQ]
    exact W.zret (v := (1 : Int32)) hx hb hr rfl (fun t ht _ => ⟨_, rfl, e_0, ht⟩) (fun q h => by cases h) dX1_isOpen_30
def S_X1_numberEnds (t_size : Int32) (t_row : Int32) (t_column : Int32) (t_side : Int32) (t_open : Nat → Int32) (t_endAtRim : Nat → Int32) : Option (Int32 × Int32 × Int32 × Int32 × (Nat → Int32)) := itr (fun (x1 : Int32 × Int32 × Int32 × Int32 × Int32 × (Nat → Int32)) => if (4 : Int32) ≤ x1.1 then some (.inr (x1.2.1, x1.2.2.1, x1.2.2.2.1, x1.2.2.2.2.1, x1.2.2.2.2.2)) else itr (fun (x2 : Int32 × Int32 × Int32 × Int32 × Int32 × (Nat → Int32)) => if t_size ≤ x2.1 then some (.inr (.inl (x1.1 + (1 : Int32), x2.2.1, x2.2.2.1, x2.2.2.2.1, x2.2.2.2.2.1, x2.2.2.2.2.2))) else (S_X1_standAtRim x1.1 x2.1 t_size).bind (fun (y25 : Int32 × Int32 × Int32) => (S_X1_isOpen x1.1 y25.1 y25.2.1 t_open).bind (fun (y30 : Int32) => jn (if y30 = 0 then some (.inl (0 : Int32)) else if (12 : Int32) ≤ x2.2.1 then some (.inl (0 : Int32)) else some (.inl (1 : Int32))) (fun (x3 : Int32) => jn (if x3 = 0 then some (.inl (-4 : Int32)) else some (.inl x2.2.1)) (fun (x4 : Int32) => ck (inb ((x1.1 * t_size) + x2.1) 24) (if x3 = 0 then some (.inl (x2.1 + (1 : Int32), x2.2.1, y25.1, y25.2.1, y25.2.2, upd x2.2.2.2.2.2 ((x1.1 * t_size) + x2.1).toNatClampNeg x4)) else some (.inl (x2.1 + (1 : Int32), x2.2.1 + (1 : Int32), y25.1, y25.2.1, y25.2.2, upd x2.2.2.2.2.2 ((x1.1 * t_size) + x2.1).toNatClampNeg x4)))))))) 10000 ((0 : Int32), x1.2.1, x1.2.2.1, x1.2.2.2.1, x1.2.2.2.2.1, x1.2.2.2.2.2)) 10000 ((0 : Int32), (0 : Int32), t_row, t_column, t_side, t_endAtRim)
theorem kd_X1_numberEnds : yX1_numberEnds.cls = RX1 ∧ yX1_numberEnds.cls ≠ "java/lang/invoke/MethodHandle" ∧ yX1_numberEnds.cls ≠ "java/lang/invoke/VarHandle" ∧ (parseMethodDescriptor yX1_numberEnds.desc).map (fun d => d.parameters.length) = some 0 := by decide +kernel
set_option maxHeartbeats 4000000 in
set_option maxRecDepth 100000 in
theorem c_X1_numberEnds {l : Launch} {G : kG} (sz : Nat) {q_t : Nat} {q_t_partners : Nat} {q_t_lengths : Nat} {t_ringEdges : Int32} {t_rings : Int32} {t_size : Int32} {t_ends : Int32} {q_t_open : Nat} {q_t_endAtRim : Nat} {t_row : Int32} {t_column : Int32} {t_side : Int32} {t_open : Nat → Int32} {t_endAtRim : Nat → Int32} {res : Int32 × Int32 × Int32 × Int32 × (Nat → Int32)} (hE : S_X1_numberEnds t_size t_row t_column t_side t_open t_endAtRim = some res) : Met l yX1_numberEnds wsX1_numberEnds ({ frames := 1, cells := 0, slots := 0, locals := 23 }) (va_Pc [.ref q_t] (fun U => U.heap.size = sz ∧ va_P G.1 vwCl [oX1 q_t q_t_partners q_t_lengths t_ringEdges t_rings t_size t_ends q_t_open q_t_endAtRim t_row t_column t_side, aI (G.2 1) q_t_open 49 t_open, aI (G.2 1) q_t_endAtRim 24 t_endAtRim] U.heap ∧ kw G U ∧ va_D (fun _ => True) [oX1 q_t q_t_partners q_t_lengths t_ringEdges t_rings t_size t_ends q_t_open q_t_endAtRim t_row t_column t_side, aI (G.2 1) q_t_open 49 t_open, aI (G.2 1) q_t_endAtRim 24 t_endAtRim])) (va_Qv (fun (_ : Unit) => True) (fun _ t => va_P G.1 vwCl [oX1 q_t q_t_partners q_t_lengths t_ringEdges t_rings t_size res.1 q_t_open q_t_endAtRim res.2.1 res.2.2.1 res.2.2.2.1, aI (G.2 1) q_t_open 49 t_open, aI (G.2 1) q_t_endAtRim 24 res.2.2.2.2] t.heap ∧ va_D (va_A [oX1 q_t q_t_partners q_t_lengths t_ringEdges t_rings t_size t_ends q_t_open q_t_endAtRim t_row t_column t_side, aI (G.2 1) q_t_open 49 t_open, aI (G.2 1) q_t_endAtRim 24 t_endAtRim] sz) [oX1 q_t q_t_partners q_t_lengths t_ringEdges t_rings t_size res.1 q_t_open q_t_endAtRim res.2.1 res.2.2.1 res.2.2.2.1, aI (G.2 1) q_t_open 49 t_open, aI (G.2 1) q_t_endAtRim 24 res.2.2.2.2]) (va_A [oX1 q_t q_t_partners q_t_lengths t_ringEdges t_rings t_size t_ends q_t_open q_t_endAtRim t_row t_column t_side, aI (G.2 1) q_t_open 49 t_open, aI (G.2 1) q_t_endAtRim 24 t_endAtRim] sz)) 0 0 (va_A [oX1 q_t q_t_partners q_t_lengths t_ringEdges t_rings t_size t_ends q_t_open q_t_endAtRim t_row t_column t_side, aI (G.2 1) q_t_open 49 t_open, aI (G.2 1) q_t_endAtRim 24 t_endAtRim] sz) := by
  refine Met.ofQ (cc := cX1_numberEnds) (maxL := 4) (ret := none) (by decide) rfl ?_
  intro p e s m args below meth c s₁ Q hQ B hml hv
  obtain ⟨rfl, hsz, hP, hKW, hD0⟩ := hv
  have hK := hKW.1
  have hx := B.exec
  have hb := B.bytes
  have hr := B.returns
  have hts := atoms_spec (ws := wsX1_numberEnds) B.pre
  have hown : s.vm.findClass RX1 = some m.cls := findClass_of_methodNamed B.named
  have hlocks := B.notSynchronized
  have iX1 : ∀ w ∈ u_ws RX1 TX1 11, w ∈ wsX1_numberEnds := by decide +kernel
  have fl_45 := hts (.fieldLink RX1 45 "AlternateSigns$Lines" "ends" "I") (by decide +kernel)
  have fl_30 := hts (.fieldLink RX1 30 "AlternateSigns$Lines" "size" "I") (by decide +kernel)
  have fl_21 := hts (.fieldLink RX1 21 "AlternateSigns$Lines" "endAtRim" "[I") (by decide +kernel)
  subst hsz
  have hD := hD0.self (sz := s.heap.size)
  generalize hAe : va_A [oX1 q_t q_t_partners q_t_lengths t_ringEdges t_rings t_size t_ends q_t_open q_t_endAtRim t_row t_column t_side, aI (G.2 1) q_t_open 49 t_open, aI (G.2 1) q_t_endAtRim 24 t_endAtRim] s.heap.size = A at hD hQ
  have hA : ∀ q : Nat, s.heap.size ≤ q → A q := fun q h => by rw [← hAe]; exact Or.inr h
  have hS : va_S A s.heap s.heap [] := va_S.rf
  have hl := lv_entry ([.ref q_t]) (n := 4) (Nat.le_of_ble_eq_true rfl)
  rw [lg_entry_eq]
  generalize (lg_sl ([.ref q_t]) ++ List.replicate (4 - (lg_sl ([.ref q_t])).length) Slot.unset).toArray = ls at hl ⊢
  have hl : lv_has ls 4 [(0, .ref q_t)] := hl
  unfold S_X1_numberEnds at hE
  refine lv_aload_n hx hb dX1_numberEnds_0 rfl (lv_at hl 0 rfl) ?_
  refine lv_iconst (v := 0) hx hb dX1_numberEnds_1 (by decide) ?_
  refine va_put (D := G.1) (ci := 1) (v := .int (0 : Int32)) (ty := .int) (C := RX1) (T := TX1) (N := 11) hx hb hts iX1 tyX1 tyX1_ok nmX1 hown hK hP hD hS 0 rfl rfl 5 (by decide) fl_45 (fun _ h9 => h9) rfl (by decide +kernel) rfl rfl (Nat.le_of_ble_eq_true rfl) dX1_numberEnds_2 (fun H locs hP hD hS => ?_)
  have hP : va_P G.1 vwCl [oX1 q_t q_t_partners q_t_lengths t_ringEdges t_rings t_size (0 : Int32) q_t_open q_t_endAtRim t_row t_column t_side, aI (G.2 1) q_t_open 49 t_open, aI (G.2 1) q_t_endAtRim 24 t_endAtRim] H := hP
  have hD : va_D A [oX1 q_t q_t_partners q_t_lengths t_ringEdges t_rings t_size (0 : Int32) q_t_open q_t_endAtRim t_row t_column t_side, aI (G.2 1) q_t_open 49 t_open, aI (G.2 1) q_t_endAtRim 24 t_endAtRim] := hD
  refine lv_iconst (v := 0) hx hb dX1_numberEnds_5 (by decide) ?_
  refine lv_istore_n (lv' := [(1, .int (0 : Int32)), (0, .ref q_t)]) hx hb dX1_numberEnds_6 rfl hl (by decide) rfl (fun ls hl => ?_)
  refine itr_ind (fun (x1 : Int32 × Int32 × Int32 × Int32 × Int32 × (Nat → Int32)) => ∀ (H : Heap) (locs : List Loc) (ls : Array Slot), va_P G.1 vwCl [oX1 q_t q_t_partners q_t_lengths t_ringEdges t_rings t_size x1.2.1 q_t_open q_t_endAtRim x1.2.2.1 x1.2.2.2.1 x1.2.2.2.2.1, aI (G.2 1) q_t_open 49 t_open, aI (G.2 1) q_t_endAtRim 24 x1.2.2.2.2.2] H → va_D A [oX1 q_t q_t_partners q_t_lengths t_ringEdges t_rings t_size x1.2.1 q_t_open q_t_endAtRim x1.2.2.1 x1.2.2.2.1 x1.2.2.2.2.1, aI (G.2 1) q_t_open 49 t_open, aI (G.2 1) q_t_endAtRim 24 x1.2.2.2.2.2] → va_S A s.heap H locs → lv_has ls 4 [(0, .ref q_t), (1, .int x1.1)] → W p l e (headSpec wsX1_numberEnds ({ frames := 1, cells := 0, slots := 0, locals := 23 })).room s m ([.ref q_t] : List Value).toArray below meth c H locs 0 0 Q (F0 m 7 ls [])) (fun x1 o_1 hE ih_1 hr_1 => ?_) _ _ hE _ _ ls hP hD hS (lv_sub hl [1, 0] rfl)
  obtain ⟨v1_1, w_t_ends_1, w_t_row_1, w_t_column_1, w_t_side_1, w_t_endAtRim_1⟩ := x1
  try dsimp only at hE
  intro H locs ls hP hD hS hl
  try dsimp only at hP hD hl ⊢
  refine lv_iload_n hx hb dX1_numberEnds_7 rfl (lv_at hl 1 rfl) ?_
  refine lv_iconst (v := 4) hx hb dX1_numberEnds_8 (by decide) ?_
  refine lv_icmp_ge (tgt := 103) hx hb dX1_numberEnds_9 (by decide) (fun c_9 => ?_) (fun c_9 => ?_)
  · replace hE := (if_pos c_9).symm.trans hE
    have e_1 := Option.some.inj hE
    have e_0 := hr_1 _ e_1.symm
    subst e_0
    rw [hQ]
    exact W.vret hx hb hr (fun t ht _ => ⟨⟨(), rfl, trivial, by rw [ht]; exact hP, hD⟩, hS.F ht⟩) hS.2.2 dX1_numberEnds_103
  · replace hE := (if_neg c_9).symm.trans hE
    refine lv_iconst (v := 0) hx hb dX1_numberEnds_12 (by decide) ?_
    refine lv_istore_n (lv' := [(2, .int (0 : Int32)), (0, .ref q_t), (1, .int v1_1)]) hx hb dX1_numberEnds_13 rfl hl (by decide) rfl (fun ls hl => ?_)
    refine itr_ind (fun (x2 : Int32 × Int32 × Int32 × Int32 × Int32 × (Nat → Int32)) => ∀ (H : Heap) (locs : List Loc) (ls : Array Slot), va_P G.1 vwCl [oX1 q_t q_t_partners q_t_lengths t_ringEdges t_rings t_size x2.2.1 q_t_open q_t_endAtRim x2.2.2.1 x2.2.2.2.1 x2.2.2.2.2.1, aI (G.2 1) q_t_open 49 t_open, aI (G.2 1) q_t_endAtRim 24 x2.2.2.2.2.2] H → va_D A [oX1 q_t q_t_partners q_t_lengths t_ringEdges t_rings t_size x2.2.1 q_t_open q_t_endAtRim x2.2.2.1 x2.2.2.2.1 x2.2.2.2.2.1, aI (G.2 1) q_t_open 49 t_open, aI (G.2 1) q_t_endAtRim 24 x2.2.2.2.2.2] → va_S A s.heap H locs → lv_has ls 4 [(0, .ref q_t), (1, .int v1_1), (2, .int x2.1)] → W p l e (headSpec wsX1_numberEnds ({ frames := 1, cells := 0, slots := 0, locals := 23 })).room s m ([.ref q_t] : List Value).toArray below meth c H locs 0 0 Q (F0 m 14 ls [])) (fun x2 o_2 hE ih_2 hr_2 => ?_) _ _ hE _ _ ls hP hD hS (lv_sub hl [1, 2, 0] rfl)
    obtain ⟨v2_2, w_t_ends_2, w_t_row_2, w_t_column_2, w_t_side_2, w_t_endAtRim_2⟩ := x2
    try dsimp only at hE
    intro H locs ls hP hD hS hl
    try dsimp only at hP hD hl ⊢
    refine lv_iload_n hx hb dX1_numberEnds_14 rfl (lv_at hl 2 rfl) ?_
    refine lv_aload_n hx hb dX1_numberEnds_15 rfl (lv_at hl 0 rfl) ?_
    refine va_get (D := G.1) (ci := 1) (v := .int t_size) (C := RX1) (T := TX1) (N := 11) hx hb hts iX1 hown hK hP 0 rfl rfl 4 (by decide) fl_30 (fun _ h9 => h9) rfl dX1_numberEnds_16 ?_
    refine lv_icmp_ge (tgt := 97) hx hb dX1_numberEnds_19 (by decide) (fun c_19 => ?_) (fun c_19 => ?_)
    · replace hE := (if_pos c_19).symm.trans hE
      refine lv_iinc (v := v1_1 + (1 : Int32)) (lv' := [(1, .int (v1_1 + (1 : Int32))), (0, .ref q_t), (2, .int v2_2)]) hx hb dX1_numberEnds_97 hl (k := 1) rfl rfl (by decide) rfl (fun ls hl => ?_)
      refine lv_goto (tgt := 7) hx hb dX1_numberEnds_100 (by decide) ?_
      have e_2 := Option.some.inj hE
      have e_1 := hr_2 _ e_2.symm
      exact ih_1 _ e_1.symm _ _ ls hP hD hS (lv_sub hl [1, 0] rfl)
    · replace hE := (if_neg c_19).symm.trans hE
      refine lv_aload_n hx hb dX1_numberEnds_22 rfl (lv_at hl 0 rfl) ?_
      refine lv_iload_n hx hb dX1_numberEnds_23 rfl (lv_at hl 1 rfl) ?_
      refine lv_iload_n hx hb dX1_numberEnds_24 rfl (lv_at hl 2 rfl) ?_
      obtain ⟨y25, hC_25, hE⟩ := Option.bind_eq_some_iff.mp hE
      obtain ⟨m_25_0, m_25_1, m_25_2⟩ := y25
      try dsimp only at hE
      have hPc := hP.sub (ws' := [oX1 q_t q_t_partners q_t_lengths t_ringEdges t_rings t_size w_t_ends_2 q_t_open q_t_endAtRim w_t_row_2 w_t_column_2 w_t_side_2]) [0] rfl
      have hDc := hD.sub (ws' := [oX1 q_t q_t_partners q_t_lengths t_ringEdges t_rings t_size w_t_ends_2 q_t_open q_t_endAtRim w_t_row_2 w_t_column_2 w_t_side_2]) [0] (by decide) rfl
      have hFc := va_free (wc := [oX1 q_t q_t_partners q_t_lengths t_ringEdges t_rings t_size w_t_ends_2 q_t_open q_t_endAtRim w_t_row_2 w_t_column_2 w_t_side_2]) hD hS hA [0] rfl
      refine va_callv (va_runV (As := [.int v1_1, .int v2_2]) (rest := []) ⟨hx, hb, hml, hown, hts⟩ (c_X1_standAtRim (l := l) (G := G) _ (p1 := v1_1) (p2 := v2_2) (q_t := q_t) (q_t_partners := q_t_partners) (q_t_lengths := q_t_lengths) (t_ringEdges := t_ringEdges) (t_rings := t_rings) (t_size := t_size) (t_ends := w_t_ends_2) (q_t_open := q_t_open) (q_t_endAtRim := q_t_endAtRim) (t_row := w_t_row_2) (t_column := w_t_column_2) (t_side := w_t_side_2) hC_25) (cwV 2 hts gX1_numberEnds_X1_standAtRim rfl rfl rfl kd_X1_standAtRim ⟨Nat.le_of_ble_eq_true rfl, Nat.le_of_ble_eq_true rfl⟩) (iv_V hKW hPc hDc (ci := 1) (q0 := 0) rfl rfl) rfl rfl hl.1 rfl (lv_room (Nat.le_of_ble_eq_true rfl)) dX1_numberEnds_25 ⟨Nat.zero_le _, Nat.zero_le _⟩) hS (fun q _ h => hFc q h) hFc (fun u9 t9 H1 locs ht9 hvm9 hw9 hB9 hz9 hk9 hS => ?_)
      obtain ⟨hP1, hD1⟩ := hB9
      rw [ht9] at hP1
      obtain ⟨hP, hD⟩ := va_join (wr := [aI (G.2 1) q_t_open 49 t_open, aI (G.2 1) q_t_endAtRim 24 w_t_endAtRim_2]) (w1 := [oX1 q_t q_t_partners q_t_lengths t_ringEdges t_rings t_size w_t_ends_2 q_t_open q_t_endAtRim m_25_0 m_25_1 m_25_2]) hP hD [0] [1, 2] rfl rfl (by decide) (by decide) hk9 hFc hP1 hD1
      have hP := hP.sub (ws' := [oX1 q_t q_t_partners q_t_lengths t_ringEdges t_rings t_size w_t_ends_2 q_t_open q_t_endAtRim m_25_0 m_25_1 m_25_2, aI (G.2 1) q_t_open 49 t_open, aI (G.2 1) q_t_endAtRim 24 w_t_endAtRim_2]) [2, 0, 1] rfl
      have hD := hD.sub (ws' := [oX1 q_t q_t_partners q_t_lengths t_ringEdges t_rings t_size w_t_ends_2 q_t_open q_t_endAtRim m_25_0 m_25_1 m_25_2, aI (G.2 1) q_t_open 49 t_open, aI (G.2 1) q_t_endAtRim 24 w_t_endAtRim_2]) [2, 0, 1] (by decide) rfl
      clear hPc hDc hFc hP1 hD1 hk9 hz9 hvm9
      refine lv_aload_n hx hb dX1_numberEnds_28 rfl (lv_at hl 0 rfl) ?_
      refine lv_iload_n hx hb dX1_numberEnds_29 rfl (lv_at hl 1 rfl) ?_
      obtain ⟨y30, hC_30, hE⟩ := Option.bind_eq_some_iff.mp hE
      obtain ⟨r_30, ex9⟩ : ∃ z, z = y30 := ⟨_, rfl⟩
      subst ex9
      try dsimp only at hE
      refine vp_callSi (va_Run.run (va_runV (As := [.int v1_1]) (rest := []) ⟨hx, hb, hml, hown, hts⟩ (c_X1_isOpen (l := l) (G := G) (p1 := v1_1) (q_t := q_t) (q_t_partners := q_t_partners) (q_t_lengths := q_t_lengths) (t_ringEdges := t_ringEdges) (t_rings := t_rings) (t_size := t_size) (t_ends := w_t_ends_2) (q_t_open := q_t_open) (q_t_endAtRim := q_t_endAtRim) (t_row := m_25_0) (t_column := m_25_1) (t_side := m_25_2) (t_open := t_open) hC_30) (cwV 1 hts gX1_numberEnds_X1_isOpen rfl rfl rfl kd_X1_isOpen ⟨Nat.le_of_ble_eq_true rfl, Nat.le_of_ble_eq_true rfl⟩) (pv_V hKW (hP.sub (ws' := [oX1 q_t q_t_partners q_t_lengths t_ringEdges t_rings t_size w_t_ends_2 q_t_open q_t_endAtRim m_25_0 m_25_1 m_25_2, aI (G.2 1) q_t_open 49 t_open]) [0, 1] rfl) (ci := 1) (q0 := 0) rfl rfl) rfl rfl hl.1 rfl (lv_room (Nat.le_of_ble_eq_true rfl)) dX1_numberEnds_30 ⟨Nat.zero_le _, Nat.zero_le _⟩)) (fun r9 hr9 => ?_)
      subst r9
      obtain ⟨o_3, hEp, hk9, hr_3⟩ := jn_some hE
      have ih_3 : ∀ (x3 : Int32), o_3 = .inl x3 → ∀ (H : Heap) (locs : List Loc) (ls : Array Slot), va_P G.1 vwCl [oX1 q_t q_t_partners q_t_lengths t_ringEdges t_rings t_size w_t_ends_2 q_t_open q_t_endAtRim m_25_0 m_25_1 m_25_2, aI (G.2 1) q_t_open 49 t_open, aI (G.2 1) q_t_endAtRim 24 w_t_endAtRim_2] H → va_D A [oX1 q_t q_t_partners q_t_lengths t_ringEdges t_rings t_size w_t_ends_2 q_t_open q_t_endAtRim m_25_0 m_25_1 m_25_2, aI (G.2 1) q_t_open 49 t_open, aI (G.2 1) q_t_endAtRim 24 w_t_endAtRim_2] → va_S A s.heap H locs → lv_has ls 4 [(0, .ref q_t), (1, .int v1_1), (2, .int v2_2)] → W p l e (headSpec wsX1_numberEnds ({ frames := 1, cells := 0, slots := 0, locals := 23 })).room s m ([.ref q_t] : List Value).toArray below meth c H locs 0 0 Q (F0 m 50 ls [.int x3]) := by
        intro x3 ho9
        have hE := hk9 _ ho9
        obtain ⟨k0_3, ex9⟩ : ∃ z, z = x3 := ⟨_, rfl⟩
        subst ex9
        try dsimp only at hE
        intro H locs ls hP hD hS hl
        try dsimp only at hP hD hl ⊢
        refine lv_istore_n (lv' := [(3, .int k0_3), (0, .ref q_t), (1, .int v1_1), (2, .int v2_2)]) hx hb dX1_numberEnds_50 rfl hl (by decide) rfl (fun ls hl => ?_)
        refine lv_aload_n hx hb dX1_numberEnds_51 rfl (lv_at hl 1 rfl) ?_
        refine va_get (D := G.1) (ci := 1) (v := .ref q_t_endAtRim) (C := RX1) (T := TX1) (N := 11) hx hb hts iX1 hown hK hP 0 rfl rfl 7 (by decide) fl_21 (fun _ h9 => h9) rfl dX1_numberEnds_52 ?_
        refine lv_iload_n hx hb dX1_numberEnds_55 rfl (lv_at hl 2 rfl) ?_
        refine lv_aload_n hx hb dX1_numberEnds_56 rfl (lv_at hl 1 rfl) ?_
        refine va_get (D := G.1) (ci := 1) (v := .int t_size) (C := RX1) (T := TX1) (N := 11) hx hb hts iX1 hown hK hP 0 rfl rfl 4 (by decide) fl_30 (fun _ h9 => h9) rfl dX1_numberEnds_57 ?_
        refine lv_imul hx hb dX1_numberEnds_60 ?_
        refine lv_iload_n hx hb dX1_numberEnds_61 rfl (lv_at hl 3 rfl) ?_
        refine lv_iadd hx hb dX1_numberEnds_62 ?_
        refine lv_iload_n hx hb dX1_numberEnds_63 rfl (lv_at hl 0 rfl) ?_
        obtain ⟨o_3, hEp, hk9, hr_3⟩ := jn_some hE
        have ih_3 : ∀ (x4 : Int32), o_3 = .inl x4 → ∀ (H : Heap) (locs : List Loc) (ls : Array Slot), va_P G.1 vwCl [oX1 q_t q_t_partners q_t_lengths t_ringEdges t_rings t_size w_t_ends_2 q_t_open q_t_endAtRim m_25_0 m_25_1 m_25_2, aI (G.2 1) q_t_open 49 t_open, aI (G.2 1) q_t_endAtRim 24 w_t_endAtRim_2] H → va_D A [oX1 q_t q_t_partners q_t_lengths t_ringEdges t_rings t_size w_t_ends_2 q_t_open q_t_endAtRim m_25_0 m_25_1 m_25_2, aI (G.2 1) q_t_open 49 t_open, aI (G.2 1) q_t_endAtRim 24 w_t_endAtRim_2] → va_S A s.heap H locs → lv_has ls 4 [(0, .ref q_t), (1, .int v1_1), (2, .int v2_2), (3, .int k0_3)] → W p l e (headSpec wsX1_numberEnds ({ frames := 1, cells := 0, slots := 0, locals := 23 })).room s m ([.ref q_t] : List Value).toArray below meth c H locs 0 0 Q (F0 m 76 ls [.int x4, .int ((v1_1 * t_size) + v2_2), .ref q_t_endAtRim]) := by
          intro x4 ho9
          have hE := hk9 _ ho9
          obtain ⟨k2_4, ex9⟩ : ∃ z, z = x4 := ⟨_, rfl⟩
          subst ex9
          try dsimp only at hE
          intro H locs ls hP hD hS hl
          try dsimp only at hP hD hl ⊢
          obtain ⟨hi_76, hE⟩ := ck_some hE
          refine va_iast hx hb hK hP hD hS 2 1 rfl rfl (inb_in hi_76) dX1_numberEnds_76 (fun H locs hP hD hS => ?_)
          have hP : va_P G.1 vwCl [oX1 q_t q_t_partners q_t_lengths t_ringEdges t_rings t_size w_t_ends_2 q_t_open q_t_endAtRim m_25_0 m_25_1 m_25_2, aI (G.2 1) q_t_open 49 t_open, aI (G.2 1) q_t_endAtRim 24 (upd w_t_endAtRim_2 ((v1_1 * t_size) + v2_2).toNatClampNeg k2_4)] H := hP
          have hD : va_D A [oX1 q_t q_t_partners q_t_lengths t_ringEdges t_rings t_size w_t_ends_2 q_t_open q_t_endAtRim m_25_0 m_25_1 m_25_2, aI (G.2 1) q_t_open 49 t_open, aI (G.2 1) q_t_endAtRim 24 (upd w_t_endAtRim_2 ((v1_1 * t_size) + v2_2).toNatClampNeg k2_4)] := hD
          refine lv_iload_n hx hb dX1_numberEnds_77 rfl (lv_at hl 3 rfl) ?_
          refine lv_if_eq (tgt := 91) hx hb dX1_numberEnds_78 (by decide) (fun c_78 => ?_) (fun c_78 => ?_)
          · replace hE := (if_pos c_78).symm.trans hE
            refine lv_iinc (v := v2_2 + (1 : Int32)) (lv' := [(2, .int (v2_2 + (1 : Int32))), (0, .ref q_t), (1, .int v1_1), (3, .int k0_3)]) hx hb dX1_numberEnds_91 hl (k := 2) rfl rfl (by decide) rfl (fun ls hl => ?_)
            refine lv_goto (tgt := 14) hx hb dX1_numberEnds_94 (by decide) ?_
            have e_2 := Option.some.inj hE
            exact ih_2 _ e_2.symm _ _ ls hP hD hS (lv_sub hl [1, 2, 0] rfl)
          · replace hE := (if_neg c_78).symm.trans hE
            refine lv_aload_n hx hb dX1_numberEnds_81 rfl (lv_at hl 0 rfl) ?_
            refine lv_dup hx hb dX1_numberEnds_82 rfl ?_
            refine va_get (D := G.1) (ci := 1) (v := .int w_t_ends_2) (C := RX1) (T := TX1) (N := 11) hx hb hts iX1 hown hK hP 0 rfl rfl 5 (by decide) fl_45 (fun _ h9 => h9) rfl dX1_numberEnds_83 ?_
            refine lv_iconst (v := 1) hx hb dX1_numberEnds_86 (by decide) ?_
            refine lv_iadd hx hb dX1_numberEnds_87 ?_
            refine va_put (D := G.1) (ci := 1) (v := .int (w_t_ends_2 + (1 : Int32))) (ty := .int) (C := RX1) (T := TX1) (N := 11) hx hb hts iX1 tyX1 tyX1_ok nmX1 hown hK hP hD hS 0 rfl rfl 5 (by decide) fl_45 (fun _ h9 => h9) rfl (by decide +kernel) rfl rfl (Nat.le_of_ble_eq_true rfl) dX1_numberEnds_88 (fun H locs hP hD hS => ?_)
            have hP : va_P G.1 vwCl [oX1 q_t q_t_partners q_t_lengths t_ringEdges t_rings t_size (w_t_ends_2 + (1 : Int32)) q_t_open q_t_endAtRim m_25_0 m_25_1 m_25_2, aI (G.2 1) q_t_open 49 t_open, aI (G.2 1) q_t_endAtRim 24 (upd w_t_endAtRim_2 ((v1_1 * t_size) + v2_2).toNatClampNeg k2_4)] H := hP
            have hD : va_D A [oX1 q_t q_t_partners q_t_lengths t_ringEdges t_rings t_size (w_t_ends_2 + (1 : Int32)) q_t_open q_t_endAtRim m_25_0 m_25_1 m_25_2, aI (G.2 1) q_t_open 49 t_open, aI (G.2 1) q_t_endAtRim 24 (upd w_t_endAtRim_2 ((v1_1 * t_size) + v2_2).toNatClampNeg k2_4)] := hD
            refine lv_iinc (v := v2_2 + (1 : Int32)) (lv' := [(2, .int (v2_2 + (1 : Int32))), (0, .ref q_t), (1, .int v1_1), (3, .int k0_3)]) hx hb dX1_numberEnds_91 hl (k := 2) rfl rfl (by decide) rfl (fun ls hl => ?_)
            refine lv_goto (tgt := 14) hx hb dX1_numberEnds_94 (by decide) ?_
            have e_2 := Option.some.inj hE
            exact ih_2 _ e_2.symm _ _ ls hP hD hS (lv_sub hl [1, 2, 0] rfl)
        clear hE hk9
        have hE := hEp
        clear hEp
        refine lv_if_eq (tgt := 74) hx hb dX1_numberEnds_64 (by decide) (fun c_64 => ?_) (fun c_64 => ?_)
        · replace hE := (if_pos c_64).symm.trans hE
          refine lv_bipush (v := -4) hx hb dX1_numberEnds_74 (by decide) ?_
          have e_3 := Option.some.inj hE
          exact ih_3 _ e_3.symm _ _ ls hP hD hS (lv_sub hl [1, 2, 3, 0] rfl)
        · replace hE := (if_neg c_64).symm.trans hE
          refine lv_aload_n hx hb dX1_numberEnds_67 rfl (lv_at hl 1 rfl) ?_
          refine va_get (D := G.1) (ci := 1) (v := .int w_t_ends_2) (C := RX1) (T := TX1) (N := 11) hx hb hts iX1 hown hK hP 0 rfl rfl 5 (by decide) fl_45 (fun _ h9 => h9) rfl dX1_numberEnds_68 ?_
          refine lv_goto (tgt := 76) hx hb dX1_numberEnds_71 (by decide) ?_
          have e_3 := Option.some.inj hE
          exact ih_3 _ e_3.symm _ _ ls hP hD hS (lv_sub hl [1, 2, 3, 0] rfl)
      clear hE hk9
      have hE := hEp
      clear hEp
      refine lv_if_eq (tgt := 49) hx hb dX1_numberEnds_33 (by decide) (fun c_33 => ?_) (fun c_33 => ?_)
      · replace hE := (if_pos c_33).symm.trans hE
        refine lv_iconst (v := 0) hx hb dX1_numberEnds_49 (by decide) ?_
        have e_3 := Option.some.inj hE
        exact ih_3 _ e_3.symm _ _ ls hP hD hS (lv_sub hl [0, 1, 2] rfl)
      · replace hE := (if_neg c_33).symm.trans hE
        refine lv_aload_n hx hb dX1_numberEnds_36 rfl (lv_at hl 0 rfl) ?_
        refine va_get (D := G.1) (ci := 1) (v := .int w_t_ends_2) (C := RX1) (T := TX1) (N := 11) hx hb hts iX1 hown hK hP 0 rfl rfl 5 (by decide) fl_45 (fun _ h9 => h9) rfl dX1_numberEnds_37 ?_
        refine lv_bipush (v := 12) hx hb dX1_numberEnds_40 (by decide) ?_
        refine lv_icmp_ge (tgt := 49) hx hb dX1_numberEnds_42 (by decide) (fun c_42 => ?_) (fun c_42 => ?_)
        · replace hE := (if_pos c_42).symm.trans hE
          refine lv_iconst (v := 0) hx hb dX1_numberEnds_49 (by decide) ?_
          have e_3 := Option.some.inj hE
          exact ih_3 _ e_3.symm _ _ ls hP hD hS (lv_sub hl [0, 1, 2] rfl)
        · replace hE := (if_neg c_42).symm.trans hE
          refine lv_iconst (v := 1) hx hb dX1_numberEnds_45 (by decide) ?_
          refine lv_goto (tgt := 50) hx hb dX1_numberEnds_46 (by decide) ?_
          have e_3 := Option.some.inj hE
          exact ih_3 _ e_3.symm _ _ ls hP hD hS (lv_sub hl [0, 1, 2] rfl)
def S_X1_isInside (t_size : Int32) (t_row : Int32) (t_column : Int32) : Option Int32 := (S_X5_isBetween t_row (1 : Int32) t_size).bind (fun (y9 : Int32) => if y9 = 0 then some (0 : Int32) else (S_X5_isBetween t_column (1 : Int32) t_size).bind (fun (y24 : Int32) => if y24 = 0 then some (0 : Int32) else some (1 : Int32)))
theorem kd_X1_isInside : yX1_isInside.cls = RX1 ∧ yX1_isInside.cls ≠ "java/lang/invoke/MethodHandle" ∧ yX1_isInside.cls ≠ "java/lang/invoke/VarHandle" ∧ (parseMethodDescriptor yX1_isInside.desc).map (fun d => d.parameters.length) = some 0 := by decide +kernel
set_option maxHeartbeats 4000000 in
set_option maxRecDepth 100000 in
theorem c_X1_isInside {l : Launch} {G : kG} {q_t : Nat} {q_t_partners : Nat} {q_t_lengths : Nat} {t_ringEdges : Int32} {t_rings : Int32} {t_size : Int32} {t_ends : Int32} {q_t_open : Nat} {q_t_endAtRim : Nat} {t_row : Int32} {t_column : Int32} {t_side : Int32} {res : Int32} (hE : S_X1_isInside t_size t_row t_column = some res) : Met l yX1_isInside wsX1_isInside ({ frames := 1, cells := 0, slots := 0, locals := 22 }) (va_Pc [.ref q_t] (fun U => va_P G.1 vwCl [oX1 q_t q_t_partners q_t_lengths t_ringEdges t_rings t_size t_ends q_t_open q_t_endAtRim t_row t_column t_side] U.heap ∧ kw G U)) (vp_Si (fun r => r = res)) 0 0 (fun _ => False) := by
  refine Met.ofQ (cc := cX1_isInside) (maxL := 1) (ret := (some .boolean)) (by decide) rfl ?_
  intro p e s m args below meth c s₁ Q hQ B hml hv
  obtain ⟨rfl, hP, hKW⟩ := hv
  have hK := hKW.1
  have hx := B.exec
  have hb := B.bytes
  have hr := B.returns
  have hts := atoms_spec (ws := wsX1_isInside) B.pre
  have hown : s.vm.findClass RX1 = some m.cls := findClass_of_methodNamed B.named
  have hlocks := B.notSynchronized
  have iX1 : ∀ w ∈ u_ws RX1 TX1 11, w ∈ wsX1_isInside := by decide +kernel
  have fl_64 := hts (.fieldLink RX1 64 "AlternateSigns$Lines" "row" "I") (by decide +kernel)
  have fl_30 := hts (.fieldLink RX1 30 "AlternateSigns$Lines" "size" "I") (by decide +kernel)
  have fl_67 := hts (.fieldLink RX1 67 "AlternateSigns$Lines" "column" "I") (by decide +kernel)
  have hl := lv_entry ([.ref q_t]) (n := 1) (Nat.le_of_ble_eq_true rfl)
  rw [lg_entry_eq]
  generalize (lg_sl ([.ref q_t]) ++ List.replicate (1 - (lg_sl ([.ref q_t])).length) Slot.unset).toArray = ls at hl ⊢
  have hl : lv_has ls 1 [(0, .ref q_t)] := hl
  unfold S_X1_isInside at hE
  refine lv_aload_n hx hb dX1_isInside_0 rfl (lv_at hl 0 rfl) ?_
  refine va_get (D := G.1) (ci := 1) (v := .int t_row) (C := RX1) (T := TX1) (N := 11) hx hb hts iX1 hown hK hP 0 rfl rfl 8 (by decide) fl_64 (fun _ h9 => h9) rfl dX1_isInside_1 ?_
  refine lv_iconst (v := 1) hx hb dX1_isInside_4 (by decide) ?_
  refine lv_aload_n hx hb dX1_isInside_5 rfl (lv_at hl 0 rfl) ?_
  refine va_get (D := G.1) (ci := 1) (v := .int t_size) (C := RX1) (T := TX1) (N := 11) hx hb hts iX1 hown hK hP 0 rfl rfl 4 (by decide) fl_30 (fun _ h9 => h9) rfl dX1_isInside_6 ?_
  obtain ⟨y9, hC_9, hE⟩ := Option.bind_eq_some_iff.mp hE
  obtain ⟨r_9, ex9⟩ : ∃ z, z = y9 := ⟨_, rfl⟩
  subst ex9
  try dsimp only at hE
  refine vp_callSi (va_Run.run (va_runSN (As := [.int t_row, .int (1 : Int32), .int t_size]) (rest := []) ⟨hx, hb, hml, hown, hts⟩ (c_X5_isBetween (l := l) (G := G) (p1 := t_row) (p2 := (1 : Int32)) (p3 := t_size) hC_9) ⟨va_cnB 3 hts gX1_isInside_X5_isBetween_n73 rfl rfl rfl (kn_1 hKW) (hts (.initialized RX5) (by decide +kernel)) kd_X5_isBetween ⟨Nat.le_of_ble_eq_true rfl, Nat.le_of_ble_eq_true rfl⟩, hts (.static yX5_isBetween) (by decide +kernel), trivial⟩ (pv_S hKW (hP.sub (ws' := []) [] rfl)) rfl rfl hl.1 rfl (lv_room (Nat.le_of_ble_eq_true rfl)) dX1_isInside_9 ⟨Nat.zero_le _, Nat.zero_le _⟩)) (fun r9 hr9 => ?_)
  subst r9
  refine lv_if_eq (tgt := 34) hx hb dX1_isInside_12 (by decide) (fun c_12 => ?_) (fun c_12 => ?_)
  · replace hE := (if_pos c_12).symm.trans hE
    refine lv_iconst (v := 0) hx hb dX1_isInside_34 (by decide) ?_
    have e_0 := Option.some.inj hE
    rw [hQ]
    exact W.zret (v := (0 : Int32)) hx hb hr rfl (fun t ht _ => ⟨_, rfl, e_0, ht⟩) (fun q h => by cases h) dX1_isInside_35
  · replace hE := (if_neg c_12).symm.trans hE
    refine lv_aload_n hx hb dX1_isInside_15 rfl (lv_at hl 0 rfl) ?_
    refine va_get (D := G.1) (ci := 1) (v := .int t_column) (C := RX1) (T := TX1) (N := 11) hx hb hts iX1 hown hK hP 0 rfl rfl 9 (by decide) fl_67 (fun _ h9 => h9) rfl dX1_isInside_16 ?_
    refine lv_iconst (v := 1) hx hb dX1_isInside_19 (by decide) ?_
    refine lv_aload_n hx hb dX1_isInside_20 rfl (lv_at hl 0 rfl) ?_
    refine va_get (D := G.1) (ci := 1) (v := .int t_size) (C := RX1) (T := TX1) (N := 11) hx hb hts iX1 hown hK hP 0 rfl rfl 4 (by decide) fl_30 (fun _ h9 => h9) rfl dX1_isInside_21 ?_
    obtain ⟨y24, hC_24, hE⟩ := Option.bind_eq_some_iff.mp hE
    obtain ⟨r_24, ex9⟩ : ∃ z, z = y24 := ⟨_, rfl⟩
    subst ex9
    try dsimp only at hE
    refine vp_callSi (va_Run.run (va_runSN (As := [.int t_column, .int (1 : Int32), .int t_size]) (rest := []) ⟨hx, hb, hml, hown, hts⟩ (c_X5_isBetween (l := l) (G := G) (p1 := t_column) (p2 := (1 : Int32)) (p3 := t_size) hC_24) ⟨va_cnB 3 hts gX1_isInside_X5_isBetween_n73 rfl rfl rfl (kn_1 hKW) (hts (.initialized RX5) (by decide +kernel)) kd_X5_isBetween ⟨Nat.le_of_ble_eq_true rfl, Nat.le_of_ble_eq_true rfl⟩, hts (.static yX5_isBetween) (by decide +kernel), trivial⟩ (pv_S hKW (hP.sub (ws' := []) [] rfl)) rfl rfl hl.1 rfl (lv_room (Nat.le_of_ble_eq_true rfl)) dX1_isInside_24 ⟨Nat.zero_le _, Nat.zero_le _⟩)) (fun r9 hr9 => ?_)
    subst r9
    refine lv_if_eq (tgt := 34) hx hb dX1_isInside_27 (by decide) (fun c_27 => ?_) (fun c_27 => ?_)
    · replace hE := (if_pos c_27).symm.trans hE
      refine lv_iconst (v := 0) hx hb dX1_isInside_34 (by decide) ?_
      have e_0 := Option.some.inj hE
      rw [hQ]
      exact W.zret (v := (0 : Int32)) hx hb hr rfl (fun t ht _ => ⟨_, rfl, e_0, ht⟩) (fun q h => by cases h) dX1_isInside_35
    · replace hE := (if_neg c_27).symm.trans hE
      refine lv_iconst (v := 1) hx hb dX1_isInside_30 (by decide) ?_
      refine lv_goto (tgt := 35) hx hb dX1_isInside_31 (by decide) ?_
      have e_0 := Option.some.inj hE
      rw [hQ]
      exact W.zret (v := (1 : Int32)) hx hb hr rfl (fun t ht _ => ⟨_, rfl, e_0, ht⟩) (fun q h => by cases h) dX1_isInside_35
def S_X1_goOn (t_row : Int32) (t_column : Int32) (t_side : Int32) (t_open : Nat → Int32) : Option (Int32 × Int32 × Int32 × (Nat → Int32)) := ck (inb ((t_row * (7 : Int32)) + t_column) 49) ((some ((t_open ((t_row * (7 : Int32)) + t_column).toNatClampNeg) &&& (((1 : Int32) <<< (t_side &&& 31)) ^^^ (-1 : Int32)))).bind (fun (z_28 : Int32) => ck (inb ((t_row * (7 : Int32)) + t_column) 49) (if z_28 = (1 : Int32) then some (t_row - (1 : Int32), t_column, (2 : Int32), upd t_open ((t_row * (7 : Int32)) + t_column).toNatClampNeg (0 : Int32)) else if z_28 = (2 : Int32) then some (t_row, t_column + (1 : Int32), (3 : Int32), upd t_open ((t_row * (7 : Int32)) + t_column).toNatClampNeg (0 : Int32)) else if z_28 = (4 : Int32) then some (t_row + (1 : Int32), t_column, (0 : Int32), upd t_open ((t_row * (7 : Int32)) + t_column).toNatClampNeg (0 : Int32)) else some (t_row, t_column - (1 : Int32), (1 : Int32), upd t_open ((t_row * (7 : Int32)) + t_column).toNatClampNeg (0 : Int32)))))
theorem kd_X1_goOn : yX1_goOn.cls = RX1 ∧ yX1_goOn.cls ≠ "java/lang/invoke/MethodHandle" ∧ yX1_goOn.cls ≠ "java/lang/invoke/VarHandle" ∧ (parseMethodDescriptor yX1_goOn.desc).map (fun d => d.parameters.length) = some 0 := by decide +kernel
set_option maxHeartbeats 4000000 in
set_option maxRecDepth 100000 in
theorem c_X1_goOn {l : Launch} {G : kG} (sz : Nat) {q_t : Nat} {q_t_partners : Nat} {q_t_lengths : Nat} {t_ringEdges : Int32} {t_rings : Int32} {t_size : Int32} {t_ends : Int32} {q_t_open : Nat} {q_t_endAtRim : Nat} {t_row : Int32} {t_column : Int32} {t_side : Int32} {t_open : Nat → Int32} {res : Int32 × Int32 × Int32 × (Nat → Int32)} (hE : S_X1_goOn t_row t_column t_side t_open = some res) : Met l yX1_goOn wsX1_goOn ({ frames := 0, cells := 0, slots := 0, locals := 0 }) (va_Pc [.ref q_t] (fun U => U.heap.size = sz ∧ va_P G.1 vwCl [oX1 q_t q_t_partners q_t_lengths t_ringEdges t_rings t_size t_ends q_t_open q_t_endAtRim t_row t_column t_side, aI (G.2 1) q_t_open 49 t_open] U.heap ∧ kw G U ∧ va_D (fun _ => True) [oX1 q_t q_t_partners q_t_lengths t_ringEdges t_rings t_size t_ends q_t_open q_t_endAtRim t_row t_column t_side, aI (G.2 1) q_t_open 49 t_open])) (va_Qv (fun (_ : Unit) => True) (fun _ t => va_P G.1 vwCl [oX1 q_t q_t_partners q_t_lengths t_ringEdges t_rings t_size t_ends q_t_open q_t_endAtRim res.1 res.2.1 res.2.2.1, aI (G.2 1) q_t_open 49 res.2.2.2] t.heap ∧ va_D (va_A [oX1 q_t q_t_partners q_t_lengths t_ringEdges t_rings t_size t_ends q_t_open q_t_endAtRim t_row t_column t_side, aI (G.2 1) q_t_open 49 t_open] sz) [oX1 q_t q_t_partners q_t_lengths t_ringEdges t_rings t_size t_ends q_t_open q_t_endAtRim res.1 res.2.1 res.2.2.1, aI (G.2 1) q_t_open 49 res.2.2.2]) (va_A [oX1 q_t q_t_partners q_t_lengths t_ringEdges t_rings t_size t_ends q_t_open q_t_endAtRim t_row t_column t_side, aI (G.2 1) q_t_open 49 t_open] sz)) 0 0 (va_A [oX1 q_t q_t_partners q_t_lengths t_ringEdges t_rings t_size t_ends q_t_open q_t_endAtRim t_row t_column t_side, aI (G.2 1) q_t_open 49 t_open] sz) := by
  refine Met.ofQ (cc := cX1_goOn) (maxL := 3) (ret := none) (by decide) rfl ?_
  intro p e s m args below meth c s₁ Q hQ B hml hv
  obtain ⟨rfl, hsz, hP, hKW, hD0⟩ := hv
  have hK := hKW.1
  have hx := B.exec
  have hb := B.bytes
  have hr := B.returns
  have hts := atoms_spec (ws := wsX1_goOn) B.pre
  have hown : s.vm.findClass RX1 = some m.cls := findClass_of_methodNamed B.named
  have hlocks := B.notSynchronized
  have iX1 : ∀ w ∈ u_ws RX1 TX1 11, w ∈ wsX1_goOn := by decide +kernel
  have fl_64 := hts (.fieldLink RX1 64 "AlternateSigns$Lines" "row" "I") (by decide +kernel)
  have fl_67 := hts (.fieldLink RX1 67 "AlternateSigns$Lines" "column" "I") (by decide +kernel)
  have fl_18 := hts (.fieldLink RX1 18 "AlternateSigns$Lines" "open" "[I") (by decide +kernel)
  have fl_70 := hts (.fieldLink RX1 70 "AlternateSigns$Lines" "side" "I") (by decide +kernel)
  subst hsz
  have hD := hD0.self (sz := s.heap.size)
  generalize hAe : va_A [oX1 q_t q_t_partners q_t_lengths t_ringEdges t_rings t_size t_ends q_t_open q_t_endAtRim t_row t_column t_side, aI (G.2 1) q_t_open 49 t_open] s.heap.size = A at hD hQ
  have hA : ∀ q : Nat, s.heap.size ≤ q → A q := fun q h => by rw [← hAe]; exact Or.inr h
  have hS : va_S A s.heap s.heap [] := va_S.rf
  have hl := lv_entry ([.ref q_t]) (n := 3) (Nat.le_of_ble_eq_true rfl)
  rw [lg_entry_eq]
  generalize (lg_sl ([.ref q_t]) ++ List.replicate (3 - (lg_sl ([.ref q_t])).length) Slot.unset).toArray = ls at hl ⊢
  have hl : lv_has ls 3 [(0, .ref q_t)] := hl
  unfold S_X1_goOn at hE
  refine lv_aload_n hx hb dX1_goOn_0 rfl (lv_at hl 0 rfl) ?_
  refine va_get (D := G.1) (ci := 1) (v := .int t_row) (C := RX1) (T := TX1) (N := 11) hx hb hts iX1 hown hK hP 0 rfl rfl 8 (by decide) fl_64 (fun _ h9 => h9) rfl dX1_goOn_1 ?_
  refine lv_bipush (v := 7) hx hb dX1_goOn_4 (by decide) ?_
  refine lv_imul hx hb dX1_goOn_6 ?_
  refine lv_aload_n hx hb dX1_goOn_7 rfl (lv_at hl 0 rfl) ?_
  refine va_get (D := G.1) (ci := 1) (v := .int t_column) (C := RX1) (T := TX1) (N := 11) hx hb hts iX1 hown hK hP 0 rfl rfl 9 (by decide) fl_67 (fun _ h9 => h9) rfl dX1_goOn_8 ?_
  refine lv_iadd hx hb dX1_goOn_11 ?_
  refine lv_istore_n (lv' := [(1, .int ((t_row * (7 : Int32)) + t_column)), (0, .ref q_t)]) hx hb dX1_goOn_12 rfl hl (by decide) rfl (fun ls hl => ?_)
  refine lv_aload_n hx hb dX1_goOn_13 rfl (lv_at hl 1 rfl) ?_
  refine va_get (D := G.1) (ci := 1) (v := .ref q_t_open) (C := RX1) (T := TX1) (N := 11) hx hb hts iX1 hown hK hP 0 rfl rfl 6 (by decide) fl_18 (fun _ h9 => h9) rfl dX1_goOn_14 ?_
  refine lv_iload_n hx hb dX1_goOn_17 rfl (lv_at hl 0 rfl) ?_
  obtain ⟨hi_18, hE⟩ := ck_some hE
  refine va_iald hx hb hK hP 1 1 rfl rfl (inb_in hi_18) dX1_goOn_18 ?_
  refine lv_iconst (v := 1) hx hb dX1_goOn_19 (by decide) ?_
  refine lv_aload_n hx hb dX1_goOn_20 rfl (lv_at hl 1 rfl) ?_
  refine va_get (D := G.1) (ci := 1) (v := .int t_side) (C := RX1) (T := TX1) (N := 11) hx hb hts iX1 hown hK hP 0 rfl rfl 10 (by decide) fl_70 (fun _ h9 => h9) rfl dX1_goOn_21 ?_
  refine lv_ishl hx hb dX1_goOn_24 ?_
  refine lv_iconst (v := -1) hx hb dX1_goOn_25 (by decide) ?_
  refine lv_ixor hx hb dX1_goOn_26 ?_
  refine lv_iand hx hb dX1_goOn_27 ?_
  refine lv_topi (fun z_28 ez9 => ?_)
  rw [← ez9] at hE
  replace hE := bs_some hE
  try dsimp only at hE
  clear ez9
  refine lv_istore_n (lv' := [(2, .int z_28), (1, .int ((t_row * (7 : Int32)) + t_column)), (0, .ref q_t)]) hx hb dX1_goOn_28 rfl hl (by decide) rfl (fun ls hl => ?_)
  refine lv_aload_n hx hb dX1_goOn_29 rfl (lv_at hl 2 rfl) ?_
  refine va_get (D := G.1) (ci := 1) (v := .ref q_t_open) (C := RX1) (T := TX1) (N := 11) hx hb hts iX1 hown hK hP 0 rfl rfl 6 (by decide) fl_18 (fun _ h9 => h9) rfl dX1_goOn_30 ?_
  refine lv_iload_n hx hb dX1_goOn_33 rfl (lv_at hl 1 rfl) ?_
  refine lv_iconst (v := 0) hx hb dX1_goOn_34 (by decide) ?_
  obtain ⟨hi_35, hE⟩ := ck_some hE
  refine va_iast hx hb hK hP hD hS 1 1 rfl rfl (inb_in hi_35) dX1_goOn_35 (fun H locs hP hD hS => ?_)
  have hP : va_P G.1 vwCl [oX1 q_t q_t_partners q_t_lengths t_ringEdges t_rings t_size t_ends q_t_open q_t_endAtRim t_row t_column t_side, aI (G.2 1) q_t_open 49 (upd t_open ((t_row * (7 : Int32)) + t_column).toNatClampNeg (0 : Int32))] H := hP
  have hD : va_D A [oX1 q_t q_t_partners q_t_lengths t_ringEdges t_rings t_size t_ends q_t_open q_t_endAtRim t_row t_column t_side, aI (G.2 1) q_t_open 49 (upd t_open ((t_row * (7 : Int32)) + t_column).toNatClampNeg (0 : Int32))] := hD
  refine lv_iload_n hx hb dX1_goOn_36 rfl (lv_at hl 0 rfl) ?_
  refine lv_iconst (v := 1) hx hb dX1_goOn_37 (by decide) ?_
  refine lv_icmp_ne (tgt := 59) hx hb dX1_goOn_38 (by decide) (fun c_38 => ?_) (fun c_38 => ?_)
  · replace hE := (if_neg c_38).symm.trans hE
    refine lv_iload_n hx hb dX1_goOn_59 rfl (lv_at hl 0 rfl) ?_
    refine lv_iconst (v := 2) hx hb dX1_goOn_60 (by decide) ?_
    refine lv_icmp_ne (tgt := 82) hx hb dX1_goOn_61 (by decide) (fun c_61 => ?_) (fun c_61 => ?_)
    · replace hE := (if_neg c_61).symm.trans hE
      refine lv_iload_n hx hb dX1_goOn_82 rfl (lv_at hl 0 rfl) ?_
      refine lv_iconst (v := 4) hx hb dX1_goOn_83 (by decide) ?_
      refine lv_icmp_ne (tgt := 105) hx hb dX1_goOn_84 (by decide) (fun c_84 => ?_) (fun c_84 => ?_)
      · replace hE := (if_neg c_84).symm.trans hE
        refine lv_aload_n hx hb dX1_goOn_105 rfl (lv_at hl 2 rfl) ?_
        refine lv_dup hx hb dX1_goOn_106 rfl ?_
        refine va_get (D := G.1) (ci := 1) (v := .int t_column) (C := RX1) (T := TX1) (N := 11) hx hb hts iX1 hown hK hP 0 rfl rfl 9 (by decide) fl_67 (fun _ h9 => h9) rfl dX1_goOn_107 ?_
        refine lv_iconst (v := 1) hx hb dX1_goOn_110 (by decide) ?_
        refine lv_isub hx hb dX1_goOn_111 ?_
        refine va_put (D := G.1) (ci := 1) (v := .int (t_column - (1 : Int32))) (ty := .int) (C := RX1) (T := TX1) (N := 11) hx hb hts iX1 tyX1 tyX1_ok nmX1 hown hK hP hD hS 0 rfl rfl 9 (by decide) fl_67 (fun _ h9 => h9) rfl (by decide +kernel) rfl rfl (Nat.le_of_ble_eq_true rfl) dX1_goOn_112 (fun H locs hP hD hS => ?_)
        have hP : va_P G.1 vwCl [oX1 q_t q_t_partners q_t_lengths t_ringEdges t_rings t_size t_ends q_t_open q_t_endAtRim t_row (t_column - (1 : Int32)) t_side, aI (G.2 1) q_t_open 49 (upd t_open ((t_row * (7 : Int32)) + t_column).toNatClampNeg (0 : Int32))] H := hP
        have hD : va_D A [oX1 q_t q_t_partners q_t_lengths t_ringEdges t_rings t_size t_ends q_t_open q_t_endAtRim t_row (t_column - (1 : Int32)) t_side, aI (G.2 1) q_t_open 49 (upd t_open ((t_row * (7 : Int32)) + t_column).toNatClampNeg (0 : Int32))] := hD
        refine lv_aload_n hx hb dX1_goOn_115 rfl (lv_at hl 2 rfl) ?_
        refine lv_iconst (v := 1) hx hb dX1_goOn_116 (by decide) ?_
        refine va_put (D := G.1) (ci := 1) (v := .int (1 : Int32)) (ty := .int) (C := RX1) (T := TX1) (N := 11) hx hb hts iX1 tyX1 tyX1_ok nmX1 hown hK hP hD hS 0 rfl rfl 10 (by decide) fl_70 (fun _ h9 => h9) rfl (by decide +kernel) rfl rfl (Nat.le_of_ble_eq_true rfl) dX1_goOn_117 (fun H locs hP hD hS => ?_)
        have hP : va_P G.1 vwCl [oX1 q_t q_t_partners q_t_lengths t_ringEdges t_rings t_size t_ends q_t_open q_t_endAtRim t_row (t_column - (1 : Int32)) (1 : Int32), aI (G.2 1) q_t_open 49 (upd t_open ((t_row * (7 : Int32)) + t_column).toNatClampNeg (0 : Int32))] H := hP
        have hD : va_D A [oX1 q_t q_t_partners q_t_lengths t_ringEdges t_rings t_size t_ends q_t_open q_t_endAtRim t_row (t_column - (1 : Int32)) (1 : Int32), aI (G.2 1) q_t_open 49 (upd t_open ((t_row * (7 : Int32)) + t_column).toNatClampNeg (0 : Int32))] := hD
        have e_0 := Option.some.inj hE
        subst e_0
        rw [hQ]
        exact W.vret hx hb hr (fun t ht _ => ⟨⟨(), rfl, trivial, by rw [ht]; exact hP, hD⟩, hS.F ht⟩) hS.2.2 dX1_goOn_120
      · replace hE := (if_pos c_84).symm.trans hE
        refine lv_aload_n hx hb dX1_goOn_87 rfl (lv_at hl 2 rfl) ?_
        refine lv_dup hx hb dX1_goOn_88 rfl ?_
        refine va_get (D := G.1) (ci := 1) (v := .int t_row) (C := RX1) (T := TX1) (N := 11) hx hb hts iX1 hown hK hP 0 rfl rfl 8 (by decide) fl_64 (fun _ h9 => h9) rfl dX1_goOn_89 ?_
        refine lv_iconst (v := 1) hx hb dX1_goOn_92 (by decide) ?_
        refine lv_iadd hx hb dX1_goOn_93 ?_
        refine va_put (D := G.1) (ci := 1) (v := .int (t_row + (1 : Int32))) (ty := .int) (C := RX1) (T := TX1) (N := 11) hx hb hts iX1 tyX1 tyX1_ok nmX1 hown hK hP hD hS 0 rfl rfl 8 (by decide) fl_64 (fun _ h9 => h9) rfl (by decide +kernel) rfl rfl (Nat.le_of_ble_eq_true rfl) dX1_goOn_94 (fun H locs hP hD hS => ?_)
        have hP : va_P G.1 vwCl [oX1 q_t q_t_partners q_t_lengths t_ringEdges t_rings t_size t_ends q_t_open q_t_endAtRim (t_row + (1 : Int32)) t_column t_side, aI (G.2 1) q_t_open 49 (upd t_open ((t_row * (7 : Int32)) + t_column).toNatClampNeg (0 : Int32))] H := hP
        have hD : va_D A [oX1 q_t q_t_partners q_t_lengths t_ringEdges t_rings t_size t_ends q_t_open q_t_endAtRim (t_row + (1 : Int32)) t_column t_side, aI (G.2 1) q_t_open 49 (upd t_open ((t_row * (7 : Int32)) + t_column).toNatClampNeg (0 : Int32))] := hD
        refine lv_aload_n hx hb dX1_goOn_97 rfl (lv_at hl 2 rfl) ?_
        refine lv_iconst (v := 0) hx hb dX1_goOn_98 (by decide) ?_
        refine va_put (D := G.1) (ci := 1) (v := .int (0 : Int32)) (ty := .int) (C := RX1) (T := TX1) (N := 11) hx hb hts iX1 tyX1 tyX1_ok nmX1 hown hK hP hD hS 0 rfl rfl 10 (by decide) fl_70 (fun _ h9 => h9) rfl (by decide +kernel) rfl rfl (Nat.le_of_ble_eq_true rfl) dX1_goOn_99 (fun H locs hP hD hS => ?_)
        have hP : va_P G.1 vwCl [oX1 q_t q_t_partners q_t_lengths t_ringEdges t_rings t_size t_ends q_t_open q_t_endAtRim (t_row + (1 : Int32)) t_column (0 : Int32), aI (G.2 1) q_t_open 49 (upd t_open ((t_row * (7 : Int32)) + t_column).toNatClampNeg (0 : Int32))] H := hP
        have hD : va_D A [oX1 q_t q_t_partners q_t_lengths t_ringEdges t_rings t_size t_ends q_t_open q_t_endAtRim (t_row + (1 : Int32)) t_column (0 : Int32), aI (G.2 1) q_t_open 49 (upd t_open ((t_row * (7 : Int32)) + t_column).toNatClampNeg (0 : Int32))] := hD
        refine lv_goto (tgt := 120) hx hb dX1_goOn_102 (by decide) ?_
        have e_0 := Option.some.inj hE
        subst e_0
        rw [hQ]
        exact W.vret hx hb hr (fun t ht _ => ⟨⟨(), rfl, trivial, by rw [ht]; exact hP, hD⟩, hS.F ht⟩) hS.2.2 dX1_goOn_120
    · replace hE := (if_pos c_61).symm.trans hE
      refine lv_aload_n hx hb dX1_goOn_64 rfl (lv_at hl 2 rfl) ?_
      refine lv_dup hx hb dX1_goOn_65 rfl ?_
      refine va_get (D := G.1) (ci := 1) (v := .int t_column) (C := RX1) (T := TX1) (N := 11) hx hb hts iX1 hown hK hP 0 rfl rfl 9 (by decide) fl_67 (fun _ h9 => h9) rfl dX1_goOn_66 ?_
      refine lv_iconst (v := 1) hx hb dX1_goOn_69 (by decide) ?_
      refine lv_iadd hx hb dX1_goOn_70 ?_
      refine va_put (D := G.1) (ci := 1) (v := .int (t_column + (1 : Int32))) (ty := .int) (C := RX1) (T := TX1) (N := 11) hx hb hts iX1 tyX1 tyX1_ok nmX1 hown hK hP hD hS 0 rfl rfl 9 (by decide) fl_67 (fun _ h9 => h9) rfl (by decide +kernel) rfl rfl (Nat.le_of_ble_eq_true rfl) dX1_goOn_71 (fun H locs hP hD hS => ?_)
      have hP : va_P G.1 vwCl [oX1 q_t q_t_partners q_t_lengths t_ringEdges t_rings t_size t_ends q_t_open q_t_endAtRim t_row (t_column + (1 : Int32)) t_side, aI (G.2 1) q_t_open 49 (upd t_open ((t_row * (7 : Int32)) + t_column).toNatClampNeg (0 : Int32))] H := hP
      have hD : va_D A [oX1 q_t q_t_partners q_t_lengths t_ringEdges t_rings t_size t_ends q_t_open q_t_endAtRim t_row (t_column + (1 : Int32)) t_side, aI (G.2 1) q_t_open 49 (upd t_open ((t_row * (7 : Int32)) + t_column).toNatClampNeg (0 : Int32))] := hD
      refine lv_aload_n hx hb dX1_goOn_74 rfl (lv_at hl 2 rfl) ?_
      refine lv_iconst (v := 3) hx hb dX1_goOn_75 (by decide) ?_
      refine va_put (D := G.1) (ci := 1) (v := .int (3 : Int32)) (ty := .int) (C := RX1) (T := TX1) (N := 11) hx hb hts iX1 tyX1 tyX1_ok nmX1 hown hK hP hD hS 0 rfl rfl 10 (by decide) fl_70 (fun _ h9 => h9) rfl (by decide +kernel) rfl rfl (Nat.le_of_ble_eq_true rfl) dX1_goOn_76 (fun H locs hP hD hS => ?_)
      have hP : va_P G.1 vwCl [oX1 q_t q_t_partners q_t_lengths t_ringEdges t_rings t_size t_ends q_t_open q_t_endAtRim t_row (t_column + (1 : Int32)) (3 : Int32), aI (G.2 1) q_t_open 49 (upd t_open ((t_row * (7 : Int32)) + t_column).toNatClampNeg (0 : Int32))] H := hP
      have hD : va_D A [oX1 q_t q_t_partners q_t_lengths t_ringEdges t_rings t_size t_ends q_t_open q_t_endAtRim t_row (t_column + (1 : Int32)) (3 : Int32), aI (G.2 1) q_t_open 49 (upd t_open ((t_row * (7 : Int32)) + t_column).toNatClampNeg (0 : Int32))] := hD
      refine lv_goto (tgt := 120) hx hb dX1_goOn_79 (by decide) ?_
      have e_0 := Option.some.inj hE
      subst e_0
      rw [hQ]
      exact W.vret hx hb hr (fun t ht _ => ⟨⟨(), rfl, trivial, by rw [ht]; exact hP, hD⟩, hS.F ht⟩) hS.2.2 dX1_goOn_120
  · replace hE := (if_pos c_38).symm.trans hE
    refine lv_aload_n hx hb dX1_goOn_41 rfl (lv_at hl 2 rfl) ?_
    refine lv_dup hx hb dX1_goOn_42 rfl ?_
    refine va_get (D := G.1) (ci := 1) (v := .int t_row) (C := RX1) (T := TX1) (N := 11) hx hb hts iX1 hown hK hP 0 rfl rfl 8 (by decide) fl_64 (fun _ h9 => h9) rfl dX1_goOn_43 ?_
    refine lv_iconst (v := 1) hx hb dX1_goOn_46 (by decide) ?_
    refine lv_isub hx hb dX1_goOn_47 ?_
    refine va_put (D := G.1) (ci := 1) (v := .int (t_row - (1 : Int32))) (ty := .int) (C := RX1) (T := TX1) (N := 11) hx hb hts iX1 tyX1 tyX1_ok nmX1 hown hK hP hD hS 0 rfl rfl 8 (by decide) fl_64 (fun _ h9 => h9) rfl (by decide +kernel) rfl rfl (Nat.le_of_ble_eq_true rfl) dX1_goOn_48 (fun H locs hP hD hS => ?_)
    have hP : va_P G.1 vwCl [oX1 q_t q_t_partners q_t_lengths t_ringEdges t_rings t_size t_ends q_t_open q_t_endAtRim (t_row - (1 : Int32)) t_column t_side, aI (G.2 1) q_t_open 49 (upd t_open ((t_row * (7 : Int32)) + t_column).toNatClampNeg (0 : Int32))] H := hP
    have hD : va_D A [oX1 q_t q_t_partners q_t_lengths t_ringEdges t_rings t_size t_ends q_t_open q_t_endAtRim (t_row - (1 : Int32)) t_column t_side, aI (G.2 1) q_t_open 49 (upd t_open ((t_row * (7 : Int32)) + t_column).toNatClampNeg (0 : Int32))] := hD
    refine lv_aload_n hx hb dX1_goOn_51 rfl (lv_at hl 2 rfl) ?_
    refine lv_iconst (v := 2) hx hb dX1_goOn_52 (by decide) ?_
    refine va_put (D := G.1) (ci := 1) (v := .int (2 : Int32)) (ty := .int) (C := RX1) (T := TX1) (N := 11) hx hb hts iX1 tyX1 tyX1_ok nmX1 hown hK hP hD hS 0 rfl rfl 10 (by decide) fl_70 (fun _ h9 => h9) rfl (by decide +kernel) rfl rfl (Nat.le_of_ble_eq_true rfl) dX1_goOn_53 (fun H locs hP hD hS => ?_)
    have hP : va_P G.1 vwCl [oX1 q_t q_t_partners q_t_lengths t_ringEdges t_rings t_size t_ends q_t_open q_t_endAtRim (t_row - (1 : Int32)) t_column (2 : Int32), aI (G.2 1) q_t_open 49 (upd t_open ((t_row * (7 : Int32)) + t_column).toNatClampNeg (0 : Int32))] H := hP
    have hD : va_D A [oX1 q_t q_t_partners q_t_lengths t_ringEdges t_rings t_size t_ends q_t_open q_t_endAtRim (t_row - (1 : Int32)) t_column (2 : Int32), aI (G.2 1) q_t_open 49 (upd t_open ((t_row * (7 : Int32)) + t_column).toNatClampNeg (0 : Int32))] := hD
    refine lv_goto (tgt := 120) hx hb dX1_goOn_56 (by decide) ?_
    have e_0 := Option.some.inj hE
    subst e_0
    rw [hQ]
    exact W.vret hx hb hr (fun t ht _ => ⟨⟨(), rfl, trivial, by rw [ht]; exact hP, hD⟩, hS.F ht⟩) hS.2.2 dX1_goOn_120
def S_X1_rimPassed (t_size : Int32) (t_row : Int32) (t_column : Int32) : Option Int32 := if (1 : Int32) ≤ t_row then if t_column ≤ t_size then if t_row ≤ t_size then some ((((3 : Int32) * t_size) + t_size) - t_row) else some ((((2 : Int32) * t_size) + t_size) - t_column) else some ((((1 : Int32) * t_size) + t_row) - (1 : Int32)) else some ((((0 : Int32) * t_size) + t_column) - (1 : Int32))
theorem kd_X1_rimPassed : yX1_rimPassed.cls = RX1 ∧ yX1_rimPassed.cls ≠ "java/lang/invoke/MethodHandle" ∧ yX1_rimPassed.cls ≠ "java/lang/invoke/VarHandle" ∧ (parseMethodDescriptor yX1_rimPassed.desc).map (fun d => d.parameters.length) = some 0 := by decide +kernel
set_option maxHeartbeats 4000000 in
set_option maxRecDepth 100000 in
theorem c_X1_rimPassed {l : Launch} {G : kG} {q_t : Nat} {q_t_partners : Nat} {q_t_lengths : Nat} {t_ringEdges : Int32} {t_rings : Int32} {t_size : Int32} {t_ends : Int32} {q_t_open : Nat} {q_t_endAtRim : Nat} {t_row : Int32} {t_column : Int32} {t_side : Int32} {res : Int32} (hE : S_X1_rimPassed t_size t_row t_column = some res) : Met l yX1_rimPassed wsX1_rimPassed ({ frames := 0, cells := 0, slots := 0, locals := 0 }) (va_Pc [.ref q_t] (fun U => va_P G.1 vwCl [oX1 q_t q_t_partners q_t_lengths t_ringEdges t_rings t_size t_ends q_t_open q_t_endAtRim t_row t_column t_side] U.heap ∧ kw G U)) (vp_Si (fun r => r = res)) 0 0 (fun _ => False) := by
  refine Met.ofQ (cc := cX1_rimPassed) (maxL := 1) (ret := (some .int)) (by decide) rfl ?_
  intro p e s m args below meth c s₁ Q hQ B hml hv
  obtain ⟨rfl, hP, hKW⟩ := hv
  have hK := hKW.1
  have hx := B.exec
  have hb := B.bytes
  have hr := B.returns
  have hts := atoms_spec (ws := wsX1_rimPassed) B.pre
  have hown : s.vm.findClass RX1 = some m.cls := findClass_of_methodNamed B.named
  have hlocks := B.notSynchronized
  have iX1 : ∀ w ∈ u_ws RX1 TX1 11, w ∈ wsX1_rimPassed := by decide +kernel
  have fl_64 := hts (.fieldLink RX1 64 "AlternateSigns$Lines" "row" "I") (by decide +kernel)
  have fl_30 := hts (.fieldLink RX1 30 "AlternateSigns$Lines" "size" "I") (by decide +kernel)
  have fl_67 := hts (.fieldLink RX1 67 "AlternateSigns$Lines" "column" "I") (by decide +kernel)
  have hl := lv_entry ([.ref q_t]) (n := 1) (Nat.le_of_ble_eq_true rfl)
  rw [lg_entry_eq]
  generalize (lg_sl ([.ref q_t]) ++ List.replicate (1 - (lg_sl ([.ref q_t])).length) Slot.unset).toArray = ls at hl ⊢
  have hl : lv_has ls 1 [(0, .ref q_t)] := hl
  unfold S_X1_rimPassed at hE
  refine lv_aload_n hx hb dX1_rimPassed_0 rfl (lv_at hl 0 rfl) ?_
  refine va_get (D := G.1) (ci := 1) (v := .int t_row) (C := RX1) (T := TX1) (N := 11) hx hb hts iX1 hown hK hP 0 rfl rfl 8 (by decide) fl_64 (fun _ h9 => h9) rfl dX1_rimPassed_1 ?_
  refine lv_iconst (v := 1) hx hb dX1_rimPassed_4 (by decide) ?_
  refine lv_icmp_ge (tgt := 22) hx hb dX1_rimPassed_5 (by decide) (fun c_5 => ?_) (fun c_5 => ?_)
  · replace hE := (if_pos c_5).symm.trans hE
    refine lv_aload_n hx hb dX1_rimPassed_22 rfl (lv_at hl 0 rfl) ?_
    refine va_get (D := G.1) (ci := 1) (v := .int t_column) (C := RX1) (T := TX1) (N := 11) hx hb hts iX1 hown hK hP 0 rfl rfl 9 (by decide) fl_67 (fun _ h9 => h9) rfl dX1_rimPassed_23 ?_
    refine lv_aload_n hx hb dX1_rimPassed_26 rfl (lv_at hl 0 rfl) ?_
    refine va_get (D := G.1) (ci := 1) (v := .int t_size) (C := RX1) (T := TX1) (N := 11) hx hb hts iX1 hown hK hP 0 rfl rfl 4 (by decide) fl_30 (fun _ h9 => h9) rfl dX1_rimPassed_27 ?_
    refine lv_icmp_le (tgt := 47) hx hb dX1_rimPassed_30 (by decide) (fun c_30 => ?_) (fun c_30 => ?_)
    · replace hE := (if_pos c_30).symm.trans hE
      refine lv_aload_n hx hb dX1_rimPassed_47 rfl (lv_at hl 0 rfl) ?_
      refine va_get (D := G.1) (ci := 1) (v := .int t_row) (C := RX1) (T := TX1) (N := 11) hx hb hts iX1 hown hK hP 0 rfl rfl 8 (by decide) fl_64 (fun _ h9 => h9) rfl dX1_rimPassed_48 ?_
      refine lv_aload_n hx hb dX1_rimPassed_51 rfl (lv_at hl 0 rfl) ?_
      refine va_get (D := G.1) (ci := 1) (v := .int t_size) (C := RX1) (T := TX1) (N := 11) hx hb hts iX1 hown hK hP 0 rfl rfl 4 (by decide) fl_30 (fun _ h9 => h9) rfl dX1_rimPassed_52 ?_
      refine lv_icmp_le (tgt := 75) hx hb dX1_rimPassed_55 (by decide) (fun c_55 => ?_) (fun c_55 => ?_)
      · replace hE := (if_pos c_55).symm.trans hE
        refine lv_iconst (v := 3) hx hb dX1_rimPassed_75 (by decide) ?_
        refine lv_aload_n hx hb dX1_rimPassed_76 rfl (lv_at hl 0 rfl) ?_
        refine va_get (D := G.1) (ci := 1) (v := .int t_size) (C := RX1) (T := TX1) (N := 11) hx hb hts iX1 hown hK hP 0 rfl rfl 4 (by decide) fl_30 (fun _ h9 => h9) rfl dX1_rimPassed_77 ?_
        refine lv_imul hx hb dX1_rimPassed_80 ?_
        refine lv_aload_n hx hb dX1_rimPassed_81 rfl (lv_at hl 0 rfl) ?_
        refine va_get (D := G.1) (ci := 1) (v := .int t_size) (C := RX1) (T := TX1) (N := 11) hx hb hts iX1 hown hK hP 0 rfl rfl 4 (by decide) fl_30 (fun _ h9 => h9) rfl dX1_rimPassed_82 ?_
        refine lv_iadd hx hb dX1_rimPassed_85 ?_
        refine lv_aload_n hx hb dX1_rimPassed_86 rfl (lv_at hl 0 rfl) ?_
        refine va_get (D := G.1) (ci := 1) (v := .int t_row) (C := RX1) (T := TX1) (N := 11) hx hb hts iX1 hown hK hP 0 rfl rfl 8 (by decide) fl_64 (fun _ h9 => h9) rfl dX1_rimPassed_87 ?_
        refine lv_isub hx hb dX1_rimPassed_90 ?_
        have e_0 := Option.some.inj hE
        rw [hQ]
        exact W.iret (v := (((3 : Int32) * t_size) + t_size) - t_row) hx hb hr (fun t ht _ => ⟨_, rfl, e_0, ht⟩) (fun q h => by cases h) dX1_rimPassed_91
      · replace hE := (if_neg c_55).symm.trans hE
        refine lv_iconst (v := 2) hx hb dX1_rimPassed_58 (by decide) ?_
        refine lv_aload_n hx hb dX1_rimPassed_59 rfl (lv_at hl 0 rfl) ?_
        refine va_get (D := G.1) (ci := 1) (v := .int t_size) (C := RX1) (T := TX1) (N := 11) hx hb hts iX1 hown hK hP 0 rfl rfl 4 (by decide) fl_30 (fun _ h9 => h9) rfl dX1_rimPassed_60 ?_
        refine lv_imul hx hb dX1_rimPassed_63 ?_
        refine lv_aload_n hx hb dX1_rimPassed_64 rfl (lv_at hl 0 rfl) ?_
        refine va_get (D := G.1) (ci := 1) (v := .int t_size) (C := RX1) (T := TX1) (N := 11) hx hb hts iX1 hown hK hP 0 rfl rfl 4 (by decide) fl_30 (fun _ h9 => h9) rfl dX1_rimPassed_65 ?_
        refine lv_iadd hx hb dX1_rimPassed_68 ?_
        refine lv_aload_n hx hb dX1_rimPassed_69 rfl (lv_at hl 0 rfl) ?_
        refine va_get (D := G.1) (ci := 1) (v := .int t_column) (C := RX1) (T := TX1) (N := 11) hx hb hts iX1 hown hK hP 0 rfl rfl 9 (by decide) fl_67 (fun _ h9 => h9) rfl dX1_rimPassed_70 ?_
        refine lv_isub hx hb dX1_rimPassed_73 ?_
        have e_0 := Option.some.inj hE
        rw [hQ]
        exact W.iret (v := (((2 : Int32) * t_size) + t_size) - t_column) hx hb hr (fun t ht _ => ⟨_, rfl, e_0, ht⟩) (fun q h => by cases h) dX1_rimPassed_74
    · replace hE := (if_neg c_30).symm.trans hE
      refine lv_iconst (v := 1) hx hb dX1_rimPassed_33 (by decide) ?_
      refine lv_aload_n hx hb dX1_rimPassed_34 rfl (lv_at hl 0 rfl) ?_
      refine va_get (D := G.1) (ci := 1) (v := .int t_size) (C := RX1) (T := TX1) (N := 11) hx hb hts iX1 hown hK hP 0 rfl rfl 4 (by decide) fl_30 (fun _ h9 => h9) rfl dX1_rimPassed_35 ?_
      refine lv_imul hx hb dX1_rimPassed_38 ?_
      refine lv_aload_n hx hb dX1_rimPassed_39 rfl (lv_at hl 0 rfl) ?_
      refine va_get (D := G.1) (ci := 1) (v := .int t_row) (C := RX1) (T := TX1) (N := 11) hx hb hts iX1 hown hK hP 0 rfl rfl 8 (by decide) fl_64 (fun _ h9 => h9) rfl dX1_rimPassed_40 ?_
      refine lv_iadd hx hb dX1_rimPassed_43 ?_
      refine lv_iconst (v := 1) hx hb dX1_rimPassed_44 (by decide) ?_
      refine lv_isub hx hb dX1_rimPassed_45 ?_
      have e_0 := Option.some.inj hE
      rw [hQ]
      exact W.iret (v := (((1 : Int32) * t_size) + t_row) - (1 : Int32)) hx hb hr (fun t ht _ => ⟨_, rfl, e_0, ht⟩) (fun q h => by cases h) dX1_rimPassed_46
  · replace hE := (if_neg c_5).symm.trans hE
    refine lv_iconst (v := 0) hx hb dX1_rimPassed_8 (by decide) ?_
    refine lv_aload_n hx hb dX1_rimPassed_9 rfl (lv_at hl 0 rfl) ?_
    refine va_get (D := G.1) (ci := 1) (v := .int t_size) (C := RX1) (T := TX1) (N := 11) hx hb hts iX1 hown hK hP 0 rfl rfl 4 (by decide) fl_30 (fun _ h9 => h9) rfl dX1_rimPassed_10 ?_
    refine lv_imul hx hb dX1_rimPassed_13 ?_
    refine lv_aload_n hx hb dX1_rimPassed_14 rfl (lv_at hl 0 rfl) ?_
    refine va_get (D := G.1) (ci := 1) (v := .int t_column) (C := RX1) (T := TX1) (N := 11) hx hb hts iX1 hown hK hP 0 rfl rfl 9 (by decide) fl_67 (fun _ h9 => h9) rfl dX1_rimPassed_15 ?_
    refine lv_iadd hx hb dX1_rimPassed_18 ?_
    refine lv_iconst (v := 1) hx hb dX1_rimPassed_19 (by decide) ?_
    refine lv_isub hx hb dX1_rimPassed_20 ?_
    have e_0 := Option.some.inj hE
    rw [hQ]
    exact W.iret (v := (((0 : Int32) * t_size) + t_column) - (1 : Int32)) hx hb hr (fun t ht _ => ⟨_, rfl, e_0, ht⟩) (fun q h => by cases h) dX1_rimPassed_21
def S_X1_join (p1 : Int32) (p2 : Int32) (p3 : Int32) (t_partners : Nat → Int32) (t_lengths : Nat → Int32) : Option ((Nat → Int32) × (Nat → Int32)) := ck (inb p1 12) (ck (inb p2 12) (ck (inb p1 12) (ck (inb p2 12) (some (upd (upd t_partners p1.toNatClampNeg p2) p2.toNatClampNeg p1, upd (upd t_lengths p1.toNatClampNeg p3) p2.toNatClampNeg p3)))))
theorem kd_X1_join : yX1_join.cls = RX1 ∧ yX1_join.cls ≠ "java/lang/invoke/MethodHandle" ∧ yX1_join.cls ≠ "java/lang/invoke/VarHandle" ∧ (parseMethodDescriptor yX1_join.desc).map (fun d => d.parameters.length) = some 3 := by decide +kernel
set_option maxHeartbeats 4000000 in
set_option maxRecDepth 100000 in
theorem c_X1_join {l : Launch} {G : kG} (sz : Nat) {p1 : Int32} {p2 : Int32} {p3 : Int32} {q_t : Nat} {q_t_partners : Nat} {q_t_lengths : Nat} {t_ringEdges : Int32} {t_rings : Int32} {t_size : Int32} {t_ends : Int32} {q_t_open : Nat} {q_t_endAtRim : Nat} {t_row : Int32} {t_column : Int32} {t_side : Int32} {t_partners : Nat → Int32} {t_lengths : Nat → Int32} {res : (Nat → Int32) × (Nat → Int32)} (hE : S_X1_join p1 p2 p3 t_partners t_lengths = some res) : Met l yX1_join wsX1_join ({ frames := 0, cells := 0, slots := 0, locals := 0 }) (va_Pc [.ref q_t, .int p1, .int p2, .int p3] (fun U => U.heap.size = sz ∧ va_P G.1 vwCl [oX1 q_t q_t_partners q_t_lengths t_ringEdges t_rings t_size t_ends q_t_open q_t_endAtRim t_row t_column t_side, aI (G.2 1) q_t_partners 12 t_partners, aI (G.2 1) q_t_lengths 12 t_lengths] U.heap ∧ kw G U ∧ va_D (fun _ => True) [oX1 q_t q_t_partners q_t_lengths t_ringEdges t_rings t_size t_ends q_t_open q_t_endAtRim t_row t_column t_side, aI (G.2 1) q_t_partners 12 t_partners, aI (G.2 1) q_t_lengths 12 t_lengths])) (va_Qv (fun (_ : Unit) => True) (fun _ t => va_P G.1 vwCl [oX1 q_t q_t_partners q_t_lengths t_ringEdges t_rings t_size t_ends q_t_open q_t_endAtRim t_row t_column t_side, aI (G.2 1) q_t_partners 12 res.1, aI (G.2 1) q_t_lengths 12 res.2] t.heap ∧ va_D (va_A [oX1 q_t q_t_partners q_t_lengths t_ringEdges t_rings t_size t_ends q_t_open q_t_endAtRim t_row t_column t_side, aI (G.2 1) q_t_partners 12 t_partners, aI (G.2 1) q_t_lengths 12 t_lengths] sz) [oX1 q_t q_t_partners q_t_lengths t_ringEdges t_rings t_size t_ends q_t_open q_t_endAtRim t_row t_column t_side, aI (G.2 1) q_t_partners 12 res.1, aI (G.2 1) q_t_lengths 12 res.2]) (va_A [oX1 q_t q_t_partners q_t_lengths t_ringEdges t_rings t_size t_ends q_t_open q_t_endAtRim t_row t_column t_side, aI (G.2 1) q_t_partners 12 t_partners, aI (G.2 1) q_t_lengths 12 t_lengths] sz)) 0 0 (va_A [oX1 q_t q_t_partners q_t_lengths t_ringEdges t_rings t_size t_ends q_t_open q_t_endAtRim t_row t_column t_side, aI (G.2 1) q_t_partners 12 t_partners, aI (G.2 1) q_t_lengths 12 t_lengths] sz) := by
  refine Met.ofQ (cc := cX1_join) (maxL := 4) (ret := none) (by decide) rfl ?_
  intro p e s m args below meth c s₁ Q hQ B hml hv
  obtain ⟨rfl, hsz, hP, hKW, hD0⟩ := hv
  have hK := hKW.1
  have hx := B.exec
  have hb := B.bytes
  have hr := B.returns
  have hts := atoms_spec (ws := wsX1_join) B.pre
  have hown : s.vm.findClass RX1 = some m.cls := findClass_of_methodNamed B.named
  have hlocks := B.notSynchronized
  have iX1 : ∀ w ∈ u_ws RX1 TX1 11, w ∈ wsX1_join := by decide +kernel
  have fl_9 := hts (.fieldLink RX1 9 "AlternateSigns$Lines" "partners" "[I") (by decide +kernel)
  have fl_15 := hts (.fieldLink RX1 15 "AlternateSigns$Lines" "lengths" "[I") (by decide +kernel)
  subst hsz
  have hD := hD0.self (sz := s.heap.size)
  generalize hAe : va_A [oX1 q_t q_t_partners q_t_lengths t_ringEdges t_rings t_size t_ends q_t_open q_t_endAtRim t_row t_column t_side, aI (G.2 1) q_t_partners 12 t_partners, aI (G.2 1) q_t_lengths 12 t_lengths] s.heap.size = A at hD hQ
  have hA : ∀ q : Nat, s.heap.size ≤ q → A q := fun q h => by rw [← hAe]; exact Or.inr h
  have hS : va_S A s.heap s.heap [] := va_S.rf
  have hl := lv_entry ([.ref q_t, .int p1, .int p2, .int p3]) (n := 4) (Nat.le_of_ble_eq_true rfl)
  rw [lg_entry_eq]
  generalize (lg_sl ([.ref q_t, .int p1, .int p2, .int p3]) ++ List.replicate (4 - (lg_sl ([.ref q_t, .int p1, .int p2, .int p3])).length) Slot.unset).toArray = ls at hl ⊢
  have hl : lv_has ls 4 [(0, .ref q_t), (1, .int p1), (2, .int p2), (3, .int p3)] := hl
  unfold S_X1_join at hE
  refine lv_aload_n hx hb dX1_join_0 rfl (lv_at hl 0 rfl) ?_
  refine va_get (D := G.1) (ci := 1) (v := .ref q_t_partners) (C := RX1) (T := TX1) (N := 11) hx hb hts iX1 hown hK hP 0 rfl rfl 0 (by decide) fl_9 (fun _ h9 => h9) rfl dX1_join_1 ?_
  refine lv_iload_n hx hb dX1_join_4 rfl (lv_at hl 1 rfl) ?_
  refine lv_iload_n hx hb dX1_join_5 rfl (lv_at hl 2 rfl) ?_
  obtain ⟨hi_6, hE⟩ := ck_some hE
  refine va_iast hx hb hK hP hD hS 1 1 rfl rfl (inb_in hi_6) dX1_join_6 (fun H locs hP hD hS => ?_)
  have hP : va_P G.1 vwCl [oX1 q_t q_t_partners q_t_lengths t_ringEdges t_rings t_size t_ends q_t_open q_t_endAtRim t_row t_column t_side, aI (G.2 1) q_t_partners 12 (upd t_partners p1.toNatClampNeg p2), aI (G.2 1) q_t_lengths 12 t_lengths] H := hP
  have hD : va_D A [oX1 q_t q_t_partners q_t_lengths t_ringEdges t_rings t_size t_ends q_t_open q_t_endAtRim t_row t_column t_side, aI (G.2 1) q_t_partners 12 (upd t_partners p1.toNatClampNeg p2), aI (G.2 1) q_t_lengths 12 t_lengths] := hD
  refine lv_aload_n hx hb dX1_join_7 rfl (lv_at hl 0 rfl) ?_
  refine va_get (D := G.1) (ci := 1) (v := .ref q_t_partners) (C := RX1) (T := TX1) (N := 11) hx hb hts iX1 hown hK hP 0 rfl rfl 0 (by decide) fl_9 (fun _ h9 => h9) rfl dX1_join_8 ?_
  refine lv_iload_n hx hb dX1_join_11 rfl (lv_at hl 2 rfl) ?_
  refine lv_iload_n hx hb dX1_join_12 rfl (lv_at hl 1 rfl) ?_
  obtain ⟨hi_13, hE⟩ := ck_some hE
  refine va_iast hx hb hK hP hD hS 1 1 rfl rfl (inb_in hi_13) dX1_join_13 (fun H locs hP hD hS => ?_)
  have hP : va_P G.1 vwCl [oX1 q_t q_t_partners q_t_lengths t_ringEdges t_rings t_size t_ends q_t_open q_t_endAtRim t_row t_column t_side, aI (G.2 1) q_t_partners 12 (upd (upd t_partners p1.toNatClampNeg p2) p2.toNatClampNeg p1), aI (G.2 1) q_t_lengths 12 t_lengths] H := hP
  have hD : va_D A [oX1 q_t q_t_partners q_t_lengths t_ringEdges t_rings t_size t_ends q_t_open q_t_endAtRim t_row t_column t_side, aI (G.2 1) q_t_partners 12 (upd (upd t_partners p1.toNatClampNeg p2) p2.toNatClampNeg p1), aI (G.2 1) q_t_lengths 12 t_lengths] := hD
  refine lv_aload_n hx hb dX1_join_14 rfl (lv_at hl 0 rfl) ?_
  refine va_get (D := G.1) (ci := 1) (v := .ref q_t_lengths) (C := RX1) (T := TX1) (N := 11) hx hb hts iX1 hown hK hP 0 rfl rfl 1 (by decide) fl_15 (fun _ h9 => h9) rfl dX1_join_15 ?_
  refine lv_iload_n hx hb dX1_join_18 rfl (lv_at hl 1 rfl) ?_
  refine lv_iload_n hx hb dX1_join_19 rfl (lv_at hl 3 rfl) ?_
  obtain ⟨hi_20, hE⟩ := ck_some hE
  refine va_iast hx hb hK hP hD hS 2 1 rfl rfl (inb_in hi_20) dX1_join_20 (fun H locs hP hD hS => ?_)
  have hP : va_P G.1 vwCl [oX1 q_t q_t_partners q_t_lengths t_ringEdges t_rings t_size t_ends q_t_open q_t_endAtRim t_row t_column t_side, aI (G.2 1) q_t_partners 12 (upd (upd t_partners p1.toNatClampNeg p2) p2.toNatClampNeg p1), aI (G.2 1) q_t_lengths 12 (upd t_lengths p1.toNatClampNeg p3)] H := hP
  have hD : va_D A [oX1 q_t q_t_partners q_t_lengths t_ringEdges t_rings t_size t_ends q_t_open q_t_endAtRim t_row t_column t_side, aI (G.2 1) q_t_partners 12 (upd (upd t_partners p1.toNatClampNeg p2) p2.toNatClampNeg p1), aI (G.2 1) q_t_lengths 12 (upd t_lengths p1.toNatClampNeg p3)] := hD
  refine lv_aload_n hx hb dX1_join_21 rfl (lv_at hl 0 rfl) ?_
  refine va_get (D := G.1) (ci := 1) (v := .ref q_t_lengths) (C := RX1) (T := TX1) (N := 11) hx hb hts iX1 hown hK hP 0 rfl rfl 1 (by decide) fl_15 (fun _ h9 => h9) rfl dX1_join_22 ?_
  refine lv_iload_n hx hb dX1_join_25 rfl (lv_at hl 2 rfl) ?_
  refine lv_iload_n hx hb dX1_join_26 rfl (lv_at hl 3 rfl) ?_
  obtain ⟨hi_27, hE⟩ := ck_some hE
  refine va_iast hx hb hK hP hD hS 2 1 rfl rfl (inb_in hi_27) dX1_join_27 (fun H locs hP hD hS => ?_)
  have hP : va_P G.1 vwCl [oX1 q_t q_t_partners q_t_lengths t_ringEdges t_rings t_size t_ends q_t_open q_t_endAtRim t_row t_column t_side, aI (G.2 1) q_t_partners 12 (upd (upd t_partners p1.toNatClampNeg p2) p2.toNatClampNeg p1), aI (G.2 1) q_t_lengths 12 (upd (upd t_lengths p1.toNatClampNeg p3) p2.toNatClampNeg p3)] H := hP
  have hD : va_D A [oX1 q_t q_t_partners q_t_lengths t_ringEdges t_rings t_size t_ends q_t_open q_t_endAtRim t_row t_column t_side, aI (G.2 1) q_t_partners 12 (upd (upd t_partners p1.toNatClampNeg p2) p2.toNatClampNeg p1), aI (G.2 1) q_t_lengths 12 (upd (upd t_lengths p1.toNatClampNeg p3) p2.toNatClampNeg p3)] := hD
  have e_0 := Option.some.inj hE
  subst e_0
  rw [hQ]
  exact W.vret hx hb hr (fun t ht _ => ⟨⟨(), rfl, trivial, by rw [ht]; exact hP, hD⟩, hS.F ht⟩) hS.2.2 dX1_join_28
def S_X1_followLine (p1 : Int32) (p2 : Int32) (t_size : Int32) (t_partners : Nat → Int32) (t_lengths : Nat → Int32) (t_open : Nat → Int32) (t_endAtRim : Nat → Int32) : Option (Int32 × Int32 × Int32 × (Nat → Int32) × (Nat → Int32) × (Nat → Int32)) := (S_X1_standAtRim p1 p2 t_size).bind (fun (y3 : Int32 × Int32 × Int32) => ck (inb ((p1 * t_size) + p2) 24) (if (t_endAtRim ((p1 * t_size) + p2).toNatClampNeg) < 0 then some (y3.1, y3.2.1, y3.2.2, t_partners, t_lengths, t_open) else (S_X1_isOpen p1 y3.1 y3.2.1 t_open).bind (fun (y26 : Int32) => if y26 = 0 then some (y3.1, y3.2.1, y3.2.2, t_partners, t_lengths, t_open) else itr (fun (x1 : Int32 × Int32 × Int32 × Int32 × Int32 × (Nat → Int32)) => jn (if (36 : Int32) ≤ x1.2.1 then some (.inl (x1.1, x1.2.2.1, x1.2.2.2.1, x1.2.2.2.2.1, x1.2.2.2.2.2)) else (S_X1_isInside t_size x1.2.2.1 x1.2.2.2.1).bind (fun (y47 : Int32) => if y47 = 0 then some (.inl (x1.1, x1.2.2.1, x1.2.2.2.1, x1.2.2.2.2.1, x1.2.2.2.2.2)) else (S_X1_goOn x1.2.2.1 x1.2.2.2.1 x1.2.2.2.2.1 x1.2.2.2.2.2).bind (fun (y54 : Int32 × Int32 × Int32 × (Nat → Int32)) => some (.inr (.inl (x1.1 + (1 : Int32), x1.2.1 + (1 : Int32), y54.1, y54.2.1, y54.2.2.1, y54.2.2.2)))))) (fun (x2 : Int32 × Int32 × Int32 × Int32 × (Nat → Int32)) => (S_X1_rimPassed t_size x2.2.1 x2.2.2.1).bind (fun (y71 : Int32) => ck (inb y71 24) (if (t_endAtRim y71.toNatClampNeg) < 0 then some (.inr (x2.2.1, x2.2.2.1, x2.2.2.2.1, t_partners, t_lengths, x2.2.2.2.2)) else (S_X1_join (t_endAtRim ((p1 * t_size) + p2).toNatClampNeg) (t_endAtRim y71.toNatClampNeg) x2.1 t_partners t_lengths).bind (fun (y88 : (Nat → Int32) × (Nat → Int32)) => some (.inr (x2.2.1, x2.2.2.1, x2.2.2.2.1, y88.1, y88.2, x2.2.2.2.2))))))) 10000 ((1 : Int32), (0 : Int32), y3.1, y3.2.1, y3.2.2, t_open))))
theorem kd_X1_followLine : yX1_followLine.cls = RX1 ∧ yX1_followLine.cls ≠ "java/lang/invoke/MethodHandle" ∧ yX1_followLine.cls ≠ "java/lang/invoke/VarHandle" ∧ (parseMethodDescriptor yX1_followLine.desc).map (fun d => d.parameters.length) = some 2 := by decide +kernel
set_option maxHeartbeats 4000000 in
set_option maxRecDepth 100000 in
theorem c_X1_followLine {l : Launch} {G : kG} (sz : Nat) {p1 : Int32} {p2 : Int32} {q_t : Nat} {q_t_partners : Nat} {q_t_lengths : Nat} {t_ringEdges : Int32} {t_rings : Int32} {t_size : Int32} {t_ends : Int32} {q_t_open : Nat} {q_t_endAtRim : Nat} {t_row : Int32} {t_column : Int32} {t_side : Int32} {t_partners : Nat → Int32} {t_lengths : Nat → Int32} {t_open : Nat → Int32} {t_endAtRim : Nat → Int32} {res : Int32 × Int32 × Int32 × (Nat → Int32) × (Nat → Int32) × (Nat → Int32)} (hE : S_X1_followLine p1 p2 t_size t_partners t_lengths t_open t_endAtRim = some res) : Met l yX1_followLine wsX1_followLine ({ frames := 2, cells := 0, slots := 0, locals := 42 }) (va_Pc [.ref q_t, .int p1, .int p2] (fun U => U.heap.size = sz ∧ va_P G.1 vwCl [oX1 q_t q_t_partners q_t_lengths t_ringEdges t_rings t_size t_ends q_t_open q_t_endAtRim t_row t_column t_side, aI (G.2 1) q_t_partners 12 t_partners, aI (G.2 1) q_t_lengths 12 t_lengths, aI (G.2 1) q_t_open 49 t_open, aI (G.2 1) q_t_endAtRim 24 t_endAtRim] U.heap ∧ kw G U ∧ va_D (fun _ => True) [oX1 q_t q_t_partners q_t_lengths t_ringEdges t_rings t_size t_ends q_t_open q_t_endAtRim t_row t_column t_side, aI (G.2 1) q_t_partners 12 t_partners, aI (G.2 1) q_t_lengths 12 t_lengths, aI (G.2 1) q_t_open 49 t_open, aI (G.2 1) q_t_endAtRim 24 t_endAtRim])) (va_Qv (fun (_ : Unit) => True) (fun _ t => va_P G.1 vwCl [oX1 q_t q_t_partners q_t_lengths t_ringEdges t_rings t_size t_ends q_t_open q_t_endAtRim res.1 res.2.1 res.2.2.1, aI (G.2 1) q_t_partners 12 res.2.2.2.1, aI (G.2 1) q_t_lengths 12 res.2.2.2.2.1, aI (G.2 1) q_t_open 49 res.2.2.2.2.2, aI (G.2 1) q_t_endAtRim 24 t_endAtRim] t.heap ∧ va_D (va_A [oX1 q_t q_t_partners q_t_lengths t_ringEdges t_rings t_size t_ends q_t_open q_t_endAtRim t_row t_column t_side, aI (G.2 1) q_t_partners 12 t_partners, aI (G.2 1) q_t_lengths 12 t_lengths, aI (G.2 1) q_t_open 49 t_open, aI (G.2 1) q_t_endAtRim 24 t_endAtRim] sz) [oX1 q_t q_t_partners q_t_lengths t_ringEdges t_rings t_size t_ends q_t_open q_t_endAtRim res.1 res.2.1 res.2.2.1, aI (G.2 1) q_t_partners 12 res.2.2.2.1, aI (G.2 1) q_t_lengths 12 res.2.2.2.2.1, aI (G.2 1) q_t_open 49 res.2.2.2.2.2, aI (G.2 1) q_t_endAtRim 24 t_endAtRim]) (va_A [oX1 q_t q_t_partners q_t_lengths t_ringEdges t_rings t_size t_ends q_t_open q_t_endAtRim t_row t_column t_side, aI (G.2 1) q_t_partners 12 t_partners, aI (G.2 1) q_t_lengths 12 t_lengths, aI (G.2 1) q_t_open 49 t_open, aI (G.2 1) q_t_endAtRim 24 t_endAtRim] sz)) 0 0 (va_A [oX1 q_t q_t_partners q_t_lengths t_ringEdges t_rings t_size t_ends q_t_open q_t_endAtRim t_row t_column t_side, aI (G.2 1) q_t_partners 12 t_partners, aI (G.2 1) q_t_lengths 12 t_lengths, aI (G.2 1) q_t_open 49 t_open, aI (G.2 1) q_t_endAtRim 24 t_endAtRim] sz) := by
  refine Met.ofQ (cc := cX1_followLine) (maxL := 6) (ret := none) (by decide) rfl ?_
  intro p e s m args below meth c s₁ Q hQ B hml hv
  obtain ⟨rfl, hsz, hP, hKW, hD0⟩ := hv
  have hK := hKW.1
  have hx := B.exec
  have hb := B.bytes
  have hr := B.returns
  have hts := atoms_spec (ws := wsX1_followLine) B.pre
  have hown : s.vm.findClass RX1 = some m.cls := findClass_of_methodNamed B.named
  have hlocks := B.notSynchronized
  have iX1 : ∀ w ∈ u_ws RX1 TX1 11, w ∈ wsX1_followLine := by decide +kernel
  have fl_21 := hts (.fieldLink RX1 21 "AlternateSigns$Lines" "endAtRim" "[I") (by decide +kernel)
  have fl_30 := hts (.fieldLink RX1 30 "AlternateSigns$Lines" "size" "I") (by decide +kernel)
  subst hsz
  have hD := hD0.self (sz := s.heap.size)
  generalize hAe : va_A [oX1 q_t q_t_partners q_t_lengths t_ringEdges t_rings t_size t_ends q_t_open q_t_endAtRim t_row t_column t_side, aI (G.2 1) q_t_partners 12 t_partners, aI (G.2 1) q_t_lengths 12 t_lengths, aI (G.2 1) q_t_open 49 t_open, aI (G.2 1) q_t_endAtRim 24 t_endAtRim] s.heap.size = A at hD hQ
  have hA : ∀ q : Nat, s.heap.size ≤ q → A q := fun q h => by rw [← hAe]; exact Or.inr h
  have hS : va_S A s.heap s.heap [] := va_S.rf
  have hl := lv_entry ([.ref q_t, .int p1, .int p2]) (n := 6) (Nat.le_of_ble_eq_true rfl)
  rw [lg_entry_eq]
  generalize (lg_sl ([.ref q_t, .int p1, .int p2]) ++ List.replicate (6 - (lg_sl ([.ref q_t, .int p1, .int p2])).length) Slot.unset).toArray = ls at hl ⊢
  have hl : lv_has ls 6 [(0, .ref q_t), (1, .int p1), (2, .int p2)] := hl
  unfold S_X1_followLine at hE
  refine lv_aload_n hx hb dX1_followLine_0 rfl (lv_at hl 0 rfl) ?_
  refine lv_iload_n hx hb dX1_followLine_1 rfl (lv_at hl 1 rfl) ?_
  refine lv_iload_n hx hb dX1_followLine_2 rfl (lv_at hl 2 rfl) ?_
  obtain ⟨y3, hC_3, hE⟩ := Option.bind_eq_some_iff.mp hE
  obtain ⟨m_3_0, m_3_1, m_3_2⟩ := y3
  try dsimp only at hE
  have hPc := hP.sub (ws' := [oX1 q_t q_t_partners q_t_lengths t_ringEdges t_rings t_size t_ends q_t_open q_t_endAtRim t_row t_column t_side]) [0] rfl
  have hDc := hD.sub (ws' := [oX1 q_t q_t_partners q_t_lengths t_ringEdges t_rings t_size t_ends q_t_open q_t_endAtRim t_row t_column t_side]) [0] (by decide) rfl
  have hFc := va_free (wc := [oX1 q_t q_t_partners q_t_lengths t_ringEdges t_rings t_size t_ends q_t_open q_t_endAtRim t_row t_column t_side]) hD hS hA [0] rfl
  refine va_callv (va_runV (As := [.int p1, .int p2]) (rest := []) ⟨hx, hb, hml, hown, hts⟩ (c_X1_standAtRim (l := l) (G := G) _ (p1 := p1) (p2 := p2) (q_t := q_t) (q_t_partners := q_t_partners) (q_t_lengths := q_t_lengths) (t_ringEdges := t_ringEdges) (t_rings := t_rings) (t_size := t_size) (t_ends := t_ends) (q_t_open := q_t_open) (q_t_endAtRim := q_t_endAtRim) (t_row := t_row) (t_column := t_column) (t_side := t_side) hC_3) (cwV 2 hts gX1_followLine_X1_standAtRim rfl rfl rfl kd_X1_standAtRim ⟨Nat.le_of_ble_eq_true rfl, Nat.le_of_ble_eq_true rfl⟩) (iv_V hKW hPc hDc (ci := 1) (q0 := 0) rfl rfl) rfl rfl hl.1 rfl (lv_room (Nat.le_of_ble_eq_true rfl)) dX1_followLine_3 ⟨Nat.zero_le _, Nat.zero_le _⟩) hS (fun q _ h => hFc q h) hFc (fun u9 t9 H1 locs ht9 hvm9 hw9 hB9 hz9 hk9 hS => ?_)
  obtain ⟨hP1, hD1⟩ := hB9
  rw [ht9] at hP1
  obtain ⟨hP, hD⟩ := va_join (wr := [aI (G.2 1) q_t_partners 12 t_partners, aI (G.2 1) q_t_lengths 12 t_lengths, aI (G.2 1) q_t_open 49 t_open, aI (G.2 1) q_t_endAtRim 24 t_endAtRim]) (w1 := [oX1 q_t q_t_partners q_t_lengths t_ringEdges t_rings t_size t_ends q_t_open q_t_endAtRim m_3_0 m_3_1 m_3_2]) hP hD [0] [1, 2, 3, 4] rfl rfl (by decide) (by decide) hk9 hFc hP1 hD1
  have hP := hP.sub (ws' := [oX1 q_t q_t_partners q_t_lengths t_ringEdges t_rings t_size t_ends q_t_open q_t_endAtRim m_3_0 m_3_1 m_3_2, aI (G.2 1) q_t_partners 12 t_partners, aI (G.2 1) q_t_lengths 12 t_lengths, aI (G.2 1) q_t_open 49 t_open, aI (G.2 1) q_t_endAtRim 24 t_endAtRim]) [4, 0, 1, 2, 3] rfl
  have hD := hD.sub (ws' := [oX1 q_t q_t_partners q_t_lengths t_ringEdges t_rings t_size t_ends q_t_open q_t_endAtRim m_3_0 m_3_1 m_3_2, aI (G.2 1) q_t_partners 12 t_partners, aI (G.2 1) q_t_lengths 12 t_lengths, aI (G.2 1) q_t_open 49 t_open, aI (G.2 1) q_t_endAtRim 24 t_endAtRim]) [4, 0, 1, 2, 3] (by decide) rfl
  clear hPc hDc hFc hP1 hD1 hk9 hz9 hvm9
  refine lv_aload_n hx hb dX1_followLine_6 rfl (lv_at hl 0 rfl) ?_
  refine va_get (D := G.1) (ci := 1) (v := .ref q_t_endAtRim) (C := RX1) (T := TX1) (N := 11) hx hb hts iX1 hown hK hP 0 rfl rfl 7 (by decide) fl_21 (fun _ h9 => h9) rfl dX1_followLine_7 ?_
  refine lv_iload_n hx hb dX1_followLine_10 rfl (lv_at hl 1 rfl) ?_
  refine lv_aload_n hx hb dX1_followLine_11 rfl (lv_at hl 0 rfl) ?_
  refine va_get (D := G.1) (ci := 1) (v := .int t_size) (C := RX1) (T := TX1) (N := 11) hx hb hts iX1 hown hK hP 0 rfl rfl 4 (by decide) fl_30 (fun _ h9 => h9) rfl dX1_followLine_12 ?_
  refine lv_imul hx hb dX1_followLine_15 ?_
  refine lv_iload_n hx hb dX1_followLine_16 rfl (lv_at hl 2 rfl) ?_
  refine lv_iadd hx hb dX1_followLine_17 ?_
  obtain ⟨hi_18, hE⟩ := ck_some hE
  refine va_iald hx hb hK hP 4 1 rfl rfl (inb_in hi_18) dX1_followLine_18 ?_
  refine lv_istore_n (lv' := [(3, .int (t_endAtRim ((p1 * t_size) + p2).toNatClampNeg)), (0, .ref q_t), (1, .int p1), (2, .int p2)]) hx hb dX1_followLine_19 rfl hl (by decide) rfl (fun ls hl => ?_)
  refine lv_iload_n hx hb dX1_followLine_20 rfl (lv_at hl 0 rfl) ?_
  refine lv_if_lt (tgt := 32) hx hb dX1_followLine_21 (by decide) (fun c_21 => ?_) (fun c_21 => ?_)
  · replace hE := (if_pos c_21).symm.trans hE
    have e_0 := Option.some.inj hE
    subst e_0
    rw [hQ]
    exact W.vret hx hb hr (fun t ht _ => ⟨⟨(), rfl, trivial, by rw [ht]; exact hP, hD⟩, hS.F ht⟩) hS.2.2 dX1_followLine_32
  · replace hE := (if_neg c_21).symm.trans hE
    refine lv_aload_n hx hb dX1_followLine_24 rfl (lv_at hl 1 rfl) ?_
    refine lv_iload_n hx hb dX1_followLine_25 rfl (lv_at hl 2 rfl) ?_
    obtain ⟨y26, hC_26, hE⟩ := Option.bind_eq_some_iff.mp hE
    obtain ⟨r_26, ex9⟩ : ∃ z, z = y26 := ⟨_, rfl⟩
    subst ex9
    try dsimp only at hE
    refine vp_callSi (va_Run.run (va_runV (As := [.int p1]) (rest := []) ⟨hx, hb, hml, hown, hts⟩ (c_X1_isOpen (l := l) (G := G) (p1 := p1) (q_t := q_t) (q_t_partners := q_t_partners) (q_t_lengths := q_t_lengths) (t_ringEdges := t_ringEdges) (t_rings := t_rings) (t_size := t_size) (t_ends := t_ends) (q_t_open := q_t_open) (q_t_endAtRim := q_t_endAtRim) (t_row := m_3_0) (t_column := m_3_1) (t_side := m_3_2) (t_open := t_open) hC_26) (cwV 1 hts gX1_followLine_X1_isOpen rfl rfl rfl kd_X1_isOpen ⟨Nat.le_of_ble_eq_true rfl, Nat.le_of_ble_eq_true rfl⟩) (pv_V hKW (hP.sub (ws' := [oX1 q_t q_t_partners q_t_lengths t_ringEdges t_rings t_size t_ends q_t_open q_t_endAtRim m_3_0 m_3_1 m_3_2, aI (G.2 1) q_t_open 49 t_open]) [0, 3] rfl) (ci := 1) (q0 := 0) rfl rfl) rfl rfl hl.1 rfl (lv_room (Nat.le_of_ble_eq_true rfl)) dX1_followLine_26 ⟨Nat.zero_le _, Nat.zero_le _⟩)) (fun r9 hr9 => ?_)
    subst r9
    refine lv_if_ne (tgt := 33) hx hb dX1_followLine_29 (by decide) (fun c_29 => ?_) (fun c_29 => ?_)
    · replace hE := (if_neg c_29).symm.trans hE
      refine lv_iconst (v := 1) hx hb dX1_followLine_33 (by decide) ?_
      refine lv_istore (lv' := [(4, .int (1 : Int32)), (3, .int (t_endAtRim ((p1 * t_size) + p2).toNatClampNeg)), (0, .ref q_t), (1, .int p1), (2, .int p2)]) hx hb dX1_followLine_34 hl (by decide) rfl (fun ls hl => ?_)
      refine lv_iconst (v := 0) hx hb dX1_followLine_36 (by decide) ?_
      refine lv_istore (lv' := [(5, .int (0 : Int32)), (4, .int (1 : Int32)), (3, .int (t_endAtRim ((p1 * t_size) + p2).toNatClampNeg)), (0, .ref q_t), (1, .int p1), (2, .int p2)]) hx hb dX1_followLine_37 hl (by decide) rfl (fun ls hl => ?_)
      refine itr_ind (fun (x1 : Int32 × Int32 × Int32 × Int32 × Int32 × (Nat → Int32)) => ∀ (H : Heap) (locs : List Loc) (ls : Array Slot), va_P G.1 vwCl [oX1 q_t q_t_partners q_t_lengths t_ringEdges t_rings t_size t_ends q_t_open q_t_endAtRim x1.2.2.1 x1.2.2.2.1 x1.2.2.2.2.1, aI (G.2 1) q_t_partners 12 t_partners, aI (G.2 1) q_t_lengths 12 t_lengths, aI (G.2 1) q_t_open 49 x1.2.2.2.2.2, aI (G.2 1) q_t_endAtRim 24 t_endAtRim] H → va_D A [oX1 q_t q_t_partners q_t_lengths t_ringEdges t_rings t_size t_ends q_t_open q_t_endAtRim x1.2.2.1 x1.2.2.2.1 x1.2.2.2.2.1, aI (G.2 1) q_t_partners 12 t_partners, aI (G.2 1) q_t_lengths 12 t_lengths, aI (G.2 1) q_t_open 49 x1.2.2.2.2.2, aI (G.2 1) q_t_endAtRim 24 t_endAtRim] → va_S A s.heap H locs → lv_has ls 6 [(0, .ref q_t), (3, .int (t_endAtRim ((p1 * t_size) + p2).toNatClampNeg)), (4, .int x1.1), (5, .int x1.2.1)] → W p l e (headSpec wsX1_followLine ({ frames := 2, cells := 0, slots := 0, locals := 42 })).room s m ([.ref q_t, .int p1, .int p2] : List Value).toArray below meth c H locs 0 0 Q (F0 m 39 ls [])) (fun x1 o_1 hE ih_1 hr_1 => ?_) _ _ hE _ _ ls hP hD hS (lv_sub hl [3, 2, 1, 0] rfl)
      obtain ⟨v4_1, v5_1, w_t_row_1, w_t_column_1, w_t_side_1, w_t_open_1⟩ := x1
      try dsimp only at hE
      intro H locs ls hP hD hS hl
      try dsimp only at hP hD hl ⊢
      refine lv_iload hx hb dX1_followLine_39 (lv_at hl 3 rfl) ?_
      refine lv_bipush (v := 36) hx hb dX1_followLine_41 (by decide) ?_
      obtain ⟨o_2, hEp, hk9, hr_2⟩ := jn_some hE
      have ih_2 : ∀ (x2 : Int32 × Int32 × Int32 × Int32 × (Nat → Int32)), o_2 = .inl x2 → ∀ (H : Heap) (locs : List Loc) (ls : Array Slot), va_P G.1 vwCl [oX1 q_t q_t_partners q_t_lengths t_ringEdges t_rings t_size t_ends q_t_open q_t_endAtRim x2.2.1 x2.2.2.1 x2.2.2.2.1, aI (G.2 1) q_t_partners 12 t_partners, aI (G.2 1) q_t_lengths 12 t_lengths, aI (G.2 1) q_t_open 49 x2.2.2.2.2, aI (G.2 1) q_t_endAtRim 24 t_endAtRim] H → va_D A [oX1 q_t q_t_partners q_t_lengths t_ringEdges t_rings t_size t_ends q_t_open q_t_endAtRim x2.2.1 x2.2.2.1 x2.2.2.2.1, aI (G.2 1) q_t_partners 12 t_partners, aI (G.2 1) q_t_lengths 12 t_lengths, aI (G.2 1) q_t_open 49 x2.2.2.2.2, aI (G.2 1) q_t_endAtRim 24 t_endAtRim] → va_S A s.heap H locs → lv_has ls 6 [(0, .ref q_t), (3, .int (t_endAtRim ((p1 * t_size) + p2).toNatClampNeg)), (4, .int x2.1)] → W p l e (headSpec wsX1_followLine ({ frames := 2, cells := 0, slots := 0, locals := 42 })).room s m ([.ref q_t, .int p1, .int p2] : List Value).toArray below meth c H locs 0 0 Q (F0 m 66 ls []) := by
        intro x2 ho9
        have hE := hk9 _ ho9
        obtain ⟨v4_2, w_t_row_2, w_t_column_2, w_t_side_2, w_t_open_2⟩ := x2
        try dsimp only at hE
        intro H locs ls hP hD hS hl
        try dsimp only at hP hD hl ⊢
        refine lv_aload_n hx hb dX1_followLine_66 rfl (lv_at hl 0 rfl) ?_
        refine va_get (D := G.1) (ci := 1) (v := .ref q_t_endAtRim) (C := RX1) (T := TX1) (N := 11) hx hb hts iX1 hown hK hP 0 rfl rfl 7 (by decide) fl_21 (fun _ h9 => h9) rfl dX1_followLine_67 ?_
        refine lv_aload_n hx hb dX1_followLine_70 rfl (lv_at hl 0 rfl) ?_
        obtain ⟨y71, hC_71, hE⟩ := Option.bind_eq_some_iff.mp hE
        obtain ⟨r_71, ex9⟩ : ∃ z, z = y71 := ⟨_, rfl⟩
        subst ex9
        try dsimp only at hE
        refine vp_callSi (va_Run.run (va_runV (As := []) (rest := [.ref q_t_endAtRim]) ⟨hx, hb, hml, hown, hts⟩ (c_X1_rimPassed (l := l) (G := G) (q_t := q_t) (q_t_partners := q_t_partners) (q_t_lengths := q_t_lengths) (t_ringEdges := t_ringEdges) (t_rings := t_rings) (t_size := t_size) (t_ends := t_ends) (q_t_open := q_t_open) (q_t_endAtRim := q_t_endAtRim) (t_row := w_t_row_2) (t_column := w_t_column_2) (t_side := w_t_side_2) hC_71) (cwV 0 hts gX1_followLine_X1_rimPassed rfl rfl rfl kd_X1_rimPassed ⟨Nat.le_of_ble_eq_true rfl, Nat.le_of_ble_eq_true rfl⟩) (pv_V hKW (hP.sub (ws' := [oX1 q_t q_t_partners q_t_lengths t_ringEdges t_rings t_size t_ends q_t_open q_t_endAtRim w_t_row_2 w_t_column_2 w_t_side_2]) [0] rfl) (ci := 1) (q0 := 0) rfl rfl) rfl rfl hl.1 rfl (lv_room (Nat.le_of_ble_eq_true rfl)) dX1_followLine_71 ⟨Nat.zero_le _, Nat.zero_le _⟩)) (fun r9 hr9 => ?_)
        subst r9
        obtain ⟨hi_74, hE⟩ := ck_some hE
        refine va_iald hx hb hK hP 4 1 rfl rfl (inb_in hi_74) dX1_followLine_74 ?_
        refine lv_istore (lv' := [(5, .int (t_endAtRim r_71.toNatClampNeg)), (0, .ref q_t), (3, .int (t_endAtRim ((p1 * t_size) + p2).toNatClampNeg)), (4, .int v4_2)]) hx hb dX1_followLine_75 hl (by decide) rfl (fun ls hl => ?_)
        refine lv_iload hx hb dX1_followLine_77 (lv_at hl 0 rfl) ?_
        refine lv_if_lt (tgt := 91) hx hb dX1_followLine_79 (by decide) (fun c_79 => ?_) (fun c_79 => ?_)
        · replace hE := (if_pos c_79).symm.trans hE
          have e_1 := Option.some.inj hE
          have e_0 := hr_1 _ e_1.symm
          subst e_0
          rw [hQ]
          exact W.vret hx hb hr (fun t ht _ => ⟨⟨(), rfl, trivial, by rw [ht]; exact hP, hD⟩, hS.F ht⟩) hS.2.2 dX1_followLine_91
        · replace hE := (if_neg c_79).symm.trans hE
          refine lv_aload_n hx hb dX1_followLine_82 rfl (lv_at hl 1 rfl) ?_
          refine lv_iload_n hx hb dX1_followLine_83 rfl (lv_at hl 2 rfl) ?_
          refine lv_iload hx hb dX1_followLine_84 (lv_at hl 0 rfl) ?_
          refine lv_iload hx hb dX1_followLine_86 (lv_at hl 3 rfl) ?_
          obtain ⟨y88, hC_88, hE⟩ := Option.bind_eq_some_iff.mp hE
          obtain ⟨m_88_0, m_88_1⟩ := y88
          try dsimp only at hE
          have hPc := hP.sub (ws' := [oX1 q_t q_t_partners q_t_lengths t_ringEdges t_rings t_size t_ends q_t_open q_t_endAtRim w_t_row_2 w_t_column_2 w_t_side_2, aI (G.2 1) q_t_partners 12 t_partners, aI (G.2 1) q_t_lengths 12 t_lengths]) [0, 1, 2] rfl
          have hDc := hD.sub (ws' := [oX1 q_t q_t_partners q_t_lengths t_ringEdges t_rings t_size t_ends q_t_open q_t_endAtRim w_t_row_2 w_t_column_2 w_t_side_2, aI (G.2 1) q_t_partners 12 t_partners, aI (G.2 1) q_t_lengths 12 t_lengths]) [0, 1, 2] (by decide) rfl
          have hFc := va_free (wc := [oX1 q_t q_t_partners q_t_lengths t_ringEdges t_rings t_size t_ends q_t_open q_t_endAtRim w_t_row_2 w_t_column_2 w_t_side_2, aI (G.2 1) q_t_partners 12 t_partners, aI (G.2 1) q_t_lengths 12 t_lengths]) hD hS hA [0, 1, 2] rfl
          refine va_callv (va_runV (As := [.int (t_endAtRim ((p1 * t_size) + p2).toNatClampNeg), .int (t_endAtRim r_71.toNatClampNeg), .int v4_2]) (rest := []) ⟨hx, hb, hml, hown, hts⟩ (c_X1_join (l := l) (G := G) _ (p1 := t_endAtRim ((p1 * t_size) + p2).toNatClampNeg) (p2 := t_endAtRim r_71.toNatClampNeg) (p3 := v4_2) (q_t := q_t) (q_t_partners := q_t_partners) (q_t_lengths := q_t_lengths) (t_ringEdges := t_ringEdges) (t_rings := t_rings) (t_size := t_size) (t_ends := t_ends) (q_t_open := q_t_open) (q_t_endAtRim := q_t_endAtRim) (t_row := w_t_row_2) (t_column := w_t_column_2) (t_side := w_t_side_2) (t_partners := t_partners) (t_lengths := t_lengths) hC_88) (cwV 3 hts gX1_followLine_X1_join rfl rfl rfl kd_X1_join ⟨Nat.le_of_ble_eq_true rfl, Nat.le_of_ble_eq_true rfl⟩) (iv_V hKW hPc hDc (ci := 1) (q0 := 0) rfl rfl) rfl rfl hl.1 rfl (lv_room (Nat.le_of_ble_eq_true rfl)) dX1_followLine_88 ⟨Nat.zero_le _, Nat.zero_le _⟩) hS (fun q _ h => hFc q h) hFc (fun u9 t9 H1 locs ht9 hvm9 hw9 hB9 hz9 hk9 hS => ?_)
          obtain ⟨hP1, hD1⟩ := hB9
          rw [ht9] at hP1
          obtain ⟨hP, hD⟩ := va_join (wr := [aI (G.2 1) q_t_open 49 w_t_open_2, aI (G.2 1) q_t_endAtRim 24 t_endAtRim]) (w1 := [oX1 q_t q_t_partners q_t_lengths t_ringEdges t_rings t_size t_ends q_t_open q_t_endAtRim w_t_row_2 w_t_column_2 w_t_side_2, aI (G.2 1) q_t_partners 12 m_88_0, aI (G.2 1) q_t_lengths 12 m_88_1]) hP hD [0, 1, 2] [3, 4] rfl rfl (by decide) (by decide) hk9 hFc hP1 hD1
          have hP := hP.sub (ws' := [oX1 q_t q_t_partners q_t_lengths t_ringEdges t_rings t_size t_ends q_t_open q_t_endAtRim w_t_row_2 w_t_column_2 w_t_side_2, aI (G.2 1) q_t_partners 12 m_88_0, aI (G.2 1) q_t_lengths 12 m_88_1, aI (G.2 1) q_t_open 49 w_t_open_2, aI (G.2 1) q_t_endAtRim 24 t_endAtRim]) [2, 3, 4, 0, 1] rfl
          have hD := hD.sub (ws' := [oX1 q_t q_t_partners q_t_lengths t_ringEdges t_rings t_size t_ends q_t_open q_t_endAtRim w_t_row_2 w_t_column_2 w_t_side_2, aI (G.2 1) q_t_partners 12 m_88_0, aI (G.2 1) q_t_lengths 12 m_88_1, aI (G.2 1) q_t_open 49 w_t_open_2, aI (G.2 1) q_t_endAtRim 24 t_endAtRim]) [2, 3, 4, 0, 1] (by decide) rfl
          clear hPc hDc hFc hP1 hD1 hk9 hz9 hvm9
          have e_1 := Option.some.inj hE
          have e_0 := hr_1 _ e_1.symm
          subst e_0
          rw [hQ]
          exact W.vret hx hb hr (fun t ht _ => ⟨⟨(), rfl, trivial, by rw [ht]; exact hP, hD⟩, hS.F ht⟩) hS.2.2 dX1_followLine_91
      clear hE hk9
      have hE := hEp
      clear hEp
      refine lv_icmp_ge (tgt := 66) hx hb dX1_followLine_43 (by decide) (fun c_43 => ?_) (fun c_43 => ?_)
      · replace hE := (if_pos c_43).symm.trans hE
        have e_2 := Option.some.inj hE
        exact ih_2 _ e_2.symm _ _ ls hP hD hS (lv_sub hl [0, 1, 2] rfl)
      · replace hE := (if_neg c_43).symm.trans hE
        refine lv_aload_n hx hb dX1_followLine_46 rfl (lv_at hl 0 rfl) ?_
        obtain ⟨y47, hC_47, hE⟩ := Option.bind_eq_some_iff.mp hE
        obtain ⟨r_47, ex9⟩ : ∃ z, z = y47 := ⟨_, rfl⟩
        subst ex9
        try dsimp only at hE
        refine vp_callSi (va_Run.run (va_runV (As := []) (rest := []) ⟨hx, hb, hml, hown, hts⟩ (c_X1_isInside (l := l) (G := G) (q_t := q_t) (q_t_partners := q_t_partners) (q_t_lengths := q_t_lengths) (t_ringEdges := t_ringEdges) (t_rings := t_rings) (t_size := t_size) (t_ends := t_ends) (q_t_open := q_t_open) (q_t_endAtRim := q_t_endAtRim) (t_row := w_t_row_1) (t_column := w_t_column_1) (t_side := w_t_side_1) hC_47) (cwV 0 hts gX1_followLine_X1_isInside rfl rfl rfl kd_X1_isInside ⟨Nat.le_of_ble_eq_true rfl, Nat.le_of_ble_eq_true rfl⟩) (pv_V hKW (hP.sub (ws' := [oX1 q_t q_t_partners q_t_lengths t_ringEdges t_rings t_size t_ends q_t_open q_t_endAtRim w_t_row_1 w_t_column_1 w_t_side_1]) [0] rfl) (ci := 1) (q0 := 0) rfl rfl) rfl rfl hl.1 rfl (lv_room (Nat.le_of_ble_eq_true rfl)) dX1_followLine_47 ⟨Nat.zero_le _, Nat.zero_le _⟩)) (fun r9 hr9 => ?_)
        subst r9
        refine lv_if_eq (tgt := 66) hx hb dX1_followLine_50 (by decide) (fun c_50 => ?_) (fun c_50 => ?_)
        · replace hE := (if_pos c_50).symm.trans hE
          have e_2 := Option.some.inj hE
          exact ih_2 _ e_2.symm _ _ ls hP hD hS (lv_sub hl [0, 1, 2] rfl)
        · replace hE := (if_neg c_50).symm.trans hE
          refine lv_aload_n hx hb dX1_followLine_53 rfl (lv_at hl 0 rfl) ?_
          obtain ⟨y54, hC_54, hE⟩ := Option.bind_eq_some_iff.mp hE
          obtain ⟨m_54_0, m_54_1, m_54_2, m_54_3⟩ := y54
          try dsimp only at hE
          have hPc := hP.sub (ws' := [oX1 q_t q_t_partners q_t_lengths t_ringEdges t_rings t_size t_ends q_t_open q_t_endAtRim w_t_row_1 w_t_column_1 w_t_side_1, aI (G.2 1) q_t_open 49 w_t_open_1]) [0, 3] rfl
          have hDc := hD.sub (ws' := [oX1 q_t q_t_partners q_t_lengths t_ringEdges t_rings t_size t_ends q_t_open q_t_endAtRim w_t_row_1 w_t_column_1 w_t_side_1, aI (G.2 1) q_t_open 49 w_t_open_1]) [0, 3] (by decide) rfl
          have hFc := va_free (wc := [oX1 q_t q_t_partners q_t_lengths t_ringEdges t_rings t_size t_ends q_t_open q_t_endAtRim w_t_row_1 w_t_column_1 w_t_side_1, aI (G.2 1) q_t_open 49 w_t_open_1]) hD hS hA [0, 3] rfl
          refine va_callv (va_runV (As := []) (rest := []) ⟨hx, hb, hml, hown, hts⟩ (c_X1_goOn (l := l) (G := G) _ (q_t := q_t) (q_t_partners := q_t_partners) (q_t_lengths := q_t_lengths) (t_ringEdges := t_ringEdges) (t_rings := t_rings) (t_size := t_size) (t_ends := t_ends) (q_t_open := q_t_open) (q_t_endAtRim := q_t_endAtRim) (t_row := w_t_row_1) (t_column := w_t_column_1) (t_side := w_t_side_1) (t_open := w_t_open_1) hC_54) (cwV 0 hts gX1_followLine_X1_goOn rfl rfl rfl kd_X1_goOn ⟨Nat.le_of_ble_eq_true rfl, Nat.le_of_ble_eq_true rfl⟩) (iv_V hKW hPc hDc (ci := 1) (q0 := 0) rfl rfl) rfl rfl hl.1 rfl (lv_room (Nat.le_of_ble_eq_true rfl)) dX1_followLine_54 ⟨Nat.zero_le _, Nat.zero_le _⟩) hS (fun q _ h => hFc q h) hFc (fun u9 t9 H1 locs ht9 hvm9 hw9 hB9 hz9 hk9 hS => ?_)
          obtain ⟨hP1, hD1⟩ := hB9
          rw [ht9] at hP1
          obtain ⟨hP, hD⟩ := va_join (wr := [aI (G.2 1) q_t_partners 12 t_partners, aI (G.2 1) q_t_lengths 12 t_lengths, aI (G.2 1) q_t_endAtRim 24 t_endAtRim]) (w1 := [oX1 q_t q_t_partners q_t_lengths t_ringEdges t_rings t_size t_ends q_t_open q_t_endAtRim m_54_0 m_54_1 m_54_2, aI (G.2 1) q_t_open 49 m_54_3]) hP hD [0, 3] [1, 2, 4] rfl rfl (by decide) (by decide) hk9 hFc hP1 hD1
          have hP := hP.sub (ws' := [oX1 q_t q_t_partners q_t_lengths t_ringEdges t_rings t_size t_ends q_t_open q_t_endAtRim m_54_0 m_54_1 m_54_2, aI (G.2 1) q_t_partners 12 t_partners, aI (G.2 1) q_t_lengths 12 t_lengths, aI (G.2 1) q_t_open 49 m_54_3, aI (G.2 1) q_t_endAtRim 24 t_endAtRim]) [3, 0, 1, 4, 2] rfl
          have hD := hD.sub (ws' := [oX1 q_t q_t_partners q_t_lengths t_ringEdges t_rings t_size t_ends q_t_open q_t_endAtRim m_54_0 m_54_1 m_54_2, aI (G.2 1) q_t_partners 12 t_partners, aI (G.2 1) q_t_lengths 12 t_lengths, aI (G.2 1) q_t_open 49 m_54_3, aI (G.2 1) q_t_endAtRim 24 t_endAtRim]) [3, 0, 1, 4, 2] (by decide) rfl
          clear hPc hDc hFc hP1 hD1 hk9 hz9 hvm9
          refine lv_iinc (v := v4_1 + (1 : Int32)) (lv' := [(4, .int (v4_1 + (1 : Int32))), (0, .ref q_t), (3, .int (t_endAtRim ((p1 * t_size) + p2).toNatClampNeg)), (5, .int v5_1)]) hx hb dX1_followLine_57 hl (k := 2) rfl rfl (by decide) rfl (fun ls hl => ?_)
          refine lv_iinc (v := v5_1 + (1 : Int32)) (lv' := [(5, .int (v5_1 + (1 : Int32))), (4, .int (v4_1 + (1 : Int32))), (0, .ref q_t), (3, .int (t_endAtRim ((p1 * t_size) + p2).toNatClampNeg))]) hx hb dX1_followLine_60 hl (k := 3) rfl rfl (by decide) rfl (fun ls hl => ?_)
          refine lv_goto (tgt := 39) hx hb dX1_followLine_63 (by decide) ?_
          have e_2 := Option.some.inj hE
          have e_1 := hr_2 _ e_2.symm
          exact ih_1 _ e_1.symm _ _ ls hP hD hS (lv_sub hl [2, 3, 1, 0] rfl)
    · replace hE := (if_pos c_29).symm.trans hE
      have e_0 := Option.some.inj hE
      subst e_0
      rw [hQ]
      exact W.vret hx hb hr (fun t ht _ => ⟨⟨(), rfl, trivial, by rw [ht]; exact hP, hD⟩, hS.F ht⟩) hS.2.2 dX1_followLine_32
def S_X1_followRing (p1 : Int32) (p2 : Int32) (t_ringEdges : Int32) (t_size : Int32) (t_open : Nat → Int32) : Option (Int32 × Int32 × Int32 × Int32 × (Nat → Int32)) := (S_X1_isOpen (0 : Int32) p1 p2 t_open).bind (fun (y13 : Int32) => if y13 = 0 then (S_X1_isOpen (1 : Int32) p1 p2 t_open).bind (fun (y25 : Int32) => if y25 = 0 then itr (fun (x1 : Int32 × Int32 × Int32 × Int32 × Int32 × (Nat → Int32)) => if (36 : Int32) ≤ x1.1 then some (.inr (x1.2.1, x1.2.2.1, x1.2.2.2.1, x1.2.2.2.2.1, x1.2.2.2.2.2)) else (S_X1_isInside t_size x1.2.2.1 x1.2.2.2.1).bind (fun (y48 : Int32) => if y48 = 0 then some (.inr (x1.2.1, x1.2.2.1, x1.2.2.2.1, x1.2.2.2.2.1, x1.2.2.2.2.2)) else ck (inb ((x1.2.2.1 * (7 : Int32)) + x1.2.2.2.1) 49) (if (x1.2.2.2.2.2 ((x1.2.2.1 * (7 : Int32)) + x1.2.2.2.1).toNatClampNeg) = 0 then some (.inr (x1.2.1, x1.2.2.1, x1.2.2.2.1, x1.2.2.2.2.1, x1.2.2.2.2.2)) else (S_X1_goOn x1.2.2.1 x1.2.2.2.1 x1.2.2.2.2.1 x1.2.2.2.2.2).bind (fun (y76 : Int32 × Int32 × Int32 × (Nat → Int32)) => some (.inl (x1.1 + (1 : Int32), x1.2.1 + (1 : Int32), y76.1, y76.2.1, y76.2.2.1, y76.2.2.2)))))) 10000 ((0 : Int32), t_ringEdges, p1, p2, (2 : Int32), t_open) else itr (fun (x2 : Int32 × Int32 × Int32 × Int32 × Int32 × (Nat → Int32)) => if (36 : Int32) ≤ x2.1 then some (.inr (x2.2.1, x2.2.2.1, x2.2.2.2.1, x2.2.2.2.2.1, x2.2.2.2.2.2)) else (S_X1_isInside t_size x2.2.2.1 x2.2.2.2.1).bind (fun (y48 : Int32) => if y48 = 0 then some (.inr (x2.2.1, x2.2.2.1, x2.2.2.2.1, x2.2.2.2.2.1, x2.2.2.2.2.2)) else ck (inb ((x2.2.2.1 * (7 : Int32)) + x2.2.2.2.1) 49) (if (x2.2.2.2.2.2 ((x2.2.2.1 * (7 : Int32)) + x2.2.2.2.1).toNatClampNeg) = 0 then some (.inr (x2.2.1, x2.2.2.1, x2.2.2.2.1, x2.2.2.2.2.1, x2.2.2.2.2.2)) else (S_X1_goOn x2.2.2.1 x2.2.2.2.1 x2.2.2.2.2.1 x2.2.2.2.2.2).bind (fun (y76 : Int32 × Int32 × Int32 × (Nat → Int32)) => some (.inl (x2.1 + (1 : Int32), x2.2.1 + (1 : Int32), y76.1, y76.2.1, y76.2.2.1, y76.2.2.2)))))) 10000 ((0 : Int32), t_ringEdges, p1, p2, (1 : Int32), t_open)) else itr (fun (x3 : Int32 × Int32 × Int32 × Int32 × Int32 × (Nat → Int32)) => if (36 : Int32) ≤ x3.1 then some (.inr (x3.2.1, x3.2.2.1, x3.2.2.2.1, x3.2.2.2.2.1, x3.2.2.2.2.2)) else (S_X1_isInside t_size x3.2.2.1 x3.2.2.2.1).bind (fun (y48 : Int32) => if y48 = 0 then some (.inr (x3.2.1, x3.2.2.1, x3.2.2.2.1, x3.2.2.2.2.1, x3.2.2.2.2.2)) else ck (inb ((x3.2.2.1 * (7 : Int32)) + x3.2.2.2.1) 49) (if (x3.2.2.2.2.2 ((x3.2.2.1 * (7 : Int32)) + x3.2.2.2.1).toNatClampNeg) = 0 then some (.inr (x3.2.1, x3.2.2.1, x3.2.2.2.1, x3.2.2.2.2.1, x3.2.2.2.2.2)) else (S_X1_goOn x3.2.2.1 x3.2.2.2.1 x3.2.2.2.2.1 x3.2.2.2.2.2).bind (fun (y76 : Int32 × Int32 × Int32 × (Nat → Int32)) => some (.inl (x3.1 + (1 : Int32), x3.2.1 + (1 : Int32), y76.1, y76.2.1, y76.2.2.1, y76.2.2.2)))))) 10000 ((0 : Int32), t_ringEdges, p1, p2, (0 : Int32), t_open))
theorem kd_X1_followRing : yX1_followRing.cls = RX1 ∧ yX1_followRing.cls ≠ "java/lang/invoke/MethodHandle" ∧ yX1_followRing.cls ≠ "java/lang/invoke/VarHandle" ∧ (parseMethodDescriptor yX1_followRing.desc).map (fun d => d.parameters.length) = some 2 := by decide +kernel
set_option maxHeartbeats 4000000 in
set_option maxRecDepth 100000 in
theorem c_X1_followRing {l : Launch} {G : kG} (sz : Nat) {p1 : Int32} {p2 : Int32} {q_t : Nat} {q_t_partners : Nat} {q_t_lengths : Nat} {t_ringEdges : Int32} {t_rings : Int32} {t_size : Int32} {t_ends : Int32} {q_t_open : Nat} {q_t_endAtRim : Nat} {t_row : Int32} {t_column : Int32} {t_side : Int32} {t_open : Nat → Int32} {res : Int32 × Int32 × Int32 × Int32 × (Nat → Int32)} (hE : S_X1_followRing p1 p2 t_ringEdges t_size t_open = some res) : Met l yX1_followRing wsX1_followRing ({ frames := 2, cells := 0, slots := 0, locals := 42 }) (va_Pc [.ref q_t, .int p1, .int p2] (fun U => U.heap.size = sz ∧ va_P G.1 vwCl [oX1 q_t q_t_partners q_t_lengths t_ringEdges t_rings t_size t_ends q_t_open q_t_endAtRim t_row t_column t_side, aI (G.2 1) q_t_open 49 t_open] U.heap ∧ kw G U ∧ va_D (fun _ => True) [oX1 q_t q_t_partners q_t_lengths t_ringEdges t_rings t_size t_ends q_t_open q_t_endAtRim t_row t_column t_side, aI (G.2 1) q_t_open 49 t_open])) (va_Qv (fun (_ : Unit) => True) (fun _ t => va_P G.1 vwCl [oX1 q_t q_t_partners q_t_lengths res.1 t_rings t_size t_ends q_t_open q_t_endAtRim res.2.1 res.2.2.1 res.2.2.2.1, aI (G.2 1) q_t_open 49 res.2.2.2.2] t.heap ∧ va_D (va_A [oX1 q_t q_t_partners q_t_lengths t_ringEdges t_rings t_size t_ends q_t_open q_t_endAtRim t_row t_column t_side, aI (G.2 1) q_t_open 49 t_open] sz) [oX1 q_t q_t_partners q_t_lengths res.1 t_rings t_size t_ends q_t_open q_t_endAtRim res.2.1 res.2.2.1 res.2.2.2.1, aI (G.2 1) q_t_open 49 res.2.2.2.2]) (va_A [oX1 q_t q_t_partners q_t_lengths t_ringEdges t_rings t_size t_ends q_t_open q_t_endAtRim t_row t_column t_side, aI (G.2 1) q_t_open 49 t_open] sz)) 0 0 (va_A [oX1 q_t q_t_partners q_t_lengths t_ringEdges t_rings t_size t_ends q_t_open q_t_endAtRim t_row t_column t_side, aI (G.2 1) q_t_open 49 t_open] sz) := by
  refine Met.ofQ (cc := cX1_followRing) (maxL := 4) (ret := none) (by decide) rfl ?_
  intro p e s m args below meth c s₁ Q hQ B hml hv
  obtain ⟨rfl, hsz, hP, hKW, hD0⟩ := hv
  have hK := hKW.1
  have hx := B.exec
  have hb := B.bytes
  have hr := B.returns
  have hts := atoms_spec (ws := wsX1_followRing) B.pre
  have hown : s.vm.findClass RX1 = some m.cls := findClass_of_methodNamed B.named
  have hlocks := B.notSynchronized
  have iX1 : ∀ w ∈ u_ws RX1 TX1 11, w ∈ wsX1_followRing := by decide +kernel
  have fl_64 := hts (.fieldLink RX1 64 "AlternateSigns$Lines" "row" "I") (by decide +kernel)
  have fl_67 := hts (.fieldLink RX1 67 "AlternateSigns$Lines" "column" "I") (by decide +kernel)
  have fl_70 := hts (.fieldLink RX1 70 "AlternateSigns$Lines" "side" "I") (by decide +kernel)
  have fl_18 := hts (.fieldLink RX1 18 "AlternateSigns$Lines" "open" "[I") (by decide +kernel)
  have fl_95 := hts (.fieldLink RX1 95 "AlternateSigns$Lines" "ringEdges" "I") (by decide +kernel)
  subst hsz
  have hD := hD0.self (sz := s.heap.size)
  generalize hAe : va_A [oX1 q_t q_t_partners q_t_lengths t_ringEdges t_rings t_size t_ends q_t_open q_t_endAtRim t_row t_column t_side, aI (G.2 1) q_t_open 49 t_open] s.heap.size = A at hD hQ
  have hA : ∀ q : Nat, s.heap.size ≤ q → A q := fun q h => by rw [← hAe]; exact Or.inr h
  have hS : va_S A s.heap s.heap [] := va_S.rf
  have hl := lv_entry ([.ref q_t, .int p1, .int p2]) (n := 4) (Nat.le_of_ble_eq_true rfl)
  rw [lg_entry_eq]
  generalize (lg_sl ([.ref q_t, .int p1, .int p2]) ++ List.replicate (4 - (lg_sl ([.ref q_t, .int p1, .int p2])).length) Slot.unset).toArray = ls at hl ⊢
  have hl : lv_has ls 4 [(0, .ref q_t), (1, .int p1), (2, .int p2)] := hl
  unfold S_X1_followRing at hE
  refine lv_aload_n hx hb dX1_followRing_0 rfl (lv_at hl 0 rfl) ?_
  refine lv_iload_n hx hb dX1_followRing_1 rfl (lv_at hl 1 rfl) ?_
  refine va_put (D := G.1) (ci := 1) (v := .int p1) (ty := .int) (C := RX1) (T := TX1) (N := 11) hx hb hts iX1 tyX1 tyX1_ok nmX1 hown hK hP hD hS 0 rfl rfl 8 (by decide) fl_64 (fun _ h9 => h9) rfl (by decide +kernel) rfl rfl (Nat.le_of_ble_eq_true rfl) dX1_followRing_2 (fun H locs hP hD hS => ?_)
  have hP : va_P G.1 vwCl [oX1 q_t q_t_partners q_t_lengths t_ringEdges t_rings t_size t_ends q_t_open q_t_endAtRim p1 t_column t_side, aI (G.2 1) q_t_open 49 t_open] H := hP
  have hD : va_D A [oX1 q_t q_t_partners q_t_lengths t_ringEdges t_rings t_size t_ends q_t_open q_t_endAtRim p1 t_column t_side, aI (G.2 1) q_t_open 49 t_open] := hD
  refine lv_aload_n hx hb dX1_followRing_5 rfl (lv_at hl 0 rfl) ?_
  refine lv_iload_n hx hb dX1_followRing_6 rfl (lv_at hl 2 rfl) ?_
  refine va_put (D := G.1) (ci := 1) (v := .int p2) (ty := .int) (C := RX1) (T := TX1) (N := 11) hx hb hts iX1 tyX1 tyX1_ok nmX1 hown hK hP hD hS 0 rfl rfl 9 (by decide) fl_67 (fun _ h9 => h9) rfl (by decide +kernel) rfl rfl (Nat.le_of_ble_eq_true rfl) dX1_followRing_7 (fun H locs hP hD hS => ?_)
  have hP : va_P G.1 vwCl [oX1 q_t q_t_partners q_t_lengths t_ringEdges t_rings t_size t_ends q_t_open q_t_endAtRim p1 p2 t_side, aI (G.2 1) q_t_open 49 t_open] H := hP
  have hD : va_D A [oX1 q_t q_t_partners q_t_lengths t_ringEdges t_rings t_size t_ends q_t_open q_t_endAtRim p1 p2 t_side, aI (G.2 1) q_t_open 49 t_open] := hD
  refine lv_aload_n hx hb dX1_followRing_10 rfl (lv_at hl 0 rfl) ?_
  refine lv_aload_n hx hb dX1_followRing_11 rfl (lv_at hl 0 rfl) ?_
  refine lv_iconst (v := 0) hx hb dX1_followRing_12 (by decide) ?_
  obtain ⟨y13, hC_13, hE⟩ := Option.bind_eq_some_iff.mp hE
  obtain ⟨r_13, ex9⟩ : ∃ z, z = y13 := ⟨_, rfl⟩
  subst ex9
  try dsimp only at hE
  refine vp_callSi (va_Run.run (va_runV (As := [.int (0 : Int32)]) (rest := [.ref q_t]) ⟨hx, hb, hml, hown, hts⟩ (c_X1_isOpen (l := l) (G := G) (p1 := (0 : Int32)) (q_t := q_t) (q_t_partners := q_t_partners) (q_t_lengths := q_t_lengths) (t_ringEdges := t_ringEdges) (t_rings := t_rings) (t_size := t_size) (t_ends := t_ends) (q_t_open := q_t_open) (q_t_endAtRim := q_t_endAtRim) (t_row := p1) (t_column := p2) (t_side := t_side) (t_open := t_open) hC_13) (cwV 1 hts gX1_followRing_X1_isOpen rfl rfl rfl kd_X1_isOpen ⟨Nat.le_of_ble_eq_true rfl, Nat.le_of_ble_eq_true rfl⟩) (pv_V hKW (hP.sub (ws' := [oX1 q_t q_t_partners q_t_lengths t_ringEdges t_rings t_size t_ends q_t_open q_t_endAtRim p1 p2 t_side, aI (G.2 1) q_t_open 49 t_open]) [0, 1] rfl) (ci := 1) (q0 := 0) rfl rfl) rfl rfl hl.1 rfl (lv_room (Nat.le_of_ble_eq_true rfl)) dX1_followRing_13 ⟨Nat.zero_le _, Nat.zero_le _⟩)) (fun r9 hr9 => ?_)
  subst r9
  refine lv_if_eq (tgt := 23) hx hb dX1_followRing_16 (by decide) (fun c_16 => ?_) (fun c_16 => ?_)
  · replace hE := (if_pos c_16).symm.trans hE
    refine lv_aload_n hx hb dX1_followRing_23 rfl (lv_at hl 0 rfl) ?_
    refine lv_iconst (v := 1) hx hb dX1_followRing_24 (by decide) ?_
    obtain ⟨y25, hC_25, hE⟩ := Option.bind_eq_some_iff.mp hE
    obtain ⟨r_25, ex9⟩ : ∃ z, z = y25 := ⟨_, rfl⟩
    subst ex9
    try dsimp only at hE
    refine vp_callSi (va_Run.run (va_runV (As := [.int (1 : Int32)]) (rest := [.ref q_t]) ⟨hx, hb, hml, hown, hts⟩ (c_X1_isOpen (l := l) (G := G) (p1 := (1 : Int32)) (q_t := q_t) (q_t_partners := q_t_partners) (q_t_lengths := q_t_lengths) (t_ringEdges := t_ringEdges) (t_rings := t_rings) (t_size := t_size) (t_ends := t_ends) (q_t_open := q_t_open) (q_t_endAtRim := q_t_endAtRim) (t_row := p1) (t_column := p2) (t_side := t_side) (t_open := t_open) hC_25) (cwV 1 hts gX1_followRing_X1_isOpen rfl rfl rfl kd_X1_isOpen ⟨Nat.le_of_ble_eq_true rfl, Nat.le_of_ble_eq_true rfl⟩) (pv_V hKW (hP.sub (ws' := [oX1 q_t q_t_partners q_t_lengths t_ringEdges t_rings t_size t_ends q_t_open q_t_endAtRim p1 p2 t_side, aI (G.2 1) q_t_open 49 t_open]) [0, 1] rfl) (ci := 1) (q0 := 0) rfl rfl) rfl rfl hl.1 rfl (lv_room (Nat.le_of_ble_eq_true rfl)) dX1_followRing_25 ⟨Nat.zero_le _, Nat.zero_le _⟩)) (fun r9 hr9 => ?_)
    subst r9
    refine lv_if_eq (tgt := 35) hx hb dX1_followRing_28 (by decide) (fun c_28 => ?_) (fun c_28 => ?_)
    · replace hE := (if_pos c_28).symm.trans hE
      refine lv_iconst (v := 2) hx hb dX1_followRing_35 (by decide) ?_
      refine va_put (D := G.1) (ci := 1) (v := .int (2 : Int32)) (ty := .int) (C := RX1) (T := TX1) (N := 11) hx hb hts iX1 tyX1 tyX1_ok nmX1 hown hK hP hD hS 0 rfl rfl 10 (by decide) fl_70 (fun _ h9 => h9) rfl (by decide +kernel) rfl rfl (Nat.le_of_ble_eq_true rfl) dX1_followRing_36 (fun H locs hP hD hS => ?_)
      have hP : va_P G.1 vwCl [oX1 q_t q_t_partners q_t_lengths t_ringEdges t_rings t_size t_ends q_t_open q_t_endAtRim p1 p2 (2 : Int32), aI (G.2 1) q_t_open 49 t_open] H := hP
      have hD : va_D A [oX1 q_t q_t_partners q_t_lengths t_ringEdges t_rings t_size t_ends q_t_open q_t_endAtRim p1 p2 (2 : Int32), aI (G.2 1) q_t_open 49 t_open] := hD
      refine lv_iconst (v := 0) hx hb dX1_followRing_39 (by decide) ?_
      refine lv_istore_n (lv' := [(3, .int (0 : Int32)), (0, .ref q_t), (1, .int p1), (2, .int p2)]) hx hb dX1_followRing_40 rfl hl (by decide) rfl (fun ls hl => ?_)
      refine itr_ind (fun (x1 : Int32 × Int32 × Int32 × Int32 × Int32 × (Nat → Int32)) => ∀ (H : Heap) (locs : List Loc) (ls : Array Slot), va_P G.1 vwCl [oX1 q_t q_t_partners q_t_lengths x1.2.1 t_rings t_size t_ends q_t_open q_t_endAtRim x1.2.2.1 x1.2.2.2.1 x1.2.2.2.2.1, aI (G.2 1) q_t_open 49 x1.2.2.2.2.2] H → va_D A [oX1 q_t q_t_partners q_t_lengths x1.2.1 t_rings t_size t_ends q_t_open q_t_endAtRim x1.2.2.1 x1.2.2.2.1 x1.2.2.2.2.1, aI (G.2 1) q_t_open 49 x1.2.2.2.2.2] → va_S A s.heap H locs → lv_has ls 4 [(0, .ref q_t), (3, .int x1.1)] → W p l e (headSpec wsX1_followRing ({ frames := 2, cells := 0, slots := 0, locals := 42 })).room s m ([.ref q_t, .int p1, .int p2] : List Value).toArray below meth c H locs 0 0 Q (F0 m 41 ls [])) (fun x1 o_1 hE ih_1 hr_1 => ?_) _ _ hE _ _ ls hP hD hS (lv_sub hl [1, 0] rfl)
      obtain ⟨v3_1, w_t_ringEdges_1, w_t_row_1, w_t_column_1, w_t_side_1, w_t_open_1⟩ := x1
      try dsimp only at hE
      intro H locs ls hP hD hS hl
      try dsimp only at hP hD hl ⊢
      refine lv_iload_n hx hb dX1_followRing_41 rfl (lv_at hl 1 rfl) ?_
      refine lv_bipush (v := 36) hx hb dX1_followRing_42 (by decide) ?_
      refine lv_icmp_ge (tgt := 95) hx hb dX1_followRing_44 (by decide) (fun c_44 => ?_) (fun c_44 => ?_)
      · replace hE := (if_pos c_44).symm.trans hE
        have e_1 := Option.some.inj hE
        have e_0 := hr_1 _ e_1.symm
        subst e_0
        rw [hQ]
        exact W.vret hx hb hr (fun t ht _ => ⟨⟨(), rfl, trivial, by rw [ht]; exact hP, hD⟩, hS.F ht⟩) hS.2.2 dX1_followRing_95
      · replace hE := (if_neg c_44).symm.trans hE
        refine lv_aload_n hx hb dX1_followRing_47 rfl (lv_at hl 0 rfl) ?_
        obtain ⟨y48, hC_48, hE⟩ := Option.bind_eq_some_iff.mp hE
        obtain ⟨r_48, ex9⟩ : ∃ z, z = y48 := ⟨_, rfl⟩
        subst ex9
        try dsimp only at hE
        refine vp_callSi (va_Run.run (va_runV (As := []) (rest := []) ⟨hx, hb, hml, hown, hts⟩ (c_X1_isInside (l := l) (G := G) (q_t := q_t) (q_t_partners := q_t_partners) (q_t_lengths := q_t_lengths) (t_ringEdges := w_t_ringEdges_1) (t_rings := t_rings) (t_size := t_size) (t_ends := t_ends) (q_t_open := q_t_open) (q_t_endAtRim := q_t_endAtRim) (t_row := w_t_row_1) (t_column := w_t_column_1) (t_side := w_t_side_1) hC_48) (cwV 0 hts gX1_followRing_X1_isInside rfl rfl rfl kd_X1_isInside ⟨Nat.le_of_ble_eq_true rfl, Nat.le_of_ble_eq_true rfl⟩) (pv_V hKW (hP.sub (ws' := [oX1 q_t q_t_partners q_t_lengths w_t_ringEdges_1 t_rings t_size t_ends q_t_open q_t_endAtRim w_t_row_1 w_t_column_1 w_t_side_1]) [0] rfl) (ci := 1) (q0 := 0) rfl rfl) rfl rfl hl.1 rfl (lv_room (Nat.le_of_ble_eq_true rfl)) dX1_followRing_48 ⟨Nat.zero_le _, Nat.zero_le _⟩)) (fun r9 hr9 => ?_)
        subst r9
        refine lv_if_eq (tgt := 95) hx hb dX1_followRing_51 (by decide) (fun c_51 => ?_) (fun c_51 => ?_)
        · replace hE := (if_pos c_51).symm.trans hE
          have e_1 := Option.some.inj hE
          have e_0 := hr_1 _ e_1.symm
          subst e_0
          rw [hQ]
          exact W.vret hx hb hr (fun t ht _ => ⟨⟨(), rfl, trivial, by rw [ht]; exact hP, hD⟩, hS.F ht⟩) hS.2.2 dX1_followRing_95
        · replace hE := (if_neg c_51).symm.trans hE
          refine lv_aload_n hx hb dX1_followRing_54 rfl (lv_at hl 0 rfl) ?_
          refine va_get (D := G.1) (ci := 1) (v := .ref q_t_open) (C := RX1) (T := TX1) (N := 11) hx hb hts iX1 hown hK hP 0 rfl rfl 6 (by decide) fl_18 (fun _ h9 => h9) rfl dX1_followRing_55 ?_
          refine lv_aload_n hx hb dX1_followRing_58 rfl (lv_at hl 0 rfl) ?_
          refine va_get (D := G.1) (ci := 1) (v := .int w_t_row_1) (C := RX1) (T := TX1) (N := 11) hx hb hts iX1 hown hK hP 0 rfl rfl 8 (by decide) fl_64 (fun _ h9 => h9) rfl dX1_followRing_59 ?_
          refine lv_bipush (v := 7) hx hb dX1_followRing_62 (by decide) ?_
          refine lv_imul hx hb dX1_followRing_64 ?_
          refine lv_aload_n hx hb dX1_followRing_65 rfl (lv_at hl 0 rfl) ?_
          refine va_get (D := G.1) (ci := 1) (v := .int w_t_column_1) (C := RX1) (T := TX1) (N := 11) hx hb hts iX1 hown hK hP 0 rfl rfl 9 (by decide) fl_67 (fun _ h9 => h9) rfl dX1_followRing_66 ?_
          refine lv_iadd hx hb dX1_followRing_69 ?_
          obtain ⟨hi_70, hE⟩ := ck_some hE
          refine va_iald hx hb hK hP 1 1 rfl rfl (inb_in hi_70) dX1_followRing_70 ?_
          refine lv_if_ne (tgt := 75) hx hb dX1_followRing_71 (by decide) (fun c_71 => ?_) (fun c_71 => ?_)
          · replace hE := (if_neg c_71).symm.trans hE
            refine lv_aload_n hx hb dX1_followRing_75 rfl (lv_at hl 0 rfl) ?_
            obtain ⟨y76, hC_76, hE⟩ := Option.bind_eq_some_iff.mp hE
            obtain ⟨m_76_0, m_76_1, m_76_2, m_76_3⟩ := y76
            try dsimp only at hE
            have hPc := hP.sub (ws' := [oX1 q_t q_t_partners q_t_lengths w_t_ringEdges_1 t_rings t_size t_ends q_t_open q_t_endAtRim w_t_row_1 w_t_column_1 w_t_side_1, aI (G.2 1) q_t_open 49 w_t_open_1]) [0, 1] rfl
            have hDc := hD.sub (ws' := [oX1 q_t q_t_partners q_t_lengths w_t_ringEdges_1 t_rings t_size t_ends q_t_open q_t_endAtRim w_t_row_1 w_t_column_1 w_t_side_1, aI (G.2 1) q_t_open 49 w_t_open_1]) [0, 1] (by decide) rfl
            have hFc := va_free (wc := [oX1 q_t q_t_partners q_t_lengths w_t_ringEdges_1 t_rings t_size t_ends q_t_open q_t_endAtRim w_t_row_1 w_t_column_1 w_t_side_1, aI (G.2 1) q_t_open 49 w_t_open_1]) hD hS hA [0, 1] rfl
            refine va_callv (va_runV (As := []) (rest := []) ⟨hx, hb, hml, hown, hts⟩ (c_X1_goOn (l := l) (G := G) _ (q_t := q_t) (q_t_partners := q_t_partners) (q_t_lengths := q_t_lengths) (t_ringEdges := w_t_ringEdges_1) (t_rings := t_rings) (t_size := t_size) (t_ends := t_ends) (q_t_open := q_t_open) (q_t_endAtRim := q_t_endAtRim) (t_row := w_t_row_1) (t_column := w_t_column_1) (t_side := w_t_side_1) (t_open := w_t_open_1) hC_76) (cwV 0 hts gX1_followRing_X1_goOn rfl rfl rfl kd_X1_goOn ⟨Nat.le_of_ble_eq_true rfl, Nat.le_of_ble_eq_true rfl⟩) (iv_V hKW hPc hDc (ci := 1) (q0 := 0) rfl rfl) rfl rfl hl.1 rfl (lv_room (Nat.le_of_ble_eq_true rfl)) dX1_followRing_76 ⟨Nat.zero_le _, Nat.zero_le _⟩) hS (fun q _ h => hFc q h) hFc (fun u9 t9 H1 locs ht9 hvm9 hw9 hB9 hz9 hk9 hS => ?_)
            obtain ⟨hP1, hD1⟩ := hB9
            rw [ht9] at hP1
            obtain ⟨hP, hD⟩ := va_join (wr := []) (w1 := [oX1 q_t q_t_partners q_t_lengths w_t_ringEdges_1 t_rings t_size t_ends q_t_open q_t_endAtRim m_76_0 m_76_1 m_76_2, aI (G.2 1) q_t_open 49 m_76_3]) hP hD [0, 1] [] rfl rfl (by decide) (by decide) hk9 hFc hP1 hD1
            have hP := hP.sub (ws' := [oX1 q_t q_t_partners q_t_lengths w_t_ringEdges_1 t_rings t_size t_ends q_t_open q_t_endAtRim m_76_0 m_76_1 m_76_2, aI (G.2 1) q_t_open 49 m_76_3]) [0, 1] rfl
            have hD := hD.sub (ws' := [oX1 q_t q_t_partners q_t_lengths w_t_ringEdges_1 t_rings t_size t_ends q_t_open q_t_endAtRim m_76_0 m_76_1 m_76_2, aI (G.2 1) q_t_open 49 m_76_3]) [0, 1] (by decide) rfl
            clear hPc hDc hFc hP1 hD1 hk9 hz9 hvm9
            refine lv_aload_n hx hb dX1_followRing_79 rfl (lv_at hl 0 rfl) ?_
            refine lv_dup hx hb dX1_followRing_80 rfl ?_
            refine va_get (D := G.1) (ci := 1) (v := .int w_t_ringEdges_1) (C := RX1) (T := TX1) (N := 11) hx hb hts iX1 hown hK hP 0 rfl rfl 2 (by decide) fl_95 (fun _ h9 => h9) rfl dX1_followRing_81 ?_
            refine lv_iconst (v := 1) hx hb dX1_followRing_84 (by decide) ?_
            refine lv_iadd hx hb dX1_followRing_85 ?_
            refine va_put (D := G.1) (ci := 1) (v := .int (w_t_ringEdges_1 + (1 : Int32))) (ty := .int) (C := RX1) (T := TX1) (N := 11) hx hb hts iX1 tyX1 tyX1_ok nmX1 hown hK hP hD hS 0 rfl rfl 2 (by decide) fl_95 (fun _ h9 => h9) rfl (by decide +kernel) rfl rfl (Nat.le_of_ble_eq_true rfl) dX1_followRing_86 (fun H locs hP hD hS => ?_)
            have hP : va_P G.1 vwCl [oX1 q_t q_t_partners q_t_lengths (w_t_ringEdges_1 + (1 : Int32)) t_rings t_size t_ends q_t_open q_t_endAtRim m_76_0 m_76_1 m_76_2, aI (G.2 1) q_t_open 49 m_76_3] H := hP
            have hD : va_D A [oX1 q_t q_t_partners q_t_lengths (w_t_ringEdges_1 + (1 : Int32)) t_rings t_size t_ends q_t_open q_t_endAtRim m_76_0 m_76_1 m_76_2, aI (G.2 1) q_t_open 49 m_76_3] := hD
            refine lv_iinc (v := v3_1 + (1 : Int32)) (lv' := [(3, .int (v3_1 + (1 : Int32))), (0, .ref q_t)]) hx hb dX1_followRing_89 hl (k := 1) rfl rfl (by decide) rfl (fun ls hl => ?_)
            refine lv_goto (tgt := 41) hx hb dX1_followRing_92 (by decide) ?_
            have e_1 := Option.some.inj hE
            exact ih_1 _ e_1.symm _ _ ls hP hD hS (lv_sub hl [1, 0] rfl)
          · replace hE := (if_pos c_71).symm.trans hE
            have e_1 := Option.some.inj hE
            have e_0 := hr_1 _ e_1.symm
            subst e_0
            rw [hQ]
            exact W.vret hx hb hr (fun t ht _ => ⟨⟨(), rfl, trivial, by rw [ht]; exact hP, hD⟩, hS.F ht⟩) hS.2.2 dX1_followRing_74
    · replace hE := (if_neg c_28).symm.trans hE
      refine lv_iconst (v := 1) hx hb dX1_followRing_31 (by decide) ?_
      refine lv_goto (tgt := 36) hx hb dX1_followRing_32 (by decide) ?_
      refine va_put (D := G.1) (ci := 1) (v := .int (1 : Int32)) (ty := .int) (C := RX1) (T := TX1) (N := 11) hx hb hts iX1 tyX1 tyX1_ok nmX1 hown hK hP hD hS 0 rfl rfl 10 (by decide) fl_70 (fun _ h9 => h9) rfl (by decide +kernel) rfl rfl (Nat.le_of_ble_eq_true rfl) dX1_followRing_36 (fun H locs hP hD hS => ?_)
      have hP : va_P G.1 vwCl [oX1 q_t q_t_partners q_t_lengths t_ringEdges t_rings t_size t_ends q_t_open q_t_endAtRim p1 p2 (1 : Int32), aI (G.2 1) q_t_open 49 t_open] H := hP
      have hD : va_D A [oX1 q_t q_t_partners q_t_lengths t_ringEdges t_rings t_size t_ends q_t_open q_t_endAtRim p1 p2 (1 : Int32), aI (G.2 1) q_t_open 49 t_open] := hD
      refine lv_iconst (v := 0) hx hb dX1_followRing_39 (by decide) ?_
      refine lv_istore_n (lv' := [(3, .int (0 : Int32)), (0, .ref q_t), (1, .int p1), (2, .int p2)]) hx hb dX1_followRing_40 rfl hl (by decide) rfl (fun ls hl => ?_)
      refine itr_ind (fun (x2 : Int32 × Int32 × Int32 × Int32 × Int32 × (Nat → Int32)) => ∀ (H : Heap) (locs : List Loc) (ls : Array Slot), va_P G.1 vwCl [oX1 q_t q_t_partners q_t_lengths x2.2.1 t_rings t_size t_ends q_t_open q_t_endAtRim x2.2.2.1 x2.2.2.2.1 x2.2.2.2.2.1, aI (G.2 1) q_t_open 49 x2.2.2.2.2.2] H → va_D A [oX1 q_t q_t_partners q_t_lengths x2.2.1 t_rings t_size t_ends q_t_open q_t_endAtRim x2.2.2.1 x2.2.2.2.1 x2.2.2.2.2.1, aI (G.2 1) q_t_open 49 x2.2.2.2.2.2] → va_S A s.heap H locs → lv_has ls 4 [(0, .ref q_t), (3, .int x2.1)] → W p l e (headSpec wsX1_followRing ({ frames := 2, cells := 0, slots := 0, locals := 42 })).room s m ([.ref q_t, .int p1, .int p2] : List Value).toArray below meth c H locs 0 0 Q (F0 m 41 ls [])) (fun x2 o_1 hE ih_1 hr_1 => ?_) _ _ hE _ _ ls hP hD hS (lv_sub hl [1, 0] rfl)
      obtain ⟨v3_2, w_t_ringEdges_2, w_t_row_2, w_t_column_2, w_t_side_2, w_t_open_2⟩ := x2
      try dsimp only at hE
      intro H locs ls hP hD hS hl
      try dsimp only at hP hD hl ⊢
      refine lv_iload_n hx hb dX1_followRing_41 rfl (lv_at hl 1 rfl) ?_
      refine lv_bipush (v := 36) hx hb dX1_followRing_42 (by decide) ?_
      refine lv_icmp_ge (tgt := 95) hx hb dX1_followRing_44 (by decide) (fun c_44 => ?_) (fun c_44 => ?_)
      · replace hE := (if_pos c_44).symm.trans hE
        have e_1 := Option.some.inj hE
        have e_0 := hr_1 _ e_1.symm
        subst e_0
        rw [hQ]
        exact W.vret hx hb hr (fun t ht _ => ⟨⟨(), rfl, trivial, by rw [ht]; exact hP, hD⟩, hS.F ht⟩) hS.2.2 dX1_followRing_95
      · replace hE := (if_neg c_44).symm.trans hE
        refine lv_aload_n hx hb dX1_followRing_47 rfl (lv_at hl 0 rfl) ?_
        obtain ⟨y48, hC_48, hE⟩ := Option.bind_eq_some_iff.mp hE
        obtain ⟨r_48, ex9⟩ : ∃ z, z = y48 := ⟨_, rfl⟩
        subst ex9
        try dsimp only at hE
        refine vp_callSi (va_Run.run (va_runV (As := []) (rest := []) ⟨hx, hb, hml, hown, hts⟩ (c_X1_isInside (l := l) (G := G) (q_t := q_t) (q_t_partners := q_t_partners) (q_t_lengths := q_t_lengths) (t_ringEdges := w_t_ringEdges_2) (t_rings := t_rings) (t_size := t_size) (t_ends := t_ends) (q_t_open := q_t_open) (q_t_endAtRim := q_t_endAtRim) (t_row := w_t_row_2) (t_column := w_t_column_2) (t_side := w_t_side_2) hC_48) (cwV 0 hts gX1_followRing_X1_isInside rfl rfl rfl kd_X1_isInside ⟨Nat.le_of_ble_eq_true rfl, Nat.le_of_ble_eq_true rfl⟩) (pv_V hKW (hP.sub (ws' := [oX1 q_t q_t_partners q_t_lengths w_t_ringEdges_2 t_rings t_size t_ends q_t_open q_t_endAtRim w_t_row_2 w_t_column_2 w_t_side_2]) [0] rfl) (ci := 1) (q0 := 0) rfl rfl) rfl rfl hl.1 rfl (lv_room (Nat.le_of_ble_eq_true rfl)) dX1_followRing_48 ⟨Nat.zero_le _, Nat.zero_le _⟩)) (fun r9 hr9 => ?_)
        subst r9
        refine lv_if_eq (tgt := 95) hx hb dX1_followRing_51 (by decide) (fun c_51 => ?_) (fun c_51 => ?_)
        · replace hE := (if_pos c_51).symm.trans hE
          have e_1 := Option.some.inj hE
          have e_0 := hr_1 _ e_1.symm
          subst e_0
          rw [hQ]
          exact W.vret hx hb hr (fun t ht _ => ⟨⟨(), rfl, trivial, by rw [ht]; exact hP, hD⟩, hS.F ht⟩) hS.2.2 dX1_followRing_95
        · replace hE := (if_neg c_51).symm.trans hE
          refine lv_aload_n hx hb dX1_followRing_54 rfl (lv_at hl 0 rfl) ?_
          refine va_get (D := G.1) (ci := 1) (v := .ref q_t_open) (C := RX1) (T := TX1) (N := 11) hx hb hts iX1 hown hK hP 0 rfl rfl 6 (by decide) fl_18 (fun _ h9 => h9) rfl dX1_followRing_55 ?_
          refine lv_aload_n hx hb dX1_followRing_58 rfl (lv_at hl 0 rfl) ?_
          refine va_get (D := G.1) (ci := 1) (v := .int w_t_row_2) (C := RX1) (T := TX1) (N := 11) hx hb hts iX1 hown hK hP 0 rfl rfl 8 (by decide) fl_64 (fun _ h9 => h9) rfl dX1_followRing_59 ?_
          refine lv_bipush (v := 7) hx hb dX1_followRing_62 (by decide) ?_
          refine lv_imul hx hb dX1_followRing_64 ?_
          refine lv_aload_n hx hb dX1_followRing_65 rfl (lv_at hl 0 rfl) ?_
          refine va_get (D := G.1) (ci := 1) (v := .int w_t_column_2) (C := RX1) (T := TX1) (N := 11) hx hb hts iX1 hown hK hP 0 rfl rfl 9 (by decide) fl_67 (fun _ h9 => h9) rfl dX1_followRing_66 ?_
          refine lv_iadd hx hb dX1_followRing_69 ?_
          obtain ⟨hi_70, hE⟩ := ck_some hE
          refine va_iald hx hb hK hP 1 1 rfl rfl (inb_in hi_70) dX1_followRing_70 ?_
          refine lv_if_ne (tgt := 75) hx hb dX1_followRing_71 (by decide) (fun c_71 => ?_) (fun c_71 => ?_)
          · replace hE := (if_neg c_71).symm.trans hE
            refine lv_aload_n hx hb dX1_followRing_75 rfl (lv_at hl 0 rfl) ?_
            obtain ⟨y76, hC_76, hE⟩ := Option.bind_eq_some_iff.mp hE
            obtain ⟨m_76_0, m_76_1, m_76_2, m_76_3⟩ := y76
            try dsimp only at hE
            have hPc := hP.sub (ws' := [oX1 q_t q_t_partners q_t_lengths w_t_ringEdges_2 t_rings t_size t_ends q_t_open q_t_endAtRim w_t_row_2 w_t_column_2 w_t_side_2, aI (G.2 1) q_t_open 49 w_t_open_2]) [0, 1] rfl
            have hDc := hD.sub (ws' := [oX1 q_t q_t_partners q_t_lengths w_t_ringEdges_2 t_rings t_size t_ends q_t_open q_t_endAtRim w_t_row_2 w_t_column_2 w_t_side_2, aI (G.2 1) q_t_open 49 w_t_open_2]) [0, 1] (by decide) rfl
            have hFc := va_free (wc := [oX1 q_t q_t_partners q_t_lengths w_t_ringEdges_2 t_rings t_size t_ends q_t_open q_t_endAtRim w_t_row_2 w_t_column_2 w_t_side_2, aI (G.2 1) q_t_open 49 w_t_open_2]) hD hS hA [0, 1] rfl
            refine va_callv (va_runV (As := []) (rest := []) ⟨hx, hb, hml, hown, hts⟩ (c_X1_goOn (l := l) (G := G) _ (q_t := q_t) (q_t_partners := q_t_partners) (q_t_lengths := q_t_lengths) (t_ringEdges := w_t_ringEdges_2) (t_rings := t_rings) (t_size := t_size) (t_ends := t_ends) (q_t_open := q_t_open) (q_t_endAtRim := q_t_endAtRim) (t_row := w_t_row_2) (t_column := w_t_column_2) (t_side := w_t_side_2) (t_open := w_t_open_2) hC_76) (cwV 0 hts gX1_followRing_X1_goOn rfl rfl rfl kd_X1_goOn ⟨Nat.le_of_ble_eq_true rfl, Nat.le_of_ble_eq_true rfl⟩) (iv_V hKW hPc hDc (ci := 1) (q0 := 0) rfl rfl) rfl rfl hl.1 rfl (lv_room (Nat.le_of_ble_eq_true rfl)) dX1_followRing_76 ⟨Nat.zero_le _, Nat.zero_le _⟩) hS (fun q _ h => hFc q h) hFc (fun u9 t9 H1 locs ht9 hvm9 hw9 hB9 hz9 hk9 hS => ?_)
            obtain ⟨hP1, hD1⟩ := hB9
            rw [ht9] at hP1
            obtain ⟨hP, hD⟩ := va_join (wr := []) (w1 := [oX1 q_t q_t_partners q_t_lengths w_t_ringEdges_2 t_rings t_size t_ends q_t_open q_t_endAtRim m_76_0 m_76_1 m_76_2, aI (G.2 1) q_t_open 49 m_76_3]) hP hD [0, 1] [] rfl rfl (by decide) (by decide) hk9 hFc hP1 hD1
            have hP := hP.sub (ws' := [oX1 q_t q_t_partners q_t_lengths w_t_ringEdges_2 t_rings t_size t_ends q_t_open q_t_endAtRim m_76_0 m_76_1 m_76_2, aI (G.2 1) q_t_open 49 m_76_3]) [0, 1] rfl
            have hD := hD.sub (ws' := [oX1 q_t q_t_partners q_t_lengths w_t_ringEdges_2 t_rings t_size t_ends q_t_open q_t_endAtRim m_76_0 m_76_1 m_76_2, aI (G.2 1) q_t_open 49 m_76_3]) [0, 1] (by decide) rfl
            clear hPc hDc hFc hP1 hD1 hk9 hz9 hvm9
            refine lv_aload_n hx hb dX1_followRing_79 rfl (lv_at hl 0 rfl) ?_
            refine lv_dup hx hb dX1_followRing_80 rfl ?_
            refine va_get (D := G.1) (ci := 1) (v := .int w_t_ringEdges_2) (C := RX1) (T := TX1) (N := 11) hx hb hts iX1 hown hK hP 0 rfl rfl 2 (by decide) fl_95 (fun _ h9 => h9) rfl dX1_followRing_81 ?_
            refine lv_iconst (v := 1) hx hb dX1_followRing_84 (by decide) ?_
            refine lv_iadd hx hb dX1_followRing_85 ?_
            refine va_put (D := G.1) (ci := 1) (v := .int (w_t_ringEdges_2 + (1 : Int32))) (ty := .int) (C := RX1) (T := TX1) (N := 11) hx hb hts iX1 tyX1 tyX1_ok nmX1 hown hK hP hD hS 0 rfl rfl 2 (by decide) fl_95 (fun _ h9 => h9) rfl (by decide +kernel) rfl rfl (Nat.le_of_ble_eq_true rfl) dX1_followRing_86 (fun H locs hP hD hS => ?_)
            have hP : va_P G.1 vwCl [oX1 q_t q_t_partners q_t_lengths (w_t_ringEdges_2 + (1 : Int32)) t_rings t_size t_ends q_t_open q_t_endAtRim m_76_0 m_76_1 m_76_2, aI (G.2 1) q_t_open 49 m_76_3] H := hP
            have hD : va_D A [oX1 q_t q_t_partners q_t_lengths (w_t_ringEdges_2 + (1 : Int32)) t_rings t_size t_ends q_t_open q_t_endAtRim m_76_0 m_76_1 m_76_2, aI (G.2 1) q_t_open 49 m_76_3] := hD
            refine lv_iinc (v := v3_2 + (1 : Int32)) (lv' := [(3, .int (v3_2 + (1 : Int32))), (0, .ref q_t)]) hx hb dX1_followRing_89 hl (k := 1) rfl rfl (by decide) rfl (fun ls hl => ?_)
            refine lv_goto (tgt := 41) hx hb dX1_followRing_92 (by decide) ?_
            have e_1 := Option.some.inj hE
            exact ih_1 _ e_1.symm _ _ ls hP hD hS (lv_sub hl [1, 0] rfl)
          · replace hE := (if_pos c_71).symm.trans hE
            have e_1 := Option.some.inj hE
            have e_0 := hr_1 _ e_1.symm
            subst e_0
            rw [hQ]
            exact W.vret hx hb hr (fun t ht _ => ⟨⟨(), rfl, trivial, by rw [ht]; exact hP, hD⟩, hS.F ht⟩) hS.2.2 dX1_followRing_74
  · replace hE := (if_neg c_16).symm.trans hE
    refine lv_iconst (v := 0) hx hb dX1_followRing_19 (by decide) ?_
    refine lv_goto (tgt := 36) hx hb dX1_followRing_20 (by decide) ?_
    refine va_put (D := G.1) (ci := 1) (v := .int (0 : Int32)) (ty := .int) (C := RX1) (T := TX1) (N := 11) hx hb hts iX1 tyX1 tyX1_ok nmX1 hown hK hP hD hS 0 rfl rfl 10 (by decide) fl_70 (fun _ h9 => h9) rfl (by decide +kernel) rfl rfl (Nat.le_of_ble_eq_true rfl) dX1_followRing_36 (fun H locs hP hD hS => ?_)
    have hP : va_P G.1 vwCl [oX1 q_t q_t_partners q_t_lengths t_ringEdges t_rings t_size t_ends q_t_open q_t_endAtRim p1 p2 (0 : Int32), aI (G.2 1) q_t_open 49 t_open] H := hP
    have hD : va_D A [oX1 q_t q_t_partners q_t_lengths t_ringEdges t_rings t_size t_ends q_t_open q_t_endAtRim p1 p2 (0 : Int32), aI (G.2 1) q_t_open 49 t_open] := hD
    refine lv_iconst (v := 0) hx hb dX1_followRing_39 (by decide) ?_
    refine lv_istore_n (lv' := [(3, .int (0 : Int32)), (0, .ref q_t), (1, .int p1), (2, .int p2)]) hx hb dX1_followRing_40 rfl hl (by decide) rfl (fun ls hl => ?_)
    refine itr_ind (fun (x3 : Int32 × Int32 × Int32 × Int32 × Int32 × (Nat → Int32)) => ∀ (H : Heap) (locs : List Loc) (ls : Array Slot), va_P G.1 vwCl [oX1 q_t q_t_partners q_t_lengths x3.2.1 t_rings t_size t_ends q_t_open q_t_endAtRim x3.2.2.1 x3.2.2.2.1 x3.2.2.2.2.1, aI (G.2 1) q_t_open 49 x3.2.2.2.2.2] H → va_D A [oX1 q_t q_t_partners q_t_lengths x3.2.1 t_rings t_size t_ends q_t_open q_t_endAtRim x3.2.2.1 x3.2.2.2.1 x3.2.2.2.2.1, aI (G.2 1) q_t_open 49 x3.2.2.2.2.2] → va_S A s.heap H locs → lv_has ls 4 [(0, .ref q_t), (3, .int x3.1)] → W p l e (headSpec wsX1_followRing ({ frames := 2, cells := 0, slots := 0, locals := 42 })).room s m ([.ref q_t, .int p1, .int p2] : List Value).toArray below meth c H locs 0 0 Q (F0 m 41 ls [])) (fun x3 o_1 hE ih_1 hr_1 => ?_) _ _ hE _ _ ls hP hD hS (lv_sub hl [1, 0] rfl)
    obtain ⟨v3_3, w_t_ringEdges_3, w_t_row_3, w_t_column_3, w_t_side_3, w_t_open_3⟩ := x3
    try dsimp only at hE
    intro H locs ls hP hD hS hl
    try dsimp only at hP hD hl ⊢
    refine lv_iload_n hx hb dX1_followRing_41 rfl (lv_at hl 1 rfl) ?_
    refine lv_bipush (v := 36) hx hb dX1_followRing_42 (by decide) ?_
    refine lv_icmp_ge (tgt := 95) hx hb dX1_followRing_44 (by decide) (fun c_44 => ?_) (fun c_44 => ?_)
    · replace hE := (if_pos c_44).symm.trans hE
      have e_1 := Option.some.inj hE
      have e_0 := hr_1 _ e_1.symm
      subst e_0
      rw [hQ]
      exact W.vret hx hb hr (fun t ht _ => ⟨⟨(), rfl, trivial, by rw [ht]; exact hP, hD⟩, hS.F ht⟩) hS.2.2 dX1_followRing_95
    · replace hE := (if_neg c_44).symm.trans hE
      refine lv_aload_n hx hb dX1_followRing_47 rfl (lv_at hl 0 rfl) ?_
      obtain ⟨y48, hC_48, hE⟩ := Option.bind_eq_some_iff.mp hE
      obtain ⟨r_48, ex9⟩ : ∃ z, z = y48 := ⟨_, rfl⟩
      subst ex9
      try dsimp only at hE
      refine vp_callSi (va_Run.run (va_runV (As := []) (rest := []) ⟨hx, hb, hml, hown, hts⟩ (c_X1_isInside (l := l) (G := G) (q_t := q_t) (q_t_partners := q_t_partners) (q_t_lengths := q_t_lengths) (t_ringEdges := w_t_ringEdges_3) (t_rings := t_rings) (t_size := t_size) (t_ends := t_ends) (q_t_open := q_t_open) (q_t_endAtRim := q_t_endAtRim) (t_row := w_t_row_3) (t_column := w_t_column_3) (t_side := w_t_side_3) hC_48) (cwV 0 hts gX1_followRing_X1_isInside rfl rfl rfl kd_X1_isInside ⟨Nat.le_of_ble_eq_true rfl, Nat.le_of_ble_eq_true rfl⟩) (pv_V hKW (hP.sub (ws' := [oX1 q_t q_t_partners q_t_lengths w_t_ringEdges_3 t_rings t_size t_ends q_t_open q_t_endAtRim w_t_row_3 w_t_column_3 w_t_side_3]) [0] rfl) (ci := 1) (q0 := 0) rfl rfl) rfl rfl hl.1 rfl (lv_room (Nat.le_of_ble_eq_true rfl)) dX1_followRing_48 ⟨Nat.zero_le _, Nat.zero_le _⟩)) (fun r9 hr9 => ?_)
      subst r9
      refine lv_if_eq (tgt := 95) hx hb dX1_followRing_51 (by decide) (fun c_51 => ?_) (fun c_51 => ?_)
      · replace hE := (if_pos c_51).symm.trans hE
        have e_1 := Option.some.inj hE
        have e_0 := hr_1 _ e_1.symm
        subst e_0
        rw [hQ]
        exact W.vret hx hb hr (fun t ht _ => ⟨⟨(), rfl, trivial, by rw [ht]; exact hP, hD⟩, hS.F ht⟩) hS.2.2 dX1_followRing_95
      · replace hE := (if_neg c_51).symm.trans hE
        refine lv_aload_n hx hb dX1_followRing_54 rfl (lv_at hl 0 rfl) ?_
        refine va_get (D := G.1) (ci := 1) (v := .ref q_t_open) (C := RX1) (T := TX1) (N := 11) hx hb hts iX1 hown hK hP 0 rfl rfl 6 (by decide) fl_18 (fun _ h9 => h9) rfl dX1_followRing_55 ?_
        refine lv_aload_n hx hb dX1_followRing_58 rfl (lv_at hl 0 rfl) ?_
        refine va_get (D := G.1) (ci := 1) (v := .int w_t_row_3) (C := RX1) (T := TX1) (N := 11) hx hb hts iX1 hown hK hP 0 rfl rfl 8 (by decide) fl_64 (fun _ h9 => h9) rfl dX1_followRing_59 ?_
        refine lv_bipush (v := 7) hx hb dX1_followRing_62 (by decide) ?_
        refine lv_imul hx hb dX1_followRing_64 ?_
        refine lv_aload_n hx hb dX1_followRing_65 rfl (lv_at hl 0 rfl) ?_
        refine va_get (D := G.1) (ci := 1) (v := .int w_t_column_3) (C := RX1) (T := TX1) (N := 11) hx hb hts iX1 hown hK hP 0 rfl rfl 9 (by decide) fl_67 (fun _ h9 => h9) rfl dX1_followRing_66 ?_
        refine lv_iadd hx hb dX1_followRing_69 ?_
        obtain ⟨hi_70, hE⟩ := ck_some hE
        refine va_iald hx hb hK hP 1 1 rfl rfl (inb_in hi_70) dX1_followRing_70 ?_
        refine lv_if_ne (tgt := 75) hx hb dX1_followRing_71 (by decide) (fun c_71 => ?_) (fun c_71 => ?_)
        · replace hE := (if_neg c_71).symm.trans hE
          refine lv_aload_n hx hb dX1_followRing_75 rfl (lv_at hl 0 rfl) ?_
          obtain ⟨y76, hC_76, hE⟩ := Option.bind_eq_some_iff.mp hE
          obtain ⟨m_76_0, m_76_1, m_76_2, m_76_3⟩ := y76
          try dsimp only at hE
          have hPc := hP.sub (ws' := [oX1 q_t q_t_partners q_t_lengths w_t_ringEdges_3 t_rings t_size t_ends q_t_open q_t_endAtRim w_t_row_3 w_t_column_3 w_t_side_3, aI (G.2 1) q_t_open 49 w_t_open_3]) [0, 1] rfl
          have hDc := hD.sub (ws' := [oX1 q_t q_t_partners q_t_lengths w_t_ringEdges_3 t_rings t_size t_ends q_t_open q_t_endAtRim w_t_row_3 w_t_column_3 w_t_side_3, aI (G.2 1) q_t_open 49 w_t_open_3]) [0, 1] (by decide) rfl
          have hFc := va_free (wc := [oX1 q_t q_t_partners q_t_lengths w_t_ringEdges_3 t_rings t_size t_ends q_t_open q_t_endAtRim w_t_row_3 w_t_column_3 w_t_side_3, aI (G.2 1) q_t_open 49 w_t_open_3]) hD hS hA [0, 1] rfl
          refine va_callv (va_runV (As := []) (rest := []) ⟨hx, hb, hml, hown, hts⟩ (c_X1_goOn (l := l) (G := G) _ (q_t := q_t) (q_t_partners := q_t_partners) (q_t_lengths := q_t_lengths) (t_ringEdges := w_t_ringEdges_3) (t_rings := t_rings) (t_size := t_size) (t_ends := t_ends) (q_t_open := q_t_open) (q_t_endAtRim := q_t_endAtRim) (t_row := w_t_row_3) (t_column := w_t_column_3) (t_side := w_t_side_3) (t_open := w_t_open_3) hC_76) (cwV 0 hts gX1_followRing_X1_goOn rfl rfl rfl kd_X1_goOn ⟨Nat.le_of_ble_eq_true rfl, Nat.le_of_ble_eq_true rfl⟩) (iv_V hKW hPc hDc (ci := 1) (q0 := 0) rfl rfl) rfl rfl hl.1 rfl (lv_room (Nat.le_of_ble_eq_true rfl)) dX1_followRing_76 ⟨Nat.zero_le _, Nat.zero_le _⟩) hS (fun q _ h => hFc q h) hFc (fun u9 t9 H1 locs ht9 hvm9 hw9 hB9 hz9 hk9 hS => ?_)
          obtain ⟨hP1, hD1⟩ := hB9
          rw [ht9] at hP1
          obtain ⟨hP, hD⟩ := va_join (wr := []) (w1 := [oX1 q_t q_t_partners q_t_lengths w_t_ringEdges_3 t_rings t_size t_ends q_t_open q_t_endAtRim m_76_0 m_76_1 m_76_2, aI (G.2 1) q_t_open 49 m_76_3]) hP hD [0, 1] [] rfl rfl (by decide) (by decide) hk9 hFc hP1 hD1
          have hP := hP.sub (ws' := [oX1 q_t q_t_partners q_t_lengths w_t_ringEdges_3 t_rings t_size t_ends q_t_open q_t_endAtRim m_76_0 m_76_1 m_76_2, aI (G.2 1) q_t_open 49 m_76_3]) [0, 1] rfl
          have hD := hD.sub (ws' := [oX1 q_t q_t_partners q_t_lengths w_t_ringEdges_3 t_rings t_size t_ends q_t_open q_t_endAtRim m_76_0 m_76_1 m_76_2, aI (G.2 1) q_t_open 49 m_76_3]) [0, 1] (by decide) rfl
          clear hPc hDc hFc hP1 hD1 hk9 hz9 hvm9
          refine lv_aload_n hx hb dX1_followRing_79 rfl (lv_at hl 0 rfl) ?_
          refine lv_dup hx hb dX1_followRing_80 rfl ?_
          refine va_get (D := G.1) (ci := 1) (v := .int w_t_ringEdges_3) (C := RX1) (T := TX1) (N := 11) hx hb hts iX1 hown hK hP 0 rfl rfl 2 (by decide) fl_95 (fun _ h9 => h9) rfl dX1_followRing_81 ?_
          refine lv_iconst (v := 1) hx hb dX1_followRing_84 (by decide) ?_
          refine lv_iadd hx hb dX1_followRing_85 ?_
          refine va_put (D := G.1) (ci := 1) (v := .int (w_t_ringEdges_3 + (1 : Int32))) (ty := .int) (C := RX1) (T := TX1) (N := 11) hx hb hts iX1 tyX1 tyX1_ok nmX1 hown hK hP hD hS 0 rfl rfl 2 (by decide) fl_95 (fun _ h9 => h9) rfl (by decide +kernel) rfl rfl (Nat.le_of_ble_eq_true rfl) dX1_followRing_86 (fun H locs hP hD hS => ?_)
          have hP : va_P G.1 vwCl [oX1 q_t q_t_partners q_t_lengths (w_t_ringEdges_3 + (1 : Int32)) t_rings t_size t_ends q_t_open q_t_endAtRim m_76_0 m_76_1 m_76_2, aI (G.2 1) q_t_open 49 m_76_3] H := hP
          have hD : va_D A [oX1 q_t q_t_partners q_t_lengths (w_t_ringEdges_3 + (1 : Int32)) t_rings t_size t_ends q_t_open q_t_endAtRim m_76_0 m_76_1 m_76_2, aI (G.2 1) q_t_open 49 m_76_3] := hD
          refine lv_iinc (v := v3_3 + (1 : Int32)) (lv' := [(3, .int (v3_3 + (1 : Int32))), (0, .ref q_t)]) hx hb dX1_followRing_89 hl (k := 1) rfl rfl (by decide) rfl (fun ls hl => ?_)
          refine lv_goto (tgt := 41) hx hb dX1_followRing_92 (by decide) ?_
          have e_1 := Option.some.inj hE
          exact ih_1 _ e_1.symm _ _ ls hP hD hS (lv_sub hl [1, 0] rfl)
        · replace hE := (if_pos c_71).symm.trans hE
          have e_1 := Option.some.inj hE
          have e_0 := hr_1 _ e_1.symm
          subst e_0
          rw [hQ]
          exact W.vret hx hb hr (fun t ht _ => ⟨⟨(), rfl, trivial, by rw [ht]; exact hP, hD⟩, hS.F ht⟩) hS.2.2 dX1_followRing_74
def S_X1_followRings (t_size : Int32) (t_row : Int32) (t_column : Int32) (t_side : Int32) (t_open : Nat → Int32) : Option (Int32 × Int32 × Int32 × Int32 × Int32 × (Nat → Int32)) := itr (fun (x1 : Int32 × Int32 × Int32 × Int32 × Int32 × Int32 × (Nat → Int32)) => if t_size < x1.1 then some (.inr (x1.2.1, x1.2.2.1, x1.2.2.2.1, x1.2.2.2.2.1, x1.2.2.2.2.2.1, x1.2.2.2.2.2.2)) else itr (fun (x2 : Int32 × Int32 × Int32 × Int32 × Int32 × Int32 × (Nat → Int32)) => if t_size < x2.1 then some (.inr (.inl (x1.1 + (1 : Int32), x2.2.1, x2.2.2.1, x2.2.2.2.1, x2.2.2.2.2.1, x2.2.2.2.2.2.1, x2.2.2.2.2.2.2))) else ck (inb ((x1.1 * (7 : Int32)) + x2.1) 49) (if (x2.2.2.2.2.2.2 ((x1.1 * (7 : Int32)) + x2.1).toNatClampNeg) = 0 then some (.inl (x2.1 + (1 : Int32), x2.2.1, x2.2.2.1, x2.2.2.2.1, x2.2.2.2.2.1, x2.2.2.2.2.2.1, x2.2.2.2.2.2.2)) else (S_X1_followRing x1.1 x2.1 x2.2.1 t_size x2.2.2.2.2.2.2).bind (fun (y57 : Int32 × Int32 × Int32 × Int32 × (Nat → Int32)) => some (.inl (x2.1 + (1 : Int32), y57.1, x2.2.2.1 + (1 : Int32), y57.2.1, y57.2.2.1, y57.2.2.2.1, y57.2.2.2.2))))) 10000 ((1 : Int32), x1.2.1, x1.2.2.1, x1.2.2.2.1, x1.2.2.2.2.1, x1.2.2.2.2.2.1, x1.2.2.2.2.2.2)) 10000 ((1 : Int32), (0 : Int32), (0 : Int32), t_row, t_column, t_side, t_open)
theorem kd_X1_followRings : yX1_followRings.cls = RX1 ∧ yX1_followRings.cls ≠ "java/lang/invoke/MethodHandle" ∧ yX1_followRings.cls ≠ "java/lang/invoke/VarHandle" ∧ (parseMethodDescriptor yX1_followRings.desc).map (fun d => d.parameters.length) = some 0 := by decide +kernel
set_option maxHeartbeats 4000000 in
set_option maxRecDepth 100000 in
theorem c_X1_followRings {l : Launch} {G : kG} (sz : Nat) {q_t : Nat} {q_t_partners : Nat} {q_t_lengths : Nat} {t_ringEdges : Int32} {t_rings : Int32} {t_size : Int32} {t_ends : Int32} {q_t_open : Nat} {q_t_endAtRim : Nat} {t_row : Int32} {t_column : Int32} {t_side : Int32} {t_open : Nat → Int32} {res : Int32 × Int32 × Int32 × Int32 × Int32 × (Nat → Int32)} (hE : S_X1_followRings t_size t_row t_column t_side t_open = some res) : Met l yX1_followRings wsX1_followRings ({ frames := 3, cells := 0, slots := 0, locals := 65 }) (va_Pc [.ref q_t] (fun U => U.heap.size = sz ∧ va_P G.1 vwCl [oX1 q_t q_t_partners q_t_lengths t_ringEdges t_rings t_size t_ends q_t_open q_t_endAtRim t_row t_column t_side, aI (G.2 1) q_t_open 49 t_open] U.heap ∧ kw G U ∧ va_D (fun _ => True) [oX1 q_t q_t_partners q_t_lengths t_ringEdges t_rings t_size t_ends q_t_open q_t_endAtRim t_row t_column t_side, aI (G.2 1) q_t_open 49 t_open])) (va_Qv (fun (_ : Unit) => True) (fun _ t => va_P G.1 vwCl [oX1 q_t q_t_partners q_t_lengths res.1 res.2.1 t_size t_ends q_t_open q_t_endAtRim res.2.2.1 res.2.2.2.1 res.2.2.2.2.1, aI (G.2 1) q_t_open 49 res.2.2.2.2.2] t.heap ∧ va_D (va_A [oX1 q_t q_t_partners q_t_lengths t_ringEdges t_rings t_size t_ends q_t_open q_t_endAtRim t_row t_column t_side, aI (G.2 1) q_t_open 49 t_open] sz) [oX1 q_t q_t_partners q_t_lengths res.1 res.2.1 t_size t_ends q_t_open q_t_endAtRim res.2.2.1 res.2.2.2.1 res.2.2.2.2.1, aI (G.2 1) q_t_open 49 res.2.2.2.2.2]) (va_A [oX1 q_t q_t_partners q_t_lengths t_ringEdges t_rings t_size t_ends q_t_open q_t_endAtRim t_row t_column t_side, aI (G.2 1) q_t_open 49 t_open] sz)) 0 0 (va_A [oX1 q_t q_t_partners q_t_lengths t_ringEdges t_rings t_size t_ends q_t_open q_t_endAtRim t_row t_column t_side, aI (G.2 1) q_t_open 49 t_open] sz) := by
  refine Met.ofQ (cc := cX1_followRings) (maxL := 3) (ret := none) (by decide) rfl ?_
  intro p e s m args below meth c s₁ Q hQ B hml hv
  obtain ⟨rfl, hsz, hP, hKW, hD0⟩ := hv
  have hK := hKW.1
  have hx := B.exec
  have hb := B.bytes
  have hr := B.returns
  have hts := atoms_spec (ws := wsX1_followRings) B.pre
  have hown : s.vm.findClass RX1 = some m.cls := findClass_of_methodNamed B.named
  have hlocks := B.notSynchronized
  have iX1 : ∀ w ∈ u_ws RX1 TX1 11, w ∈ wsX1_followRings := by decide +kernel
  have fl_92 := hts (.fieldLink RX1 92 "AlternateSigns$Lines" "rings" "I") (by decide +kernel)
  have fl_95 := hts (.fieldLink RX1 95 "AlternateSigns$Lines" "ringEdges" "I") (by decide +kernel)
  have fl_30 := hts (.fieldLink RX1 30 "AlternateSigns$Lines" "size" "I") (by decide +kernel)
  have fl_18 := hts (.fieldLink RX1 18 "AlternateSigns$Lines" "open" "[I") (by decide +kernel)
  subst hsz
  have hD := hD0.self (sz := s.heap.size)
  generalize hAe : va_A [oX1 q_t q_t_partners q_t_lengths t_ringEdges t_rings t_size t_ends q_t_open q_t_endAtRim t_row t_column t_side, aI (G.2 1) q_t_open 49 t_open] s.heap.size = A at hD hQ
  have hA : ∀ q : Nat, s.heap.size ≤ q → A q := fun q h => by rw [← hAe]; exact Or.inr h
  have hS : va_S A s.heap s.heap [] := va_S.rf
  have hl := lv_entry ([.ref q_t]) (n := 3) (Nat.le_of_ble_eq_true rfl)
  rw [lg_entry_eq]
  generalize (lg_sl ([.ref q_t]) ++ List.replicate (3 - (lg_sl ([.ref q_t])).length) Slot.unset).toArray = ls at hl ⊢
  have hl : lv_has ls 3 [(0, .ref q_t)] := hl
  unfold S_X1_followRings at hE
  refine lv_aload_n hx hb dX1_followRings_0 rfl (lv_at hl 0 rfl) ?_
  refine lv_iconst (v := 0) hx hb dX1_followRings_1 (by decide) ?_
  refine va_put (D := G.1) (ci := 1) (v := .int (0 : Int32)) (ty := .int) (C := RX1) (T := TX1) (N := 11) hx hb hts iX1 tyX1 tyX1_ok nmX1 hown hK hP hD hS 0 rfl rfl 3 (by decide) fl_92 (fun _ h9 => h9) rfl (by decide +kernel) rfl rfl (Nat.le_of_ble_eq_true rfl) dX1_followRings_2 (fun H locs hP hD hS => ?_)
  have hP : va_P G.1 vwCl [oX1 q_t q_t_partners q_t_lengths t_ringEdges (0 : Int32) t_size t_ends q_t_open q_t_endAtRim t_row t_column t_side, aI (G.2 1) q_t_open 49 t_open] H := hP
  have hD : va_D A [oX1 q_t q_t_partners q_t_lengths t_ringEdges (0 : Int32) t_size t_ends q_t_open q_t_endAtRim t_row t_column t_side, aI (G.2 1) q_t_open 49 t_open] := hD
  refine lv_aload_n hx hb dX1_followRings_5 rfl (lv_at hl 0 rfl) ?_
  refine lv_iconst (v := 0) hx hb dX1_followRings_6 (by decide) ?_
  refine va_put (D := G.1) (ci := 1) (v := .int (0 : Int32)) (ty := .int) (C := RX1) (T := TX1) (N := 11) hx hb hts iX1 tyX1 tyX1_ok nmX1 hown hK hP hD hS 0 rfl rfl 2 (by decide) fl_95 (fun _ h9 => h9) rfl (by decide +kernel) rfl rfl (Nat.le_of_ble_eq_true rfl) dX1_followRings_7 (fun H locs hP hD hS => ?_)
  have hP : va_P G.1 vwCl [oX1 q_t q_t_partners q_t_lengths (0 : Int32) (0 : Int32) t_size t_ends q_t_open q_t_endAtRim t_row t_column t_side, aI (G.2 1) q_t_open 49 t_open] H := hP
  have hD : va_D A [oX1 q_t q_t_partners q_t_lengths (0 : Int32) (0 : Int32) t_size t_ends q_t_open q_t_endAtRim t_row t_column t_side, aI (G.2 1) q_t_open 49 t_open] := hD
  refine lv_iconst (v := 1) hx hb dX1_followRings_10 (by decide) ?_
  refine lv_istore_n (lv' := [(1, .int (1 : Int32)), (0, .ref q_t)]) hx hb dX1_followRings_11 rfl hl (by decide) rfl (fun ls hl => ?_)
  refine itr_ind (fun (x1 : Int32 × Int32 × Int32 × Int32 × Int32 × Int32 × (Nat → Int32)) => ∀ (H : Heap) (locs : List Loc) (ls : Array Slot), va_P G.1 vwCl [oX1 q_t q_t_partners q_t_lengths x1.2.1 x1.2.2.1 t_size t_ends q_t_open q_t_endAtRim x1.2.2.2.1 x1.2.2.2.2.1 x1.2.2.2.2.2.1, aI (G.2 1) q_t_open 49 x1.2.2.2.2.2.2] H → va_D A [oX1 q_t q_t_partners q_t_lengths x1.2.1 x1.2.2.1 t_size t_ends q_t_open q_t_endAtRim x1.2.2.2.1 x1.2.2.2.2.1 x1.2.2.2.2.2.1, aI (G.2 1) q_t_open 49 x1.2.2.2.2.2.2] → va_S A s.heap H locs → lv_has ls 3 [(0, .ref q_t), (1, .int x1.1)] → W p l e (headSpec wsX1_followRings ({ frames := 3, cells := 0, slots := 0, locals := 65 })).room s m ([.ref q_t] : List Value).toArray below meth c H locs 0 0 Q (F0 m 12 ls [])) (fun x1 o_1 hE ih_1 hr_1 => ?_) _ _ hE _ _ ls hP hD hS (lv_sub hl [1, 0] rfl)
  obtain ⟨v1_1, w_t_ringEdges_1, w_t_rings_1, w_t_row_1, w_t_column_1, w_t_side_1, w_t_open_1⟩ := x1
  try dsimp only at hE
  intro H locs ls hP hD hS hl
  try dsimp only at hP hD hl ⊢
  refine lv_iload_n hx hb dX1_followRings_12 rfl (lv_at hl 1 rfl) ?_
  refine lv_aload_n hx hb dX1_followRings_13 rfl (lv_at hl 0 rfl) ?_
  refine va_get (D := G.1) (ci := 1) (v := .int t_size) (C := RX1) (T := TX1) (N := 11) hx hb hts iX1 hown hK hP 0 rfl rfl 4 (by decide) fl_30 (fun _ h9 => h9) rfl dX1_followRings_14 ?_
  refine lv_icmp_gt (tgt := 72) hx hb dX1_followRings_17 (by decide) (fun c_17 => ?_) (fun c_17 => ?_)
  · replace hE := (if_pos c_17).symm.trans hE
    have e_1 := Option.some.inj hE
    have e_0 := hr_1 _ e_1.symm
    subst e_0
    rw [hQ]
    exact W.vret hx hb hr (fun t ht _ => ⟨⟨(), rfl, trivial, by rw [ht]; exact hP, hD⟩, hS.F ht⟩) hS.2.2 dX1_followRings_72
  · replace hE := (if_neg c_17).symm.trans hE
    refine lv_iconst (v := 1) hx hb dX1_followRings_20 (by decide) ?_
    refine lv_istore_n (lv' := [(2, .int (1 : Int32)), (0, .ref q_t), (1, .int v1_1)]) hx hb dX1_followRings_21 rfl hl (by decide) rfl (fun ls hl => ?_)
    refine itr_ind (fun (x2 : Int32 × Int32 × Int32 × Int32 × Int32 × Int32 × (Nat → Int32)) => ∀ (H : Heap) (locs : List Loc) (ls : Array Slot), va_P G.1 vwCl [oX1 q_t q_t_partners q_t_lengths x2.2.1 x2.2.2.1 t_size t_ends q_t_open q_t_endAtRim x2.2.2.2.1 x2.2.2.2.2.1 x2.2.2.2.2.2.1, aI (G.2 1) q_t_open 49 x2.2.2.2.2.2.2] H → va_D A [oX1 q_t q_t_partners q_t_lengths x2.2.1 x2.2.2.1 t_size t_ends q_t_open q_t_endAtRim x2.2.2.2.1 x2.2.2.2.2.1 x2.2.2.2.2.2.1, aI (G.2 1) q_t_open 49 x2.2.2.2.2.2.2] → va_S A s.heap H locs → lv_has ls 3 [(0, .ref q_t), (1, .int v1_1), (2, .int x2.1)] → W p l e (headSpec wsX1_followRings ({ frames := 3, cells := 0, slots := 0, locals := 65 })).room s m ([.ref q_t] : List Value).toArray below meth c H locs 0 0 Q (F0 m 22 ls [])) (fun x2 o_2 hE ih_2 hr_2 => ?_) _ _ hE _ _ ls hP hD hS (lv_sub hl [1, 2, 0] rfl)
    obtain ⟨v2_2, w_t_ringEdges_2, w_t_rings_2, w_t_row_2, w_t_column_2, w_t_side_2, w_t_open_2⟩ := x2
    try dsimp only at hE
    intro H locs ls hP hD hS hl
    try dsimp only at hP hD hl ⊢
    refine lv_iload_n hx hb dX1_followRings_22 rfl (lv_at hl 2 rfl) ?_
    refine lv_aload_n hx hb dX1_followRings_23 rfl (lv_at hl 0 rfl) ?_
    refine va_get (D := G.1) (ci := 1) (v := .int t_size) (C := RX1) (T := TX1) (N := 11) hx hb hts iX1 hown hK hP 0 rfl rfl 4 (by decide) fl_30 (fun _ h9 => h9) rfl dX1_followRings_24 ?_
    refine lv_icmp_gt (tgt := 66) hx hb dX1_followRings_27 (by decide) (fun c_27 => ?_) (fun c_27 => ?_)
    · replace hE := (if_pos c_27).symm.trans hE
      refine lv_iinc (v := v1_1 + (1 : Int32)) (lv' := [(1, .int (v1_1 + (1 : Int32))), (0, .ref q_t), (2, .int v2_2)]) hx hb dX1_followRings_66 hl (k := 1) rfl rfl (by decide) rfl (fun ls hl => ?_)
      refine lv_goto (tgt := 12) hx hb dX1_followRings_69 (by decide) ?_
      have e_2 := Option.some.inj hE
      have e_1 := hr_2 _ e_2.symm
      exact ih_1 _ e_1.symm _ _ ls hP hD hS (lv_sub hl [1, 0] rfl)
    · replace hE := (if_neg c_27).symm.trans hE
      refine lv_aload_n hx hb dX1_followRings_30 rfl (lv_at hl 0 rfl) ?_
      refine va_get (D := G.1) (ci := 1) (v := .ref q_t_open) (C := RX1) (T := TX1) (N := 11) hx hb hts iX1 hown hK hP 0 rfl rfl 6 (by decide) fl_18 (fun _ h9 => h9) rfl dX1_followRings_31 ?_
      refine lv_iload_n hx hb dX1_followRings_34 rfl (lv_at hl 1 rfl) ?_
      refine lv_bipush (v := 7) hx hb dX1_followRings_35 (by decide) ?_
      refine lv_imul hx hb dX1_followRings_37 ?_
      refine lv_iload_n hx hb dX1_followRings_38 rfl (lv_at hl 2 rfl) ?_
      refine lv_iadd hx hb dX1_followRings_39 ?_
      obtain ⟨hi_40, hE⟩ := ck_some hE
      refine va_iald hx hb hK hP 1 1 rfl rfl (inb_in hi_40) dX1_followRings_40 ?_
      refine lv_if_eq (tgt := 60) hx hb dX1_followRings_41 (by decide) (fun c_41 => ?_) (fun c_41 => ?_)
      · replace hE := (if_pos c_41).symm.trans hE
        refine lv_iinc (v := v2_2 + (1 : Int32)) (lv' := [(2, .int (v2_2 + (1 : Int32))), (0, .ref q_t), (1, .int v1_1)]) hx hb dX1_followRings_60 hl (k := 2) rfl rfl (by decide) rfl (fun ls hl => ?_)
        refine lv_goto (tgt := 22) hx hb dX1_followRings_63 (by decide) ?_
        have e_2 := Option.some.inj hE
        exact ih_2 _ e_2.symm _ _ ls hP hD hS (lv_sub hl [1, 2, 0] rfl)
      · replace hE := (if_neg c_41).symm.trans hE
        refine lv_aload_n hx hb dX1_followRings_44 rfl (lv_at hl 0 rfl) ?_
        refine lv_dup hx hb dX1_followRings_45 rfl ?_
        refine va_get (D := G.1) (ci := 1) (v := .int w_t_rings_2) (C := RX1) (T := TX1) (N := 11) hx hb hts iX1 hown hK hP 0 rfl rfl 3 (by decide) fl_92 (fun _ h9 => h9) rfl dX1_followRings_46 ?_
        refine lv_iconst (v := 1) hx hb dX1_followRings_49 (by decide) ?_
        refine lv_iadd hx hb dX1_followRings_50 ?_
        refine va_put (D := G.1) (ci := 1) (v := .int (w_t_rings_2 + (1 : Int32))) (ty := .int) (C := RX1) (T := TX1) (N := 11) hx hb hts iX1 tyX1 tyX1_ok nmX1 hown hK hP hD hS 0 rfl rfl 3 (by decide) fl_92 (fun _ h9 => h9) rfl (by decide +kernel) rfl rfl (Nat.le_of_ble_eq_true rfl) dX1_followRings_51 (fun H locs hP hD hS => ?_)
        have hP : va_P G.1 vwCl [oX1 q_t q_t_partners q_t_lengths w_t_ringEdges_2 (w_t_rings_2 + (1 : Int32)) t_size t_ends q_t_open q_t_endAtRim w_t_row_2 w_t_column_2 w_t_side_2, aI (G.2 1) q_t_open 49 w_t_open_2] H := hP
        have hD : va_D A [oX1 q_t q_t_partners q_t_lengths w_t_ringEdges_2 (w_t_rings_2 + (1 : Int32)) t_size t_ends q_t_open q_t_endAtRim w_t_row_2 w_t_column_2 w_t_side_2, aI (G.2 1) q_t_open 49 w_t_open_2] := hD
        refine lv_aload_n hx hb dX1_followRings_54 rfl (lv_at hl 0 rfl) ?_
        refine lv_iload_n hx hb dX1_followRings_55 rfl (lv_at hl 1 rfl) ?_
        refine lv_iload_n hx hb dX1_followRings_56 rfl (lv_at hl 2 rfl) ?_
        obtain ⟨y57, hC_57, hE⟩ := Option.bind_eq_some_iff.mp hE
        obtain ⟨m_57_0, m_57_1, m_57_2, m_57_3, m_57_4⟩ := y57
        try dsimp only at hE
        have hPc := hP.sub (ws' := [oX1 q_t q_t_partners q_t_lengths w_t_ringEdges_2 (w_t_rings_2 + (1 : Int32)) t_size t_ends q_t_open q_t_endAtRim w_t_row_2 w_t_column_2 w_t_side_2, aI (G.2 1) q_t_open 49 w_t_open_2]) [0, 1] rfl
        have hDc := hD.sub (ws' := [oX1 q_t q_t_partners q_t_lengths w_t_ringEdges_2 (w_t_rings_2 + (1 : Int32)) t_size t_ends q_t_open q_t_endAtRim w_t_row_2 w_t_column_2 w_t_side_2, aI (G.2 1) q_t_open 49 w_t_open_2]) [0, 1] (by decide) rfl
        have hFc := va_free (wc := [oX1 q_t q_t_partners q_t_lengths w_t_ringEdges_2 (w_t_rings_2 + (1 : Int32)) t_size t_ends q_t_open q_t_endAtRim w_t_row_2 w_t_column_2 w_t_side_2, aI (G.2 1) q_t_open 49 w_t_open_2]) hD hS hA [0, 1] rfl
        refine va_callv (va_runV (As := [.int v1_1, .int v2_2]) (rest := []) ⟨hx, hb, hml, hown, hts⟩ (c_X1_followRing (l := l) (G := G) _ (p1 := v1_1) (p2 := v2_2) (q_t := q_t) (q_t_partners := q_t_partners) (q_t_lengths := q_t_lengths) (t_ringEdges := w_t_ringEdges_2) (t_rings := w_t_rings_2 + (1 : Int32)) (t_size := t_size) (t_ends := t_ends) (q_t_open := q_t_open) (q_t_endAtRim := q_t_endAtRim) (t_row := w_t_row_2) (t_column := w_t_column_2) (t_side := w_t_side_2) (t_open := w_t_open_2) hC_57) (cwV 2 hts gX1_followRings_X1_followRing rfl rfl rfl kd_X1_followRing ⟨Nat.le_of_ble_eq_true rfl, Nat.le_of_ble_eq_true rfl⟩) (iv_V hKW hPc hDc (ci := 1) (q0 := 0) rfl rfl) rfl rfl hl.1 rfl (lv_room (Nat.le_of_ble_eq_true rfl)) dX1_followRings_57 ⟨Nat.zero_le _, Nat.zero_le _⟩) hS (fun q _ h => hFc q h) hFc (fun u9 t9 H1 locs ht9 hvm9 hw9 hB9 hz9 hk9 hS => ?_)
        obtain ⟨hP1, hD1⟩ := hB9
        rw [ht9] at hP1
        obtain ⟨hP, hD⟩ := va_join (wr := []) (w1 := [oX1 q_t q_t_partners q_t_lengths m_57_0 (w_t_rings_2 + (1 : Int32)) t_size t_ends q_t_open q_t_endAtRim m_57_1 m_57_2 m_57_3, aI (G.2 1) q_t_open 49 m_57_4]) hP hD [0, 1] [] rfl rfl (by decide) (by decide) hk9 hFc hP1 hD1
        have hP := hP.sub (ws' := [oX1 q_t q_t_partners q_t_lengths m_57_0 (w_t_rings_2 + (1 : Int32)) t_size t_ends q_t_open q_t_endAtRim m_57_1 m_57_2 m_57_3, aI (G.2 1) q_t_open 49 m_57_4]) [0, 1] rfl
        have hD := hD.sub (ws' := [oX1 q_t q_t_partners q_t_lengths m_57_0 (w_t_rings_2 + (1 : Int32)) t_size t_ends q_t_open q_t_endAtRim m_57_1 m_57_2 m_57_3, aI (G.2 1) q_t_open 49 m_57_4]) [0, 1] (by decide) rfl
        clear hPc hDc hFc hP1 hD1 hk9 hz9 hvm9
        refine lv_iinc (v := v2_2 + (1 : Int32)) (lv' := [(2, .int (v2_2 + (1 : Int32))), (0, .ref q_t), (1, .int v1_1)]) hx hb dX1_followRings_60 hl (k := 2) rfl rfl (by decide) rfl (fun ls hl => ?_)
        refine lv_goto (tgt := 22) hx hb dX1_followRings_63 (by decide) ?_
        have e_2 := Option.some.inj hE
        exact ih_2 _ e_2.symm _ _ ls hP hD hS (lv_sub hl [1, 2, 0] rfl)
def S_X1_trace (t_row : Int32) (t_column : Int32) (t_side : Int32) (t_partners : Nat → Int32) (t_lengths : Nat → Int32) (t_open : Nat → Int32) (t_endAtRim : Nat → Int32) (p1_size : Int32) (p1_corners : Nat → Int32) : Option (Int32 × Int32 × Int32 × Int32 × Int32 × Int32 × Int32 × (Nat → Int32) × (Nat → Int32) × (Nat → Int32) × (Nat → Int32)) := (S_X1_openPlaces p1_size t_open p1_corners).bind (fun (y10 : Nat → Int32) => (S_X1_numberEnds p1_size t_row t_column t_side y10 t_endAtRim).bind (fun (y14 : Int32 × Int32 × Int32 × Int32 × (Nat → Int32)) => itr (fun (x1 : Int32 × Int32 × Int32 × Int32 × (Nat → Int32) × (Nat → Int32) × (Nat → Int32)) => if (4 : Int32) ≤ x1.1 then (S_X1_followRings p1_size x1.2.1 x1.2.2.1 x1.2.2.2.1 x1.2.2.2.2.2.2).bind (fun (y53 : Int32 × Int32 × Int32 × Int32 × Int32 × (Nat → Int32)) => some (.inr (y53.1, y53.2.1, p1_size, y14.1, y53.2.2.1, y53.2.2.2.1, y53.2.2.2.2.1, x1.2.2.2.2.1, x1.2.2.2.2.2.1, y53.2.2.2.2.2, y14.2.2.2.2))) else itr (fun (x2 : Int32 × Int32 × Int32 × Int32 × (Nat → Int32) × (Nat → Int32) × (Nat → Int32)) => if p1_size ≤ x2.1 then some (.inr (.inl (x1.1 + (1 : Int32), x2.2.1, x2.2.2.1, x2.2.2.2.1, x2.2.2.2.2.1, x2.2.2.2.2.2.1, x2.2.2.2.2.2.2))) else (S_X1_followLine x1.1 x2.1 p1_size x2.2.2.2.2.1 x2.2.2.2.2.2.1 x2.2.2.2.2.2.2 y14.2.2.2.2).bind (fun (y37 : Int32 × Int32 × Int32 × (Nat → Int32) × (Nat → Int32) × (Nat → Int32)) => some (.inl (x2.1 + (1 : Int32), y37.1, y37.2.1, y37.2.2.1, y37.2.2.2.1, y37.2.2.2.2.1, y37.2.2.2.2.2)))) 10000 ((0 : Int32), x1.2.1, x1.2.2.1, x1.2.2.2.1, x1.2.2.2.2.1, x1.2.2.2.2.2.1, x1.2.2.2.2.2.2)) 10000 ((0 : Int32), y14.2.1, y14.2.2.1, y14.2.2.2.1, t_partners, t_lengths, y10)))
theorem kd_X1_trace : yX1_trace.cls = RX1 ∧ yX1_trace.cls ≠ "java/lang/invoke/MethodHandle" ∧ yX1_trace.cls ≠ "java/lang/invoke/VarHandle" ∧ (parseMethodDescriptor yX1_trace.desc).map (fun d => d.parameters.length) = some 1 := by decide +kernel
set_option maxHeartbeats 4000000 in
set_option maxRecDepth 100000 in
theorem c_X1_trace {l : Launch} {G : kG} (sz : Nat) {q_t : Nat} {q_t_partners : Nat} {q_t_lengths : Nat} {t_ringEdges : Int32} {t_rings : Int32} {t_size : Int32} {t_ends : Int32} {q_t_open : Nat} {q_t_endAtRim : Nat} {t_row : Int32} {t_column : Int32} {t_side : Int32} {t_partners : Nat → Int32} {t_lengths : Nat → Int32} {t_open : Nat → Int32} {t_endAtRim : Nat → Int32} {q_p1 : Nat} {p1_size : Int32} {q_p1_corners : Nat} {p1_corners : Nat → Int32} {res : Int32 × Int32 × Int32 × Int32 × Int32 × Int32 × Int32 × (Nat → Int32) × (Nat → Int32) × (Nat → Int32) × (Nat → Int32)} (hE : S_X1_trace t_row t_column t_side t_partners t_lengths t_open t_endAtRim p1_size p1_corners = some res) : Met l yX1_trace wsX1_trace ({ frames := 4, cells := 0, slots := 0, locals := 90 }) (va_Pc [.ref q_t, .ref q_p1] (fun U => U.heap.size = sz ∧ va_P G.1 vwCl [oX1 q_t q_t_partners q_t_lengths t_ringEdges t_rings t_size t_ends q_t_open q_t_endAtRim t_row t_column t_side, aI (G.2 1) q_t_partners 12 t_partners, aI (G.2 1) q_t_lengths 12 t_lengths, aI (G.2 1) q_t_open 49 t_open, aI (G.2 1) q_t_endAtRim 24 t_endAtRim, oX3 q_p1 p1_size q_p1_corners, aI (G.2 1) q_p1_corners 49 p1_corners] U.heap ∧ kw G U ∧ va_D (fun _ => True) [oX1 q_t q_t_partners q_t_lengths t_ringEdges t_rings t_size t_ends q_t_open q_t_endAtRim t_row t_column t_side, aI (G.2 1) q_t_partners 12 t_partners, aI (G.2 1) q_t_lengths 12 t_lengths, aI (G.2 1) q_t_open 49 t_open, aI (G.2 1) q_t_endAtRim 24 t_endAtRim, oX3 q_p1 p1_size q_p1_corners, aI (G.2 1) q_p1_corners 49 p1_corners])) (va_Qv (fun (_ : Unit) => True) (fun _ t => va_P G.1 vwCl [oX1 q_t q_t_partners q_t_lengths res.1 res.2.1 res.2.2.1 res.2.2.2.1 q_t_open q_t_endAtRim res.2.2.2.2.1 res.2.2.2.2.2.1 res.2.2.2.2.2.2.1, aI (G.2 1) q_t_partners 12 res.2.2.2.2.2.2.2.1, aI (G.2 1) q_t_lengths 12 res.2.2.2.2.2.2.2.2.1, aI (G.2 1) q_t_open 49 res.2.2.2.2.2.2.2.2.2.1, aI (G.2 1) q_t_endAtRim 24 res.2.2.2.2.2.2.2.2.2.2, oX3 q_p1 p1_size q_p1_corners, aI (G.2 1) q_p1_corners 49 p1_corners] t.heap ∧ va_D (va_A [oX1 q_t q_t_partners q_t_lengths t_ringEdges t_rings t_size t_ends q_t_open q_t_endAtRim t_row t_column t_side, aI (G.2 1) q_t_partners 12 t_partners, aI (G.2 1) q_t_lengths 12 t_lengths, aI (G.2 1) q_t_open 49 t_open, aI (G.2 1) q_t_endAtRim 24 t_endAtRim, oX3 q_p1 p1_size q_p1_corners, aI (G.2 1) q_p1_corners 49 p1_corners] sz) [oX1 q_t q_t_partners q_t_lengths res.1 res.2.1 res.2.2.1 res.2.2.2.1 q_t_open q_t_endAtRim res.2.2.2.2.1 res.2.2.2.2.2.1 res.2.2.2.2.2.2.1, aI (G.2 1) q_t_partners 12 res.2.2.2.2.2.2.2.1, aI (G.2 1) q_t_lengths 12 res.2.2.2.2.2.2.2.2.1, aI (G.2 1) q_t_open 49 res.2.2.2.2.2.2.2.2.2.1, aI (G.2 1) q_t_endAtRim 24 res.2.2.2.2.2.2.2.2.2.2, oX3 q_p1 p1_size q_p1_corners, aI (G.2 1) q_p1_corners 49 p1_corners]) (va_A [oX1 q_t q_t_partners q_t_lengths t_ringEdges t_rings t_size t_ends q_t_open q_t_endAtRim t_row t_column t_side, aI (G.2 1) q_t_partners 12 t_partners, aI (G.2 1) q_t_lengths 12 t_lengths, aI (G.2 1) q_t_open 49 t_open, aI (G.2 1) q_t_endAtRim 24 t_endAtRim, oX3 q_p1 p1_size q_p1_corners, aI (G.2 1) q_p1_corners 49 p1_corners] sz)) 0 0 (va_A [oX1 q_t q_t_partners q_t_lengths t_ringEdges t_rings t_size t_ends q_t_open q_t_endAtRim t_row t_column t_side, aI (G.2 1) q_t_partners 12 t_partners, aI (G.2 1) q_t_lengths 12 t_lengths, aI (G.2 1) q_t_open 49 t_open, aI (G.2 1) q_t_endAtRim 24 t_endAtRim, oX3 q_p1 p1_size q_p1_corners, aI (G.2 1) q_p1_corners 49 p1_corners] sz) := by
  refine Met.ofQ (cc := cX1_trace) (maxL := 4) (ret := none) (by decide) rfl ?_
  intro p e s m args below meth c s₁ Q hQ B hml hv
  obtain ⟨rfl, hsz, hP, hKW, hD0⟩ := hv
  have hK := hKW.1
  have hx := B.exec
  have hb := B.bytes
  have hr := B.returns
  have hts := atoms_spec (ws := wsX1_trace) B.pre
  have hown : s.vm.findClass RX1 = some m.cls := findClass_of_methodNamed B.named
  have hlocks := B.notSynchronized
  have iX1 : ∀ w ∈ u_ws RX1 TX1 11, w ∈ wsX1_trace := by decide +kernel
  have iX3 : ∀ w ∈ u_ws RX3 TX3 2, w ∈ wsX1_trace := by decide +kernel
  have fl_24 := hts (.fieldLink RX1 24 "AlternateSigns$Table" "size" "I") (by decide +kernel)
  have fl_30 := hts (.fieldLink RX1 30 "AlternateSigns$Lines" "size" "I") (by decide +kernel)
  subst hsz
  have hD := hD0.self (sz := s.heap.size)
  generalize hAe : va_A [oX1 q_t q_t_partners q_t_lengths t_ringEdges t_rings t_size t_ends q_t_open q_t_endAtRim t_row t_column t_side, aI (G.2 1) q_t_partners 12 t_partners, aI (G.2 1) q_t_lengths 12 t_lengths, aI (G.2 1) q_t_open 49 t_open, aI (G.2 1) q_t_endAtRim 24 t_endAtRim, oX3 q_p1 p1_size q_p1_corners, aI (G.2 1) q_p1_corners 49 p1_corners] s.heap.size = A at hD hQ
  have hA : ∀ q : Nat, s.heap.size ≤ q → A q := fun q h => by rw [← hAe]; exact Or.inr h
  have hS : va_S A s.heap s.heap [] := va_S.rf
  have hl := lv_entry ([.ref q_t, .ref q_p1]) (n := 4) (Nat.le_of_ble_eq_true rfl)
  rw [lg_entry_eq]
  generalize (lg_sl ([.ref q_t, .ref q_p1]) ++ List.replicate (4 - (lg_sl ([.ref q_t, .ref q_p1])).length) Slot.unset).toArray = ls at hl ⊢
  have hl : lv_has ls 4 [(0, .ref q_t), (1, .ref q_p1)] := hl
  unfold S_X1_trace at hE
  refine lv_aload_n hx hb dX1_trace_0 rfl (lv_at hl 0 rfl) ?_
  refine lv_aload_n hx hb dX1_trace_1 rfl (lv_at hl 1 rfl) ?_
  refine va_get (D := G.1) (ci := 3) (v := .int p1_size) (C := RX3) (T := TX3) (N := 2) hx hb hts iX3 hown hK hP 5 rfl rfl 0 (by decide) fl_24 (fun _ h9 => h9) rfl dX1_trace_2 ?_
  refine va_put (D := G.1) (ci := 1) (v := .int p1_size) (ty := .int) (C := RX1) (T := TX1) (N := 11) hx hb hts iX1 tyX1 tyX1_ok nmX1 hown hK hP hD hS 0 rfl rfl 4 (by decide) fl_30 (fun _ h9 => h9) rfl (by decide +kernel) rfl rfl (Nat.le_of_ble_eq_true rfl) dX1_trace_5 (fun H locs hP hD hS => ?_)
  have hP : va_P G.1 vwCl [oX1 q_t q_t_partners q_t_lengths t_ringEdges t_rings p1_size t_ends q_t_open q_t_endAtRim t_row t_column t_side, aI (G.2 1) q_t_partners 12 t_partners, aI (G.2 1) q_t_lengths 12 t_lengths, aI (G.2 1) q_t_open 49 t_open, aI (G.2 1) q_t_endAtRim 24 t_endAtRim, oX3 q_p1 p1_size q_p1_corners, aI (G.2 1) q_p1_corners 49 p1_corners] H := hP
  have hD : va_D A [oX1 q_t q_t_partners q_t_lengths t_ringEdges t_rings p1_size t_ends q_t_open q_t_endAtRim t_row t_column t_side, aI (G.2 1) q_t_partners 12 t_partners, aI (G.2 1) q_t_lengths 12 t_lengths, aI (G.2 1) q_t_open 49 t_open, aI (G.2 1) q_t_endAtRim 24 t_endAtRim, oX3 q_p1 p1_size q_p1_corners, aI (G.2 1) q_p1_corners 49 p1_corners] := hD
  refine lv_aload_n hx hb dX1_trace_8 rfl (lv_at hl 0 rfl) ?_
  refine lv_aload_n hx hb dX1_trace_9 rfl (lv_at hl 1 rfl) ?_
  obtain ⟨y10, hC_10, hE⟩ := Option.bind_eq_some_iff.mp hE
  obtain ⟨m_10_0, ex9⟩ : ∃ z, z = y10 := ⟨_, rfl⟩
  subst ex9
  try dsimp only at hE
  have hPc := hP.sub (ws' := [oX1 q_t q_t_partners q_t_lengths t_ringEdges t_rings p1_size t_ends q_t_open q_t_endAtRim t_row t_column t_side, aI (G.2 1) q_t_open 49 t_open, oX3 q_p1 p1_size q_p1_corners, aI (G.2 1) q_p1_corners 49 p1_corners]) [0, 3, 5, 6] rfl
  have hDc := hD.sub (ws' := [oX1 q_t q_t_partners q_t_lengths t_ringEdges t_rings p1_size t_ends q_t_open q_t_endAtRim t_row t_column t_side, aI (G.2 1) q_t_open 49 t_open, oX3 q_p1 p1_size q_p1_corners, aI (G.2 1) q_p1_corners 49 p1_corners]) [0, 3, 5, 6] (by decide) rfl
  have hFc := va_free (wc := [oX1 q_t q_t_partners q_t_lengths t_ringEdges t_rings p1_size t_ends q_t_open q_t_endAtRim t_row t_column t_side, aI (G.2 1) q_t_open 49 t_open, oX3 q_p1 p1_size q_p1_corners, aI (G.2 1) q_p1_corners 49 p1_corners]) hD hS hA [0, 3, 5, 6] rfl
  refine va_callv (va_runV (As := [.ref q_p1]) (rest := []) ⟨hx, hb, hml, hown, hts⟩ (c_X1_openPlaces (l := l) (G := G) _ (q_t := q_t) (q_t_partners := q_t_partners) (q_t_lengths := q_t_lengths) (t_ringEdges := t_ringEdges) (t_rings := t_rings) (t_size := p1_size) (t_ends := t_ends) (q_t_open := q_t_open) (q_t_endAtRim := q_t_endAtRim) (t_row := t_row) (t_column := t_column) (t_side := t_side) (t_open := t_open) (q_p1 := q_p1) (p1_size := p1_size) (q_p1_corners := q_p1_corners) (p1_corners := p1_corners) hC_10) (cwV 1 hts gX1_trace_X1_openPlaces rfl rfl rfl kd_X1_openPlaces ⟨Nat.le_of_ble_eq_true rfl, Nat.le_of_ble_eq_true rfl⟩) (iv_V hKW hPc hDc (ci := 1) (q0 := 0) rfl rfl) rfl rfl hl.1 rfl (lv_room (Nat.le_of_ble_eq_true rfl)) dX1_trace_10 ⟨Nat.zero_le _, Nat.zero_le _⟩) hS (fun q _ h => hFc q h) hFc (fun u9 t9 H1 locs ht9 hvm9 hw9 hB9 hz9 hk9 hS => ?_)
  obtain ⟨hP1, hD1⟩ := hB9
  rw [ht9] at hP1
  obtain ⟨hP, hD⟩ := va_join (wr := [aI (G.2 1) q_t_partners 12 t_partners, aI (G.2 1) q_t_lengths 12 t_lengths, aI (G.2 1) q_t_endAtRim 24 t_endAtRim]) (w1 := [oX1 q_t q_t_partners q_t_lengths t_ringEdges t_rings p1_size t_ends q_t_open q_t_endAtRim t_row t_column t_side, aI (G.2 1) q_t_open 49 m_10_0, oX3 q_p1 p1_size q_p1_corners, aI (G.2 1) q_p1_corners 49 p1_corners]) hP hD [0, 3, 5, 6] [1, 2, 4] rfl rfl (by decide) (by decide) hk9 hFc hP1 hD1
  have hP := hP.sub (ws' := [oX1 q_t q_t_partners q_t_lengths t_ringEdges t_rings p1_size t_ends q_t_open q_t_endAtRim t_row t_column t_side, aI (G.2 1) q_t_partners 12 t_partners, aI (G.2 1) q_t_lengths 12 t_lengths, aI (G.2 1) q_t_open 49 m_10_0, aI (G.2 1) q_t_endAtRim 24 t_endAtRim, oX3 q_p1 p1_size q_p1_corners, aI (G.2 1) q_p1_corners 49 p1_corners]) [3, 0, 1, 4, 2, 5, 6] rfl
  have hD := hD.sub (ws' := [oX1 q_t q_t_partners q_t_lengths t_ringEdges t_rings p1_size t_ends q_t_open q_t_endAtRim t_row t_column t_side, aI (G.2 1) q_t_partners 12 t_partners, aI (G.2 1) q_t_lengths 12 t_lengths, aI (G.2 1) q_t_open 49 m_10_0, aI (G.2 1) q_t_endAtRim 24 t_endAtRim, oX3 q_p1 p1_size q_p1_corners, aI (G.2 1) q_p1_corners 49 p1_corners]) [3, 0, 1, 4, 2, 5, 6] (by decide) rfl
  clear hPc hDc hFc hP1 hD1 hk9 hz9 hvm9
  refine lv_aload_n hx hb dX1_trace_13 rfl (lv_at hl 0 rfl) ?_
  obtain ⟨y14, hC_14, hE⟩ := Option.bind_eq_some_iff.mp hE
  obtain ⟨m_14_0, m_14_1, m_14_2, m_14_3, m_14_4⟩ := y14
  try dsimp only at hE
  have hPc := hP.sub (ws' := [oX1 q_t q_t_partners q_t_lengths t_ringEdges t_rings p1_size t_ends q_t_open q_t_endAtRim t_row t_column t_side, aI (G.2 1) q_t_open 49 m_10_0, aI (G.2 1) q_t_endAtRim 24 t_endAtRim]) [0, 3, 4] rfl
  have hDc := hD.sub (ws' := [oX1 q_t q_t_partners q_t_lengths t_ringEdges t_rings p1_size t_ends q_t_open q_t_endAtRim t_row t_column t_side, aI (G.2 1) q_t_open 49 m_10_0, aI (G.2 1) q_t_endAtRim 24 t_endAtRim]) [0, 3, 4] (by decide) rfl
  have hFc := va_free (wc := [oX1 q_t q_t_partners q_t_lengths t_ringEdges t_rings p1_size t_ends q_t_open q_t_endAtRim t_row t_column t_side, aI (G.2 1) q_t_open 49 m_10_0, aI (G.2 1) q_t_endAtRim 24 t_endAtRim]) hD hS hA [0, 3, 4] rfl
  refine va_callv (va_runV (As := []) (rest := []) ⟨hx, hb, hml, hown, hts⟩ (c_X1_numberEnds (l := l) (G := G) _ (q_t := q_t) (q_t_partners := q_t_partners) (q_t_lengths := q_t_lengths) (t_ringEdges := t_ringEdges) (t_rings := t_rings) (t_size := p1_size) (t_ends := t_ends) (q_t_open := q_t_open) (q_t_endAtRim := q_t_endAtRim) (t_row := t_row) (t_column := t_column) (t_side := t_side) (t_open := m_10_0) (t_endAtRim := t_endAtRim) hC_14) (cwV 0 hts gX1_trace_X1_numberEnds rfl rfl rfl kd_X1_numberEnds ⟨Nat.le_of_ble_eq_true rfl, Nat.le_of_ble_eq_true rfl⟩) (iv_V hKW hPc hDc (ci := 1) (q0 := 0) rfl rfl) rfl rfl hl.1 rfl (lv_room (Nat.le_of_ble_eq_true rfl)) dX1_trace_14 ⟨Nat.zero_le _, Nat.zero_le _⟩) hS (fun q _ h => hFc q h) hFc (fun u9 t9 H1 locs ht9 hvm9 hw9 hB9 hz9 hk9 hS => ?_)
  obtain ⟨hP1, hD1⟩ := hB9
  rw [ht9] at hP1
  obtain ⟨hP, hD⟩ := va_join (wr := [aI (G.2 1) q_t_partners 12 t_partners, aI (G.2 1) q_t_lengths 12 t_lengths, oX3 q_p1 p1_size q_p1_corners, aI (G.2 1) q_p1_corners 49 p1_corners]) (w1 := [oX1 q_t q_t_partners q_t_lengths t_ringEdges t_rings p1_size m_14_0 q_t_open q_t_endAtRim m_14_1 m_14_2 m_14_3, aI (G.2 1) q_t_open 49 m_10_0, aI (G.2 1) q_t_endAtRim 24 m_14_4]) hP hD [0, 3, 4] [1, 2, 5, 6] rfl rfl (by decide) (by decide) hk9 hFc hP1 hD1
  have hP := hP.sub (ws' := [oX1 q_t q_t_partners q_t_lengths t_ringEdges t_rings p1_size m_14_0 q_t_open q_t_endAtRim m_14_1 m_14_2 m_14_3, aI (G.2 1) q_t_partners 12 t_partners, aI (G.2 1) q_t_lengths 12 t_lengths, aI (G.2 1) q_t_open 49 m_10_0, aI (G.2 1) q_t_endAtRim 24 m_14_4, oX3 q_p1 p1_size q_p1_corners, aI (G.2 1) q_p1_corners 49 p1_corners]) [4, 0, 1, 5, 6, 2, 3] rfl
  have hD := hD.sub (ws' := [oX1 q_t q_t_partners q_t_lengths t_ringEdges t_rings p1_size m_14_0 q_t_open q_t_endAtRim m_14_1 m_14_2 m_14_3, aI (G.2 1) q_t_partners 12 t_partners, aI (G.2 1) q_t_lengths 12 t_lengths, aI (G.2 1) q_t_open 49 m_10_0, aI (G.2 1) q_t_endAtRim 24 m_14_4, oX3 q_p1 p1_size q_p1_corners, aI (G.2 1) q_p1_corners 49 p1_corners]) [4, 0, 1, 5, 6, 2, 3] (by decide) rfl
  clear hPc hDc hFc hP1 hD1 hk9 hz9 hvm9
  refine lv_iconst (v := 0) hx hb dX1_trace_17 (by decide) ?_
  refine lv_istore_n (lv' := [(2, .int (0 : Int32)), (0, .ref q_t), (1, .ref q_p1)]) hx hb dX1_trace_18 rfl hl (by decide) rfl (fun ls hl => ?_)
  refine itr_ind (fun (x1 : Int32 × Int32 × Int32 × Int32 × (Nat → Int32) × (Nat → Int32) × (Nat → Int32)) => ∀ (H : Heap) (locs : List Loc) (ls : Array Slot), va_P G.1 vwCl [oX1 q_t q_t_partners q_t_lengths t_ringEdges t_rings p1_size m_14_0 q_t_open q_t_endAtRim x1.2.1 x1.2.2.1 x1.2.2.2.1, aI (G.2 1) q_t_partners 12 x1.2.2.2.2.1, aI (G.2 1) q_t_lengths 12 x1.2.2.2.2.2.1, aI (G.2 1) q_t_open 49 x1.2.2.2.2.2.2, aI (G.2 1) q_t_endAtRim 24 m_14_4, oX3 q_p1 p1_size q_p1_corners, aI (G.2 1) q_p1_corners 49 p1_corners] H → va_D A [oX1 q_t q_t_partners q_t_lengths t_ringEdges t_rings p1_size m_14_0 q_t_open q_t_endAtRim x1.2.1 x1.2.2.1 x1.2.2.2.1, aI (G.2 1) q_t_partners 12 x1.2.2.2.2.1, aI (G.2 1) q_t_lengths 12 x1.2.2.2.2.2.1, aI (G.2 1) q_t_open 49 x1.2.2.2.2.2.2, aI (G.2 1) q_t_endAtRim 24 m_14_4, oX3 q_p1 p1_size q_p1_corners, aI (G.2 1) q_p1_corners 49 p1_corners] → va_S A s.heap H locs → lv_has ls 4 [(0, .ref q_t), (2, .int x1.1)] → W p l e (headSpec wsX1_trace ({ frames := 4, cells := 0, slots := 0, locals := 90 })).room s m ([.ref q_t, .ref q_p1] : List Value).toArray below meth c H locs 0 0 Q (F0 m 19 ls [])) (fun x1 o_1 hE ih_1 hr_1 => ?_) _ _ hE _ _ ls hP hD hS (lv_sub hl [1, 0] rfl)
  obtain ⟨v2_1, w_t_row_1, w_t_column_1, w_t_side_1, w_t_partners_1, w_t_lengths_1, w_t_open_1⟩ := x1
  try dsimp only at hE
  intro H locs ls hP hD hS hl
  try dsimp only at hP hD hl ⊢
  refine lv_iload_n hx hb dX1_trace_19 rfl (lv_at hl 1 rfl) ?_
  refine lv_iconst (v := 4) hx hb dX1_trace_20 (by decide) ?_
  refine lv_icmp_ge (tgt := 52) hx hb dX1_trace_21 (by decide) (fun c_21 => ?_) (fun c_21 => ?_)
  · replace hE := (if_pos c_21).symm.trans hE
    refine lv_aload_n hx hb dX1_trace_52 rfl (lv_at hl 0 rfl) ?_
    obtain ⟨y53, hC_53, hE⟩ := Option.bind_eq_some_iff.mp hE
    obtain ⟨m_53_0, m_53_1, m_53_2, m_53_3, m_53_4, m_53_5⟩ := y53
    try dsimp only at hE
    have hPc := hP.sub (ws' := [oX1 q_t q_t_partners q_t_lengths t_ringEdges t_rings p1_size m_14_0 q_t_open q_t_endAtRim w_t_row_1 w_t_column_1 w_t_side_1, aI (G.2 1) q_t_open 49 w_t_open_1]) [0, 3] rfl
    have hDc := hD.sub (ws' := [oX1 q_t q_t_partners q_t_lengths t_ringEdges t_rings p1_size m_14_0 q_t_open q_t_endAtRim w_t_row_1 w_t_column_1 w_t_side_1, aI (G.2 1) q_t_open 49 w_t_open_1]) [0, 3] (by decide) rfl
    have hFc := va_free (wc := [oX1 q_t q_t_partners q_t_lengths t_ringEdges t_rings p1_size m_14_0 q_t_open q_t_endAtRim w_t_row_1 w_t_column_1 w_t_side_1, aI (G.2 1) q_t_open 49 w_t_open_1]) hD hS hA [0, 3] rfl
    refine va_callv (va_runV (As := []) (rest := []) ⟨hx, hb, hml, hown, hts⟩ (c_X1_followRings (l := l) (G := G) _ (q_t := q_t) (q_t_partners := q_t_partners) (q_t_lengths := q_t_lengths) (t_ringEdges := t_ringEdges) (t_rings := t_rings) (t_size := p1_size) (t_ends := m_14_0) (q_t_open := q_t_open) (q_t_endAtRim := q_t_endAtRim) (t_row := w_t_row_1) (t_column := w_t_column_1) (t_side := w_t_side_1) (t_open := w_t_open_1) hC_53) (cwV 0 hts gX1_trace_X1_followRings rfl rfl rfl kd_X1_followRings ⟨Nat.le_of_ble_eq_true rfl, Nat.le_of_ble_eq_true rfl⟩) (iv_V hKW hPc hDc (ci := 1) (q0 := 0) rfl rfl) rfl rfl hl.1 rfl (lv_room (Nat.le_of_ble_eq_true rfl)) dX1_trace_53 ⟨Nat.zero_le _, Nat.zero_le _⟩) hS (fun q _ h => hFc q h) hFc (fun u9 t9 H1 locs ht9 hvm9 hw9 hB9 hz9 hk9 hS => ?_)
    obtain ⟨hP1, hD1⟩ := hB9
    rw [ht9] at hP1
    obtain ⟨hP, hD⟩ := va_join (wr := [aI (G.2 1) q_t_partners 12 w_t_partners_1, aI (G.2 1) q_t_lengths 12 w_t_lengths_1, aI (G.2 1) q_t_endAtRim 24 m_14_4, oX3 q_p1 p1_size q_p1_corners, aI (G.2 1) q_p1_corners 49 p1_corners]) (w1 := [oX1 q_t q_t_partners q_t_lengths m_53_0 m_53_1 p1_size m_14_0 q_t_open q_t_endAtRim m_53_2 m_53_3 m_53_4, aI (G.2 1) q_t_open 49 m_53_5]) hP hD [0, 3] [1, 2, 4, 5, 6] rfl rfl (by decide) (by decide) hk9 hFc hP1 hD1
    have hP := hP.sub (ws' := [oX1 q_t q_t_partners q_t_lengths m_53_0 m_53_1 p1_size m_14_0 q_t_open q_t_endAtRim m_53_2 m_53_3 m_53_4, aI (G.2 1) q_t_partners 12 w_t_partners_1, aI (G.2 1) q_t_lengths 12 w_t_lengths_1, aI (G.2 1) q_t_open 49 m_53_5, aI (G.2 1) q_t_endAtRim 24 m_14_4, oX3 q_p1 p1_size q_p1_corners, aI (G.2 1) q_p1_corners 49 p1_corners]) [5, 0, 1, 6, 2, 3, 4] rfl
    have hD := hD.sub (ws' := [oX1 q_t q_t_partners q_t_lengths m_53_0 m_53_1 p1_size m_14_0 q_t_open q_t_endAtRim m_53_2 m_53_3 m_53_4, aI (G.2 1) q_t_partners 12 w_t_partners_1, aI (G.2 1) q_t_lengths 12 w_t_lengths_1, aI (G.2 1) q_t_open 49 m_53_5, aI (G.2 1) q_t_endAtRim 24 m_14_4, oX3 q_p1 p1_size q_p1_corners, aI (G.2 1) q_p1_corners 49 p1_corners]) [5, 0, 1, 6, 2, 3, 4] (by decide) rfl
    clear hPc hDc hFc hP1 hD1 hk9 hz9 hvm9
    have e_1 := Option.some.inj hE
    have e_0 := hr_1 _ e_1.symm
    subst e_0
    rw [hQ]
    exact W.vret hx hb hr (fun t ht _ => ⟨⟨(), rfl, trivial, by rw [ht]; exact hP, hD⟩, hS.F ht⟩) hS.2.2 dX1_trace_56
  · replace hE := (if_neg c_21).symm.trans hE
    refine lv_iconst (v := 0) hx hb dX1_trace_24 (by decide) ?_
    refine lv_istore_n (lv' := [(3, .int (0 : Int32)), (0, .ref q_t), (2, .int v2_1)]) hx hb dX1_trace_25 rfl hl (by decide) rfl (fun ls hl => ?_)
    refine itr_ind (fun (x2 : Int32 × Int32 × Int32 × Int32 × (Nat → Int32) × (Nat → Int32) × (Nat → Int32)) => ∀ (H : Heap) (locs : List Loc) (ls : Array Slot), va_P G.1 vwCl [oX1 q_t q_t_partners q_t_lengths t_ringEdges t_rings p1_size m_14_0 q_t_open q_t_endAtRim x2.2.1 x2.2.2.1 x2.2.2.2.1, aI (G.2 1) q_t_partners 12 x2.2.2.2.2.1, aI (G.2 1) q_t_lengths 12 x2.2.2.2.2.2.1, aI (G.2 1) q_t_open 49 x2.2.2.2.2.2.2, aI (G.2 1) q_t_endAtRim 24 m_14_4, oX3 q_p1 p1_size q_p1_corners, aI (G.2 1) q_p1_corners 49 p1_corners] H → va_D A [oX1 q_t q_t_partners q_t_lengths t_ringEdges t_rings p1_size m_14_0 q_t_open q_t_endAtRim x2.2.1 x2.2.2.1 x2.2.2.2.1, aI (G.2 1) q_t_partners 12 x2.2.2.2.2.1, aI (G.2 1) q_t_lengths 12 x2.2.2.2.2.2.1, aI (G.2 1) q_t_open 49 x2.2.2.2.2.2.2, aI (G.2 1) q_t_endAtRim 24 m_14_4, oX3 q_p1 p1_size q_p1_corners, aI (G.2 1) q_p1_corners 49 p1_corners] → va_S A s.heap H locs → lv_has ls 4 [(0, .ref q_t), (2, .int v2_1), (3, .int x2.1)] → W p l e (headSpec wsX1_trace ({ frames := 4, cells := 0, slots := 0, locals := 90 })).room s m ([.ref q_t, .ref q_p1] : List Value).toArray below meth c H locs 0 0 Q (F0 m 26 ls [])) (fun x2 o_2 hE ih_2 hr_2 => ?_) _ _ hE _ _ ls hP hD hS (lv_sub hl [1, 2, 0] rfl)
    obtain ⟨v3_2, w_t_row_2, w_t_column_2, w_t_side_2, w_t_partners_2, w_t_lengths_2, w_t_open_2⟩ := x2
    try dsimp only at hE
    intro H locs ls hP hD hS hl
    try dsimp only at hP hD hl ⊢
    refine lv_iload_n hx hb dX1_trace_26 rfl (lv_at hl 2 rfl) ?_
    refine lv_aload_n hx hb dX1_trace_27 rfl (lv_at hl 0 rfl) ?_
    refine va_get (D := G.1) (ci := 1) (v := .int p1_size) (C := RX1) (T := TX1) (N := 11) hx hb hts iX1 hown hK hP 0 rfl rfl 4 (by decide) fl_30 (fun _ h9 => h9) rfl dX1_trace_28 ?_
    refine lv_icmp_ge (tgt := 46) hx hb dX1_trace_31 (by decide) (fun c_31 => ?_) (fun c_31 => ?_)
    · replace hE := (if_pos c_31).symm.trans hE
      refine lv_iinc (v := v2_1 + (1 : Int32)) (lv' := [(2, .int (v2_1 + (1 : Int32))), (0, .ref q_t), (3, .int v3_2)]) hx hb dX1_trace_46 hl (k := 1) rfl rfl (by decide) rfl (fun ls hl => ?_)
      refine lv_goto (tgt := 19) hx hb dX1_trace_49 (by decide) ?_
      have e_2 := Option.some.inj hE
      have e_1 := hr_2 _ e_2.symm
      exact ih_1 _ e_1.symm _ _ ls hP hD hS (lv_sub hl [1, 0] rfl)
    · replace hE := (if_neg c_31).symm.trans hE
      refine lv_aload_n hx hb dX1_trace_34 rfl (lv_at hl 0 rfl) ?_
      refine lv_iload_n hx hb dX1_trace_35 rfl (lv_at hl 1 rfl) ?_
      refine lv_iload_n hx hb dX1_trace_36 rfl (lv_at hl 2 rfl) ?_
      obtain ⟨y37, hC_37, hE⟩ := Option.bind_eq_some_iff.mp hE
      obtain ⟨m_37_0, m_37_1, m_37_2, m_37_3, m_37_4, m_37_5⟩ := y37
      try dsimp only at hE
      have hPc := hP.sub (ws' := [oX1 q_t q_t_partners q_t_lengths t_ringEdges t_rings p1_size m_14_0 q_t_open q_t_endAtRim w_t_row_2 w_t_column_2 w_t_side_2, aI (G.2 1) q_t_partners 12 w_t_partners_2, aI (G.2 1) q_t_lengths 12 w_t_lengths_2, aI (G.2 1) q_t_open 49 w_t_open_2, aI (G.2 1) q_t_endAtRim 24 m_14_4]) [0, 1, 2, 3, 4] rfl
      have hDc := hD.sub (ws' := [oX1 q_t q_t_partners q_t_lengths t_ringEdges t_rings p1_size m_14_0 q_t_open q_t_endAtRim w_t_row_2 w_t_column_2 w_t_side_2, aI (G.2 1) q_t_partners 12 w_t_partners_2, aI (G.2 1) q_t_lengths 12 w_t_lengths_2, aI (G.2 1) q_t_open 49 w_t_open_2, aI (G.2 1) q_t_endAtRim 24 m_14_4]) [0, 1, 2, 3, 4] (by decide) rfl
      have hFc := va_free (wc := [oX1 q_t q_t_partners q_t_lengths t_ringEdges t_rings p1_size m_14_0 q_t_open q_t_endAtRim w_t_row_2 w_t_column_2 w_t_side_2, aI (G.2 1) q_t_partners 12 w_t_partners_2, aI (G.2 1) q_t_lengths 12 w_t_lengths_2, aI (G.2 1) q_t_open 49 w_t_open_2, aI (G.2 1) q_t_endAtRim 24 m_14_4]) hD hS hA [0, 1, 2, 3, 4] rfl
      refine va_callv (va_runV (As := [.int v2_1, .int v3_2]) (rest := []) ⟨hx, hb, hml, hown, hts⟩ (c_X1_followLine (l := l) (G := G) _ (p1 := v2_1) (p2 := v3_2) (q_t := q_t) (q_t_partners := q_t_partners) (q_t_lengths := q_t_lengths) (t_ringEdges := t_ringEdges) (t_rings := t_rings) (t_size := p1_size) (t_ends := m_14_0) (q_t_open := q_t_open) (q_t_endAtRim := q_t_endAtRim) (t_row := w_t_row_2) (t_column := w_t_column_2) (t_side := w_t_side_2) (t_partners := w_t_partners_2) (t_lengths := w_t_lengths_2) (t_open := w_t_open_2) (t_endAtRim := m_14_4) hC_37) (cwV 2 hts gX1_trace_X1_followLine rfl rfl rfl kd_X1_followLine ⟨Nat.le_of_ble_eq_true rfl, Nat.le_of_ble_eq_true rfl⟩) (iv_V hKW hPc hDc (ci := 1) (q0 := 0) rfl rfl) rfl rfl hl.1 rfl (lv_room (Nat.le_of_ble_eq_true rfl)) dX1_trace_37 ⟨Nat.zero_le _, Nat.zero_le _⟩) hS (fun q _ h => hFc q h) hFc (fun u9 t9 H1 locs ht9 hvm9 hw9 hB9 hz9 hk9 hS => ?_)
      obtain ⟨hP1, hD1⟩ := hB9
      rw [ht9] at hP1
      obtain ⟨hP, hD⟩ := va_join (wr := [oX3 q_p1 p1_size q_p1_corners, aI (G.2 1) q_p1_corners 49 p1_corners]) (w1 := [oX1 q_t q_t_partners q_t_lengths t_ringEdges t_rings p1_size m_14_0 q_t_open q_t_endAtRim m_37_0 m_37_1 m_37_2, aI (G.2 1) q_t_partners 12 m_37_3, aI (G.2 1) q_t_lengths 12 m_37_4, aI (G.2 1) q_t_open 49 m_37_5, aI (G.2 1) q_t_endAtRim 24 m_14_4]) hP hD [0, 1, 2, 3, 4] [5, 6] rfl rfl (by decide) (by decide) hk9 hFc hP1 hD1
      have hP := hP.sub (ws' := [oX1 q_t q_t_partners q_t_lengths t_ringEdges t_rings p1_size m_14_0 q_t_open q_t_endAtRim m_37_0 m_37_1 m_37_2, aI (G.2 1) q_t_partners 12 m_37_3, aI (G.2 1) q_t_lengths 12 m_37_4, aI (G.2 1) q_t_open 49 m_37_5, aI (G.2 1) q_t_endAtRim 24 m_14_4, oX3 q_p1 p1_size q_p1_corners, aI (G.2 1) q_p1_corners 49 p1_corners]) [2, 3, 4, 5, 6, 0, 1] rfl
      have hD := hD.sub (ws' := [oX1 q_t q_t_partners q_t_lengths t_ringEdges t_rings p1_size m_14_0 q_t_open q_t_endAtRim m_37_0 m_37_1 m_37_2, aI (G.2 1) q_t_partners 12 m_37_3, aI (G.2 1) q_t_lengths 12 m_37_4, aI (G.2 1) q_t_open 49 m_37_5, aI (G.2 1) q_t_endAtRim 24 m_14_4, oX3 q_p1 p1_size q_p1_corners, aI (G.2 1) q_p1_corners 49 p1_corners]) [2, 3, 4, 5, 6, 0, 1] (by decide) rfl
      clear hPc hDc hFc hP1 hD1 hk9 hz9 hvm9
      refine lv_iinc (v := v3_2 + (1 : Int32)) (lv' := [(3, .int (v3_2 + (1 : Int32))), (0, .ref q_t), (2, .int v2_1)]) hx hb dX1_trace_40 hl (k := 2) rfl rfl (by decide) rfl (fun ls hl => ?_)
      refine lv_goto (tgt := 26) hx hb dX1_trace_43 (by decide) ?_
      have e_2 := Option.some.inj hE
      exact ih_2 _ e_2.symm _ _ ls hP hD hS (lv_sub hl [1, 2, 0] rfl)
def S_X1_partnersCode (t_ends : Int32) (t_partners : Nat → Int32) : Option Int64 := itr (fun (x1 : Int64 × Int32) => if t_ends ≤ x1.2 then some (.inr x1.1) else ck (inb x1.2 12) (some (.inl ((x1.1 * (12 : Int64)) + ((t_partners x1.2.toNatClampNeg).toInt64), x1.2 + (1 : Int32))))) 10000 ((0 : Int64), (0 : Int32))
theorem kd_X1_partnersCode : yX1_partnersCode.cls = RX1 ∧ yX1_partnersCode.cls ≠ "java/lang/invoke/MethodHandle" ∧ yX1_partnersCode.cls ≠ "java/lang/invoke/VarHandle" ∧ (parseMethodDescriptor yX1_partnersCode.desc).map (fun d => d.parameters.length) = some 0 := by decide +kernel
set_option maxHeartbeats 4000000 in
set_option maxRecDepth 100000 in
theorem c_X1_partnersCode {l : Launch} {G : kG} {q_t : Nat} {q_t_partners : Nat} {q_t_lengths : Nat} {t_ringEdges : Int32} {t_rings : Int32} {t_size : Int32} {t_ends : Int32} {q_t_open : Nat} {q_t_endAtRim : Nat} {t_row : Int32} {t_column : Int32} {t_side : Int32} {t_partners : Nat → Int32} {res : Int64} (hE : S_X1_partnersCode t_ends t_partners = some res) : Met l yX1_partnersCode wsX1_partnersCode ({ frames := 0, cells := 0, slots := 0, locals := 0 }) (va_Pc [.ref q_t] (fun U => va_P G.1 vwCl [oX1 q_t q_t_partners q_t_lengths t_ringEdges t_rings t_size t_ends q_t_open q_t_endAtRim t_row t_column t_side, aI (G.2 1) q_t_partners 12 t_partners] U.heap ∧ kw G U)) (vp_Sl (fun r => r = res)) 0 0 (fun _ => False) := by
  refine Met.ofQ (cc := cX1_partnersCode) (maxL := 4) (ret := (some .long)) (by decide) rfl ?_
  intro p e s m args below meth c s₁ Q hQ B hml hv
  obtain ⟨rfl, hP, hKW⟩ := hv
  have hK := hKW.1
  have hx := B.exec
  have hb := B.bytes
  have hr := B.returns
  have hts := atoms_spec (ws := wsX1_partnersCode) B.pre
  have hown : s.vm.findClass RX1 = some m.cls := findClass_of_methodNamed B.named
  have hlocks := B.notSynchronized
  have iX1 : ∀ w ∈ u_ws RX1 TX1 11, w ∈ wsX1_partnersCode := by decide +kernel
  have fl_45 := hts (.fieldLink RX1 45 "AlternateSigns$Lines" "ends" "I") (by decide +kernel)
  have fl_9 := hts (.fieldLink RX1 9 "AlternateSigns$Lines" "partners" "[I") (by decide +kernel)
  have hl := lv_entry ([.ref q_t]) (n := 4) (Nat.le_of_ble_eq_true rfl)
  rw [lg_entry_eq]
  generalize (lg_sl ([.ref q_t]) ++ List.replicate (4 - (lg_sl ([.ref q_t])).length) Slot.unset).toArray = ls at hl ⊢
  have hl : lv_has ls 4 [(0, .ref q_t)] := hl
  unfold S_X1_partnersCode at hE
  refine lv_lconst (v := 0) hx hb dX1_partnersCode_0 (by decide) ?_
  refine lv_lstore_n (lv' := [(1, .long (0 : Int64)), (0, .ref q_t)]) hx hb dX1_partnersCode_1 rfl hl (by decide) rfl (fun ls hl => ?_)
  refine lv_iconst (v := 0) hx hb dX1_partnersCode_2 (by decide) ?_
  refine lv_istore_n (lv' := [(3, .int (0 : Int32)), (1, .long (0 : Int64)), (0, .ref q_t)]) hx hb dX1_partnersCode_3 rfl hl (by decide) rfl (fun ls hl => ?_)
  refine itr_ind (fun (x1 : Int64 × Int32) => ∀ (ls : Array Slot), lv_has ls 4 [(0, .ref q_t), (1, .long x1.1), (3, .int x1.2)] → W p l e (headSpec wsX1_partnersCode ({ frames := 0, cells := 0, slots := 0, locals := 0 })).room s m ([.ref q_t] : List Value).toArray below meth c s.heap [] 0 0 Q (F0 m 4 ls [])) (fun x1 o_1 hE ih_1 hr_1 => ?_) _ _ hE ls (lv_sub hl [2, 1, 0] rfl)
  obtain ⟨v1_1, v3_1⟩ := x1
  try dsimp only at hE
  intro ls hl
  try dsimp only at hl ⊢
  refine lv_iload_n hx hb dX1_partnersCode_4 rfl (lv_at hl 2 rfl) ?_
  refine lv_aload_n hx hb dX1_partnersCode_5 rfl (lv_at hl 0 rfl) ?_
  refine va_get (D := G.1) (ci := 1) (v := .int t_ends) (C := RX1) (T := TX1) (N := 11) hx hb hts iX1 hown hK hP 0 rfl rfl 5 (by decide) fl_45 (fun _ h9 => h9) rfl dX1_partnersCode_6 ?_
  refine lv_icmp_ge (tgt := 32) hx hb dX1_partnersCode_9 (by decide) (fun c_9 => ?_) (fun c_9 => ?_)
  · replace hE := (if_pos c_9).symm.trans hE
    refine lv_lload_n hx hb dX1_partnersCode_32 rfl (lv_at hl 1 rfl) ?_
    have e_1 := Option.some.inj hE
    have e_0 := hr_1 _ e_1.symm
    rw [hQ]
    exact W.lret (v := v1_1) hx hb hr (fun t ht _ => ⟨_, rfl, e_0, ht⟩) (fun q h => by cases h) dX1_partnersCode_33
  · replace hE := (if_neg c_9).symm.trans hE
    refine lv_lload_n hx hb dX1_partnersCode_12 rfl (lv_at hl 1 rfl) ?_
    refine lv_ldc2 (v := 12) hx hb hown (hts (.constantLong RX1 48 (12)) (by decide +kernel)) dX1_partnersCode_13 ?_
    refine lv_lmul hx hb dX1_partnersCode_16 ?_
    refine lv_aload_n hx hb dX1_partnersCode_17 rfl (lv_at hl 0 rfl) ?_
    refine va_get (D := G.1) (ci := 1) (v := .ref q_t_partners) (C := RX1) (T := TX1) (N := 11) hx hb hts iX1 hown hK hP 0 rfl rfl 0 (by decide) fl_9 (fun _ h9 => h9) rfl dX1_partnersCode_18 ?_
    refine lv_iload_n hx hb dX1_partnersCode_21 rfl (lv_at hl 2 rfl) ?_
    obtain ⟨hi_22, hE⟩ := ck_some hE
    refine va_iald hx hb hK hP 1 1 rfl rfl (inb_in hi_22) dX1_partnersCode_22 ?_
    refine lv_i2l (v := (t_partners v3_1.toNatClampNeg).toInt64) hx hb dX1_partnersCode_23 rfl ?_
    refine lv_ladd hx hb dX1_partnersCode_24 ?_
    refine lv_lstore_n (lv' := [(1, .long ((v1_1 * (12 : Int64)) + ((t_partners v3_1.toNatClampNeg).toInt64))), (0, .ref q_t), (3, .int v3_1)]) hx hb dX1_partnersCode_25 rfl hl (by decide) rfl (fun ls hl => ?_)
    refine lv_iinc (v := v3_1 + (1 : Int32)) (lv' := [(3, .int (v3_1 + (1 : Int32))), (1, .long ((v1_1 * (12 : Int64)) + ((t_partners v3_1.toNatClampNeg).toInt64))), (0, .ref q_t)]) hx hb dX1_partnersCode_26 hl (k := 2) rfl rfl (by decide) rfl (fun ls hl => ?_)
    refine lv_goto (tgt := 4) hx hb dX1_partnersCode_29 (by decide) ?_
    have e_1 := Option.some.inj hE
    exact ih_1 _ e_1.symm ls (lv_sub hl [2, 1, 0] rfl)
