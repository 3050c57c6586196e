/-! the law's cases -/
def LW (p : Program) (s : State) (m : MethodId) (c : Code) (b L : Nat) (xs : Nat → Int32) (G : kG) (a : kA) : Prop :=
  p.tables.exec = Jvm.exec ∧ c.code = cL_law ∧ c.maxLocals = 4 ∧ s.vm.findClass RL = some m.cls ∧ (∀ w ∈ wsL_law, w.before #[Value.ref b] s = true) ∧ va_X b L xs s s.heap ∧ b < s.heap.size ∧ kw G s ∧ AQw a ∧ DW (fun q : Nat => s.heap.size ≤ q) a
theorem ip_el {σ σ' : Nat → cv} {pS : Nat → Int32} {pC : Nat → Nat → Int32} (hpp : ∀ j, j < 6 → (σ (13 + 2 * j)).1 0 = pS j ∧ (σ (14 + 2 * j)).2.1 = pC j) {k : Nat} (hk : k < 6) {eS : Int32} {eC : Nat → Int32} (h1 : (σ' (13 + 2 * k)).1 0 = eS) (h2 : (σ' (14 + 2 * k)).2.1 = eC)
    (hn : ∀ j, j < 6 → j ≠ k → σ' (13 + 2 * j) = σ (13 + 2 * j) ∧ σ' (14 + 2 * j) = σ (14 + 2 * j)) : ∀ j, j < 6 → (σ' (13 + 2 * j)).1 0 = upd pS k eS j ∧ (σ' (14 + 2 * j)).2.1 = (fun j => if j = k then eC else pC j) j := by
  intro j hj
  by_cases e : j = k
  · subst e
    refine ⟨by rw [h1, pk_us], ?_⟩
    rw [h2]
    exact (if_pos rfl).symm
  · obtain ⟨q1, q2⟩ := hn j hj e
    rw [q1, q2, pk_un e]
    refine ⟨(hpp j hj).1, ?_⟩
    rw [(hpp j hj).2]
    exact (if_neg e).symm
theorem iz_el {σ σ' : Nat → cv} (h : IZ σ) {n : Nat} (hn : n < 6) (h1 : RZ (n + 1) ((σ' (31 + 4 * n)).1 0) ((σ' (31 + 4 * n)).1 1) ((σ' (31 + 4 * n)).1 2) (σ' (32 + 4 * n)).2.1 ∧ RW (n + 1) ((σ' (31 + 4 * n)).1 3) (σ' (33 + 4 * n)).2.2 (σ' (34 + 4 * n)).2.1)
    (ho : ∀ j, j < 6 → j ≠ n → σ' (31 + 4 * j) = σ (31 + 4 * j) ∧ σ' (32 + 4 * j) = σ (32 + 4 * j) ∧ σ' (33 + 4 * j) = σ (33 + 4 * j) ∧ σ' (34 + 4 * j) = σ (34 + 4 * j)) : IZ σ' := by
  intro j hj
  by_cases e : j = n
  · subst e; exact h1
  · obtain ⟨q1, q2, q3, q4⟩ := ho j hj e
    rw [q1, q2, q3, q4]
    exact h j hj
set_option maxHeartbeats 4000000 in
set_option maxRecDepth 100000 in
theorem ca_write {p : Program} {l : Launch} {e : Env} {s : State} {m : MethodId} {below : List Frame} {meth : Method} {c : Code} {b L : Nat} {xs : Nat → Int32} {G : kG} {a : kA} {σ : Nat → cv} {H : Heap} {locs : List Loc} {ls : Array Slot} {x3 : Int32} {Q : State → Prop} (C0 : LW p s m c b L xs G a) (hI : IV σ) (hP : PW G a σ H) (hS : va_S (fun q : Nat => s.heap.size ≤ q) s.heap H locs) (h1 : vp_in (x3 + 1) L) (hl : lv_has ls 4 [(0, .ref b), (1, .ref (a.1 0)), (2, .ref (a.1 55)), (3, .int x3)]) (kk : ∀ (σ' : Nat → cv) (H : Heap) (locs : List Loc), IV σ' → PW G a σ' H → va_S (fun q : Nat => s.heap.size ≤ q) s.heap H locs → W p l e room_1 s m #[Value.ref b] below meth c H locs 600000 7302250 Q (F0 m 777 ls [])) : W p l e room_1 s m #[Value.ref b] below meth c H locs 600000 7302250 Q (F0 m 156 ls []) := by
  obtain ⟨hx, hb, hml, hown, hts, hX, hbl, hKW, hAW, hDW⟩ := C0
  obtain ⟨⟨i1, i2, i3⟩, hRX, hZd, hRT, hRO, hZs, ⟨pS, pC, hpp, hRP⟩, hIZ⟩ := hI
  have hA : ∀ q : Nat, s.heap.size ≤ q → (fun q : Nat => s.heap.size ≤ q) q := fun _ h => h
  have hbA : ¬ (fun q : Nat => s.heap.size ≤ q) b := Nat.not_le.mpr hbl
  have h0 := p_write hRX (xs (x3 + 1).toNatClampNeg)
  obtain ⟨r, l', lt', tx', hE5, hE6, hR1⟩ := h0
  rw [← i1] at hE6
  refine lv_aload_n hx hb dL_law_156 rfl (lv_at hl 1 rfl) ?_
  refine lv_aload_n hx hb dL_law_157 rfl (lv_at hl 0 rfl) ?_
  refine lv_iload_n hx hb dL_law_158 rfl (lv_at hl 3 rfl) ?_
  refine lv_iconst (v := 1) hx hb dL_law_159 (by decide) ?_
  refine lv_iadd hx hb dL_law_160 ?_
  refine va_sld hx hb hX hbl hbA hS h1 dL_law_161 ?_
  have hm1 : [0, 1, 2].map (fun i => (a.1 i, cel G a i (σ i))) = [oX5 (a.1 0) (a.1 1) (a.1 5) (a.1 7) (a.1 9) (a.1 11) (a.1 25) (a.1 30), oX4 (a.1 1) (a.1 2) ((σ 1).1 0) (a.1 3) ((σ 1).1 1) ((σ 1).1 2) ((σ 1).1 3), aI (G.2 0) (a.1 2) 200 (σ 2).2.1] := rfl
  have hPc := hP.sub [0, 1, 2] (by intro i hi; simp only [List.mem_cons, List.not_mem_nil, or_false] at hi; omega) hm1
  have hDc := hDW.sub [0, 1, 2] (by intro i hi; simp only [List.mem_cons, List.not_mem_nil, or_false] at hi; omega) (by decide) hm1
  have hFc := hDW.free hS hA [0, 1, 2] (by intro i hi; simp only [List.mem_cons, List.not_mem_nil, or_false] at hi; omega) hm1
  refine va_calli (va_runV (As := [.int (xs (x3 + 1).toNatClampNeg)]) (rest := []) ⟨hx, hb, hml, hown, hts⟩ (c_X5_write (l := l) (G := G) _ (p1 := (xs (x3 + 1).toNatClampNeg)) (q_t := a.1 0) (q_t_text := a.1 1) (q_t_table := a.1 5) (q_t_other := a.1 7) (q_t_spare := a.1 9) (q_t_past := a.1 11) (q_t_lines := a.1 25) (q_t_sizes := a.1 30) (q_t_text_letters := a.1 2) (t_text_length := ((σ 1).1 0)) (q_t_text_draft := a.1 3) (t_text_rowsEnded := ((σ 1).1 1)) (t_text_rowLength := ((σ 1).1 2)) (t_text_rowSum := ((σ 1).1 3)) (t_text_letters := (σ 2).2.1) hE5) (cwV 1 hts gL_law_X5_write rfl rfl rfl kd_X5_write ⟨(Nat.le_of_ble_eq_true rfl), (Nat.le_of_ble_eq_true rfl)⟩) (iv_V hKW hPc hDc (ci := 5) (q0 := 0) rfl rfl) rfl rfl hl.1 rfl (lv_room (Nat.le_of_ble_eq_true rfl)) dL_law_162 ⟨(Nat.le_of_ble_eq_true rfl), (Nat.le_of_ble_eq_true rfl)⟩) hS (fun q _ h => hFc q h) hFc (fun r9 u9 t9 H1 locs ht9 hvm9 hw9 hB9 hz9 hk9 hS => ?_)
  have hw9 : r9 = r := hw9
  subst r9
  obtain ⟨hQ1, -⟩ := hB9
  rw [ht9] at hQ1
  obtain ⟨σ1, f0, f1, n1⟩ : ∃ σ1 : Nat → cv, σ1 1 = oI [(l'), ((σ 1).1 1), ((σ 1).1 2), ((σ 1).1 3)] ∧ σ1 2 = oF (lt') ∧ ∀ i, i ≠ 1 → i ≠ 2 → σ1 i = σ i := ⟨up (up σ 1 (oI [(l'), ((σ 1).1 1), ((σ 1).1 2), ((σ 1).1 3)])) 2 (oF (lt')), by simp (disch := omega) only [up_s, up_n], by simp (disch := omega) only [up_s, up_n], fun i g_0 g_1 => by simp (disch := assumption) only [up_n]⟩
  have hm1w : [0, 1, 2].map (fun i => (a.1 i, cel G a i (σ1 i))) = [oX5 (a.1 0) (a.1 1) (a.1 5) (a.1 7) (a.1 9) (a.1 11) (a.1 25) (a.1 30), oX4 (a.1 1) (a.1 2) (l') (a.1 3) ((σ 1).1 1) ((σ 1).1 2) ((σ 1).1 3), aI (G.2 0) (a.1 2) 200 (lt')] := (by simp (disch := omega) only [List.map_cons, List.map_nil, f0, f1, n1] <;> rfl)
  have hP1w : PW G a σ1 H1 := hP.over hDW [0, 1, 2] (by intro i hi; simp only [List.mem_cons, List.not_mem_nil, or_false] at hi; omega) hm1 hm1w (fun i hi => n1 i (fun e9 => hi (by rw [e9]; simp)) (fun e9 => hi (by rw [e9]; simp))) hk9 hQ1
  clear hPc hDc hFc hQ1 hk9 hz9 hvm9 hm1 hm1w
  refine lv_aload_n hx hb dL_law_165 rfl (lv_at hl 2 rfl) ?_
  refine lv_aload_n hx hb dL_law_166 rfl (lv_at hl 0 rfl) ?_
  refine lv_iload_n hx hb dL_law_167 rfl (lv_at hl 3 rfl) ?_
  refine lv_iconst (v := 1) hx hb dL_law_168 (by decide) ?_
  refine lv_iadd hx hb dL_law_169 ?_
  refine va_sld hx hb hX hbl hbA hS h1 dL_law_170 ?_
  have hm2 : [55, 56].map (fun i => (a.1 i, cel G a i (σ1 i))) = [oX6 (a.1 55) ((σ 55).1 0) (a.1 56) ((σ 55).1 1) (a.1 57) ((σ 55).1 2) (a.1 58) (a.1 59) ((σ 55).1 3) ((σ 55).1 4) (a.1 60) (a.1 61) (a.1 62) (a.1 63) (a.1 64) (a.1 65) (a.1 66) ((σ 55).1 5) ((σ 55).1 6) ((σ 55).1 7) ((σ 55).1 8) (a.1 67) (a.1 68) (a.1 69), aI (G.2 1) (a.1 56) 200 (σ 56).2.1] := (by simp (disch := omega) only [List.map_cons, List.map_nil, n1] <;> rfl)
  have hPc := hP1w.sub [55, 56] (by intro i hi; simp only [List.mem_cons, List.not_mem_nil, or_false] at hi; omega) hm2
  have hDc := hDW.sub [55, 56] (by intro i hi; simp only [List.mem_cons, List.not_mem_nil, or_false] at hi; omega) (by decide) hm2
  have hFc := hDW.free hS hA [55, 56] (by intro i hi; simp only [List.mem_cons, List.not_mem_nil, or_false] at hi; omega) hm2
  refine va_calli (va_runV (As := [.int (xs (x3 + 1).toNatClampNeg)]) (rest := [.int r]) ⟨hx, hb, hml, hown, hts⟩ (c_X6_write (l := l) (G := G) _ (p1 := (xs (x3 + 1).toNatClampNeg)) (q_t := a.1 55) (t_length := ((σ 55).1 0)) (q_t_text := a.1 56) (t_size := ((σ 55).1 1)) (q_t_sign := a.1 57) (t_otherSize := ((σ 55).1 2)) (q_t_other := a.1 58) (q_t_before := a.1 59) (t_undoMany := ((σ 55).1 3)) (t_readSize := ((σ 55).1 4)) (q_t_read := a.1 60) (q_t_side := a.1 61) (q_t_tall := a.1 62) (q_t_endRow := a.1 63) (q_t_endColumn := a.1 64) (q_t_endSide := a.1 65) (q_t_gone := a.1 66) (t_lineRow := ((σ 55).1 5)) (t_lineColumn := ((σ 55).1 6)) (t_lineSide := ((σ 55).1 7)) (t_lineMany := ((σ 55).1 8)) (q_t_ways := a.1 67) (q_t_codes := a.1 68) (q_t_many := a.1 69) (t_text := (σ 56).2.1) hE6) (cwV 1 hts gL_law_X6_write rfl rfl rfl kd_X6_write ⟨(Nat.le_of_ble_eq_true rfl), (Nat.le_of_ble_eq_true rfl)⟩) (iv_V hKW hPc hDc (ci := 6) (q0 := 0) rfl rfl) rfl rfl hl.1 rfl (lv_room (Nat.le_of_ble_eq_true rfl)) dL_law_171 ⟨(Nat.le_of_ble_eq_true rfl), (Nat.le_of_ble_eq_true rfl)⟩) hS (fun q _ h => hFc q h) hFc (fun r9 u9 t9 H1 locs ht9 hvm9 hw9 hB9 hz9 hk9 hS => ?_)
  have hw9 : r9 = r := hw9
  subst r9
  obtain ⟨hQ1, -⟩ := hB9
  rw [ht9] at hQ1
  obtain ⟨σ2, g0, g1, n2⟩ : ∃ σ2 : Nat → cv, σ2 55 = oI [(l'), ((σ 55).1 1), ((σ 55).1 2), ((σ 55).1 3), ((σ 55).1 4), ((σ 55).1 5), ((σ 55).1 6), ((σ 55).1 7), ((σ 55).1 8)] ∧ σ2 56 = oF (tx') ∧ ∀ i, i ≠ 55 → i ≠ 56 → σ2 i = σ1 i := ⟨up (up σ1 55 (oI [(l'), ((σ 55).1 1), ((σ 55).1 2), ((σ 55).1 3), ((σ 55).1 4), ((σ 55).1 5), ((σ 55).1 6), ((σ 55).1 7), ((σ 55).1 8)])) 56 (oF (tx')), by simp (disch := omega) only [up_s, up_n], by simp (disch := omega) only [up_s, up_n], fun i g_0 g_1 => by simp (disch := assumption) only [up_n]⟩
  have hm2w : [55, 56].map (fun i => (a.1 i, cel G a i (σ2 i))) = [oX6 (a.1 55) (l') (a.1 56) ((σ 55).1 1) (a.1 57) ((σ 55).1 2) (a.1 58) (a.1 59) ((σ 55).1 3) ((σ 55).1 4) (a.1 60) (a.1 61) (a.1 62) (a.1 63) (a.1 64) (a.1 65) (a.1 66) ((σ 55).1 5) ((σ 55).1 6) ((σ 55).1 7) ((σ 55).1 8) (a.1 67) (a.1 68) (a.1 69), aI (G.2 1) (a.1 56) 200 (tx')] := (by simp (disch := omega) only [List.map_cons, List.map_nil, g0, g1, n2, n1] <;> rfl)
  have hP2w : PW G a σ2 H1 := hP1w.over hDW [55, 56] (by intro i hi; simp only [List.mem_cons, List.not_mem_nil, or_false] at hi; omega) hm2 hm2w (fun i hi => n2 i (fun e9 => hi (by rw [e9]; simp)) (fun e9 => hi (by rw [e9]; simp))) hk9 hQ1
  clear hPc hDc hFc hQ1 hk9 hz9 hvm9 hm2 hm2w
  refine lv_icmp_eq (tgt := 777) hx hb dL_law_174 (by decide) (fun _ => ?_) (fun c9 => absurd rfl c9)
  exact kk σ2 _ _ ⟨⟨(by simp (disch := omega) only [f0, f1, g0, g1, n1, n2] <;> first | exact i1 | rfl), (by simp (disch := omega) only [f0, f1, g0, g1, n1, n2] <;> first | exact i2 | rfl), (by simp (disch := omega) only [f0, f1, g0, g1, n1, n2] <;> first | exact i3 | rfl)⟩, (by simp (disch := omega) only [f0, f1, g0, g1, n1, n2] <;> first | exact hR1 | rfl), (by simp (disch := omega) only [f0, f1, g0, g1, n1, n2] <;> first | exact hZd | rfl), (by simp (disch := omega) only [f0, f1, g0, g1, n1, n2] <;> first | exact hRT | rfl), (by simp (disch := omega) only [f0, f1, g0, g1, n1, n2] <;> first | exact hRO | rfl), (by simp (disch := omega) only [f0, f1, g0, g1, n1, n2] <;> first | exact hZs | rfl), ⟨pS, pC, fun j hj => by simp (disch := omega) only [f0, f1, g0, g1, n1, n2] <;> exact hpp j hj, (by simp (disch := omega) only [f0, f1, g0, g1, n1, n2] <;> first | exact hRP | rfl)⟩, fun j hj => by simp (disch := omega) only [f0, f1, g0, g1, n1, n2] <;> exact hIZ j hj⟩ hP2w hS
set_option maxHeartbeats 4000000 in
set_option maxRecDepth 100000 in
theorem ca_wipe {p : Program} {l : Launch} {e : Env} {s : State} {m : MethodId} {below : List Frame} {meth : Method} {c : Code} {b L : Nat} {xs : Nat → Int32} {G : kG} {a : kA} {σ : Nat → cv} {H : Heap} {locs : List Loc} {ls : Array Slot} {x3 : Int32} {Q : State → Prop} (C0 : LW p s m c b L xs G a) (hI : IV σ) (hP : PW G a σ H) (hS : va_S (fun q : Nat => s.heap.size ≤ q) s.heap H locs) (hl : lv_has ls 4 [(0, .ref b), (1, .ref (a.1 0)), (2, .ref (a.1 55)), (3, .int x3)]) (kk : ∀ (σ' : Nat → cv) (H : Heap) (locs : List Loc), IV σ' → PW G a σ' H → va_S (fun q : Nat => s.heap.size ≤ q) s.heap H locs → W p l e room_1 s m #[Value.ref b] below meth c H locs 600000 7302250 Q (F0 m 777 ls [])) : W p l e room_1 s m #[Value.ref b] below meth c H locs 600000 7302250 Q (F0 m 179 ls []) := by
  obtain ⟨hx, hb, hml, hown, hts, hX, hbl, hKW, hAW, hDW⟩ := C0
  obtain ⟨⟨i1, i2, i3⟩, hRX, hZd, hRT, hRO, hZs, ⟨pS, pC, hpp, hRP⟩, hIZ⟩ := hI
  have hA : ∀ q : Nat, s.heap.size ≤ q → (fun q : Nat => s.heap.size ≤ q) q := fun _ h => h
  have hbA : ¬ (fun q : Nat => s.heap.size ≤ q) b := Nat.not_le.mpr hbl
  have h0 := p_wipe hRX
  obtain ⟨r, l', hE5, hE6, hR1⟩ := h0
  rw [← i1] at hE6
  refine lv_aload_n hx hb dL_law_179 rfl (lv_at hl 1 rfl) ?_
  have hm1 : [0, 1].map (fun i => (a.1 i, cel G a i (σ i))) = [oX5 (a.1 0) (a.1 1) (a.1 5) (a.1 7) (a.1 9) (a.1 11) (a.1 25) (a.1 30), oX4 (a.1 1) (a.1 2) ((σ 1).1 0) (a.1 3) ((σ 1).1 1) ((σ 1).1 2) ((σ 1).1 3)] := rfl
  have hPc := hP.sub [0, 1] (by intro i hi; simp only [List.mem_cons, List.not_mem_nil, or_false] at hi; omega) hm1
  have hDc := hDW.sub [0, 1] (by intro i hi; simp only [List.mem_cons, List.not_mem_nil, or_false] at hi; omega) (by decide) hm1
  have hFc := hDW.free hS hA [0, 1] (by intro i hi; simp only [List.mem_cons, List.not_mem_nil, or_false] at hi; omega) hm1
  refine va_calli (va_runV (As := []) (rest := []) ⟨hx, hb, hml, hown, hts⟩ (c_X5_wipe (l := l) (G := G) _ (q_t := a.1 0) (q_t_text := a.1 1) (q_t_table := a.1 5) (q_t_other := a.1 7) (q_t_spare := a.1 9) (q_t_past := a.1 11) (q_t_lines := a.1 25) (q_t_sizes := a.1 30) (q_t_text_letters := a.1 2) (t_text_length := ((σ 1).1 0)) (q_t_text_draft := a.1 3) (t_text_rowsEnded := ((σ 1).1 1)) (t_text_rowLength := ((σ 1).1 2)) (t_text_rowSum := ((σ 1).1 3)) hE5) (cwV 0 hts gL_law_X5_wipe rfl rfl rfl kd_X5_wipe ⟨(Nat.le_of_ble_eq_true rfl), (Nat.le_of_ble_eq_true rfl)⟩) (iv_V hKW hPc hDc (ci := 5) (q0 := 0) rfl rfl) rfl rfl hl.1 rfl (lv_room (Nat.le_of_ble_eq_true rfl)) dL_law_180 ⟨(Nat.le_of_ble_eq_true rfl), (Nat.le_of_ble_eq_true rfl)⟩) hS (fun q _ h => hFc q h) hFc (fun r9 u9 t9 H1 locs ht9 hvm9 hw9 hB9 hz9 hk9 hS => ?_)
  have hw9 : r9 = r := hw9
  subst r9
  obtain ⟨hQ1, -⟩ := hB9
  rw [ht9] at hQ1
  obtain ⟨σ1, f0, n1⟩ : ∃ σ1 : Nat → cv, σ1 1 = oI [(l'), ((σ 1).1 1), ((σ 1).1 2), ((σ 1).1 3)] ∧ ∀ i, i ≠ 1 → σ1 i = σ i := ⟨up σ 1 (oI [(l'), ((σ 1).1 1), ((σ 1).1 2), ((σ 1).1 3)]), by simp (disch := omega) only [up_s, up_n], fun i g_0 => by simp (disch := assumption) only [up_n]⟩
  have hm1w : [0, 1].map (fun i => (a.1 i, cel G a i (σ1 i))) = [oX5 (a.1 0) (a.1 1) (a.1 5) (a.1 7) (a.1 9) (a.1 11) (a.1 25) (a.1 30), oX4 (a.1 1) (a.1 2) (l') (a.1 3) ((σ 1).1 1) ((σ 1).1 2) ((σ 1).1 3)] := (by simp (disch := omega) only [List.map_cons, List.map_nil, f0, n1] <;> rfl)
  have hP1w : PW G a σ1 H1 := hP.over hDW [0, 1] (by intro i hi; simp only [List.mem_cons, List.not_mem_nil, or_false] at hi; omega) hm1 hm1w (fun i hi => n1 i (fun e9 => hi (by rw [e9]; simp))) hk9 hQ1
  clear hPc hDc hFc hQ1 hk9 hz9 hvm9 hm1 hm1w
  refine lv_aload_n hx hb dL_law_183 rfl (lv_at hl 2 rfl) ?_
  have hm2 : [55].map (fun i => (a.1 i, cel G a i (σ1 i))) = [oX6 (a.1 55) ((σ 55).1 0) (a.1 56) ((σ 55).1 1) (a.1 57) ((σ 55).1 2) (a.1 58) (a.1 59) ((σ 55).1 3) ((σ 55).1 4) (a.1 60) (a.1 61) (a.1 62) (a.1 63) (a.1 64) (a.1 65) (a.1 66) ((σ 55).1 5) ((σ 55).1 6) ((σ 55).1 7) ((σ 55).1 8) (a.1 67) (a.1 68) (a.1 69)] := (by simp (disch := omega) only [List.map_cons, List.map_nil, n1] <;> rfl)
  have hPc := hP1w.sub [55] (by intro i hi; simp only [List.mem_cons, List.not_mem_nil, or_false] at hi; omega) hm2
  have hDc := hDW.sub [55] (by intro i hi; simp only [List.mem_cons, List.not_mem_nil, or_false] at hi; omega) (by decide) hm2
  have hFc := hDW.free hS hA [55] (by intro i hi; simp only [List.mem_cons, List.not_mem_nil, or_false] at hi; omega) hm2
  refine va_calli (va_runV (As := []) (rest := [.int r]) ⟨hx, hb, hml, hown, hts⟩ (c_X6_wipe (l := l) (G := G) _ (q_t := a.1 55) (t_length := ((σ 55).1 0)) (q_t_text := a.1 56) (t_size := ((σ 55).1 1)) (q_t_sign := a.1 57) (t_otherSize := ((σ 55).1 2)) (q_t_other := a.1 58) (q_t_before := a.1 59) (t_undoMany := ((σ 55).1 3)) (t_readSize := ((σ 55).1 4)) (q_t_read := a.1 60) (q_t_side := a.1 61) (q_t_tall := a.1 62) (q_t_endRow := a.1 63) (q_t_endColumn := a.1 64) (q_t_endSide := a.1 65) (q_t_gone := a.1 66) (t_lineRow := ((σ 55).1 5)) (t_lineColumn := ((σ 55).1 6)) (t_lineSide := ((σ 55).1 7)) (t_lineMany := ((σ 55).1 8)) (q_t_ways := a.1 67) (q_t_codes := a.1 68) (q_t_many := a.1 69) hE6) (cwV 0 hts gL_law_X6_wipe rfl rfl rfl kd_X6_wipe ⟨(Nat.le_of_ble_eq_true rfl), (Nat.le_of_ble_eq_true rfl)⟩) (iv_V hKW hPc hDc (ci := 6) (q0 := 0) rfl rfl) rfl rfl hl.1 rfl (lv_room (Nat.le_of_ble_eq_true rfl)) dL_law_184 ⟨(Nat.le_of_ble_eq_true rfl), (Nat.le_of_ble_eq_true rfl)⟩) hS (fun q _ h => hFc q h) hFc (fun r9 u9 t9 H1 locs ht9 hvm9 hw9 hB9 hz9 hk9 hS => ?_)
  have hw9 : r9 = r := hw9
  subst r9
  obtain ⟨hQ1, -⟩ := hB9
  rw [ht9] at hQ1
  obtain ⟨σ2, g0, n2⟩ : ∃ σ2 : Nat → cv, σ2 55 = oI [(l'), ((σ 55).1 1), ((σ 55).1 2), ((σ 55).1 3), ((σ 55).1 4), ((σ 55).1 5), ((σ 55).1 6), ((σ 55).1 7), ((σ 55).1 8)] ∧ ∀ i, i ≠ 55 → σ2 i = σ1 i := ⟨up σ1 55 (oI [(l'), ((σ 55).1 1), ((σ 55).1 2), ((σ 55).1 3), ((σ 55).1 4), ((σ 55).1 5), ((σ 55).1 6), ((σ 55).1 7), ((σ 55).1 8)]), by simp (disch := omega) only [up_s, up_n], fun i g_0 => by simp (disch := assumption) only [up_n]⟩
  have hm2w : [55].map (fun i => (a.1 i, cel G a i (σ2 i))) = [oX6 (a.1 55) (l') (a.1 56) ((σ 55).1 1) (a.1 57) ((σ 55).1 2) (a.1 58) (a.1 59) ((σ 55).1 3) ((σ 55).1 4) (a.1 60) (a.1 61) (a.1 62) (a.1 63) (a.1 64) (a.1 65) (a.1 66) ((σ 55).1 5) ((σ 55).1 6) ((σ 55).1 7) ((σ 55).1 8) (a.1 67) (a.1 68) (a.1 69)] := (by simp (disch := omega) only [List.map_cons, List.map_nil, g0, n2, n1] <;> rfl)
  have hP2w : PW G a σ2 H1 := hP1w.over hDW [55] (by intro i hi; simp only [List.mem_cons, List.not_mem_nil, or_false] at hi; omega) hm2 hm2w (fun i hi => n2 i (fun e9 => hi (by rw [e9]; simp))) hk9 hQ1
  clear hPc hDc hFc hQ1 hk9 hz9 hvm9 hm2 hm2w
  refine lv_icmp_eq (tgt := 777) hx hb dL_law_187 (by decide) (fun _ => ?_) (fun c9 => absurd rfl c9)
  exact kk σ2 _ _ ⟨⟨(by simp (disch := omega) only [f0, g0, n1, n2] <;> first | exact i1 | rfl), (by simp (disch := omega) only [f0, g0, n1, n2] <;> first | exact i2 | rfl), (by simp (disch := omega) only [f0, g0, n1, n2] <;> first | exact i3 | rfl)⟩, (by simp (disch := omega) only [f0, g0, n1, n2] <;> first | exact hR1 | rfl), (by simp (disch := omega) only [f0, g0, n1, n2] <;> first | exact hZd | rfl), (by simp (disch := omega) only [f0, g0, n1, n2] <;> first | exact hRT | rfl), (by simp (disch := omega) only [f0, g0, n1, n2] <;> first | exact hRO | rfl), (by simp (disch := omega) only [f0, g0, n1, n2] <;> first | exact hZs | rfl), ⟨pS, pC, fun j hj => by simp (disch := omega) only [f0, g0, n1, n2] <;> exact hpp j hj, (by simp (disch := omega) only [f0, g0, n1, n2] <;> first | exact hRP | rfl)⟩, fun j hj => by simp (disch := omega) only [f0, g0, n1, n2] <;> exact hIZ j hj⟩ hP2w hS
set_option maxHeartbeats 4000000 in
set_option maxRecDepth 100000 in
theorem ca_fault {p : Program} {l : Launch} {e : Env} {s : State} {m : MethodId} {below : List Frame} {meth : Method} {c : Code} {b L : Nat} {xs : Nat → Int32} {G : kG} {a : kA} {σ : Nat → cv} {H : Heap} {locs : List Loc} {ls : Array Slot} {x3 : Int32} {Q : State → Prop} (C0 : LW p s m c b L xs G a) (hI : IV σ) (hP : PW G a σ H) (hS : va_S (fun q : Nat => s.heap.size ≤ q) s.heap H locs) (hl : lv_has ls 4 [(0, .ref b), (1, .ref (a.1 0)), (2, .ref (a.1 55)), (3, .int x3)]) (kk : ∀ (σ' : Nat → cv) (H : Heap) (locs : List Loc), IV σ' → PW G a σ' H → va_S (fun q : Nat => s.heap.size ≤ q) s.heap H locs → W p l e room_1 s m #[Value.ref b] below meth c H locs 600000 7302250 Q (F0 m 777 ls [])) : W p l e room_1 s m #[Value.ref b] below meth c H locs 600000 7302250 Q (F0 m 192 ls []) := by
  obtain ⟨hx, hb, hml, hown, hts, hX, hbl, hKW, hAW, hDW⟩ := C0
  obtain ⟨⟨i1, i2, i3⟩, hRX, hZd, hRT, hRO, hZs, ⟨pS, pC, hpp, hRP⟩, hIZ⟩ := hI
  have hA : ∀ q : Nat, s.heap.size ≤ q → (fun q : Nat => s.heap.size ≤ q) q := fun _ h => h
  have hbA : ¬ (fun q : Nat => s.heap.size ≤ q) b := Nat.not_le.mpr hbl
  have h0 := p_fault (rd := (σ 60).2.1) hRX hZd
  obtain ⟨r, re, rl, rs, ds, rz, d', rd', hE5, hE6, hz1⟩ := h0
  rw [← i1] at hE6
  refine lv_aload_n hx hb dL_law_192 rfl (lv_at hl 1 rfl) ?_
  have hm1 : [0, 1, 2, 3, 4].map (fun i => (a.1 i, cel G a i (σ i))) = [oX5 (a.1 0) (a.1 1) (a.1 5) (a.1 7) (a.1 9) (a.1 11) (a.1 25) (a.1 30), oX4 (a.1 1) (a.1 2) ((σ 1).1 0) (a.1 3) ((σ 1).1 1) ((σ 1).1 2) ((σ 1).1 3), aI (G.2 0) (a.1 2) 200 (σ 2).2.1, oX3 (a.1 3) ((σ 3).1 0) (a.1 4), aI (G.2 1) (a.1 4) 49 (σ 4).2.1] := rfl
  have hPc := hP.sub [0, 1, 2, 3, 4] (by intro i hi; simp only [List.mem_cons, List.not_mem_nil, or_false] at hi; omega) hm1
  have hDc := hDW.sub [0, 1, 2, 3, 4] (by intro i hi; simp only [List.mem_cons, List.not_mem_nil, or_false] at hi; omega) (by decide) hm1
  have hFc := hDW.free hS hA [0, 1, 2, 3, 4] (by intro i hi; simp only [List.mem_cons, List.not_mem_nil, or_false] at hi; omega) hm1
  refine va_calli (va_runV (As := []) (rest := []) ⟨hx, hb, hml, hown, hts⟩ (c_X5_fault (l := l) (G := G) _ (q_t := a.1 0) (q_t_text := a.1 1) (q_t_table := a.1 5) (q_t_other := a.1 7) (q_t_spare := a.1 9) (q_t_past := a.1 11) (q_t_lines := a.1 25) (q_t_sizes := a.1 30) (q_t_text_letters := a.1 2) (t_text_length := ((σ 1).1 0)) (q_t_text_draft := a.1 3) (t_text_rowsEnded := ((σ 1).1 1)) (t_text_rowLength := ((σ 1).1 2)) (t_text_rowSum := ((σ 1).1 3)) (t_text_letters := (σ 2).2.1) (t_text_draft_size := ((σ 3).1 0)) (q_t_text_draft_corners := a.1 4) (t_text_draft_corners := (σ 4).2.1) hE5) (cwV 0 hts gL_law_X5_fault rfl rfl rfl kd_X5_fault ⟨(Nat.le_of_ble_eq_true rfl), (Nat.le_of_ble_eq_true rfl)⟩) (iv_V hKW hPc hDc (ci := 5) (q0 := 0) rfl rfl) rfl rfl hl.1 rfl (lv_room (Nat.le_of_ble_eq_true rfl)) dL_law_193 ⟨(Nat.le_of_ble_eq_true rfl), (Nat.le_of_ble_eq_true rfl)⟩) hS (fun q _ h => hFc q h) hFc (fun r9 u9 t9 H1 locs ht9 hvm9 hw9 hB9 hz9 hk9 hS => ?_)
  have hw9 : r9 = r := hw9
  subst r9
  obtain ⟨hQ1, -⟩ := hB9
  rw [ht9] at hQ1
  obtain ⟨σ1, f0, f1, f2, n1⟩ : ∃ σ1 : Nat → cv, σ1 1 = oI [((σ 1).1 0), re, rl, rs] ∧ σ1 3 = oI [ds] ∧ σ1 4 = oF (d') ∧ ∀ i, i ≠ 1 → i ≠ 3 → i ≠ 4 → σ1 i = σ i := ⟨up (up (up σ 1 (oI [((σ 1).1 0), re, rl, rs])) 3 (oI [ds])) 4 (oF (d')), by simp (disch := omega) only [up_s, up_n], by simp (disch := omega) only [up_s, up_n], by simp (disch := omega) only [up_s, up_n], fun i g_0 g_1 g_2 => by simp (disch := assumption) only [up_n]⟩
  have hm1w : [0, 1, 2, 3, 4].map (fun i => (a.1 i, cel G a i (σ1 i))) = [oX5 (a.1 0) (a.1 1) (a.1 5) (a.1 7) (a.1 9) (a.1 11) (a.1 25) (a.1 30), oX4 (a.1 1) (a.1 2) ((σ 1).1 0) (a.1 3) re rl rs, aI (G.2 0) (a.1 2) 200 (σ 2).2.1, oX3 (a.1 3) ds (a.1 4), aI (G.2 1) (a.1 4) 49 (d')] := (by simp (disch := omega) only [List.map_cons, List.map_nil, f0, f1, f2, n1] <;> rfl)
  have hP1w : PW G a σ1 H1 := hP.over hDW [0, 1, 2, 3, 4] (by intro i hi; simp only [List.mem_cons, List.not_mem_nil, or_false] at hi; omega) hm1 hm1w (fun i hi => n1 i (fun e9 => hi (by rw [e9]; simp)) (fun e9 => hi (by rw [e9]; simp)) (fun e9 => hi (by rw [e9]; simp))) hk9 hQ1
  clear hPc hDc hFc hQ1 hk9 hz9 hvm9 hm1 hm1w
  refine lv_aload_n hx hb dL_law_196 rfl (lv_at hl 2 rfl) ?_
  have hm2 : [55, 56, 60].map (fun i => (a.1 i, cel G a i (σ1 i))) = [oX6 (a.1 55) ((σ 55).1 0) (a.1 56) ((σ 55).1 1) (a.1 57) ((σ 55).1 2) (a.1 58) (a.1 59) ((σ 55).1 3) ((σ 55).1 4) (a.1 60) (a.1 61) (a.1 62) (a.1 63) (a.1 64) (a.1 65) (a.1 66) ((σ 55).1 5) ((σ 55).1 6) ((σ 55).1 7) ((σ 55).1 8) (a.1 67) (a.1 68) (a.1 69), aI (G.2 1) (a.1 56) 200 (σ 56).2.1, aI (G.2 1) (a.1 60) 36 (σ 60).2.1] := (by simp (disch := omega) only [List.map_cons, List.map_nil, n1] <;> rfl)
  have hPc := hP1w.sub [55, 56, 60] (by intro i hi; simp only [List.mem_cons, List.not_mem_nil, or_false] at hi; omega) hm2
  have hDc := hDW.sub [55, 56, 60] (by intro i hi; simp only [List.mem_cons, List.not_mem_nil, or_false] at hi; omega) (by decide) hm2
  have hFc := hDW.free hS hA [55, 56, 60] (by intro i hi; simp only [List.mem_cons, List.not_mem_nil, or_false] at hi; omega) hm2
  refine va_calli (va_runV (As := []) (rest := [.int r]) ⟨hx, hb, hml, hown, hts⟩ (c_X6_fault (l := l) (G := G) _ (q_t := a.1 55) (t_length := ((σ 55).1 0)) (q_t_text := a.1 56) (t_size := ((σ 55).1 1)) (q_t_sign := a.1 57) (t_otherSize := ((σ 55).1 2)) (q_t_other := a.1 58) (q_t_before := a.1 59) (t_undoMany := ((σ 55).1 3)) (t_readSize := ((σ 55).1 4)) (q_t_read := a.1 60) (q_t_side := a.1 61) (q_t_tall := a.1 62) (q_t_endRow := a.1 63) (q_t_endColumn := a.1 64) (q_t_endSide := a.1 65) (q_t_gone := a.1 66) (t_lineRow := ((σ 55).1 5)) (t_lineColumn := ((σ 55).1 6)) (t_lineSide := ((σ 55).1 7)) (t_lineMany := ((σ 55).1 8)) (q_t_ways := a.1 67) (q_t_codes := a.1 68) (q_t_many := a.1 69) (t_text := (σ 56).2.1) (t_read := (σ 60).2.1) hE6) (cwV 0 hts gL_law_X6_fault rfl rfl rfl kd_X6_fault ⟨(Nat.le_of_ble_eq_true rfl), (Nat.le_of_ble_eq_true rfl)⟩) (iv_V hKW hPc hDc (ci := 6) (q0 := 0) rfl rfl) rfl rfl hl.1 rfl (lv_room (Nat.le_of_ble_eq_true rfl)) dL_law_197 ⟨(Nat.le_of_ble_eq_true rfl), (Nat.le_of_ble_eq_true rfl)⟩) hS (fun q _ h => hFc q h) hFc (fun r9 u9 t9 H1 locs ht9 hvm9 hw9 hB9 hz9 hk9 hS => ?_)
  have hw9 : r9 = r := hw9
  subst r9
  obtain ⟨hQ1, -⟩ := hB9
  rw [ht9] at hQ1
  obtain ⟨σ2, g0, g1, n2⟩ : ∃ σ2 : Nat → cv, σ2 55 = oI [((σ 55).1 0), ((σ 55).1 1), ((σ 55).1 2), ((σ 55).1 3), rz, ((σ 55).1 5), ((σ 55).1 6), ((σ 55).1 7), ((σ 55).1 8)] ∧ σ2 60 = oF (rd') ∧ ∀ i, i ≠ 55 → i ≠ 60 → σ2 i = σ1 i := ⟨up (up σ1 55 (oI [((σ 55).1 0), ((σ 55).1 1), ((σ 55).1 2), ((σ 55).1 3), rz, ((σ 55).1 5), ((σ 55).1 6), ((σ 55).1 7), ((σ 55).1 8)])) 60 (oF (rd')), by simp (disch := omega) only [up_s, up_n], by simp (disch := omega) only [up_s, up_n], fun i g_0 g_1 => by simp (disch := assumption) only [up_n]⟩
  have hm2w : [55, 56, 60].map (fun i => (a.1 i, cel G a i (σ2 i))) = [oX6 (a.1 55) ((σ 55).1 0) (a.1 56) ((σ 55).1 1) (a.1 57) ((σ 55).1 2) (a.1 58) (a.1 59) ((σ 55).1 3) rz (a.1 60) (a.1 61) (a.1 62) (a.1 63) (a.1 64) (a.1 65) (a.1 66) ((σ 55).1 5) ((σ 55).1 6) ((σ 55).1 7) ((σ 55).1 8) (a.1 67) (a.1 68) (a.1 69), aI (G.2 1) (a.1 56) 200 (σ 56).2.1, aI (G.2 1) (a.1 60) 36 (rd')] := (by simp (disch := omega) only [List.map_cons, List.map_nil, g0, g1, n2, n1] <;> rfl)
  have hP2w : PW G a σ2 H1 := hP1w.over hDW [55, 56, 60] (by intro i hi; simp only [List.mem_cons, List.not_mem_nil, or_false] at hi; omega) hm2 hm2w (fun i hi => n2 i (fun e9 => hi (by rw [e9]; simp)) (fun e9 => hi (by rw [e9]; simp))) hk9 hQ1
  clear hPc hDc hFc hQ1 hk9 hz9 hvm9 hm2 hm2w
  refine lv_icmp_eq (tgt := 777) hx hb dL_law_200 (by decide) (fun _ => ?_) (fun c9 => absurd rfl c9)
  exact kk σ2 _ _ ⟨⟨(by simp (disch := omega) only [f0, f1, f2, g0, g1, n1, n2] <;> first | exact i1 | rfl), (by simp (disch := omega) only [f0, f1, f2, g0, g1, n1, n2] <;> first | exact i2 | rfl), (by simp (disch := omega) only [f0, f1, f2, g0, g1, n1, n2] <;> first | exact i3 | rfl)⟩, (by simp (disch := omega) only [f0, f1, f2, g0, g1, n1, n2] <;> first | exact hRX | rfl), (by simp (disch := omega) only [f0, f1, f2, g0, g1, n1, n2] <;> first | exact hz1 | rfl), (by simp (disch := omega) only [f0, f1, f2, g0, g1, n1, n2] <;> first | exact hRT | rfl), (by simp (disch := omega) only [f0, f1, f2, g0, g1, n1, n2] <;> first | exact hRO | rfl), (by simp (disch := omega) only [f0, f1, f2, g0, g1, n1, n2] <;> first | exact hZs | rfl), ⟨pS, pC, fun j hj => by simp (disch := omega) only [f0, f1, f2, g0, g1, n1, n2] <;> exact hpp j hj, (by simp (disch := omega) only [f0, f1, f2, g0, g1, n1, n2] <;> first | exact hRP | rfl)⟩, fun j hj => by simp (disch := omega) only [f0, f1, f2, g0, g1, n1, n2] <;> exact hIZ j hj⟩ hP2w hS
set_option maxHeartbeats 4000000 in
set_option maxRecDepth 100000 in
theorem ca_lay {p : Program} {l : Launch} {e : Env} {s : State} {m : MethodId} {below : List Frame} {meth : Method} {c : Code} {b L : Nat} {xs : Nat → Int32} {G : kG} {a : kA} {σ : Nat → cv} {H : Heap} {locs : List Loc} {ls : Array Slot} {x3 : Int32} {Q : State → Prop} (C0 : LW p s m c b L xs G a) (hI : IV σ) (hP : PW G a σ H) (hS : va_S (fun q : Nat => s.heap.size ≤ q) s.heap H locs) (hl : lv_has ls 4 [(0, .ref b), (1, .ref (a.1 0)), (2, .ref (a.1 55)), (3, .int x3)]) (kk : ∀ (σ' : Nat → cv) (H : Heap) (locs : List Loc), IV σ' → PW G a σ' H → va_S (fun q : Nat => s.heap.size ≤ q) s.heap H locs → W p l e room_1 s m #[Value.ref b] below meth c H locs 600000 7302250 Q (F0 m 777 ls [])) : W p l e room_1 s m #[Value.ref b] below meth c H locs 600000 7302250 Q (F0 m 205 ls []) := by
  obtain ⟨hx, hb, hml, hown, hts, hX, hbl, hKW, hAW, hDW⟩ := C0
  obtain ⟨⟨i1, i2, i3⟩, hRX, hZd, hRT, hRO, hZs, ⟨pS, pC, hpp, hRP⟩, hIZ⟩ := hI
  have hA : ∀ q : Nat, s.heap.size ≤ q → (fun q : Nat => s.heap.size ≤ q) q := fun _ h => h
  have hbA : ¬ (fun q : Nat => s.heap.size ≤ q) b := Nat.not_le.mpr hbl
  have h0 := p_lay (rd := (σ 60).2.1) hRX hZd hRT hRP
  obtain ⟨r, re, rl, rs, ds, rz, tS', hd', um', d', rd', tC', tn', hE5, hE6, hz1, hR1, hP1'⟩ := h0
  rw [← i1] at hE6
  rw [← i2] at hE6
  refine lv_aload_n hx hb dL_law_205 rfl (lv_at hl 1 rfl) ?_
  have hm1 : [0, 1, 2, 3, 4, 5, 6, 11].map (fun i => (a.1 i, cel G a i (σ i))) = [oX5 (a.1 0) (a.1 1) (a.1 5) (a.1 7) (a.1 9) (a.1 11) (a.1 25) (a.1 30), oX4 (a.1 1) (a.1 2) ((σ 1).1 0) (a.1 3) ((σ 1).1 1) ((σ 1).1 2) ((σ 1).1 3), aI (G.2 0) (a.1 2) 200 (σ 2).2.1, oX3 (a.1 3) ((σ 3).1 0) (a.1 4), aI (G.2 1) (a.1 4) 49 (σ 4).2.1, oX3 (a.1 5) ((σ 5).1 0) (a.1 6), aI (G.2 1) (a.1 6) 49 (σ 6).2.1, oX2 (a.1 11) (a.1 12) ((σ 11).1 0) ((σ 11).1 1)] := rfl
  have hPc := hP.sub [0, 1, 2, 3, 4, 5, 6, 11] (by intro i hi; simp only [List.mem_cons, List.not_mem_nil, or_false] at hi; omega) hm1
  have hDc := hDW.sub [0, 1, 2, 3, 4, 5, 6, 11] (by intro i hi; simp only [List.mem_cons, List.not_mem_nil, or_false] at hi; omega) (by decide) hm1
  have hFc := hDW.free hS hA [0, 1, 2, 3, 4, 5, 6, 11] (by intro i hi; simp only [List.mem_cons, List.not_mem_nil, or_false] at hi; omega) hm1
  refine va_calli (va_runV (As := []) (rest := []) ⟨hx, hb, hml, hown, hts⟩ (c_X5_lay (l := l) (G := G) _ (q_t := a.1 0) (q_t_text := a.1 1) (q_t_table := a.1 5) (q_t_other := a.1 7) (q_t_spare := a.1 9) (q_t_past := a.1 11) (q_t_lines := a.1 25) (q_t_sizes := a.1 30) (q_t_text_letters := a.1 2) (t_text_length := ((σ 1).1 0)) (q_t_text_draft := a.1 3) (t_text_rowsEnded := ((σ 1).1 1)) (t_text_rowLength := ((σ 1).1 2)) (t_text_rowSum := ((σ 1).1 3)) (t_text_letters := (σ 2).2.1) (t_text_draft_size := ((σ 3).1 0)) (q_t_text_draft_corners := a.1 4) (t_text_draft_corners := (σ 4).2.1) (t_table_size := ((σ 5).1 0)) (q_t_table_corners := a.1 6) (t_table_corners := (σ 6).2.1) (q_t_past_tables := a.1 12) (t_past_free := ((σ 11).1 0)) (t_past_held := ((σ 11).1 1)) hE5) (cwV 0 hts gL_law_X5_lay rfl rfl rfl kd_X5_lay ⟨(Nat.le_of_ble_eq_true rfl), (Nat.le_of_ble_eq_true rfl)⟩) (iv_V hKW hPc hDc (ci := 5) (q0 := 0) rfl rfl) rfl rfl hl.1 rfl (lv_room (Nat.le_of_ble_eq_true rfl)) dL_law_206 ⟨(Nat.le_of_ble_eq_true rfl), (Nat.le_of_ble_eq_true rfl)⟩) hS (fun q _ h => hFc q h) hFc (fun r9 u9 t9 H1 locs ht9 hvm9 hw9 hB9 hz9 hk9 hS => ?_)
  have hw9 : r9 = r := hw9
  subst r9
  obtain ⟨hQ1, -⟩ := hB9
  rw [ht9] at hQ1
  obtain ⟨σ1, f0, f1, f2, f3, f4, f5, n1⟩ : ∃ σ1 : Nat → cv, σ1 1 = oI [((σ 1).1 0), re, rl, rs] ∧ σ1 3 = oI [ds] ∧ σ1 4 = oF (d') ∧ σ1 5 = oI [(tS')] ∧ σ1 6 = oF (tC') ∧ σ1 11 = oI [((σ 11).1 0), (hd')] ∧ ∀ i, i ≠ 1 → i ≠ 3 → i ≠ 4 → i ≠ 5 → i ≠ 6 → i ≠ 11 → σ1 i = σ i := ⟨up (up (up (up (up (up σ 1 (oI [((σ 1).1 0), re, rl, rs])) 3 (oI [ds])) 4 (oF (d'))) 5 (oI [(tS')])) 6 (oF (tC'))) 11 (oI [((σ 11).1 0), (hd')]), by simp (disch := omega) only [up_s, up_n], by simp (disch := omega) only [up_s, up_n], by simp (disch := omega) only [up_s, up_n], by simp (disch := omega) only [up_s, up_n], by simp (disch := omega) only [up_s, up_n], by simp (disch := omega) only [up_s, up_n], fun i g_0 g_1 g_2 g_3 g_4 g_5 => by simp (disch := assumption) only [up_n]⟩
  have hm1w : [0, 1, 2, 3, 4, 5, 6, 11].map (fun i => (a.1 i, cel G a i (σ1 i))) = [oX5 (a.1 0) (a.1 1) (a.1 5) (a.1 7) (a.1 9) (a.1 11) (a.1 25) (a.1 30), oX4 (a.1 1) (a.1 2) ((σ 1).1 0) (a.1 3) re rl rs, aI (G.2 0) (a.1 2) 200 (σ 2).2.1, oX3 (a.1 3) ds (a.1 4), aI (G.2 1) (a.1 4) 49 (d'), oX3 (a.1 5) (tS') (a.1 6), aI (G.2 1) (a.1 6) 49 (tC'), oX2 (a.1 11) (a.1 12) ((σ 11).1 0) (hd')] := (by simp (disch := omega) only [List.map_cons, List.map_nil, f0, f1, f2, f3, f4, f5, n1] <;> rfl)
  have hP1w : PW G a σ1 H1 := hP.over hDW [0, 1, 2, 3, 4, 5, 6, 11] (by intro i hi; simp only [List.mem_cons, List.not_mem_nil, or_false] at hi; omega) hm1 hm1w (fun i hi => n1 i (fun e9 => hi (by rw [e9]; simp)) (fun e9 => hi (by rw [e9]; simp)) (fun e9 => hi (by rw [e9]; simp)) (fun e9 => hi (by rw [e9]; simp)) (fun e9 => hi (by rw [e9]; simp)) (fun e9 => hi (by rw [e9]; simp))) hk9 hQ1
  clear hPc hDc hFc hQ1 hk9 hz9 hvm9 hm1 hm1w
  refine lv_aload_n hx hb dL_law_209 rfl (lv_at hl 2 rfl) ?_
  have hm2 : [55, 56, 57, 60].map (fun i => (a.1 i, cel G a i (σ1 i))) = [oX6 (a.1 55) ((σ 55).1 0) (a.1 56) ((σ 55).1 1) (a.1 57) ((σ 55).1 2) (a.1 58) (a.1 59) ((σ 55).1 3) ((σ 55).1 4) (a.1 60) (a.1 61) (a.1 62) (a.1 63) (a.1 64) (a.1 65) (a.1 66) ((σ 55).1 5) ((σ 55).1 6) ((σ 55).1 7) ((σ 55).1 8) (a.1 67) (a.1 68) (a.1 69), aI (G.2 1) (a.1 56) 200 (σ 56).2.1, aI (G.2 1) (a.1 57) 36 (σ 57).2.1, aI (G.2 1) (a.1 60) 36 (σ 60).2.1] := (by simp (disch := omega) only [List.map_cons, List.map_nil, n1] <;> rfl)
  have hPc := hP1w.sub [55, 56, 57, 60] (by intro i hi; simp only [List.mem_cons, List.not_mem_nil, or_false] at hi; omega) hm2
  have hDc := hDW.sub [55, 56, 57, 60] (by intro i hi; simp only [List.mem_cons, List.not_mem_nil, or_false] at hi; omega) (by decide) hm2
  have hFc := hDW.free hS hA [55, 56, 57, 60] (by intro i hi; simp only [List.mem_cons, List.not_mem_nil, or_false] at hi; omega) hm2
  refine va_calli (va_runV (As := []) (rest := [.int r]) ⟨hx, hb, hml, hown, hts⟩ (c_X6_lay (l := l) (G := G) _ (q_t := a.1 55) (t_length := ((σ 55).1 0)) (q_t_text := a.1 56) (t_size := ((σ 55).1 1)) (q_t_sign := a.1 57) (t_otherSize := ((σ 55).1 2)) (q_t_other := a.1 58) (q_t_before := a.1 59) (t_undoMany := ((σ 55).1 3)) (t_readSize := ((σ 55).1 4)) (q_t_read := a.1 60) (q_t_side := a.1 61) (q_t_tall := a.1 62) (q_t_endRow := a.1 63) (q_t_endColumn := a.1 64) (q_t_endSide := a.1 65) (q_t_gone := a.1 66) (t_lineRow := ((σ 55).1 5)) (t_lineColumn := ((σ 55).1 6)) (t_lineSide := ((σ 55).1 7)) (t_lineMany := ((σ 55).1 8)) (q_t_ways := a.1 67) (q_t_codes := a.1 68) (q_t_many := a.1 69) (t_text := (σ 56).2.1) (t_sign := (σ 57).2.1) (t_read := (σ 60).2.1) hE6) (cwV 0 hts gL_law_X6_lay rfl rfl rfl kd_X6_lay ⟨(Nat.le_of_ble_eq_true rfl), (Nat.le_of_ble_eq_true rfl)⟩) (iv_V hKW hPc hDc (ci := 6) (q0 := 0) rfl rfl) rfl rfl hl.1 rfl (lv_room (Nat.le_of_ble_eq_true rfl)) dL_law_210 ⟨(Nat.le_of_ble_eq_true rfl), (Nat.le_of_ble_eq_true rfl)⟩) hS (fun q _ h => hFc q h) hFc (fun r9 u9 t9 H1 locs ht9 hvm9 hw9 hB9 hz9 hk9 hS => ?_)
  have hw9 : r9 = r := hw9
  subst r9
  obtain ⟨hQ1, -⟩ := hB9
  rw [ht9] at hQ1
  obtain ⟨σ2, g0, g1, g2, n2⟩ : ∃ σ2 : Nat → cv, σ2 55 = oI [((σ 55).1 0), (tS'), ((σ 55).1 2), (um'), rz, ((σ 55).1 5), ((σ 55).1 6), ((σ 55).1 7), ((σ 55).1 8)] ∧ σ2 57 = oF (tn') ∧ σ2 60 = oF (rd') ∧ ∀ i, i ≠ 55 → i ≠ 57 → i ≠ 60 → σ2 i = σ1 i := ⟨up (up (up σ1 55 (oI [((σ 55).1 0), (tS'), ((σ 55).1 2), (um'), rz, ((σ 55).1 5), ((σ 55).1 6), ((σ 55).1 7), ((σ 55).1 8)])) 57 (oF (tn'))) 60 (oF (rd')), by simp (disch := omega) only [up_s, up_n], by simp (disch := omega) only [up_s, up_n], by simp (disch := omega) only [up_s, up_n], fun i g_0 g_1 g_2 => by simp (disch := assumption) only [up_n]⟩
  have hm2w : [55, 56, 57, 60].map (fun i => (a.1 i, cel G a i (σ2 i))) = [oX6 (a.1 55) ((σ 55).1 0) (a.1 56) (tS') (a.1 57) ((σ 55).1 2) (a.1 58) (a.1 59) (um') rz (a.1 60) (a.1 61) (a.1 62) (a.1 63) (a.1 64) (a.1 65) (a.1 66) ((σ 55).1 5) ((σ 55).1 6) ((σ 55).1 7) ((σ 55).1 8) (a.1 67) (a.1 68) (a.1 69), aI (G.2 1) (a.1 56) 200 (σ 56).2.1, aI (G.2 1) (a.1 57) 36 (tn'), aI (G.2 1) (a.1 60) 36 (rd')] := (by simp (disch := omega) only [List.map_cons, List.map_nil, g0, g1, g2, n2, n1] <;> rfl)
  have hP2w : PW G a σ2 H1 := hP1w.over hDW [55, 56, 57, 60] (by intro i hi; simp only [List.mem_cons, List.not_mem_nil, or_false] at hi; omega) hm2 hm2w (fun i hi => n2 i (fun e9 => hi (by rw [e9]; simp)) (fun e9 => hi (by rw [e9]; simp)) (fun e9 => hi (by rw [e9]; simp))) hk9 hQ1
  clear hPc hDc hFc hQ1 hk9 hz9 hvm9 hm2 hm2w
  refine lv_icmp_eq (tgt := 777) hx hb dL_law_213 (by decide) (fun _ => ?_) (fun c9 => absurd rfl c9)
  exact kk σ2 _ _ ⟨⟨(by simp (disch := omega) only [f0, f1, f2, f3, f4, f5, g0, g1, g2, n1, n2] <;> first | exact i1 | rfl), (by simp (disch := omega) only [f0, f1, f2, f3, f4, f5, g0, g1, g2, n1, n2] <;> first | exact i2 | rfl), (by simp (disch := omega) only [f0, f1, f2, f3, f4, f5, g0, g1, g2, n1, n2] <;> first | exact i3 | rfl)⟩, (by simp (disch := omega) only [f0, f1, f2, f3, f4, f5, g0, g1, g2, n1, n2] <;> first | exact hRX | rfl), (by simp (disch := omega) only [f0, f1, f2, f3, f4, f5, g0, g1, g2, n1, n2] <;> first | exact hz1 | rfl), (by simp (disch := omega) only [f0, f1, f2, f3, f4, f5, g0, g1, g2, n1, n2] <;> first | exact hR1 | rfl), (by simp (disch := omega) only [f0, f1, f2, f3, f4, f5, g0, g1, g2, n1, n2] <;> first | exact hRO | rfl), (by simp (disch := omega) only [f0, f1, f2, f3, f4, f5, g0, g1, g2, n1, n2] <;> first | exact hZs | rfl), ⟨pS, pC, fun j hj => by simp (disch := omega) only [f0, f1, f2, f3, f4, f5, g0, g1, g2, n1, n2] <;> exact hpp j hj, (by simp (disch := omega) only [f0, f1, f2, f3, f4, f5, g0, g1, g2, n1, n2] <;> first | exact hP1' | rfl)⟩, fun j hj => by simp (disch := omega) only [f0, f1, f2, f3, f4, f5, g0, g1, g2, n1, n2] <;> exact hIZ j hj⟩ hP2w hS
set_option maxHeartbeats 4000000 in
set_option maxRecDepth 100000 in
theorem ca_undo {p : Program} {l : Launch} {e : Env} {s : State} {m : MethodId} {below : List Frame} {meth : Method} {c : Code} {b L : Nat} {xs : Nat → Int32} {G : kG} {a : kA} {σ : Nat → cv} {H : Heap} {locs : List Loc} {ls : Array Slot} {x3 : Int32} {Q : State → Prop} (C0 : LW p s m c b L xs G a) (hI : IV σ) (hP : PW G a σ H) (hS : va_S (fun q : Nat => s.heap.size ≤ q) s.heap H locs) (hl : lv_has ls 4 [(0, .ref b), (1, .ref (a.1 0)), (2, .ref (a.1 55)), (3, .int x3)]) (kk : ∀ (σ' : Nat → cv) (H : Heap) (locs : List Loc), IV σ' → PW G a σ' H → va_S (fun q : Nat => s.heap.size ≤ q) s.heap H locs → W p l e room_1 s m #[Value.ref b] below meth c H locs 600000 7302250 Q (F0 m 777 ls [])) : W p l e room_1 s m #[Value.ref b] below meth c H locs 600000 7302250 Q (F0 m 251 ls []) := by
  obtain ⟨hx, hb, hml, hown, hts, hX, hbl, hKW, hAW, hDW⟩ := C0
  obtain ⟨⟨i1, i2, i3⟩, hRX, hZd, hRT, hRO, hZs, ⟨pS, pC, hpp, hRP⟩, hIZ⟩ := hI
  have hA : ∀ q : Nat, s.heap.size ≤ q → (fun q : Nat => s.heap.size ≤ q) q := fun _ h => h
  have hbA : ¬ (fun q : Nat => s.heap.size ≤ q) b := Nat.not_le.mpr hbl
  obtain ⟨k, hk, ek⟩ := rp_u hRP
  have h0 := q_undo hRT hRP ek
  obtain ⟨r, fr', hd', tS', tC', tn', hE5, hE6, hR1, hP1'⟩ := h0
  rw [← (hpp k hk).1, ← (hpp k hk).2] at hE5
  rw [← i2] at hE6
  refine lv_aload_n hx hb dL_law_251 rfl (lv_at hl 1 rfl) ?_
  have hm1 : [0, 5, 6, 11, 12, 13 + 2 * k, 14 + 2 * k].map (fun i => (a.1 i, cel G a i (σ i))) = [oX5 (a.1 0) (a.1 1) (a.1 5) (a.1 7) (a.1 9) (a.1 11) (a.1 25) (a.1 30), oX3 (a.1 5) ((σ 5).1 0) (a.1 6), aI (G.2 1) (a.1 6) 49 (σ 6).2.1, oX2 (a.1 11) (a.1 12) ((σ 11).1 0) ((σ 11).1 1), aQ (G.2 5) (a.1 12) 6 (a.2 0), oX3 (a.1 (13 + 2 * k)) ((σ (13 + 2 * k)).1 0) (a.1 (14 + 2 * k)), aI (G.2 1) (a.1 (14 + 2 * k)) 49 (σ (14 + 2 * k)).2.1] := (by simp only [List.map_cons, List.map_nil, cel_p hk, cel_pc hk] <;> rfl)
  have hPc := hP.sub [0, 5, 6, 11, 12, 13 + 2 * k, 14 + 2 * k] (by intro i hi; simp only [List.mem_cons, List.not_mem_nil, or_false] at hi; omega) hm1
  have hDc := hDW.sub [0, 5, 6, 11, 12, 13 + 2 * k, 14 + 2 * k] (by intro i hi; simp only [List.mem_cons, List.not_mem_nil, or_false] at hi; omega) ((show ∀ k, k < 6 → va_nd [0, 5, 6, 11, 12, 13 + 2 * k, 14 + 2 * k] = true by decide +kernel) k hk) hm1
  have hFc := hDW.free hS hA [0, 5, 6, 11, 12, 13 + 2 * k, 14 + 2 * k] (by intro i hi; simp only [List.mem_cons, List.not_mem_nil, or_false] at hi; omega) hm1
  refine va_calli (va_runV (As := []) (rest := []) ⟨hx, hb, hml, hown, hts⟩ (c_X5_undo (l := l) (G := G) _ (q_t := a.1 0) (q_t_text := a.1 1) (q_t_table := a.1 5) (q_t_other := a.1 7) (q_t_spare := a.1 9) (q_t_past := a.1 11) (q_t_lines := a.1 25) (q_t_sizes := a.1 30) (t_table_size := ((σ 5).1 0)) (q_t_table_corners := a.1 6) (t_table_corners := (σ 6).2.1) (q_t_past_tables := a.1 12) (t_past_free := ((σ 11).1 0)) (t_past_held := ((σ 11).1 1)) (t_past_tables := (a.2 0)) (q_t_past_tables_e := a.1 (13 + 2 * k)) (t_past_tables_e_size := ((σ (13 + 2 * k)).1 0)) (q_t_past_tables_e_corners := a.1 (14 + 2 * k)) (t_past_tables_e_corners := (σ (14 + 2 * k)).2.1) (fun _ => by rw [ek]; exact hAW.1 k hk) hE5) (cwV 0 hts gL_law_X5_undo rfl rfl rfl kd_X5_undo ⟨(Nat.le_of_ble_eq_true rfl), (Nat.le_of_ble_eq_true rfl)⟩) (iv_V hKW hPc hDc (ci := 5) (q0 := 0) rfl rfl) rfl rfl hl.1 rfl (lv_room (Nat.le_of_ble_eq_true rfl)) dL_law_252 ⟨(Nat.le_of_ble_eq_true rfl), (Nat.le_of_ble_eq_true rfl)⟩) hS (fun q _ h => hFc q h) hFc (fun r9 u9 t9 H1 locs ht9 hvm9 hw9 hB9 hz9 hk9 hS => ?_)
  have hw9 : r9 = r := hw9
  subst r9
  obtain ⟨hQ1, -⟩ := hB9
  rw [ht9] at hQ1
  obtain ⟨σ1, f0, f1, f2, n1⟩ : ∃ σ1 : Nat → cv, σ1 5 = oI [(tS')] ∧ σ1 6 = oF (tC') ∧ σ1 11 = oI [(fr'), (hd')] ∧ ∀ i, i ≠ 5 → i ≠ 6 → i ≠ 11 → σ1 i = σ i := ⟨up (up (up σ 5 (oI [(tS')])) 6 (oF (tC'))) 11 (oI [(fr'), (hd')]), by simp (disch := omega) only [up_s, up_n], by simp (disch := omega) only [up_s, up_n], by simp (disch := omega) only [up_s, up_n], fun i g_0 g_1 g_2 => by simp (disch := assumption) only [up_n]⟩
  have hm1w : [0, 5, 6, 11, 12, 13 + 2 * k, 14 + 2 * k].map (fun i => (a.1 i, cel G a i (σ1 i))) = [oX5 (a.1 0) (a.1 1) (a.1 5) (a.1 7) (a.1 9) (a.1 11) (a.1 25) (a.1 30), oX3 (a.1 5) (tS') (a.1 6), aI (G.2 1) (a.1 6) 49 (tC'), oX2 (a.1 11) (a.1 12) (fr') (hd'), aQ (G.2 5) (a.1 12) 6 (a.2 0), oX3 (a.1 (13 + 2 * k)) ((σ (13 + 2 * k)).1 0) (a.1 (14 + 2 * k)), aI (G.2 1) (a.1 (14 + 2 * k)) 49 (σ (14 + 2 * k)).2.1] := (by simp (disch := omega) only [List.map_cons, List.map_nil, f0, f1, f2, n1, cel_p hk, cel_pc hk] <;> rfl)
  have hP1w : PW G a σ1 H1 := hP.over hDW [0, 5, 6, 11, 12, 13 + 2 * k, 14 + 2 * k] (by intro i hi; simp only [List.mem_cons, List.not_mem_nil, or_false] at hi; omega) hm1 hm1w (fun i hi => n1 i (fun e9 => hi (by rw [e9]; simp)) (fun e9 => hi (by rw [e9]; simp)) (fun e9 => hi (by rw [e9]; simp))) hk9 hQ1
  clear hPc hDc hFc hQ1 hk9 hz9 hvm9 hm1 hm1w
  refine lv_aload_n hx hb dL_law_255 rfl (lv_at hl 2 rfl) ?_
  have hm2 : [55, 57, 59].map (fun i => (a.1 i, cel G a i (σ1 i))) = [oX6 (a.1 55) ((σ 55).1 0) (a.1 56) ((σ 55).1 1) (a.1 57) ((σ 55).1 2) (a.1 58) (a.1 59) ((σ 55).1 3) ((σ 55).1 4) (a.1 60) (a.1 61) (a.1 62) (a.1 63) (a.1 64) (a.1 65) (a.1 66) ((σ 55).1 5) ((σ 55).1 6) ((σ 55).1 7) ((σ 55).1 8) (a.1 67) (a.1 68) (a.1 69), aI (G.2 1) (a.1 57) 36 (σ 57).2.1, aI (G.2 1) (a.1 59) 222 (σ 59).2.1] := (by simp (disch := omega) only [List.map_cons, List.map_nil, n1] <;> rfl)
  have hPc := hP1w.sub [55, 57, 59] (by intro i hi; simp only [List.mem_cons, List.not_mem_nil, or_false] at hi; omega) hm2
  have hDc := hDW.sub [55, 57, 59] (by intro i hi; simp only [List.mem_cons, List.not_mem_nil, or_false] at hi; omega) (by decide) hm2
  have hFc := hDW.free hS hA [55, 57, 59] (by intro i hi; simp only [List.mem_cons, List.not_mem_nil, or_false] at hi; omega) hm2
  refine va_calli (va_runV (As := []) (rest := [.int r]) ⟨hx, hb, hml, hown, hts⟩ (c_X6_undo (l := l) (G := G) _ (q_t := a.1 55) (t_length := ((σ 55).1 0)) (q_t_text := a.1 56) (t_size := ((σ 55).1 1)) (q_t_sign := a.1 57) (t_otherSize := ((σ 55).1 2)) (q_t_other := a.1 58) (q_t_before := a.1 59) (t_undoMany := ((σ 55).1 3)) (t_readSize := ((σ 55).1 4)) (q_t_read := a.1 60) (q_t_side := a.1 61) (q_t_tall := a.1 62) (q_t_endRow := a.1 63) (q_t_endColumn := a.1 64) (q_t_endSide := a.1 65) (q_t_gone := a.1 66) (t_lineRow := ((σ 55).1 5)) (t_lineColumn := ((σ 55).1 6)) (t_lineSide := ((σ 55).1 7)) (t_lineMany := ((σ 55).1 8)) (q_t_ways := a.1 67) (q_t_codes := a.1 68) (q_t_many := a.1 69) (t_sign := (σ 57).2.1) (t_before := (σ 59).2.1) hE6) (cwV 0 hts gL_law_X6_undo rfl rfl rfl kd_X6_undo ⟨(Nat.le_of_ble_eq_true rfl), (Nat.le_of_ble_eq_true rfl)⟩) (iv_V hKW hPc hDc (ci := 6) (q0 := 0) rfl rfl) rfl rfl hl.1 rfl (lv_room (Nat.le_of_ble_eq_true rfl)) dL_law_256 ⟨(Nat.le_of_ble_eq_true rfl), (Nat.le_of_ble_eq_true rfl)⟩) hS (fun q _ h => hFc q h) hFc (fun r9 u9 t9 H1 locs ht9 hvm9 hw9 hB9 hz9 hk9 hS => ?_)
  have hw9 : r9 = r := hw9
  subst r9
  obtain ⟨hQ1, -⟩ := hB9
  rw [ht9] at hQ1
  obtain ⟨σ2, g0, g1, n2⟩ : ∃ σ2 : Nat → cv, σ2 55 = oI [((σ 55).1 0), (tS'), ((σ 55).1 2), (hd'), ((σ 55).1 4), ((σ 55).1 5), ((σ 55).1 6), ((σ 55).1 7), ((σ 55).1 8)] ∧ σ2 57 = oF (tn') ∧ ∀ i, i ≠ 55 → i ≠ 57 → σ2 i = σ1 i := ⟨up (up σ1 55 (oI [((σ 55).1 0), (tS'), ((σ 55).1 2), (hd'), ((σ 55).1 4), ((σ 55).1 5), ((σ 55).1 6), ((σ 55).1 7), ((σ 55).1 8)])) 57 (oF (tn')), by simp (disch := omega) only [up_s, up_n], by simp (disch := omega) only [up_s, up_n], fun i g_0 g_1 => by simp (disch := assumption) only [up_n]⟩
  have hm2w : [55, 57, 59].map (fun i => (a.1 i, cel G a i (σ2 i))) = [oX6 (a.1 55) ((σ 55).1 0) (a.1 56) (tS') (a.1 57) ((σ 55).1 2) (a.1 58) (a.1 59) (hd') ((σ 55).1 4) (a.1 60) (a.1 61) (a.1 62) (a.1 63) (a.1 64) (a.1 65) (a.1 66) ((σ 55).1 5) ((σ 55).1 6) ((σ 55).1 7) ((σ 55).1 8) (a.1 67) (a.1 68) (a.1 69), aI (G.2 1) (a.1 57) 36 (tn'), aI (G.2 1) (a.1 59) 222 (σ 59).2.1] := (by simp (disch := omega) only [List.map_cons, List.map_nil, g0, g1, n2, n1] <;> rfl)
  have hP2w : PW G a σ2 H1 := hP1w.over hDW [55, 57, 59] (by intro i hi; simp only [List.mem_cons, List.not_mem_nil, or_false] at hi; omega) hm2 hm2w (fun i hi => n2 i (fun e9 => hi (by rw [e9]; simp)) (fun e9 => hi (by rw [e9]; simp))) hk9 hQ1
  clear hPc hDc hFc hQ1 hk9 hz9 hvm9 hm2 hm2w
  refine lv_icmp_eq (tgt := 777) hx hb dL_law_259 (by decide) (fun _ => ?_) (fun c9 => absurd rfl c9)
  exact kk σ2 _ _ ⟨⟨(by simp (disch := omega) only [f0, f1, f2, g0, g1, n1, n2] <;> first | exact i1 | rfl), (by simp (disch := omega) only [f0, f1, f2, g0, g1, n1, n2] <;> first | exact i2 | rfl), (by simp (disch := omega) only [f0, f1, f2, g0, g1, n1, n2] <;> first | exact i3 | rfl)⟩, (by simp (disch := omega) only [f0, f1, f2, g0, g1, n1, n2] <;> first | exact hRX | rfl), (by simp (disch := omega) only [f0, f1, f2, g0, g1, n1, n2] <;> first | exact hZd | rfl), (by simp (disch := omega) only [f0, f1, f2, g0, g1, n1, n2] <;> first | exact hR1 | rfl), (by simp (disch := omega) only [f0, f1, f2, g0, g1, n1, n2] <;> first | exact hRO | rfl), (by simp (disch := omega) only [f0, f1, f2, g0, g1, n1, n2] <;> first | exact hZs | rfl), ⟨pS, pC, fun j hj => by simp (disch := omega) only [f0, f1, f2, g0, g1, n1, n2] <;> exact hpp j hj, (by simp (disch := omega) only [f0, f1, f2, g0, g1, n1, n2] <;> first | exact hP1' | rfl)⟩, fun j hj => by simp (disch := omega) only [f0, f1, f2, g0, g1, n1, n2] <;> exact hIZ j hj⟩ hP2w hS
set_option maxHeartbeats 4000000 in
set_option maxRecDepth 100000 in
theorem ca_keep {p : Program} {l : Launch} {e : Env} {s : State} {m : MethodId} {below : List Frame} {meth : Method} {c : Code} {b L : Nat} {xs : Nat → Int32} {G : kG} {a : kA} {σ : Nat → cv} {H : Heap} {locs : List Loc} {ls : Array Slot} {x3 : Int32} {Q : State → Prop} (C0 : LW p s m c b L xs G a) (hI : IV σ) (hP : PW G a σ H) (hS : va_S (fun q : Nat => s.heap.size ≤ q) s.heap H locs) (hl : lv_has ls 4 [(0, .ref b), (1, .ref (a.1 0)), (2, .ref (a.1 55)), (3, .int x3)]) (kk : ∀ (σ' : Nat → cv) (H : Heap) (locs : List Loc), IV σ' → PW G a σ' H → va_S (fun q : Nat => s.heap.size ≤ q) s.heap H locs → W p l e room_1 s m #[Value.ref b] below meth c H locs 600000 7302250 Q (F0 m 777 ls [])) : W p l e room_1 s m #[Value.ref b] below meth c H locs 600000 7302250 Q (F0 m 264 ls []) := by
  obtain ⟨hx, hb, hml, hown, hts, hX, hbl, hKW, hAW, hDW⟩ := C0
  obtain ⟨⟨i1, i2, i3⟩, hRX, hZd, hRT, hRO, hZs, ⟨pS, pC, hpp, hRP⟩, hIZ⟩ := hI
  have hA : ∀ q : Nat, s.heap.size ≤ q → (fun q : Nat => s.heap.size ≤ q) q := fun _ h => h
  have hbA : ¬ (fun q : Nat => s.heap.size ≤ q) b := Nat.not_le.mpr hbl
  have h0 := p_keep (oS := 0) (oC := (σ 8).2.1) (on := (σ 58).2.1) hRT
  obtain ⟨r, oC', on', hE5, hE6, hR1⟩ := h0
  rw [← i2] at hE6
  refine lv_aload_n hx hb dL_law_264 rfl (lv_at hl 1 rfl) ?_
  have hm1 : [0, 5, 6, 7, 8].map (fun i => (a.1 i, cel G a i (σ i))) = [oX5 (a.1 0) (a.1 1) (a.1 5) (a.1 7) (a.1 9) (a.1 11) (a.1 25) (a.1 30), oX3 (a.1 5) ((σ 5).1 0) (a.1 6), aI (G.2 1) (a.1 6) 49 (σ 6).2.1, oX3 (a.1 7) ((σ 7).1 0) (a.1 8), aI (G.2 1) (a.1 8) 49 (σ 8).2.1] := rfl
  have hPc := hP.sub [0, 5, 6, 7, 8] (by intro i hi; simp only [List.mem_cons, List.not_mem_nil, or_false] at hi; omega) hm1
  have hDc := hDW.sub [0, 5, 6, 7, 8] (by intro i hi; simp only [List.mem_cons, List.not_mem_nil, or_false] at hi; omega) (by decide) hm1
  have hFc := hDW.free hS hA [0, 5, 6, 7, 8] (by intro i hi; simp only [List.mem_cons, List.not_mem_nil, or_false] at hi; omega) hm1
  refine va_calli (va_runV (As := []) (rest := []) ⟨hx, hb, hml, hown, hts⟩ (c_X5_keep (l := l) (G := G) _ (q_t := a.1 0) (q_t_text := a.1 1) (q_t_table := a.1 5) (q_t_other := a.1 7) (q_t_spare := a.1 9) (q_t_past := a.1 11) (q_t_lines := a.1 25) (q_t_sizes := a.1 30) (t_table_size := ((σ 5).1 0)) (q_t_table_corners := a.1 6) (t_table_corners := (σ 6).2.1) (t_other_size := ((σ 7).1 0)) (q_t_other_corners := a.1 8) (t_other_corners := (σ 8).2.1) hE5) (cwV 0 hts gL_law_X5_keep rfl rfl rfl kd_X5_keep ⟨(Nat.le_of_ble_eq_true rfl), (Nat.le_of_ble_eq_true rfl)⟩) (iv_V hKW hPc hDc (ci := 5) (q0 := 0) rfl rfl) rfl rfl hl.1 rfl (lv_room (Nat.le_of_ble_eq_true rfl)) dL_law_265 ⟨(Nat.le_of_ble_eq_true rfl), (Nat.le_of_ble_eq_true rfl)⟩) hS (fun q _ h => hFc q h) hFc (fun r9 u9 t9 H1 locs ht9 hvm9 hw9 hB9 hz9 hk9 hS => ?_)
  have hw9 : r9 = r := hw9
  subst r9
  obtain ⟨hQ1, -⟩ := hB9
  rw [ht9] at hQ1
  obtain ⟨σ1, f0, f1, n1⟩ : ∃ σ1 : Nat → cv, σ1 7 = oI [r] ∧ σ1 8 = oF (oC') ∧ ∀ i, i ≠ 7 → i ≠ 8 → σ1 i = σ i := ⟨up (up σ 7 (oI [r])) 8 (oF (oC')), by simp (disch := omega) only [up_s, up_n], by simp (disch := omega) only [up_s, up_n], fun i g_0 g_1 => by simp (disch := assumption) only [up_n]⟩
  have hm1w : [0, 5, 6, 7, 8].map (fun i => (a.1 i, cel G a i (σ1 i))) = [oX5 (a.1 0) (a.1 1) (a.1 5) (a.1 7) (a.1 9) (a.1 11) (a.1 25) (a.1 30), oX3 (a.1 5) ((σ 5).1 0) (a.1 6), aI (G.2 1) (a.1 6) 49 (σ 6).2.1, oX3 (a.1 7) r (a.1 8), aI (G.2 1) (a.1 8) 49 (oC')] := (by simp (disch := omega) only [List.map_cons, List.map_nil, f0, f1, n1] <;> rfl)
  have hP1w : PW G a σ1 H1 := hP.over hDW [0, 5, 6, 7, 8] (by intro i hi; simp only [List.mem_cons, List.not_mem_nil, or_false] at hi; omega) hm1 hm1w (fun i hi => n1 i (fun e9 => hi (by rw [e9]; simp)) (fun e9 => hi (by rw [e9]; simp))) hk9 hQ1
  clear hPc hDc hFc hQ1 hk9 hz9 hvm9 hm1 hm1w
  refine lv_aload_n hx hb dL_law_268 rfl (lv_at hl 2 rfl) ?_
  have hm2 : [55, 57, 58].map (fun i => (a.1 i, cel G a i (σ1 i))) = [oX6 (a.1 55) ((σ 55).1 0) (a.1 56) ((σ 55).1 1) (a.1 57) ((σ 55).1 2) (a.1 58) (a.1 59) ((σ 55).1 3) ((σ 55).1 4) (a.1 60) (a.1 61) (a.1 62) (a.1 63) (a.1 64) (a.1 65) (a.1 66) ((σ 55).1 5) ((σ 55).1 6) ((σ 55).1 7) ((σ 55).1 8) (a.1 67) (a.1 68) (a.1 69), aI (G.2 1) (a.1 57) 36 (σ 57).2.1, aI (G.2 1) (a.1 58) 36 (σ 58).2.1] := (by simp (disch := omega) only [List.map_cons, List.map_nil, n1] <;> rfl)
  have hPc := hP1w.sub [55, 57, 58] (by intro i hi; simp only [List.mem_cons, List.not_mem_nil, or_false] at hi; omega) hm2
  have hDc := hDW.sub [55, 57, 58] (by intro i hi; simp only [List.mem_cons, List.not_mem_nil, or_false] at hi; omega) (by decide) hm2
  have hFc := hDW.free hS hA [55, 57, 58] (by intro i hi; simp only [List.mem_cons, List.not_mem_nil, or_false] at hi; omega) hm2
  refine va_calli (va_runV (As := []) (rest := [.int r]) ⟨hx, hb, hml, hown, hts⟩ (c_X6_keep (l := l) (G := G) _ (q_t := a.1 55) (t_length := ((σ 55).1 0)) (q_t_text := a.1 56) (t_size := ((σ 55).1 1)) (q_t_sign := a.1 57) (t_otherSize := ((σ 55).1 2)) (q_t_other := a.1 58) (q_t_before := a.1 59) (t_undoMany := ((σ 55).1 3)) (t_readSize := ((σ 55).1 4)) (q_t_read := a.1 60) (q_t_side := a.1 61) (q_t_tall := a.1 62) (q_t_endRow := a.1 63) (q_t_endColumn := a.1 64) (q_t_endSide := a.1 65) (q_t_gone := a.1 66) (t_lineRow := ((σ 55).1 5)) (t_lineColumn := ((σ 55).1 6)) (t_lineSide := ((σ 55).1 7)) (t_lineMany := ((σ 55).1 8)) (q_t_ways := a.1 67) (q_t_codes := a.1 68) (q_t_many := a.1 69) (t_sign := (σ 57).2.1) (t_other := (σ 58).2.1) hE6) (cwV 0 hts gL_law_X6_keep rfl rfl rfl kd_X6_keep ⟨(Nat.le_of_ble_eq_true rfl), (Nat.le_of_ble_eq_true rfl)⟩) (iv_V hKW hPc hDc (ci := 6) (q0 := 0) rfl rfl) rfl rfl hl.1 rfl (lv_room (Nat.le_of_ble_eq_true rfl)) dL_law_269 ⟨(Nat.le_of_ble_eq_true rfl), (Nat.le_of_ble_eq_true rfl)⟩) hS (fun q _ h => hFc q h) hFc (fun r9 u9 t9 H1 locs ht9 hvm9 hw9 hB9 hz9 hk9 hS => ?_)
  have hw9 : r9 = r := hw9
  subst r9
  obtain ⟨hQ1, -⟩ := hB9
  rw [ht9] at hQ1
  obtain ⟨σ2, g0, g1, n2⟩ : ∃ σ2 : Nat → cv, σ2 55 = oI [((σ 55).1 0), ((σ 55).1 1), r, ((σ 55).1 3), ((σ 55).1 4), ((σ 55).1 5), ((σ 55).1 6), ((σ 55).1 7), ((σ 55).1 8)] ∧ σ2 58 = oF (on') ∧ ∀ i, i ≠ 55 → i ≠ 58 → σ2 i = σ1 i := ⟨up (up σ1 55 (oI [((σ 55).1 0), ((σ 55).1 1), r, ((σ 55).1 3), ((σ 55).1 4), ((σ 55).1 5), ((σ 55).1 6), ((σ 55).1 7), ((σ 55).1 8)])) 58 (oF (on')), by simp (disch := omega) only [up_s, up_n], by simp (disch := omega) only [up_s, up_n], fun i g_0 g_1 => by simp (disch := assumption) only [up_n]⟩
  have hm2w : [55, 57, 58].map (fun i => (a.1 i, cel G a i (σ2 i))) = [oX6 (a.1 55) ((σ 55).1 0) (a.1 56) ((σ 55).1 1) (a.1 57) r (a.1 58) (a.1 59) ((σ 55).1 3) ((σ 55).1 4) (a.1 60) (a.1 61) (a.1 62) (a.1 63) (a.1 64) (a.1 65) (a.1 66) ((σ 55).1 5) ((σ 55).1 6) ((σ 55).1 7) ((σ 55).1 8) (a.1 67) (a.1 68) (a.1 69), aI (G.2 1) (a.1 57) 36 (σ 57).2.1, aI (G.2 1) (a.1 58) 36 (on')] := (by simp (disch := omega) only [List.map_cons, List.map_nil, g0, g1, n2, n1] <;> rfl)
  have hP2w : PW G a σ2 H1 := hP1w.over hDW [55, 57, 58] (by intro i hi; simp only [List.mem_cons, List.not_mem_nil, or_false] at hi; omega) hm2 hm2w (fun i hi => n2 i (fun e9 => hi (by rw [e9]; simp)) (fun e9 => hi (by rw [e9]; simp))) hk9 hQ1
  clear hPc hDc hFc hQ1 hk9 hz9 hvm9 hm2 hm2w
  refine lv_icmp_eq (tgt := 777) hx hb dL_law_272 (by decide) (fun _ => ?_) (fun c9 => absurd rfl c9)
  exact kk σ2 _ _ ⟨⟨(by simp (disch := omega) only [f0, f1, g0, g1, n1, n2] <;> first | exact i1 | rfl), (by simp (disch := omega) only [f0, f1, g0, g1, n1, n2] <;> first | exact i2 | rfl), (by simp (disch := omega) only [f0, f1, g0, g1, n1, n2] <;> first | exact i3 | rfl)⟩, (by simp (disch := omega) only [f0, f1, g0, g1, n1, n2] <;> first | exact hRX | rfl), (by simp (disch := omega) only [f0, f1, g0, g1, n1, n2] <;> first | exact hZd | rfl), (by simp (disch := omega) only [f0, f1, g0, g1, n1, n2] <;> first | exact hRT | rfl), (by simp (disch := omega) only [f0, f1, g0, g1, n1, n2] <;> first | exact hR1 | rfl), (by simp (disch := omega) only [f0, f1, g0, g1, n1, n2] <;> first | exact hZs | rfl), ⟨pS, pC, fun j hj => by simp (disch := omega) only [f0, f1, g0, g1, n1, n2] <;> exact hpp j hj, (by simp (disch := omega) only [f0, f1, g0, g1, n1, n2] <;> first | exact hRP | rfl)⟩, fun j hj => by simp (disch := omega) only [f0, f1, g0, g1, n1, n2] <;> exact hIZ j hj⟩ hP2w hS
set_option maxHeartbeats 4000000 in
set_option maxRecDepth 100000 in
theorem ca_sign {p : Program} {l : Launch} {e : Env} {s : State} {m : MethodId} {below : List Frame} {meth : Method} {c : Code} {b L : Nat} {xs : Nat → Int32} {G : kG} {a : kA} {σ : Nat → cv} {H : Heap} {locs : List Loc} {ls : Array Slot} {x3 : Int32} {Q : State → Prop} (C0 : LW p s m c b L xs G a) (hI : IV σ) (hP : PW G a σ H) (hS : va_S (fun q : Nat => s.heap.size ≤ q) s.heap H locs) (h1 : vp_in (x3 + 1) L) (h2 : vp_in (x3 + 2) L) (hl : lv_has ls 4 [(0, .ref b), (1, .ref (a.1 0)), (2, .ref (a.1 55)), (3, .int x3)]) (kk : ∀ (σ' : Nat → cv) (H : Heap) (locs : List Loc), IV σ' → PW G a σ' H → va_S (fun q : Nat => s.heap.size ≤ q) s.heap H locs → W p l e room_1 s m #[Value.ref b] below meth c H locs 600000 7302250 Q (F0 m 777 ls [])) : W p l e room_1 s m #[Value.ref b] below meth c H locs 600000 7302250 Q (F0 m 277 ls []) := by
  obtain ⟨hx, hb, hml, hown, hts, hX, hbl, hKW, hAW, hDW⟩ := C0
  obtain ⟨⟨i1, i2, i3⟩, hRX, hZd, hRT, hRO, hZs, ⟨pS, pC, hpp, hRP⟩, hIZ⟩ := hI
  have hA : ∀ q : Nat, s.heap.size ≤ q → (fun q : Nat => s.heap.size ≤ q) q := fun _ h => h
  have hbA : ¬ (fun q : Nat => s.heap.size ≤ q) b := Nat.not_le.mpr hbl
  have h0 := q_sign hRT (xs (x3 + 1).toNatClampNeg) (xs (x3 + 2).toNatClampNeg)
  obtain ⟨r, hE5, hE6⟩ := h0
  rw [← i2] at hE6
  refine lv_aload_n hx hb dL_law_277 rfl (lv_at hl 1 rfl) ?_
  refine lv_aload_n hx hb dL_law_278 rfl (lv_at hl 0 rfl) ?_
  refine lv_iload_n hx hb dL_law_279 rfl (lv_at hl 3 rfl) ?_
  refine lv_iconst (v := 1) hx hb dL_law_280 (by decide) ?_
  refine lv_iadd hx hb dL_law_281 ?_
  refine va_sld hx hb hX hbl hbA hS h1 dL_law_282 ?_
  refine lv_aload_n hx hb dL_law_283 rfl (lv_at hl 0 rfl) ?_
  refine lv_iload_n hx hb dL_law_284 rfl (lv_at hl 3 rfl) ?_
  refine lv_iconst (v := 2) hx hb dL_law_285 (by decide) ?_
  refine lv_iadd hx hb dL_law_286 ?_
  refine va_sld hx hb hX hbl hbA hS h2 dL_law_287 ?_
  have hm1 : [0, 5, 6].map (fun i => (a.1 i, cel G a i (σ i))) = [oX5 (a.1 0) (a.1 1) (a.1 5) (a.1 7) (a.1 9) (a.1 11) (a.1 25) (a.1 30), oX3 (a.1 5) ((σ 5).1 0) (a.1 6), aI (G.2 1) (a.1 6) 49 (σ 6).2.1] := rfl
  have hPc := hP.sub [0, 5, 6] (by intro i hi; simp only [List.mem_cons, List.not_mem_nil, or_false] at hi; omega) hm1
  refine vp_callSi (va_Run.run (va_runV (As := [.int (xs (x3 + 1).toNatClampNeg), .int (xs (x3 + 2).toNatClampNeg)]) (rest := []) ⟨hx, hb, hml, hown, hts⟩ (c_X5_sign (l := l) (G := G) (p1 := (xs (x3 + 1).toNatClampNeg)) (p2 := (xs (x3 + 2).toNatClampNeg)) (q_t := a.1 0) (q_t_text := a.1 1) (q_t_table := a.1 5) (q_t_other := a.1 7) (q_t_spare := a.1 9) (q_t_past := a.1 11) (q_t_lines := a.1 25) (q_t_sizes := a.1 30) (t_table_size := ((σ 5).1 0)) (q_t_table_corners := a.1 6) (t_table_corners := (σ 6).2.1) hE5) (cwV 2 hts gL_law_X5_sign rfl rfl rfl kd_X5_sign ⟨(Nat.le_of_ble_eq_true rfl), (Nat.le_of_ble_eq_true rfl)⟩) (pv_V hKW hPc (ci := 5) (q0 := 0) rfl rfl) rfl rfl hl.1 rfl (lv_room (Nat.le_of_ble_eq_true rfl)) dL_law_288 ⟨(Nat.le_of_ble_eq_true rfl), (Nat.le_of_ble_eq_true rfl)⟩)) (fun r9 hr9 => ?_)
  subst r9
  clear hPc
  refine lv_aload_n hx hb dL_law_291 rfl (lv_at hl 2 rfl) ?_
  refine lv_aload_n hx hb dL_law_292 rfl (lv_at hl 0 rfl) ?_
  refine lv_iload_n hx hb dL_law_293 rfl (lv_at hl 3 rfl) ?_
  refine lv_iconst (v := 1) hx hb dL_law_294 (by decide) ?_
  refine lv_iadd hx hb dL_law_295 ?_
  refine va_sld hx hb hX hbl hbA hS h1 dL_law_296 ?_
  refine lv_aload_n hx hb dL_law_297 rfl (lv_at hl 0 rfl) ?_
  refine lv_iload_n hx hb dL_law_298 rfl (lv_at hl 3 rfl) ?_
  refine lv_iconst (v := 2) hx hb dL_law_299 (by decide) ?_
  refine lv_iadd hx hb dL_law_300 ?_
  refine va_sld hx hb hX hbl hbA hS h2 dL_law_301 ?_
  have hm2 : [55, 57].map (fun i => (a.1 i, cel G a i (σ i))) = [oX6 (a.1 55) ((σ 55).1 0) (a.1 56) ((σ 55).1 1) (a.1 57) ((σ 55).1 2) (a.1 58) (a.1 59) ((σ 55).1 3) ((σ 55).1 4) (a.1 60) (a.1 61) (a.1 62) (a.1 63) (a.1 64) (a.1 65) (a.1 66) ((σ 55).1 5) ((σ 55).1 6) ((σ 55).1 7) ((σ 55).1 8) (a.1 67) (a.1 68) (a.1 69), aI (G.2 1) (a.1 57) 36 (σ 57).2.1] := rfl
  have hPc := hP.sub [55, 57] (by intro i hi; simp only [List.mem_cons, List.not_mem_nil, or_false] at hi; omega) hm2
  refine vp_callSi (va_Run.run (va_runV (As := [.int (xs (x3 + 1).toNatClampNeg), .int (xs (x3 + 2).toNatClampNeg)]) (rest := [.int r]) ⟨hx, hb, hml, hown, hts⟩ (c_X6_sign (l := l) (G := G) (p1 := (xs (x3 + 1).toNatClampNeg)) (p2 := (xs (x3 + 2).toNatClampNeg)) (q_t := a.1 55) (t_length := ((σ 55).1 0)) (q_t_text := a.1 56) (t_size := ((σ 55).1 1)) (q_t_sign := a.1 57) (t_otherSize := ((σ 55).1 2)) (q_t_other := a.1 58) (q_t_before := a.1 59) (t_undoMany := ((σ 55).1 3)) (t_readSize := ((σ 55).1 4)) (q_t_read := a.1 60) (q_t_side := a.1 61) (q_t_tall := a.1 62) (q_t_endRow := a.1 63) (q_t_endColumn := a.1 64) (q_t_endSide := a.1 65) (q_t_gone := a.1 66) (t_lineRow := ((σ 55).1 5)) (t_lineColumn := ((σ 55).1 6)) (t_lineSide := ((σ 55).1 7)) (t_lineMany := ((σ 55).1 8)) (q_t_ways := a.1 67) (q_t_codes := a.1 68) (q_t_many := a.1 69) (t_sign := (σ 57).2.1) hE6) (cwV 2 hts gL_law_X6_sign rfl rfl rfl kd_X6_sign ⟨(Nat.le_of_ble_eq_true rfl), (Nat.le_of_ble_eq_true rfl)⟩) (pv_V hKW hPc (ci := 6) (q0 := 0) rfl rfl) rfl rfl hl.1 rfl (lv_room (Nat.le_of_ble_eq_true rfl)) dL_law_302 ⟨(Nat.le_of_ble_eq_true rfl), (Nat.le_of_ble_eq_true rfl)⟩)) (fun r9 hr9 => ?_)
  subst r9
  clear hPc
  refine lv_icmp_eq (tgt := 777) hx hb dL_law_305 (by decide) (fun _ => ?_) (fun c9 => absurd rfl c9)
  exact kk σ H locs ⟨⟨i1, i2, i3⟩, hRX, hZd, hRT, hRO, hZs, ⟨pS, pC, hpp, hRP⟩, hIZ⟩ hP hS
set_option maxHeartbeats 4000000 in
set_option maxRecDepth 100000 in
theorem ca_corner {p : Program} {l : Launch} {e : Env} {s : State} {m : MethodId} {below : List Frame} {meth : Method} {c : Code} {b L : Nat} {xs : Nat → Int32} {G : kG} {a : kA} {σ : Nat → cv} {H : Heap} {locs : List Loc} {ls : Array Slot} {x3 : Int32} {Q : State → Prop} (C0 : LW p s m c b L xs G a) (hI : IV σ) (hP : PW G a σ H) (hS : va_S (fun q : Nat => s.heap.size ≤ q) s.heap H locs) (h1 : vp_in (x3 + 1) L) (h2 : vp_in (x3 + 2) L) (hl : lv_has ls 4 [(0, .ref b), (1, .ref (a.1 0)), (2, .ref (a.1 55)), (3, .int x3)]) (kk : ∀ (σ' : Nat → cv) (H : Heap) (locs : List Loc), IV σ' → PW G a σ' H → va_S (fun q : Nat => s.heap.size ≤ q) s.heap H locs → W p l e room_1 s m #[Value.ref b] below meth c H locs 600000 7302250 Q (F0 m 777 ls [])) : W p l e room_1 s m #[Value.ref b] below meth c H locs 600000 7302250 Q (F0 m 310 ls []) := by
  obtain ⟨hx, hb, hml, hown, hts, hX, hbl, hKW, hAW, hDW⟩ := C0
  obtain ⟨⟨i1, i2, i3⟩, hRX, hZd, hRT, hRO, hZs, ⟨pS, pC, hpp, hRP⟩, hIZ⟩ := hI
  have hA : ∀ q : Nat, s.heap.size ≤ q → (fun q : Nat => s.heap.size ≤ q) q := fun _ h => h
  have hbA : ¬ (fun q : Nat => s.heap.size ≤ q) b := Nat.not_le.mpr hbl
  have h0 := q_corner hRT (xs (x3 + 1).toNatClampNeg) (xs (x3 + 2).toNatClampNeg)
  obtain ⟨r, hE5, hE6⟩ := h0
  rw [← i2] at hE6
  refine lv_aload_n hx hb dL_law_310 rfl (lv_at hl 1 rfl) ?_
  refine lv_aload_n hx hb dL_law_311 rfl (lv_at hl 0 rfl) ?_
  refine lv_iload_n hx hb dL_law_312 rfl (lv_at hl 3 rfl) ?_
  refine lv_iconst (v := 1) hx hb dL_law_313 (by decide) ?_
  refine lv_iadd hx hb dL_law_314 ?_
  refine va_sld hx hb hX hbl hbA hS h1 dL_law_315 ?_
  refine lv_aload_n hx hb dL_law_316 rfl (lv_at hl 0 rfl) ?_
  refine lv_iload_n hx hb dL_law_317 rfl (lv_at hl 3 rfl) ?_
  refine lv_iconst (v := 2) hx hb dL_law_318 (by decide) ?_
  refine lv_iadd hx hb dL_law_319 ?_
  refine va_sld hx hb hX hbl hbA hS h2 dL_law_320 ?_
  have hm1 : [0, 5, 6].map (fun i => (a.1 i, cel G a i (σ i))) = [oX5 (a.1 0) (a.1 1) (a.1 5) (a.1 7) (a.1 9) (a.1 11) (a.1 25) (a.1 30), oX3 (a.1 5) ((σ 5).1 0) (a.1 6), aI (G.2 1) (a.1 6) 49 (σ 6).2.1] := rfl
  have hPc := hP.sub [0, 5, 6] (by intro i hi; simp only [List.mem_cons, List.not_mem_nil, or_false] at hi; omega) hm1
  refine vp_callSi (va_Run.run (va_runV (As := [.int (xs (x3 + 1).toNatClampNeg), .int (xs (x3 + 2).toNatClampNeg)]) (rest := []) ⟨hx, hb, hml, hown, hts⟩ (c_X5_corner (l := l) (G := G) (p1 := (xs (x3 + 1).toNatClampNeg)) (p2 := (xs (x3 + 2).toNatClampNeg)) (q_t := a.1 0) (q_t_text := a.1 1) (q_t_table := a.1 5) (q_t_other := a.1 7) (q_t_spare := a.1 9) (q_t_past := a.1 11) (q_t_lines := a.1 25) (q_t_sizes := a.1 30) (t_table_size := ((σ 5).1 0)) (q_t_table_corners := a.1 6) (t_table_corners := (σ 6).2.1) hE5) (cwV 2 hts gL_law_X5_corner rfl rfl rfl kd_X5_corner ⟨(Nat.le_of_ble_eq_true rfl), (Nat.le_of_ble_eq_true rfl)⟩) (pv_V hKW hPc (ci := 5) (q0 := 0) rfl rfl) rfl rfl hl.1 rfl (lv_room (Nat.le_of_ble_eq_true rfl)) dL_law_321 ⟨(Nat.le_of_ble_eq_true rfl), (Nat.le_of_ble_eq_true rfl)⟩)) (fun r9 hr9 => ?_)
  subst r9
  clear hPc
  refine lv_aload_n hx hb dL_law_324 rfl (lv_at hl 2 rfl) ?_
  refine lv_aload_n hx hb dL_law_325 rfl (lv_at hl 0 rfl) ?_
  refine lv_iload_n hx hb dL_law_326 rfl (lv_at hl 3 rfl) ?_
  refine lv_iconst (v := 1) hx hb dL_law_327 (by decide) ?_
  refine lv_iadd hx hb dL_law_328 ?_
  refine va_sld hx hb hX hbl hbA hS h1 dL_law_329 ?_
  refine lv_aload_n hx hb dL_law_330 rfl (lv_at hl 0 rfl) ?_
  refine lv_iload_n hx hb dL_law_331 rfl (lv_at hl 3 rfl) ?_
  refine lv_iconst (v := 2) hx hb dL_law_332 (by decide) ?_
  refine lv_iadd hx hb dL_law_333 ?_
  refine va_sld hx hb hX hbl hbA hS h2 dL_law_334 ?_
  have hm2 : [55, 57].map (fun i => (a.1 i, cel G a i (σ i))) = [oX6 (a.1 55) ((σ 55).1 0) (a.1 56) ((σ 55).1 1) (a.1 57) ((σ 55).1 2) (a.1 58) (a.1 59) ((σ 55).1 3) ((σ 55).1 4) (a.1 60) (a.1 61) (a.1 62) (a.1 63) (a.1 64) (a.1 65) (a.1 66) ((σ 55).1 5) ((σ 55).1 6) ((σ 55).1 7) ((σ 55).1 8) (a.1 67) (a.1 68) (a.1 69), aI (G.2 1) (a.1 57) 36 (σ 57).2.1] := rfl
  have hPc := hP.sub [55, 57] (by intro i hi; simp only [List.mem_cons, List.not_mem_nil, or_false] at hi; omega) hm2
  refine vp_callSi (va_Run.run (va_runV (As := [.int (xs (x3 + 1).toNatClampNeg), .int (xs (x3 + 2).toNatClampNeg)]) (rest := [.int r]) ⟨hx, hb, hml, hown, hts⟩ (c_X6_corner (l := l) (G := G) (p1 := (xs (x3 + 1).toNatClampNeg)) (p2 := (xs (x3 + 2).toNatClampNeg)) (q_t := a.1 55) (t_length := ((σ 55).1 0)) (q_t_text := a.1 56) (t_size := ((σ 55).1 1)) (q_t_sign := a.1 57) (t_otherSize := ((σ 55).1 2)) (q_t_other := a.1 58) (q_t_before := a.1 59) (t_undoMany := ((σ 55).1 3)) (t_readSize := ((σ 55).1 4)) (q_t_read := a.1 60) (q_t_side := a.1 61) (q_t_tall := a.1 62) (q_t_endRow := a.1 63) (q_t_endColumn := a.1 64) (q_t_endSide := a.1 65) (q_t_gone := a.1 66) (t_lineRow := ((σ 55).1 5)) (t_lineColumn := ((σ 55).1 6)) (t_lineSide := ((σ 55).1 7)) (t_lineMany := ((σ 55).1 8)) (q_t_ways := a.1 67) (q_t_codes := a.1 68) (q_t_many := a.1 69) (t_sign := (σ 57).2.1) hE6) (cwV 2 hts gL_law_X6_corner rfl rfl rfl kd_X6_corner ⟨(Nat.le_of_ble_eq_true rfl), (Nat.le_of_ble_eq_true rfl)⟩) (pv_V hKW hPc (ci := 6) (q0 := 0) rfl rfl) rfl rfl hl.1 rfl (lv_room (Nat.le_of_ble_eq_true rfl)) dL_law_335 ⟨(Nat.le_of_ble_eq_true rfl), (Nat.le_of_ble_eq_true rfl)⟩)) (fun r9 hr9 => ?_)
  subst r9
  clear hPc
  refine lv_icmp_eq (tgt := 777) hx hb dL_law_338 (by decide) (fun _ => ?_) (fun c9 => absurd rfl c9)
  exact kk σ H locs ⟨⟨i1, i2, i3⟩, hRX, hZd, hRT, hRO, hZs, ⟨pS, pC, hpp, hRP⟩, hIZ⟩ hP hS
set_option maxHeartbeats 4000000 in
set_option maxRecDepth 100000 in
theorem ca_height {p : Program} {l : Launch} {e : Env} {s : State} {m : MethodId} {below : List Frame} {meth : Method} {c : Code} {b L : Nat} {xs : Nat → Int32} {G : kG} {a : kA} {σ : Nat → cv} {H : Heap} {locs : List Loc} {ls : Array Slot} {x3 : Int32} {Q : State → Prop} (C0 : LW p s m c b L xs G a) (hI : IV σ) (hP : PW G a σ H) (hS : va_S (fun q : Nat => s.heap.size ≤ q) s.heap H locs) (h1 : vp_in (x3 + 1) L) (h2 : vp_in (x3 + 2) L) (hl : lv_has ls 4 [(0, .ref b), (1, .ref (a.1 0)), (2, .ref (a.1 55)), (3, .int x3)]) (kk : ∀ (σ' : Nat → cv) (H : Heap) (locs : List Loc), IV σ' → PW G a σ' H → va_S (fun q : Nat => s.heap.size ≤ q) s.heap H locs → W p l e room_1 s m #[Value.ref b] below meth c H locs 600000 7302250 Q (F0 m 777 ls [])) : W p l e room_1 s m #[Value.ref b] below meth c H locs 600000 7302250 Q (F0 m 343 ls []) := by
  obtain ⟨hx, hb, hml, hown, hts, hX, hbl, hKW, hAW, hDW⟩ := C0
  obtain ⟨⟨i1, i2, i3⟩, hRX, hZd, hRT, hRO, hZs, ⟨pS, pC, hpp, hRP⟩, hIZ⟩ := hI
  have hA : ∀ q : Nat, s.heap.size ≤ q → (fun q : Nat => s.heap.size ≤ q) q := fun _ h => h
  have hbA : ¬ (fun q : Nat => s.heap.size ≤ q) b := Nat.not_le.mpr hbl
  have h0 := q_height hRT (xs (x3 + 1).toNatClampNeg) (xs (x3 + 2).toNatClampNeg)
  obtain ⟨r, hE5, hE6⟩ := h0
  rw [← i2] at hE6
  refine lv_aload_n hx hb dL_law_343 rfl (lv_at hl 1 rfl) ?_
  refine lv_aload_n hx hb dL_law_344 rfl (lv_at hl 0 rfl) ?_
  refine lv_iload_n hx hb dL_law_345 rfl (lv_at hl 3 rfl) ?_
  refine lv_iconst (v := 1) hx hb dL_law_346 (by decide) ?_
  refine lv_iadd hx hb dL_law_347 ?_
  refine va_sld hx hb hX hbl hbA hS h1 dL_law_348 ?_
  refine lv_aload_n hx hb dL_law_349 rfl (lv_at hl 0 rfl) ?_
  refine lv_iload_n hx hb dL_law_350 rfl (lv_at hl 3 rfl) ?_
  refine lv_iconst (v := 2) hx hb dL_law_351 (by decide) ?_
  refine lv_iadd hx hb dL_law_352 ?_
  refine va_sld hx hb hX hbl hbA hS h2 dL_law_353 ?_
  have hm1 : [0, 5, 6].map (fun i => (a.1 i, cel G a i (σ i))) = [oX5 (a.1 0) (a.1 1) (a.1 5) (a.1 7) (a.1 9) (a.1 11) (a.1 25) (a.1 30), oX3 (a.1 5) ((σ 5).1 0) (a.1 6), aI (G.2 1) (a.1 6) 49 (σ 6).2.1] := rfl
  have hPc := hP.sub [0, 5, 6] (by intro i hi; simp only [List.mem_cons, List.not_mem_nil, or_false] at hi; omega) hm1
  refine vp_callSi (va_Run.run (va_runV (As := [.int (xs (x3 + 1).toNatClampNeg), .int (xs (x3 + 2).toNatClampNeg)]) (rest := []) ⟨hx, hb, hml, hown, hts⟩ (c_X5_height (l := l) (G := G) (p1 := (xs (x3 + 1).toNatClampNeg)) (p2 := (xs (x3 + 2).toNatClampNeg)) (q_t := a.1 0) (q_t_text := a.1 1) (q_t_table := a.1 5) (q_t_other := a.1 7) (q_t_spare := a.1 9) (q_t_past := a.1 11) (q_t_lines := a.1 25) (q_t_sizes := a.1 30) (t_table_size := ((σ 5).1 0)) (q_t_table_corners := a.1 6) (t_table_corners := (σ 6).2.1) hE5) (cwV 2 hts gL_law_X5_height rfl rfl rfl kd_X5_height ⟨(Nat.le_of_ble_eq_true rfl), (Nat.le_of_ble_eq_true rfl)⟩) (pv_V hKW hPc (ci := 5) (q0 := 0) rfl rfl) rfl rfl hl.1 rfl (lv_room (Nat.le_of_ble_eq_true rfl)) dL_law_354 ⟨(Nat.le_of_ble_eq_true rfl), (Nat.le_of_ble_eq_true rfl)⟩)) (fun r9 hr9 => ?_)
  subst r9
  clear hPc
  refine lv_aload_n hx hb dL_law_357 rfl (lv_at hl 2 rfl) ?_
  refine lv_aload_n hx hb dL_law_358 rfl (lv_at hl 0 rfl) ?_
  refine lv_iload_n hx hb dL_law_359 rfl (lv_at hl 3 rfl) ?_
  refine lv_iconst (v := 1) hx hb dL_law_360 (by decide) ?_
  refine lv_iadd hx hb dL_law_361 ?_
  refine va_sld hx hb hX hbl hbA hS h1 dL_law_362 ?_
  refine lv_aload_n hx hb dL_law_363 rfl (lv_at hl 0 rfl) ?_
  refine lv_iload_n hx hb dL_law_364 rfl (lv_at hl 3 rfl) ?_
  refine lv_iconst (v := 2) hx hb dL_law_365 (by decide) ?_
  refine lv_iadd hx hb dL_law_366 ?_
  refine va_sld hx hb hX hbl hbA hS h2 dL_law_367 ?_
  have hm2 : [55, 57].map (fun i => (a.1 i, cel G a i (σ i))) = [oX6 (a.1 55) ((σ 55).1 0) (a.1 56) ((σ 55).1 1) (a.1 57) ((σ 55).1 2) (a.1 58) (a.1 59) ((σ 55).1 3) ((σ 55).1 4) (a.1 60) (a.1 61) (a.1 62) (a.1 63) (a.1 64) (a.1 65) (a.1 66) ((σ 55).1 5) ((σ 55).1 6) ((σ 55).1 7) ((σ 55).1 8) (a.1 67) (a.1 68) (a.1 69), aI (G.2 1) (a.1 57) 36 (σ 57).2.1] := rfl
  have hPc := hP.sub [55, 57] (by intro i hi; simp only [List.mem_cons, List.not_mem_nil, or_false] at hi; omega) hm2
  refine vp_callSi (va_Run.run (va_runV (As := [.int (xs (x3 + 1).toNatClampNeg), .int (xs (x3 + 2).toNatClampNeg)]) (rest := [.int r]) ⟨hx, hb, hml, hown, hts⟩ (c_X6_height (l := l) (G := G) (p1 := (xs (x3 + 1).toNatClampNeg)) (p2 := (xs (x3 + 2).toNatClampNeg)) (q_t := a.1 55) (t_length := ((σ 55).1 0)) (q_t_text := a.1 56) (t_size := ((σ 55).1 1)) (q_t_sign := a.1 57) (t_otherSize := ((σ 55).1 2)) (q_t_other := a.1 58) (q_t_before := a.1 59) (t_undoMany := ((σ 55).1 3)) (t_readSize := ((σ 55).1 4)) (q_t_read := a.1 60) (q_t_side := a.1 61) (q_t_tall := a.1 62) (q_t_endRow := a.1 63) (q_t_endColumn := a.1 64) (q_t_endSide := a.1 65) (q_t_gone := a.1 66) (t_lineRow := ((σ 55).1 5)) (t_lineColumn := ((σ 55).1 6)) (t_lineSide := ((σ 55).1 7)) (t_lineMany := ((σ 55).1 8)) (q_t_ways := a.1 67) (q_t_codes := a.1 68) (q_t_many := a.1 69) (t_sign := (σ 57).2.1) hE6) (cwV 2 hts gL_law_X6_height rfl rfl rfl kd_X6_height ⟨(Nat.le_of_ble_eq_true rfl), (Nat.le_of_ble_eq_true rfl)⟩) (pv_V hKW hPc (ci := 6) (q0 := 0) rfl rfl) rfl rfl hl.1 rfl (lv_room (Nat.le_of_ble_eq_true rfl)) dL_law_368 ⟨(Nat.le_of_ble_eq_true rfl), (Nat.le_of_ble_eq_true rfl)⟩)) (fun r9 hr9 => ?_)
  subst r9
  clear hPc
  refine lv_icmp_eq (tgt := 777) hx hb dL_law_371 (by decide) (fun _ => ?_) (fun c9 => absurd rfl c9)
  exact kk σ H locs ⟨⟨i1, i2, i3⟩, hRX, hZd, hRT, hRO, hZs, ⟨pS, pC, hpp, hRP⟩, hIZ⟩ hP hS
set_option maxHeartbeats 4000000 in
set_option maxRecDepth 100000 in
theorem ca_may {p : Program} {l : Launch} {e : Env} {s : State} {m : MethodId} {below : List Frame} {meth : Method} {c : Code} {b L : Nat} {xs : Nat → Int32} {G : kG} {a : kA} {σ : Nat → cv} {H : Heap} {locs : List Loc} {ls : Array Slot} {x3 : Int32} {Q : State → Prop} (C0 : LW p s m c b L xs G a) (hI : IV σ) (hP : PW G a σ H) (hS : va_S (fun q : Nat => s.heap.size ≤ q) s.heap H locs) (h1 : vp_in (x3 + 1) L) (h2 : vp_in (x3 + 2) L) (hl : lv_has ls 4 [(0, .ref b), (1, .ref (a.1 0)), (2, .ref (a.1 55)), (3, .int x3)]) (kk : ∀ (σ' : Nat → cv) (H : Heap) (locs : List Loc), IV σ' → PW G a σ' H → va_S (fun q : Nat => s.heap.size ≤ q) s.heap H locs → W p l e room_1 s m #[Value.ref b] below meth c H locs 600000 7302250 Q (F0 m 777 ls [])) : W p l e room_1 s m #[Value.ref b] below meth c H locs 600000 7302250 Q (F0 m 376 ls []) := by
  obtain ⟨hx, hb, hml, hown, hts, hX, hbl, hKW, hAW, hDW⟩ := C0
  obtain ⟨⟨i1, i2, i3⟩, hRX, hZd, hRT, hRO, hZs, ⟨pS, pC, hpp, hRP⟩, hIZ⟩ := hI
  have hA : ∀ q : Nat, s.heap.size ≤ q → (fun q : Nat => s.heap.size ≤ q) q := fun _ h => h
  have hbA : ¬ (fun q : Nat => s.heap.size ≤ q) b := Nat.not_le.mpr hbl
  have h0 := q_may hRT (xs (x3 + 1).toNatClampNeg) (xs (x3 + 2).toNatClampNeg)
  obtain ⟨r, hE5, hE6⟩ := h0
  rw [← i2] at hE6
  refine lv_aload_n hx hb dL_law_376 rfl (lv_at hl 1 rfl) ?_
  refine lv_aload_n hx hb dL_law_377 rfl (lv_at hl 0 rfl) ?_
  refine lv_iload_n hx hb dL_law_378 rfl (lv_at hl 3 rfl) ?_
  refine lv_iconst (v := 1) hx hb dL_law_379 (by decide) ?_
  refine lv_iadd hx hb dL_law_380 ?_
  refine va_sld hx hb hX hbl hbA hS h1 dL_law_381 ?_
  refine lv_aload_n hx hb dL_law_382 rfl (lv_at hl 0 rfl) ?_
  refine lv_iload_n hx hb dL_law_383 rfl (lv_at hl 3 rfl) ?_
  refine lv_iconst (v := 2) hx hb dL_law_384 (by decide) ?_
  refine lv_iadd hx hb dL_law_385 ?_
  refine va_sld hx hb hX hbl hbA hS h2 dL_law_386 ?_
  have hm1 : [0, 5, 6].map (fun i => (a.1 i, cel G a i (σ i))) = [oX5 (a.1 0) (a.1 1) (a.1 5) (a.1 7) (a.1 9) (a.1 11) (a.1 25) (a.1 30), oX3 (a.1 5) ((σ 5).1 0) (a.1 6), aI (G.2 1) (a.1 6) 49 (σ 6).2.1] := rfl
  have hPc := hP.sub [0, 5, 6] (by intro i hi; simp only [List.mem_cons, List.not_mem_nil, or_false] at hi; omega) hm1
  refine vp_callSi (va_Run.run (va_runV (As := [.int (xs (x3 + 1).toNatClampNeg), .int (xs (x3 + 2).toNatClampNeg)]) (rest := []) ⟨hx, hb, hml, hown, hts⟩ (c_X5_may (l := l) (G := G) (p1 := (xs (x3 + 1).toNatClampNeg)) (p2 := (xs (x3 + 2).toNatClampNeg)) (q_t := a.1 0) (q_t_text := a.1 1) (q_t_table := a.1 5) (q_t_other := a.1 7) (q_t_spare := a.1 9) (q_t_past := a.1 11) (q_t_lines := a.1 25) (q_t_sizes := a.1 30) (t_table_size := ((σ 5).1 0)) (q_t_table_corners := a.1 6) (t_table_corners := (σ 6).2.1) hE5) (cwV 2 hts gL_law_X5_may rfl rfl rfl kd_X5_may ⟨(Nat.le_of_ble_eq_true rfl), (Nat.le_of_ble_eq_true rfl)⟩) (pv_V hKW hPc (ci := 5) (q0 := 0) rfl rfl) rfl rfl hl.1 rfl (lv_room (Nat.le_of_ble_eq_true rfl)) dL_law_387 ⟨(Nat.le_of_ble_eq_true rfl), (Nat.le_of_ble_eq_true rfl)⟩)) (fun r9 hr9 => ?_)
  subst r9
  clear hPc
  refine lv_aload_n hx hb dL_law_390 rfl (lv_at hl 2 rfl) ?_
  refine lv_aload_n hx hb dL_law_391 rfl (lv_at hl 0 rfl) ?_
  refine lv_iload_n hx hb dL_law_392 rfl (lv_at hl 3 rfl) ?_
  refine lv_iconst (v := 1) hx hb dL_law_393 (by decide) ?_
  refine lv_iadd hx hb dL_law_394 ?_
  refine va_sld hx hb hX hbl hbA hS h1 dL_law_395 ?_
  refine lv_aload_n hx hb dL_law_396 rfl (lv_at hl 0 rfl) ?_
  refine lv_iload_n hx hb dL_law_397 rfl (lv_at hl 3 rfl) ?_
  refine lv_iconst (v := 2) hx hb dL_law_398 (by decide) ?_
  refine lv_iadd hx hb dL_law_399 ?_
  refine va_sld hx hb hX hbl hbA hS h2 dL_law_400 ?_
  have hm2 : [55, 57].map (fun i => (a.1 i, cel G a i (σ i))) = [oX6 (a.1 55) ((σ 55).1 0) (a.1 56) ((σ 55).1 1) (a.1 57) ((σ 55).1 2) (a.1 58) (a.1 59) ((σ 55).1 3) ((σ 55).1 4) (a.1 60) (a.1 61) (a.1 62) (a.1 63) (a.1 64) (a.1 65) (a.1 66) ((σ 55).1 5) ((σ 55).1 6) ((σ 55).1 7) ((σ 55).1 8) (a.1 67) (a.1 68) (a.1 69), aI (G.2 1) (a.1 57) 36 (σ 57).2.1] := rfl
  have hPc := hP.sub [55, 57] (by intro i hi; simp only [List.mem_cons, List.not_mem_nil, or_false] at hi; omega) hm2
  refine vp_callSi (va_Run.run (va_runV (As := [.int (xs (x3 + 1).toNatClampNeg), .int (xs (x3 + 2).toNatClampNeg)]) (rest := [.int r]) ⟨hx, hb, hml, hown, hts⟩ (c_X6_may (l := l) (G := G) (p1 := (xs (x3 + 1).toNatClampNeg)) (p2 := (xs (x3 + 2).toNatClampNeg)) (q_t := a.1 55) (t_length := ((σ 55).1 0)) (q_t_text := a.1 56) (t_size := ((σ 55).1 1)) (q_t_sign := a.1 57) (t_otherSize := ((σ 55).1 2)) (q_t_other := a.1 58) (q_t_before := a.1 59) (t_undoMany := ((σ 55).1 3)) (t_readSize := ((σ 55).1 4)) (q_t_read := a.1 60) (q_t_side := a.1 61) (q_t_tall := a.1 62) (q_t_endRow := a.1 63) (q_t_endColumn := a.1 64) (q_t_endSide := a.1 65) (q_t_gone := a.1 66) (t_lineRow := ((σ 55).1 5)) (t_lineColumn := ((σ 55).1 6)) (t_lineSide := ((σ 55).1 7)) (t_lineMany := ((σ 55).1 8)) (q_t_ways := a.1 67) (q_t_codes := a.1 68) (q_t_many := a.1 69) (t_sign := (σ 57).2.1) hE6) (cwV 2 hts gL_law_X6_may rfl rfl rfl kd_X6_may ⟨(Nat.le_of_ble_eq_true rfl), (Nat.le_of_ble_eq_true rfl)⟩) (pv_V hKW hPc (ci := 6) (q0 := 0) rfl rfl) rfl rfl hl.1 rfl (lv_room (Nat.le_of_ble_eq_true rfl)) dL_law_401 ⟨(Nat.le_of_ble_eq_true rfl), (Nat.le_of_ble_eq_true rfl)⟩)) (fun r9 hr9 => ?_)
  subst r9
  clear hPc
  refine lv_icmp_eq (tgt := 777) hx hb dL_law_404 (by decide) (fun _ => ?_) (fun c9 => absurd rfl c9)
  exact kk σ H locs ⟨⟨i1, i2, i3⟩, hRX, hZd, hRT, hRO, hZs, ⟨pS, pC, hpp, hRP⟩, hIZ⟩ hP hS
set_option maxHeartbeats 4000000 in
set_option maxRecDepth 100000 in
theorem ca_count {p : Program} {l : Launch} {e : Env} {s : State} {m : MethodId} {below : List Frame} {meth : Method} {c : Code} {b L : Nat} {xs : Nat → Int32} {G : kG} {a : kA} {σ : Nat → cv} {H : Heap} {locs : List Loc} {ls : Array Slot} {x3 : Int32} {Q : State → Prop} (C0 : LW p s m c b L xs G a) (hI : IV σ) (hP : PW G a σ H) (hS : va_S (fun q : Nat => s.heap.size ≤ q) s.heap H locs) (h1 : vp_in (x3 + 1) L) (hl : lv_has ls 4 [(0, .ref b), (1, .ref (a.1 0)), (2, .ref (a.1 55)), (3, .int x3)]) (kk : ∀ (σ' : Nat → cv) (H : Heap) (locs : List Loc), IV σ' → PW G a σ' H → va_S (fun q : Nat => s.heap.size ≤ q) s.heap H locs → W p l e room_1 s m #[Value.ref b] below meth c H locs 600000 7302250 Q (F0 m 777 ls [])) : W p l e room_1 s m #[Value.ref b] below meth c H locs 600000 7302250 Q (F0 m 409 ls []) := by
  obtain ⟨hx, hb, hml, hown, hts, hX, hbl, hKW, hAW, hDW⟩ := C0
  obtain ⟨⟨i1, i2, i3⟩, hRX, hZd, hRT, hRO, hZs, ⟨pS, pC, hpp, hRP⟩, hIZ⟩ := hI
  have hA : ∀ q : Nat, s.heap.size ≤ q → (fun q : Nat => s.heap.size ≤ q) q := fun _ h => h
  have hbA : ¬ (fun q : Nat => s.heap.size ≤ q) b := Nat.not_le.mpr hbl
  have h0 := p_count (oS := (σ 7).1 0) (len := (σ 1).1 0) (oC := (σ 8).2.1) (on := (σ 58).2.1) (lt := (σ 2).2.1) (tx := (σ 56).2.1) (qa := (σ 25).1 0) (qb := (σ 25).1 1) (qc := (σ 25).1 2) (qd := (σ 25).1 3) (qe := (σ 25).1 4) (qf := (σ 25).1 5) (qg := (σ 25).1 6) (pa := (σ 26).2.1) (ln := (σ 27).2.1) (O := (σ 28).2.1) (em := (σ 29).2.1) (la := (σ 55).1 5) (lb := (σ 55).1 6) (lc := (σ 55).1 7) (ld := (σ 55).1 8) (eR := (σ 63).2.1) (eC := (σ 64).2.1) (eS := (σ 65).2.1) (g := (σ 66).2.1) hRT hRP (xs (x3 + 1).toNatClampNeg)
  obtain ⟨r, a1, a2, a3, a4, a5, a6, a7, b1, b2, b3, b4, c1, c2, c3, c4, d1, d2, d3, d4, hE5, hE6⟩ := h0
  rw [← i1] at hE6
  rw [← i2] at hE6
  rw [← i3] at hE6
  refine lv_aload_n hx hb dL_law_409 rfl (lv_at hl 1 rfl) ?_
  refine lv_aload_n hx hb dL_law_410 rfl (lv_at hl 0 rfl) ?_
  refine lv_iload_n hx hb dL_law_411 rfl (lv_at hl 3 rfl) ?_
  refine lv_iconst (v := 1) hx hb dL_law_412 (by decide) ?_
  refine lv_iadd hx hb dL_law_413 ?_
  refine va_sld hx hb hX hbl hbA hS h1 dL_law_414 ?_
  have hm1 : [0, 1, 5, 6, 7, 11, 25, 26, 27, 28, 29].map (fun i => (a.1 i, cel G a i (σ i))) = [oX5 (a.1 0) (a.1 1) (a.1 5) (a.1 7) (a.1 9) (a.1 11) (a.1 25) (a.1 30), oX4 (a.1 1) (a.1 2) ((σ 1).1 0) (a.1 3) ((σ 1).1 1) ((σ 1).1 2) ((σ 1).1 3), oX3 (a.1 5) ((σ 5).1 0) (a.1 6), aI (G.2 1) (a.1 6) 49 (σ 6).2.1, oX3 (a.1 7) ((σ 7).1 0) (a.1 8), oX2 (a.1 11) (a.1 12) ((σ 11).1 0) ((σ 11).1 1), oX1 (a.1 25) (a.1 26) (a.1 27) ((σ 25).1 0) ((σ 25).1 1) ((σ 25).1 2) ((σ 25).1 3) (a.1 28) (a.1 29) ((σ 25).1 4) ((σ 25).1 5) ((σ 25).1 6), aI (G.2 1) (a.1 26) 12 (σ 26).2.1, aI (G.2 1) (a.1 27) 12 (σ 27).2.1, aI (G.2 1) (a.1 28) 49 (σ 28).2.1, aI (G.2 1) (a.1 29) 24 (σ 29).2.1] := rfl
  have hPc := hP.sub [0, 1, 5, 6, 7, 11, 25, 26, 27, 28, 29] (by intro i hi; simp only [List.mem_cons, List.not_mem_nil, or_false] at hi; omega) hm1
  have hDc := hDW.sub [0, 1, 5, 6, 7, 11, 25, 26, 27, 28, 29] (by intro i hi; simp only [List.mem_cons, List.not_mem_nil, or_false] at hi; omega) (by decide) hm1
  have hFc := hDW.free hS hA [0, 1, 5, 6, 7, 11, 25, 26, 27, 28, 29] (by intro i hi; simp only [List.mem_cons, List.not_mem_nil, or_false] at hi; omega) hm1
  refine va_calli (va_runV (As := [.int (xs (x3 + 1).toNatClampNeg)]) (rest := []) ⟨hx, hb, hml, hown, hts⟩ (c_X5_count (l := l) (G := G) _ (p1 := (xs (x3 + 1).toNatClampNeg)) (q_t := a.1 0) (q_t_text := a.1 1) (q_t_table := a.1 5) (q_t_other := a.1 7) (q_t_spare := a.1 9) (q_t_past := a.1 11) (q_t_lines := a.1 25) (q_t_sizes := a.1 30) (q_t_text_letters := a.1 2) (t_text_length := ((σ 1).1 0)) (q_t_text_draft := a.1 3) (t_text_rowsEnded := ((σ 1).1 1)) (t_text_rowLength := ((σ 1).1 2)) (t_text_rowSum := ((σ 1).1 3)) (t_table_size := ((σ 5).1 0)) (q_t_table_corners := a.1 6) (t_table_corners := (σ 6).2.1) (t_other_size := ((σ 7).1 0)) (q_t_other_corners := a.1 8) (q_t_past_tables := a.1 12) (t_past_free := ((σ 11).1 0)) (t_past_held := ((σ 11).1 1)) (q_t_lines_partners := a.1 26) (q_t_lines_lengths := a.1 27) (t_lines_ringEdges := ((σ 25).1 0)) (t_lines_rings := ((σ 25).1 1)) (t_lines_size := ((σ 25).1 2)) (t_lines_ends := ((σ 25).1 3)) (q_t_lines_open := a.1 28) (q_t_lines_endAtRim := a.1 29) (t_lines_row := ((σ 25).1 4)) (t_lines_column := ((σ 25).1 5)) (t_lines_side := ((σ 25).1 6)) (t_lines_partners := (σ 26).2.1) (t_lines_lengths := (σ 27).2.1) (t_lines_open := (σ 28).2.1) (t_lines_endAtRim := (σ 29).2.1) hE5) (cwV 1 hts gL_law_X5_count rfl rfl rfl kd_X5_count ⟨(Nat.le_of_ble_eq_true rfl), (Nat.le_of_ble_eq_true rfl)⟩) (iv_V hKW hPc hDc (ci := 5) (q0 := 0) rfl rfl) rfl rfl hl.1 rfl (lv_room (Nat.le_of_ble_eq_true rfl)) dL_law_415 ⟨(Nat.le_of_ble_eq_true rfl), (Nat.le_of_ble_eq_true rfl)⟩) hS (fun q _ h => hFc q h) hFc (fun r9 u9 t9 H1 locs ht9 hvm9 hw9 hB9 hz9 hk9 hS => ?_)
  have hw9 : r9 = r := hw9
  subst r9
  obtain ⟨hQ1, -⟩ := hB9
  rw [ht9] at hQ1
  obtain ⟨σ1, f0, f1, f2, f3, f4, n1⟩ : ∃ σ1 : Nat → cv, σ1 25 = oI [a1, a2, a3, a4, a5, a6, a7] ∧ σ1 26 = oF c1 ∧ σ1 27 = oF c2 ∧ σ1 28 = oF c3 ∧ σ1 29 = oF c4 ∧ ∀ i, i ≠ 25 → i ≠ 26 → i ≠ 27 → i ≠ 28 → i ≠ 29 → σ1 i = σ i := ⟨up (up (up (up (up σ 25 (oI [a1, a2, a3, a4, a5, a6, a7])) 26 (oF c1)) 27 (oF c2)) 28 (oF c3)) 29 (oF c4), by simp (disch := omega) only [up_s, up_n], by simp (disch := omega) only [up_s, up_n], by simp (disch := omega) only [up_s, up_n], by simp (disch := omega) only [up_s, up_n], by simp (disch := omega) only [up_s, up_n], fun i g_0 g_1 g_2 g_3 g_4 => by simp (disch := assumption) only [up_n]⟩
  have hm1w : [0, 1, 5, 6, 7, 11, 25, 26, 27, 28, 29].map (fun i => (a.1 i, cel G a i (σ1 i))) = [oX5 (a.1 0) (a.1 1) (a.1 5) (a.1 7) (a.1 9) (a.1 11) (a.1 25) (a.1 30), oX4 (a.1 1) (a.1 2) ((σ 1).1 0) (a.1 3) ((σ 1).1 1) ((σ 1).1 2) ((σ 1).1 3), oX3 (a.1 5) ((σ 5).1 0) (a.1 6), aI (G.2 1) (a.1 6) 49 (σ 6).2.1, oX3 (a.1 7) ((σ 7).1 0) (a.1 8), oX2 (a.1 11) (a.1 12) ((σ 11).1 0) ((σ 11).1 1), oX1 (a.1 25) (a.1 26) (a.1 27) a1 a2 a3 a4 (a.1 28) (a.1 29) a5 a6 a7, aI (G.2 1) (a.1 26) 12 c1, aI (G.2 1) (a.1 27) 12 c2, aI (G.2 1) (a.1 28) 49 c3, aI (G.2 1) (a.1 29) 24 c4] := (by simp (disch := omega) only [List.map_cons, List.map_nil, f0, f1, f2, f3, f4, n1] <;> rfl)
  have hP1w : PW G a σ1 H1 := hP.over hDW [0, 1, 5, 6, 7, 11, 25, 26, 27, 28, 29] (by intro i hi; simp only [List.mem_cons, List.not_mem_nil, or_false] at hi; omega) hm1 hm1w (fun i hi => n1 i (fun e9 => hi (by rw [e9]; simp)) (fun e9 => hi (by rw [e9]; simp)) (fun e9 => hi (by rw [e9]; simp)) (fun e9 => hi (by rw [e9]; simp)) (fun e9 => hi (by rw [e9]; simp))) hk9 hQ1
  clear hPc hDc hFc hQ1 hk9 hz9 hvm9 hm1 hm1w
  refine lv_aload_n hx hb dL_law_418 rfl (lv_at hl 2 rfl) ?_
  refine lv_aload_n hx hb dL_law_419 rfl (lv_at hl 0 rfl) ?_
  refine lv_iload_n hx hb dL_law_420 rfl (lv_at hl 3 rfl) ?_
  refine lv_iconst (v := 1) hx hb dL_law_421 (by decide) ?_
  refine lv_iadd hx hb dL_law_422 ?_
  refine va_sld hx hb hX hbl hbA hS h1 dL_law_423 ?_
  have hm2 : [55, 57, 63, 64, 65, 66].map (fun i => (a.1 i, cel G a i (σ1 i))) = [oX6 (a.1 55) ((σ 55).1 0) (a.1 56) ((σ 55).1 1) (a.1 57) ((σ 55).1 2) (a.1 58) (a.1 59) ((σ 55).1 3) ((σ 55).1 4) (a.1 60) (a.1 61) (a.1 62) (a.1 63) (a.1 64) (a.1 65) (a.1 66) ((σ 55).1 5) ((σ 55).1 6) ((σ 55).1 7) ((σ 55).1 8) (a.1 67) (a.1 68) (a.1 69), aI (G.2 1) (a.1 57) 36 (σ 57).2.1, aI (G.2 1) (a.1 63) 12 (σ 63).2.1, aI (G.2 1) (a.1 64) 12 (σ 64).2.1, aI (G.2 1) (a.1 65) 12 (σ 65).2.1, aI (G.2 3) (a.1 66) 36 (σ 66).2.1] := (by simp (disch := omega) only [List.map_cons, List.map_nil, n1] <;> rfl)
  have hPc := hP1w.sub [55, 57, 63, 64, 65, 66] (by intro i hi; simp only [List.mem_cons, List.not_mem_nil, or_false] at hi; omega) hm2
  have hDc := hDW.sub [55, 57, 63, 64, 65, 66] (by intro i hi; simp only [List.mem_cons, List.not_mem_nil, or_false] at hi; omega) (by decide) hm2
  have hFc := hDW.free hS hA [55, 57, 63, 64, 65, 66] (by intro i hi; simp only [List.mem_cons, List.not_mem_nil, or_false] at hi; omega) hm2
  refine va_calli (va_runV (As := [.int (xs (x3 + 1).toNatClampNeg)]) (rest := [.int r]) ⟨hx, hb, hml, hown, hts⟩ (c_X6_count (l := l) (G := G) _ (p1 := (xs (x3 + 1).toNatClampNeg)) (q_t := a.1 55) (t_length := ((σ 55).1 0)) (q_t_text := a.1 56) (t_size := ((σ 55).1 1)) (q_t_sign := a.1 57) (t_otherSize := ((σ 55).1 2)) (q_t_other := a.1 58) (q_t_before := a.1 59) (t_undoMany := ((σ 55).1 3)) (t_readSize := ((σ 55).1 4)) (q_t_read := a.1 60) (q_t_side := a.1 61) (q_t_tall := a.1 62) (q_t_endRow := a.1 63) (q_t_endColumn := a.1 64) (q_t_endSide := a.1 65) (q_t_gone := a.1 66) (t_lineRow := ((σ 55).1 5)) (t_lineColumn := ((σ 55).1 6)) (t_lineSide := ((σ 55).1 7)) (t_lineMany := ((σ 55).1 8)) (q_t_ways := a.1 67) (q_t_codes := a.1 68) (q_t_many := a.1 69) (t_sign := (σ 57).2.1) (t_endRow := (σ 63).2.1) (t_endColumn := (σ 64).2.1) (t_endSide := (σ 65).2.1) (t_gone := (σ 66).2.1) hE6) (cwV 1 hts gL_law_X6_count rfl rfl rfl kd_X6_count ⟨(Nat.le_of_ble_eq_true rfl), (Nat.le_of_ble_eq_true rfl)⟩) (iv_V hKW hPc hDc (ci := 6) (q0 := 0) rfl rfl) rfl rfl hl.1 rfl (lv_room (Nat.le_of_ble_eq_true rfl)) dL_law_424 ⟨(Nat.le_of_ble_eq_true rfl), (Nat.le_of_ble_eq_true rfl)⟩) hS (fun q _ h => hFc q h) hFc (fun r9 u9 t9 H1 locs ht9 hvm9 hw9 hB9 hz9 hk9 hS => ?_)
  have hw9 : r9 = r := hw9
  subst r9
  obtain ⟨hQ1, -⟩ := hB9
  rw [ht9] at hQ1
  obtain ⟨σ2, g0, g1, g2, g3, g4, n2⟩ : ∃ σ2 : Nat → cv, σ2 55 = oI [((σ 55).1 0), ((σ 55).1 1), ((σ 55).1 2), ((σ 55).1 3), ((σ 55).1 4), b1, b2, b3, b4] ∧ σ2 63 = oF d1 ∧ σ2 64 = oF d2 ∧ σ2 65 = oF d3 ∧ σ2 66 = oF d4 ∧ ∀ i, i ≠ 55 → i ≠ 63 → i ≠ 64 → i ≠ 65 → i ≠ 66 → σ2 i = σ1 i := ⟨up (up (up (up (up σ1 55 (oI [((σ 55).1 0), ((σ 55).1 1), ((σ 55).1 2), ((σ 55).1 3), ((σ 55).1 4), b1, b2, b3, b4])) 63 (oF d1)) 64 (oF d2)) 65 (oF d3)) 66 (oF d4), by simp (disch := omega) only [up_s, up_n], by simp (disch := omega) only [up_s, up_n], by simp (disch := omega) only [up_s, up_n], by simp (disch := omega) only [up_s, up_n], by simp (disch := omega) only [up_s, up_n], fun i g_0 g_1 g_2 g_3 g_4 => by simp (disch := assumption) only [up_n]⟩
  have hm2w : [55, 57, 63, 64, 65, 66].map (fun i => (a.1 i, cel G a i (σ2 i))) = [oX6 (a.1 55) ((σ 55).1 0) (a.1 56) ((σ 55).1 1) (a.1 57) ((σ 55).1 2) (a.1 58) (a.1 59) ((σ 55).1 3) ((σ 55).1 4) (a.1 60) (a.1 61) (a.1 62) (a.1 63) (a.1 64) (a.1 65) (a.1 66) b1 b2 b3 b4 (a.1 67) (a.1 68) (a.1 69), aI (G.2 1) (a.1 57) 36 (σ 57).2.1, aI (G.2 1) (a.1 63) 12 d1, aI (G.2 1) (a.1 64) 12 d2, aI (G.2 1) (a.1 65) 12 d3, aI (G.2 3) (a.1 66) 36 d4] := (by simp (disch := omega) only [List.map_cons, List.map_nil, g0, g1, g2, g3, g4, n2, n1] <;> rfl)
  have hP2w : PW G a σ2 H1 := hP1w.over hDW [55, 57, 63, 64, 65, 66] (by intro i hi; simp only [List.mem_cons, List.not_mem_nil, or_false] at hi; omega) hm2 hm2w (fun i hi => n2 i (fun e9 => hi (by rw [e9]; simp)) (fun e9 => hi (by rw [e9]; simp)) (fun e9 => hi (by rw [e9]; simp)) (fun e9 => hi (by rw [e9]; simp)) (fun e9 => hi (by rw [e9]; simp))) hk9 hQ1
  clear hPc hDc hFc hQ1 hk9 hz9 hvm9 hm2 hm2w
  refine lv_icmp_eq (tgt := 777) hx hb dL_law_427 (by decide) (fun _ => ?_) (fun c9 => absurd rfl c9)
  exact kk σ2 _ _ ⟨⟨(by simp (disch := omega) only [f0, f1, f2, f3, f4, g0, g1, g2, g3, g4, n1, n2] <;> first | exact i1 | rfl), (by simp (disch := omega) only [f0, f1, f2, f3, f4, g0, g1, g2, g3, g4, n1, n2] <;> first | exact i2 | rfl), (by simp (disch := omega) only [f0, f1, f2, f3, f4, g0, g1, g2, g3, g4, n1, n2] <;> first | exact i3 | rfl)⟩, (by simp (disch := omega) only [f0, f1, f2, f3, f4, g0, g1, g2, g3, g4, n1, n2] <;> first | exact hRX | rfl), (by simp (disch := omega) only [f0, f1, f2, f3, f4, g0, g1, g2, g3, g4, n1, n2] <;> first | exact hZd | rfl), (by simp (disch := omega) only [f0, f1, f2, f3, f4, g0, g1, g2, g3, g4, n1, n2] <;> first | exact hRT | rfl), (by simp (disch := omega) only [f0, f1, f2, f3, f4, g0, g1, g2, g3, g4, n1, n2] <;> first | exact hRO | rfl), (by simp (disch := omega) only [f0, f1, f2, f3, f4, g0, g1, g2, g3, g4, n1, n2] <;> first | exact hZs | rfl), ⟨pS, pC, fun j hj => by simp (disch := omega) only [f0, f1, f2, f3, f4, g0, g1, g2, g3, g4, n1, n2] <;> exact hpp j hj, (by simp (disch := omega) only [f0, f1, f2, f3, f4, g0, g1, g2, g3, g4, n1, n2] <;> first | exact hRP | rfl)⟩, fun j hj => by simp (disch := omega) only [f0, f1, f2, f3, f4, g0, g1, g2, g3, g4, n1, n2] <;> exact hIZ j hj⟩ hP2w hS
