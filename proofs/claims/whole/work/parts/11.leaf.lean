def S_X5_isBetween (p1 : Int32) (p2 : Int32) (p3 : Int32) : Option Int32 := if p1 < p2 then some (0 : Int32) else if p3 < p1 then some (0 : Int32) else some (1 : Int32)
theorem kd_X5_isBetween : yX5_isBetween.cls ≠ "java/lang/invoke/MethodHandle" ∧ yX5_isBetween.cls ≠ "java/lang/invoke/VarHandle" ∧ (parseMethodDescriptor yX5_isBetween.desc).map (fun d => d.parameters.length) = some 3 := by decide +kernel
set_option maxHeartbeats 4000000 in
set_option maxRecDepth 100000 in
theorem c_X5_isBetween {l : Launch} {G : kG} {p1 : Int32} {p2 : Int32} {p3 : Int32} {res : Int32} (hE : S_X5_isBetween p1 p2 p3 = some res) : Met l yX5_isBetween wsX5_isBetween ({ frames := 0, cells := 0, slots := 0, locals := 0 }) (va_Pc [.int p1, .int p2, .int p3] (fun U => va_P G.1 vwCl [] U.heap ∧ kw G U)) (vp_Si (fun r => r = res)) 0 0 (fun _ => False) := by
  refine Met.ofQ (cc := cX5_isBetween) (maxL := 3) (ret := (some .boolean)) (by decide) rfl ?_
  intro p e s m args below meth c s₁ Q hQ B hml hv
  obtain ⟨rfl, hP, hKW⟩ := hv
  have hK := hKW.1
  have hx := B.exec
  have hb := B.bytes
  have hr := B.returns
  have hts := atoms_spec (ws := wsX5_isBetween) B.pre
  have hown : s.vm.findClass RX5 = some m.cls := findClass_of_methodNamed B.named
  have hlocks := B.notSynchronized
  have hl := lv_entry ([.int p1, .int p2, .int p3]) (n := 3) (Nat.le_of_ble_eq_true rfl)
  rw [lg_entry_eq]
  generalize (lg_sl ([.int p1, .int p2, .int p3]) ++ List.replicate (3 - (lg_sl ([.int p1, .int p2, .int p3])).length) Slot.unset).toArray = ls at hl ⊢
  have hl : lv_has ls 3 [(0, .int p1), (1, .int p2), (2, .int p3)] := hl
  unfold S_X5_isBetween at hE
  refine lv_iload_n hx hb dX5_isBetween_0 rfl (lv_at hl 0 rfl) ?_
  refine lv_iload_n hx hb dX5_isBetween_1 rfl (lv_at hl 1 rfl) ?_
  refine lv_icmp_lt (tgt := 14) hx hb dX5_isBetween_2 (by decide) (fun c_2 => ?_) (fun c_2 => ?_)
  · replace hE := (if_pos c_2).symm.trans hE
    refine lv_iconst (v := 0) hx hb dX5_isBetween_14 (by decide) ?_
    have e_0 := Option.some.inj hE
    rw [hQ]
    exact W.zret (v := (0 : Int32)) hx hb hr rfl (fun t ht _ => ⟨_, rfl, e_0, ht⟩) (fun q h => by cases h) dX5_isBetween_15
  · replace hE := (if_neg c_2).symm.trans hE
    refine lv_iload_n hx hb dX5_isBetween_5 rfl (lv_at hl 0 rfl) ?_
    refine lv_iload_n hx hb dX5_isBetween_6 rfl (lv_at hl 2 rfl) ?_
    refine lv_icmp_gt (tgt := 14) hx hb dX5_isBetween_7 (by decide) (fun c_7 => ?_) (fun c_7 => ?_)
    · replace hE := (if_pos c_7).symm.trans hE
      refine lv_iconst (v := 0) hx hb dX5_isBetween_14 (by decide) ?_
      have e_0 := Option.some.inj hE
      rw [hQ]
      exact W.zret (v := (0 : Int32)) hx hb hr rfl (fun t ht _ => ⟨_, rfl, e_0, ht⟩) (fun q h => by cases h) dX5_isBetween_15
    · replace hE := (if_neg c_7).symm.trans hE
      refine lv_iconst (v := 1) hx hb dX5_isBetween_10 (by decide) ?_
      refine lv_goto (tgt := 15) hx hb dX5_isBetween_11 (by decide) ?_
      have e_0 := Option.some.inj hE
      rw [hQ]
      exact W.zret (v := (1 : Int32)) hx hb hr rfl (fun t ht _ => ⟨_, rfl, e_0, ht⟩) (fun q h => by cases h) dX5_isBetween_15
def S_J6_bitCount_0f7a4 (p1 : Int32) : Option Int32 := (some (p1 - (((p1.toUInt32 >>> ((1 : Int32).toUInt32 &&& Int32.toUInt32 31)).toInt32) &&& (1431655765 : Int32)))).bind (fun (z_9 : Int32) => (some ((z_9 &&& (858993459 : Int32)) + (((z_9.toUInt32 >>> ((2 : Int32).toUInt32 &&& Int32.toUInt32 31)).toInt32) &&& (858993459 : Int32)))).bind (fun (z_23 : Int32) => (some ((z_23 + ((z_23.toUInt32 >>> ((4 : Int32).toUInt32 &&& Int32.toUInt32 31)).toInt32)) &&& (252645135 : Int32))).bind (fun (z_33 : Int32) => (some (z_33 + ((z_33.toUInt32 >>> ((8 : Int32).toUInt32 &&& Int32.toUInt32 31)).toInt32))).bind (fun (z_40 : Int32) => (some (z_40 + ((z_40.toUInt32 >>> ((16 : Int32).toUInt32 &&& Int32.toUInt32 31)).toInt32))).bind (fun (z_47 : Int32) => some (z_47 &&& (63 : Int32)))))))
theorem kd_J6_bitCount_0f7a4 : yJ6_bitCount_0f7a4.cls ≠ "java/lang/invoke/MethodHandle" ∧ yJ6_bitCount_0f7a4.cls ≠ "java/lang/invoke/VarHandle" ∧ (parseMethodDescriptor yJ6_bitCount_0f7a4.desc).map (fun d => d.parameters.length) = some 1 := by decide +kernel
set_option maxHeartbeats 4000000 in
set_option maxRecDepth 100000 in
theorem c_J6_bitCount_0f7a4 {l : Launch} {G : kG} {p1 : Int32} {res : Int32} (hE : S_J6_bitCount_0f7a4 p1 = some res) : Met l yJ6_bitCount_0f7a4 wsJ6_bitCount_0f7a4 ({ frames := 0, cells := 0, slots := 0, locals := 0 }) (va_Pc [.int p1] (fun U => va_P G.1 vwCl [] U.heap ∧ kw G U)) (vp_Si (fun r => r = res)) 0 0 (fun _ => False) := by
  refine Met.ofQ (cc := cJ6_bitCount_0f7a4) (maxL := 1) (ret := (some .int)) (by decide) rfl ?_
  intro p e s m args below meth c s₁ Q hQ B hml hv
  obtain ⟨rfl, hP, hKW⟩ := hv
  have hK := hKW.1
  have hx := B.exec
  have hb := B.bytes
  have hr := B.returns
  have hts := atoms_spec (ws := wsJ6_bitCount_0f7a4) B.pre
  have hown : s.vm.findClass RJ6 = some m.cls := findClass_of_methodNamed B.named
  have hlocks := B.notSynchronized
  have hl := lv_entry ([.int p1]) (n := 1) (Nat.le_of_ble_eq_true rfl)
  rw [lg_entry_eq]
  generalize (lg_sl ([.int p1]) ++ List.replicate (1 - (lg_sl ([.int p1])).length) Slot.unset).toArray = ls at hl ⊢
  have hl : lv_has ls 1 [(0, .int p1)] := hl
  unfold S_J6_bitCount_0f7a4 at hE
  refine lv_iload_n hx hb dJ6_bitCount_0f7a4_0 rfl (lv_at hl 0 rfl) ?_
  refine lv_iload_n hx hb dJ6_bitCount_0f7a4_1 rfl (lv_at hl 0 rfl) ?_
  refine lv_iconst (v := 1) hx hb dJ6_bitCount_0f7a4_2 (by decide) ?_
  refine lv_iushr (v := (p1.toUInt32 >>> ((1 : Int32).toUInt32 &&& Int32.toUInt32 31)).toInt32) hx hb dJ6_bitCount_0f7a4_3 rfl ?_
  refine lv_ldcw (v := 1431655765) hx hb hown (hts (.constant RJ6 265 1431655765) (by decide +kernel)) dJ6_bitCount_0f7a4_4 ?_
  refine lv_iand hx hb dJ6_bitCount_0f7a4_7 ?_
  refine lv_isub hx hb dJ6_bitCount_0f7a4_8 ?_
  refine lv_topi (fun z_9 ez9 => ?_)
  rw [← ez9] at hE
  replace hE := bs_some hE
  try dsimp only at hE
  clear ez9
  refine lv_istore_n (lv' := [(0, .int z_9)]) hx hb dJ6_bitCount_0f7a4_9 rfl hl (by decide) rfl (fun ls hl => ?_)
  refine lv_iload_n hx hb dJ6_bitCount_0f7a4_10 rfl (lv_at hl 0 rfl) ?_
  refine lv_ldcw (v := 858993459) hx hb hown (hts (.constant RJ6 266 858993459) (by decide +kernel)) dJ6_bitCount_0f7a4_11 ?_
  refine lv_iand hx hb dJ6_bitCount_0f7a4_14 ?_
  refine lv_iload_n hx hb dJ6_bitCount_0f7a4_15 rfl (lv_at hl 0 rfl) ?_
  refine lv_iconst (v := 2) hx hb dJ6_bitCount_0f7a4_16 (by decide) ?_
  refine lv_iushr (v := (z_9.toUInt32 >>> ((2 : Int32).toUInt32 &&& Int32.toUInt32 31)).toInt32) hx hb dJ6_bitCount_0f7a4_17 rfl ?_
  refine lv_ldcw (v := 858993459) hx hb hown (hts (.constant RJ6 266 858993459) (by decide +kernel)) dJ6_bitCount_0f7a4_18 ?_
  refine lv_iand hx hb dJ6_bitCount_0f7a4_21 ?_
  refine lv_iadd hx hb dJ6_bitCount_0f7a4_22 ?_
  refine lv_topi (fun z_23 ez9 => ?_)
  rw [← ez9] at hE
  replace hE := bs_some hE
  try dsimp only at hE
  clear ez9
  refine lv_istore_n (lv' := [(0, .int z_23)]) hx hb dJ6_bitCount_0f7a4_23 rfl hl (by decide) rfl (fun ls hl => ?_)
  refine lv_iload_n hx hb dJ6_bitCount_0f7a4_24 rfl (lv_at hl 0 rfl) ?_
  refine lv_iload_n hx hb dJ6_bitCount_0f7a4_25 rfl (lv_at hl 0 rfl) ?_
  refine lv_iconst (v := 4) hx hb dJ6_bitCount_0f7a4_26 (by decide) ?_
  refine lv_iushr (v := (z_23.toUInt32 >>> ((4 : Int32).toUInt32 &&& Int32.toUInt32 31)).toInt32) hx hb dJ6_bitCount_0f7a4_27 rfl ?_
  refine lv_iadd hx hb dJ6_bitCount_0f7a4_28 ?_
  refine lv_ldcw (v := 252645135) hx hb hown (hts (.constant RJ6 267 252645135) (by decide +kernel)) dJ6_bitCount_0f7a4_29 ?_
  refine lv_iand hx hb dJ6_bitCount_0f7a4_32 ?_
  refine lv_topi (fun z_33 ez9 => ?_)
  rw [← ez9] at hE
  replace hE := bs_some hE
  try dsimp only at hE
  clear ez9
  refine lv_istore_n (lv' := [(0, .int z_33)]) hx hb dJ6_bitCount_0f7a4_33 rfl hl (by decide) rfl (fun ls hl => ?_)
  refine lv_iload_n hx hb dJ6_bitCount_0f7a4_34 rfl (lv_at hl 0 rfl) ?_
  refine lv_iload_n hx hb dJ6_bitCount_0f7a4_35 rfl (lv_at hl 0 rfl) ?_
  refine lv_bipush (v := 8) hx hb dJ6_bitCount_0f7a4_36 (by decide) ?_
  refine lv_iushr (v := (z_33.toUInt32 >>> ((8 : Int32).toUInt32 &&& Int32.toUInt32 31)).toInt32) hx hb dJ6_bitCount_0f7a4_38 rfl ?_
  refine lv_iadd hx hb dJ6_bitCount_0f7a4_39 ?_
  refine lv_topi (fun z_40 ez9 => ?_)
  rw [← ez9] at hE
  replace hE := bs_some hE
  try dsimp only at hE
  clear ez9
  refine lv_istore_n (lv' := [(0, .int z_40)]) hx hb dJ6_bitCount_0f7a4_40 rfl hl (by decide) rfl (fun ls hl => ?_)
  refine lv_iload_n hx hb dJ6_bitCount_0f7a4_41 rfl (lv_at hl 0 rfl) ?_
  refine lv_iload_n hx hb dJ6_bitCount_0f7a4_42 rfl (lv_at hl 0 rfl) ?_
  refine lv_bipush (v := 16) hx hb dJ6_bitCount_0f7a4_43 (by decide) ?_
  refine lv_iushr (v := (z_40.toUInt32 >>> ((16 : Int32).toUInt32 &&& Int32.toUInt32 31)).toInt32) hx hb dJ6_bitCount_0f7a4_45 rfl ?_
  refine lv_iadd hx hb dJ6_bitCount_0f7a4_46 ?_
  refine lv_topi (fun z_47 ez9 => ?_)
  rw [← ez9] at hE
  replace hE := bs_some hE
  try dsimp only at hE
  clear ez9
  refine lv_istore_n (lv' := [(0, .int z_47)]) hx hb dJ6_bitCount_0f7a4_47 rfl hl (by decide) rfl (fun ls hl => ?_)
  refine lv_iload_n hx hb dJ6_bitCount_0f7a4_48 rfl (lv_at hl 0 rfl) ?_
  refine lv_bipush (v := 63) hx hb dJ6_bitCount_0f7a4_49 (by decide) ?_
  refine lv_iand hx hb dJ6_bitCount_0f7a4_51 ?_
  have e_0 := Option.some.inj hE
  rw [hQ]
  exact W.iret (v := z_47 &&& (63 : Int32)) hx hb hr (fun t ht _ => ⟨_, rfl, e_0, ht⟩) (fun q h => by cases h) dJ6_bitCount_0f7a4_52
