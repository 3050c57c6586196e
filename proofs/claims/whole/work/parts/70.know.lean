/-! what constructors need to know beyond kw -/
def kx (G : kG) (U : State) : Prop := kw G U ∧ (va_AO RX3 U ∧ va_AO RX0 U) ∧ va_Nw (.methodLinkNest RX5 11 yX4_init "AlternateSigns") U ∧ va_Nw (.methodLinkNest RX5 18 yX3_init "AlternateSigns") U ∧ va_Nw (.methodLinkNest RX5 38 yX1_init "AlternateSigns") U ∧ va_Nw (.methodLinkNest RX2 17 yX3_init "AlternateSigns") U ∧ va_Nw (.methodLinkNest RX4 17 yX3_init "AlternateSigns") U
theorem kx.warm {G : kG} {s U : State} (hW : s.WarmedH U.vm) (h : kx G s) : kx G U :=
  ⟨h.1.warm hW, ⟨va_AO.moved hW.alike h.2.1.1, va_AO.moved hW.alike h.2.1.2⟩, va_Nw.warmM hW h.2.2.1, va_Nw.warmM hW h.2.2.2.1, va_Nw.warmM hW h.2.2.2.2.1, va_Nw.warmM hW h.2.2.2.2.2.1, va_Nw.warmM hW h.2.2.2.2.2.2⟩
theorem kx.same {G : kG} {u U : State} (e : u.vm = U.vm) (h : kx G u) : kx G U :=
  ⟨h.1.same e, ⟨va_AO.moved (u := u) (U := U) (by rw [← e]; exact Vm.Alike.refl u.vm) h.2.1.1, va_AO.moved (u := u) (U := U) (by rw [← e]; exact Vm.Alike.refl u.vm) h.2.1.2⟩, va_Nw.same rfl e h.2.2.1, va_Nw.same rfl e h.2.2.2.1, va_Nw.same rfl e h.2.2.2.2.1, va_Nw.same rfl e h.2.2.2.2.2.1, va_Nw.same rfl e h.2.2.2.2.2.2⟩
theorem ix_blind {G : kG} {ws : va_W} {av : List Value} {sz : Nat} : FrameBlind (va_Pc av (fun U => U.heap.size = sz ∧ va_P G.1 vwCl ws U.heap ∧ kx G U ∧ va_D (fun _ => True) ws)) := fun a U g mk q => by
  obtain ⟨q0, q1, qP, qK, qD⟩ := q
  exact ⟨q0, q1, qP, kx.same (u := U) (U := U.calling g mk a) rfl qK, qD⟩
theorem ix_S {G : kG} {s : State} {H : Heap} {ws : va_W} {As : List Value} {A : Nat → Prop} (hK : kx G s) (hP : va_P G.1 vwCl ws H) (hD : va_D A ws) : PreS s H (va_Pc As (fun U => U.heap.size = H.size ∧ va_P G.1 vwCl ws U.heap ∧ kx G U ∧ va_D (fun _ => True) ws)) As :=
  ⟨ix_blind, fun U hU hW => ⟨rfl, by rw [hU], by rw [hU]; exact hP, kx.warm hW hK, hD.weaken (fun _ _ _ _ => trivial)⟩⟩
/-! one class for each type of array -/
theorem kn_C {G : kG} {s : State} {cA : ClassId} (h : va_K G.1 vwCl (kT G ++ [(cA, .char)]) s) : cA = G.2 0 := Option.some.inj (Eq.trans (Eq.symm (show s.vm.findClass ("[" ++ FieldType.char.toString) = some cA from (h.2 6 _ rfl).2)) (show s.vm.findClass ("[" ++ FieldType.char.toString) = some (G.2 0) from (h.2 0 _ rfl).2))
theorem kn_I {G : kG} {s : State} {cA : ClassId} (h : va_K G.1 vwCl (kT G ++ [(cA, .int)]) s) : cA = G.2 1 := Option.some.inj (Eq.trans (Eq.symm (show s.vm.findClass ("[" ++ FieldType.int.toString) = some cA from (h.2 6 _ rfl).2)) (show s.vm.findClass ("[" ++ FieldType.int.toString) = some (G.2 1) from (h.2 1 _ rfl).2))
theorem kn_J {G : kG} {s : State} {cA : ClassId} (h : va_K G.1 vwCl (kT G ++ [(cA, .long)]) s) : cA = G.2 2 := Option.some.inj (Eq.trans (Eq.symm (show s.vm.findClass ("[" ++ FieldType.long.toString) = some cA from (h.2 6 _ rfl).2)) (show s.vm.findClass ("[" ++ FieldType.long.toString) = some (G.2 2) from (h.2 2 _ rfl).2))
theorem kn_Z {G : kG} {s : State} {cA : ClassId} (h : va_K G.1 vwCl (kT G ++ [(cA, .boolean)]) s) : cA = G.2 3 := Option.some.inj (Eq.trans (Eq.symm (show s.vm.findClass ("[" ++ FieldType.boolean.toString) = some cA from (h.2 6 _ rfl).2)) (show s.vm.findClass ("[" ++ FieldType.boolean.toString) = some (G.2 3) from (h.2 3 _ rfl).2))
theorem kn_O {G : kG} {s : State} {cA : ClassId} (h : va_K G.1 vwCl (kT G ++ [(cA, .object RX0)]) s) : cA = G.2 4 := by
  obtain ⟨_, _, _, _, _, a⟩ := (h.2 6 _ rfl).2
  obtain ⟨_, _, _, _, _, b⟩ := (h.2 4 _ rfl).2
  exact Option.some.inj (a.symm.trans b)
theorem kn_T {G : kG} {s : State} {cA : ClassId} (h : va_K G.1 vwCl (kT G ++ [(cA, .object RX3)]) s) : cA = G.2 5 := by
  obtain ⟨_, _, _, _, _, a⟩ := (h.2 6 _ rfl).2
  obtain ⟨_, _, _, _, _, b⟩ := (h.2 5 _ rfl).2
  exact Option.some.inj (a.symm.trans b)
/-! the String constant -/
def tb (j : Nat) : Int32 := ([48, 43, 48, 59, 43, 45, 43, 59, 48, 43, 48, 59] : List Int32).getD j 0
def sk (aK aV : Nat) (A : Nat → Prop) (U : State) (H : Heap) : Prop := va_O "java/lang/String" aK A U H ∧ va_OF "java/lang/String" "coder" "B" (.int 0) aK A U H ∧ va_OF "java/lang/String" "value" "[B" (.ref aV) aK A U H ∧ va_T .byte aV 12 (fun j => .int (tb j)) A U H ∧ va_Z "java/lang/String" "COMPACT_STRINGS" "Z" (.int 1) A U H ∧ va_Zq "jdk/internal/util/Preconditions" "SIOOBE_FORMATTER" "Ljava/util/function/BiFunction;" A U H
theorem sk.moved {aK aV : Nat} {A : Nat → Prop} {u U : State} {H : Heap} (hvm : u.vm.Alike U.vm) (h : sk aK aV A u H) : sk aK aV A U H := ⟨va_O.moved hvm h.1, va_OF.moved hvm h.2.1, va_OF.moved hvm h.2.2.1, va_T.moved hvm h.2.2.2.1, va_Z.moved hvm h.2.2.2.2.1, va_Zq.moved hvm h.2.2.2.2.2⟩
theorem sk.kept {aK aV : Nat} {A : Nat → Prop} {U : State} {H H1 : Heap} (h : sk aK aV A U H) (hq : ∀ a : Nat, a < H.size → ¬ A a → H1[a]? = H[a]?) : sk aK aV A U H1 := ⟨h.1.kept hq, h.2.1.kept hq, h.2.2.1.kept hq, h.2.2.2.1.kept hq, h.2.2.2.2.1.kept hq, h.2.2.2.2.2.kept hq⟩
theorem sk.narrow {aK aV : Nat} {A B : Nat → Prop} {U : State} {H : Heap} (h : sk aK aV A U H) (hAB : ∀ q, B q → A q) : sk aK aV B U H := ⟨h.1.narrow hAB, h.2.1.narrow hAB, h.2.2.1.narrow hAB, h.2.2.2.1.narrow hAB, h.2.2.2.2.1.narrow hAB, h.2.2.2.2.2.narrow hAB⟩
theorem sk.here {aK aV : Nat} {A : Nat → Prop} {s : State} {H : Heap} {locs : List Loc} (h : sk aK aV A s s.heap) (hS : va_S A s.heap H locs) : sk aK aV (fun _ => False) s H := (h.kept hS.2.1).narrow (fun _ z => z.elim)
theorem sk_blind {aK aV : Nat} {av : List Value} : FrameBlind (va_Pc av (fun U => sk aK aV (fun _ => False) U U.heap)) := fun a U g mk q => by
  obtain ⟨q0, q1⟩ := q
  exact ⟨q0, sk.moved (u := U) (U := U.calling g mk a) (Vm.Alike.refl U.vm) q1⟩
theorem sk_S {aK aV : Nat} {s : State} {H : Heap} {As : List Value} (h : sk aK aV (fun _ => False) s H) : PreS s H (va_Pc As (fun U => sk aK aV (fun _ => False) U U.heap)) As := ⟨sk_blind, fun U hU hW => ⟨rfl, by show sk aK aV (fun _ => False) U U.heap; rw [hU]; exact h.moved hW.alike⟩⟩
theorem sk_V {aK aV : Nat} {s : State} {H : Heap} {As : List Value} (h : sk aK aV (fun _ => False) s H) : PreV s H RJ0 aK (va_Pc (.ref aK :: As) (fun U => sk aK aV (fun _ => False) U U.heap)) As := ⟨sk_blind, (by obtain ⟨cell, h1, h2, h3, -⟩ := h.1; exact ⟨cell, h1, h2, h3⟩), fun U hU hW => ⟨rfl, by show sk aK aV (fun _ => False) U U.heap; rw [hU]; exact h.moved hW.alike⟩⟩
/-! a call that answers nothing and changes nothing -/
def wv_S : Array Value → State → Outcome → State → Prop := fun _ st o t => o = .returned none ∧ t.heap = st.heap
theorem wv_call {p : Program} {l : Launch} {e : Env} {R : Room} {s : State} {m : MethodId} {args : Array Value} {below : List Frame} {meth : Method} {c : Code} {H : Heap} {locs : List Loc} {cells slots : Nat} {Q : State → Prop} {pc : Nat} {ls : Array Slot} {rest : List Value} {a : Array Value} {st0 : List Value} (hr : CallRun p l e R s m args below meth c H locs cells slots 0 0 (F0 m pc ls st0) rest (wv_S a) (fun _ => False))
    (kk : W p l e R s m args below meth c H locs cells slots Q (F0 m (pc + 3) ls rest)) : W p l e R s m args below meth c H locs cells slots Q (F0 m pc ls st0) := by
  intro T hT X
  obtain ⟨v, st₀, t, T', L, h0, X', hL, e1, ⟨hv, hh⟩, st⟩ := hr T hT X
  cases hv
  obtain ⟨t2, a1, b1⟩ := kk T' (by rw [e1, hh, h0]) (Stand.forget X' (fun q h => (hL q h).elim))
  exact ⟨t2, st t2 a1, b1⟩
