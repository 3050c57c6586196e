/-! what a world's knowledge is: classes, array classes, links between nest mates -/
abbrev kG : Type := va_G × (Nat → ClassId)
abbrev kT (G : kG) : List (ClassId × FieldType) := [(G.2 0, .char), (G.2 1, .int), (G.2 2, .long), (G.2 3, .boolean), (G.2 4, .object RX0), (G.2 5, .object RX3)]
def kw (G : kG) (U : State) : Prop := va_K G.1 vwCl (kT G) U ∧ (va_Nw (.methodLinkNest RX4 64 yX5_isBetween "AlternateSigns") U ∧ va_Nw (.methodLinkNest RX1 73 yX5_isBetween "AlternateSigns") U)
theorem kn_0 {G : kG} {U : State} (h : kw G U) : va_Nw (.methodLinkNest RX4 64 yX5_isBetween "AlternateSigns") U := h.2.1
theorem kn_1 {G : kG} {U : State} (h : kw G U) : va_Nw (.methodLinkNest RX1 73 yX5_isBetween "AlternateSigns") U := h.2.2
theorem kw.warm {G : kG} {s U : State} (hW : s.WarmedH U.vm) (h : kw G s) : kw G U := ⟨va_K.moved hW.alike h.1, va_Nw.warmM hW h.2.1, va_Nw.warmM hW h.2.2⟩
theorem kw.same {G : kG} {u U : State} (e : u.vm = U.vm) (h : kw G u) : kw G U := ⟨va_K.moved (u := u) (U := U) (by rw [← e]; exact Vm.Alike.refl u.vm) h.1, va_Nw.same rfl e h.2.1, va_Nw.same rfl e h.2.2⟩
abbrev oX0 (a : Nat) (x_size : Int32) (x_masks : Int32) (x_endings : Nat) (x_areEndingsCounted : Int32) (x_codes : Nat) (x_tally : Nat) (x_ways : Int32) : Nat × va_E := (a, .inr (0, [.int x_size, .int x_masks, .ref x_endings, .int x_areEndingsCounted, .ref x_codes, .ref x_tally, .int x_ways]))
abbrev oX1 (a : Nat) (x_partners : Nat) (x_lengths : Nat) (x_ringEdges : Int32) (x_rings : Int32) (x_size : Int32) (x_ends : Int32) (x_open : Nat) (x_endAtRim : Nat) (x_row : Int32) (x_column : Int32) (x_side : Int32) : Nat × va_E := (a, .inr (1, [.ref x_partners, .ref x_lengths, .int x_ringEdges, .int x_rings, .int x_size, .int x_ends, .ref x_open, .ref x_endAtRim, .int x_row, .int x_column, .int x_side]))
abbrev oX2 (a : Nat) (x_tables : Nat) (x_free : Int32) (x_held : Int32) : Nat × va_E := (a, .inr (2, [.ref x_tables, .int x_free, .int x_held]))
abbrev oX3 (a : Nat) (x_size : Int32) (x_corners : Nat) : Nat × va_E := (a, .inr (3, [.int x_size, .ref x_corners]))
abbrev oX4 (a : Nat) (x_letters : Nat) (x_length : Int32) (x_draft : Nat) (x_rowsEnded : Int32) (x_rowLength : Int32) (x_rowSum : Int32) : Nat × va_E := (a, .inr (4, [.ref x_letters, .int x_length, .ref x_draft, .int x_rowsEnded, .int x_rowLength, .int x_rowSum]))
abbrev oX5 (a : Nat) (x_text : Nat) (x_table : Nat) (x_other : Nat) (x_spare : Nat) (x_past : Nat) (x_lines : Nat) (x_sizes : Nat) : Nat × va_E := (a, .inr (5, [.ref x_text, .ref x_table, .ref x_other, .ref x_spare, .ref x_past, .ref x_lines, .ref x_sizes]))
abbrev oX6 (a : Nat) (x_length : Int32) (x_text : Nat) (x_size : Int32) (x_sign : Nat) (x_otherSize : Int32) (x_other : Nat) (x_before : Nat) (x_undoMany : Int32) (x_readSize : Int32) (x_read : Nat) (x_side : Nat) (x_tall : Nat) (x_endRow : Nat) (x_endColumn : Nat) (x_endSide : Nat) (x_gone : Nat) (x_lineRow : Int32) (x_lineColumn : Int32) (x_lineSide : Int32) (x_lineMany : Int32) (x_ways : Nat) (x_codes : Nat) (x_many : Nat) : Nat × va_E := (a, .inr (6, [.int x_length, .ref x_text, .int x_size, .ref x_sign, .int x_otherSize, .ref x_other, .ref x_before, .int x_undoMany, .int x_readSize, .ref x_read, .ref x_side, .ref x_tall, .ref x_endRow, .ref x_endColumn, .ref x_endSide, .ref x_gone, .int x_lineRow, .int x_lineColumn, .int x_lineSide, .int x_lineMany, .ref x_ways, .ref x_codes, .ref x_many]))
abbrev aI (c : ClassId) (a n : Nat) (f : Nat → Int32) : Nat × va_E := (a, .inl (c, n, .inl f))
abbrev aJ (c : ClassId) (a n : Nat) (f : Nat → Int64) : Nat × va_E := (a, .inl (c, n, .inr (.inl f)))
abbrev aQ (c : ClassId) (a n : Nat) (f : Nat → Option Nat) : Nat × va_E := (a, .inl (c, n, .inr (.inr (.inr (.inr f)))))
/-! pure words: a loop, a join, a test -/
def itr {σ ρ : Type} (f : σ → Option (σ ⊕ ρ)) : Nat → σ → Option ρ
  | 0, _ => none
  | n + 1, s => match f s with
    | none => none
    | some (.inl s') => itr f n s'
    | some (.inr r) => some r
theorem itr_ind {σ ρ : Type} {f : σ → Option (σ ⊕ ρ)} {r : ρ} (P : σ → Prop) (h : ∀ (s : σ) (o : σ ⊕ ρ), f s = some o → (∀ s', o = .inl s' → P s') → (∀ r', o = .inr r' → r' = r) → P s) : ∀ (n : Nat) (s : σ), itr f n s = some r → P s := by
  intro n
  induction n with
  | zero => intro s hs; simp [itr] at hs
  | succ n ih =>
    intro s hs
    unfold itr at hs
    cases hf : f s with
    | none => rw [hf] at hs; simp at hs
    | some o =>
      rw [hf] at hs
      cases o with
      | inl s' => exact h s _ hf (fun s2 e => by cases e; exact ih s' hs) (fun r' e => by cases e)
      | inr r2 => exact h s _ hf (fun s2 e => by cases e) (fun r' e => by cases e; exact Option.some.inj hs)
def jn {σ ρ : Type} (x : Option (σ ⊕ ρ)) (k : σ → Option ρ) : Option ρ := match x with
  | none => none
  | some (.inl s) => k s
  | some (.inr r) => some r
theorem jn_some {σ ρ : Type} {x : Option (σ ⊕ ρ)} {k : σ → Option ρ} {r : ρ} (h : jn x k = some r) : ∃ o, x = some o ∧ (∀ s, o = .inl s → k s = some r) ∧ (∀ r', o = .inr r' → r' = r) := by
  unfold jn at h
  cases hx : x with
  | none => rw [hx] at h; simp at h
  | some o =>
    rw [hx] at h
    cases o with
    | inl s => exact ⟨_, rfl, fun s2 e => (by cases e; exact h), fun r' e => (by cases e)⟩
    | inr r2 => exact ⟨_, rfl, fun s2 e => (by cases e), fun r' e => (by cases e; exact Option.some.inj h)⟩
def ck {ρ : Type} (b : Bool) (k : Option ρ) : Option ρ := if b = true then k else none
theorem ck_some {ρ : Type} {b : Bool} {k : Option ρ} {r : ρ} (h : ck b k = some r) : b = true ∧ k = some r := by
  unfold ck at h
  by_cases hb : b = true
  · rw [if_pos hb] at h; exact ⟨hb, h⟩
  · rw [if_neg hb] at h; simp at h
theorem bs_some {α ρ : Type} {y : α} {f : α → Option ρ} {o : Option ρ} (h : (some y).bind f = o) : f y = o := h
def inb (i : Int32) (n : Nat) : Bool := decide (¬ i < 0) && decide (i.toNatClampNeg < n)
theorem inb_in {i : Int32} {n : Nat} (h : inb i n = true) : vp_in i n := by
  unfold inb at h
  simp only [Bool.and_eq_true, decide_eq_true_eq] at h
  intro q
  rcases q with q | q
  · exact h.1 q
  · exact absurd h.2 (Nat.not_lt.mpr q)
theorem ck_ne {y : Int32} (h : (!(y == 0)) = true) : ¬ y = 0 := by
  intro e; subst e; simp at h
theorem nar_b {v : Int32} (h : (v &&& 1 == v) = true) : narrow .boolean (.int v) = .int v := by
  have e : v &&& 1 = v := by simpa using h
  show Value.int (v &&& 1) = .int v
  rw [e]
/-! a method's contract, its end a variable -/
theorem Met.ofQ {l : Launch} {y : MethodName} {ws ws' : List Cond} {rm : Room} {Pc : Array Value → State → Prop} {Qc : Array Value → State → Outcome → State → Prop} {mc ms : Nat} {free : Addr → Prop} {cc : ByteArray} {maxL : Nat} {ret : Option FieldType}
    (hy : plainName y.cls = true) (hw : ws = Cond.code y cc maxL ret :: ws')
    (body : ∀ p e s m args below meth c s₁ (Q : State → Prop), Q = MQ below Qc args s mc ms free → BodyLoose p l y (headSpec ws rm) cc maxL ret e s m args below meth c s₁ → c.maxLocals = maxL → Pc args s →
      W p l e (headSpec ws rm).room s m args below meth c s.heap [] 0 0 Q (entryFrame m args maxL)) : Met l y ws rm Pc Qc mc ms free :=
  Met.ofW hy hw (fun p e s m args below meth c s₁ B hml hv => body p e s m args below meth c s₁ _ rfl B hml hv)
/-! what a call needs to begin -/
theorem pv_blind {G : kG} {ws : va_W} {av : List Value} : FrameBlind (va_Pc av (fun U => va_P G.1 vwCl ws U.heap ∧ kw G U)) := fun a U g mk q => by
  obtain ⟨q0, qP, qK⟩ := q
  exact ⟨q0, qP, kw.same (u := U) (U := U.calling g mk a) rfl qK⟩
theorem pv_S {G : kG} {s : State} {H : Heap} {ws : va_W} {As : List Value} (hK : kw G s) (hP : va_P G.1 vwCl ws H) : PreS s H (va_Pc As (fun U => va_P G.1 vwCl ws U.heap ∧ kw G U)) As :=
  ⟨pv_blind, fun U hU hW => ⟨rfl, by rw [hU]; exact hP, kw.warm hW hK⟩⟩
theorem pv_V {G : kG} {s : State} {H : Heap} {ws : va_W} {As : List Value} (hK : kw G s) (hP : va_P G.1 vwCl ws H) {a ci q0 : Nat} {q : vw_C} {fs : List Value} (hc : vwCl[ci]? = some q) (he : ws[q0]? = some (a, .inr (ci, fs))) : PreV s H q.1 a (va_Pc (.ref a :: As) (fun U => va_P G.1 vwCl ws U.heap ∧ kw G U)) As :=
  ⟨pv_blind, va_recv hK.1 hP hc he, fun U hU hW => ⟨rfl, by rw [hU]; exact hP, kw.warm hW hK⟩⟩
theorem pv_V0 {G : kG} {s : State} {H : Heap} {ws ws0 : va_W} {As : List Value} (hK : kw G s) (hP : va_P G.1 vwCl ws H) (hP0 : va_P G.1 vwCl ws0 H) {a ci q0 : Nat} {q : vw_C} {fs : List Value} (hc : vwCl[ci]? = some q) (he : ws0[q0]? = some (a, .inr (ci, fs))) : PreV s H q.1 a (va_Pc (.ref a :: As) (fun U => va_P G.1 vwCl ws U.heap ∧ kw G U)) As :=
  ⟨pv_blind, va_recv hK.1 hP0 hc he, fun U hU hW => ⟨rfl, by rw [hU]; exact hP, kw.warm hW hK⟩⟩
theorem iv_blind {G : kG} {ws : va_W} {av : List Value} {sz : Nat} : FrameBlind (va_Pc av (fun U => U.heap.size = sz ∧ va_P G.1 vwCl ws U.heap ∧ kw G U ∧ va_D (fun _ => True) ws)) := fun a U g mk q => by
  obtain ⟨q0, q1, qP, qK, qD⟩ := q
  exact ⟨q0, q1, qP, kw.same (u := U) (U := U.calling g mk a) rfl qK, qD⟩
theorem iv_S {G : kG} {s : State} {H : Heap} {ws : va_W} {As : List Value} {A : Nat → Prop} (hK : kw G s) (hP : va_P G.1 vwCl ws H) (hD : va_D A ws) : PreS s H (va_Pc As (fun U => U.heap.size = H.size ∧ va_P G.1 vwCl ws U.heap ∧ kw G U ∧ va_D (fun _ => True) ws)) As :=
  ⟨iv_blind, fun U hU hW => ⟨rfl, by rw [hU], by rw [hU]; exact hP, kw.warm hW hK, hD.weaken (fun _ _ _ _ => trivial)⟩⟩
theorem iv_V {G : kG} {s : State} {H : Heap} {ws : va_W} {As : List Value} {A : Nat → Prop} (hK : kw G s) (hP : va_P G.1 vwCl ws H) (hD : va_D A ws) {a ci q0 : Nat} {q : vw_C} {fs : List Value} (hc : vwCl[ci]? = some q) (he : ws[q0]? = some (a, .inr (ci, fs))) : PreV s H q.1 a (va_Pc (.ref a :: As) (fun U => U.heap.size = H.size ∧ va_P G.1 vwCl ws U.heap ∧ kw G U ∧ va_D (fun _ => True) ws)) As :=
  ⟨iv_blind, va_recv hK.1 hP hc he, fun U hU hW => ⟨rfl, by rw [hU], by rw [hU]; exact hP, kw.warm hW hK, hD.weaken (fun _ _ _ _ => trivial)⟩⟩
