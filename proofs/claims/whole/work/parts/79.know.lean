/-! the law's start: addresses and values by places -/
def aw0 (q0 q1 : Nat) (u5 u6 : (Nat → Nat) × (Nat → Nat → Option Nat) × (Nat → Nat → Int32)) : List Nat := [q0, (u5.1 48), (u5.1 49), (u5.1 52), (u5.1 53), (u5.1 50), (u5.1 51), (u5.1 0), (u5.1 1), (u5.1 2)]
def aw1 (q0 q1 : Nat) (u5 u6 : (Nat → Nat) × (Nat → Nat → Option Nat) × (Nat → Nat → Int32)) : List Nat := [(u5.1 3), (u5.1 4), (u5.1 5), (u5.1 6), (u5.1 7), (u5.1 8), (u5.1 9), (u5.1 10), (u5.1 11), (u5.1 12)]
def aw2 (q0 q1 : Nat) (u5 u6 : (Nat → Nat) × (Nat → Nat → Option Nat) × (Nat → Nat → Int32)) : List Nat := [(u5.1 13), (u5.1 14), (u5.1 15), (u5.1 16), (u5.1 17), (u5.1 18), (u5.1 19), (u5.1 20), (u5.1 21), (u5.1 22)]
def aw3 (q0 q1 : Nat) (u5 u6 : (Nat → Nat) × (Nat → Nat → Option Nat) × (Nat → Nat → Int32)) : List Nat := [(u5.1 23), (u5.1 24), (u5.1 25), (u5.1 26), (u5.1 27), (u5.1 28), (u5.1 29), (u5.1 30), (u5.1 31), (u5.1 32)]
def aw4 (q0 q1 : Nat) (u5 u6 : (Nat → Nat) × (Nat → Nat → Option Nat) × (Nat → Nat → Int32)) : List Nat := [(u5.1 33), (u5.1 34), (u5.1 35), (u5.1 36), (u5.1 37), (u5.1 38), (u5.1 39), (u5.1 40), (u5.1 41), (u5.1 42)]
def aw5 (q0 q1 : Nat) (u5 u6 : (Nat → Nat) × (Nat → Nat → Option Nat) × (Nat → Nat → Int32)) : List Nat := [(u5.1 43), (u5.1 44), (u5.1 45), (u5.1 46), (u5.1 47), q1, (u6.1 0), (u6.1 1), (u6.1 2), (u6.1 3)]
def aw6 (q0 q1 : Nat) (u5 u6 : (Nat → Nat) × (Nat → Nat → Option Nat) × (Nat → Nat → Int32)) : List Nat := [(u6.1 4), (u6.1 5), (u6.1 6), (u6.1 7), (u6.1 8), (u6.1 9), (u6.1 10), (u6.1 11), (u6.1 12), (u6.1 13)]
def sw0 (d9 : Nat → Int32) : List cv := [oI [], oI [(0 : Int32), (3 : Int32), (0 : Int32), (0 : Int32)], oF (ltf 12), oI [(3 : Int32)], oF d9, oI [(3 : Int32)], oF (va_cpy d9 (fun _ => (0 : Int32)) 0 0 (49 : Int32).toNatClampNeg), oI [(0 : Int32)], oF (fun _ => (0 : Int32)), oI [(0 : Int32)]]
def sw1 (d9 : Nat → Int32) : List cv := [oF (fun _ => (0 : Int32)), oI [(0 : Int32), (0 : Int32)], oI [], oI [(0 : Int32)], oF (fun _ => (0 : Int32)), oI [(0 : Int32)], oF (fun _ => (0 : Int32)), oI [(0 : Int32)], oF (fun _ => (0 : Int32)), oI [(0 : Int32)]]
def sw2 (d9 : Nat → Int32) : List cv := [oF (fun _ => (0 : Int32)), oI [(0 : Int32)], oF (fun _ => (0 : Int32)), oI [(0 : Int32)], oF (fun _ => (0 : Int32)), oI [(0 : Int32), (0 : Int32), (0 : Int32), (0 : Int32), (0 : Int32), (0 : Int32), (0 : Int32)], oF (fun _ => (0 : Int32)), oF (fun _ => (0 : Int32)), oF (fun _ => (0 : Int32)), oF (fun _ => (0 : Int32))]
def sw3 (d9 : Nat → Int32) : List cv := [oI [], oI [(1 : Int32), ((1 : Int32) <<< ((1 : Int32) &&& 31)), (0 : Int32), (0 : Int32)], oF (fun _ => (0 : Int32)), oJ (fun _ => (0 : Int64)), oF (fun _ => (0 : Int32)), oI [(2 : Int32), ((1 : Int32) <<< ((2 : Int32) &&& 31)), (0 : Int32), (0 : Int32)], oF (fun _ => (0 : Int32)), oJ (fun _ => (0 : Int64)), oF (fun _ => (0 : Int32)), oI [(3 : Int32), ((1 : Int32) <<< ((3 : Int32) &&& 31)), (0 : Int32), (0 : Int32)]]
def sw4 (d9 : Nat → Int32) : List cv := [oF (fun _ => (0 : Int32)), oJ (fun _ => (0 : Int64)), oF (fun _ => (0 : Int32)), oI [(4 : Int32), ((1 : Int32) <<< ((4 : Int32) &&& 31)), (0 : Int32), (0 : Int32)], oF (fun _ => (0 : Int32)), oJ (fun _ => (0 : Int64)), oF (fun _ => (0 : Int32)), oI [(5 : Int32), ((1 : Int32) <<< ((5 : Int32) &&& 31)), (0 : Int32), (0 : Int32)], oF (fun _ => (0 : Int32)), oJ (fun _ => (0 : Int64))]
def sw5 (d9 : Nat → Int32) : List cv := [oF (fun _ => (0 : Int32)), oI [(6 : Int32), ((1 : Int32) <<< ((6 : Int32) &&& 31)), (0 : Int32), (0 : Int32)], oF (fun _ => (0 : Int32)), oJ (fun _ => (0 : Int64)), oF (fun _ => (0 : Int32)), oI [(0 : Int32), (3 : Int32), (0 : Int32), (0 : Int32), (0 : Int32), (0 : Int32), (0 : Int32), (0 : Int32), (0 : Int32)], oF (fun _ => (0 : Int32)), oF (upd (upd (upd (upd (upd (fun _ => (0 : Int32)) (1 : Int32).toNatClampNeg (1 : Int32)) (6 : Int32).toNatClampNeg (1 : Int32)) (7 : Int32).toNatClampNeg (-1 : Int32)) (8 : Int32).toNatClampNeg (1 : Int32)) (13 : Int32).toNatClampNeg (1 : Int32)), oF (fun _ => (0 : Int32)), oF (fun _ => (0 : Int32))]
def sw6 (d9 : Nat → Int32) : List cv := [oF (fun _ => (0 : Int32)), oF (fun _ => (0 : Int32)), oF (fun _ => (0 : Int32)), oF (fun _ => (0 : Int32)), oF (fun _ => (0 : Int32)), oF (fun _ => (0 : Int32)), oF (fun _ => (0 : Int32)), oF (fun _ => (0 : Int32)), oJ (fun _ => (0 : Int64)), oF (fun _ => (0 : Int32))]
def awf (q0 q1 : Nat) (u5 u6 : (Nat → Nat) × (Nat → Nat → Option Nat) × (Nat → Nat → Int32)) : kA := (fun i => (match i / 10 with | 0 => aw0 q0 q1 u5 u6 | 1 => aw1 q0 q1 u5 u6 | 2 => aw2 q0 q1 u5 u6 | 3 => aw3 q0 q1 u5 u6 | 4 => aw4 q0 q1 u5 u6 | 5 => aw5 q0 q1 u5 u6 | _ => aw6 q0 q1 u5 u6).getD (i % 10) 0, u5.2.1)
def swf (d9 : Nat → Int32) (i : Nat) : cv := (match i / 10 with | 0 => sw0 d9 | 1 => sw1 d9 | 2 => sw2 d9 | 3 => sw3 d9 | 4 => sw4 d9 | 5 => sw5 d9 | _ => sw6 d9).getD (i % 10) (oI [])
def C0f (i j : Int) : Int := if i ≤ 0 ∨ j ≤ 0 then 0 else if i = 1 then (if j ≤ 1 then 0 else 1) else if i = 2 then (if j ≤ 2 then 1 else 2) else j
theorem c0_cs : CS 3 C0f := by
  refine ⟨⟨by omega, by omega⟩, fun j h1 h2 => ?_, fun i h1 h2 => ?_, fun j h1 h2 => ?_, fun i h1 h2 => ?_, fun i j h1 h2 h3 h4 => ?_, fun i j h1 h2 h3 h4 => ?_⟩
  · rcases (show j = 0 ∨ j = 1 ∨ j = 2 ∨ j = 3 by omega) with rfl | rfl | rfl | rfl <;> decide
  · rcases (show i = 0 ∨ i = 1 ∨ i = 2 ∨ i = 3 by omega) with rfl | rfl | rfl | rfl <;> decide
  · rcases (show j = 0 ∨ j = 1 ∨ j = 2 ∨ j = 3 by omega) with rfl | rfl | rfl | rfl <;> decide
  · rcases (show i = 0 ∨ i = 1 ∨ i = 2 ∨ i = 3 by omega) with rfl | rfl | rfl | rfl <;> decide
  · rcases (show i = 0 ∨ i = 1 ∨ i = 2 by omega) with rfl | rfl | rfl <;> rcases (show j = 0 ∨ j = 1 ∨ j = 2 ∨ j = 3 by omega) with rfl | rfl | rfl | rfl <;> decide
  · rcases (show i = 0 ∨ i = 1 ∨ i = 2 ∨ i = 3 by omega) with rfl | rfl | rfl | rfl <;> rcases (show j = 0 ∨ j = 1 ∨ j = 2 by omega) with rfl | rfl | rfl <;> decide
theorem d9_at {d9 : Nat → Int32} (hd : (List.range 49).map d9 = ffl) {k : Nat} (hk : k < 49) : d9 k = ffl.getD k 0 := by
  have h := congrArg (fun l => l[k]?) hd
  simp only [List.getElem?_map, List.getElem?_range hk, Option.map_some] at h
  rw [List.getD_eq_getElem?_getD, ← h]
  rfl
theorem cpy_at {d9 : Nat → Int32} {k : Nat} (hk : k < 49) : va_cpy d9 (fun _ => (0 : Int32)) 0 0 (49 : Int32).toNatClampNeg k = d9 k := by
  have e : (49 : Int32).toNatClampNeg = 49 := rfl
  rw [e]
  unfold va_cpy
  rw [if_pos ⟨Nat.zero_le _, by omega⟩, Nat.zero_add, Nat.sub_zero]
theorem z7_d9 {d9 : Nat → Int32} (hd : (List.range 49).map d9 = ffl) : Z7 d9 := by
  refine ⟨fun j h1 h2 => ?_, fun i h1 h2 => ?_⟩
  · rw [d9_at hd (by omega)]
    rcases (show j = 0 ∨ j = 1 ∨ j = 2 ∨ j = 3 ∨ j = 4 ∨ j = 5 ∨ j = 6 by omega) with rfl | rfl | rfl | rfl | rfl | rfl | rfl <;> decide
  · rw [d9_at hd (by omega)]
    rcases (show i = 0 ∨ i = 1 ∨ i = 2 ∨ i = 3 ∨ i = 4 ∨ i = 5 ∨ i = 6 by omega) with rfl | rfl | rfl | rfl | rfl | rfl | rfl <;> decide
theorem z7_cpy {d9 : Nat → Int32} (h : Z7 d9) : Z7 (va_cpy d9 (fun _ => (0 : Int32)) 0 0 (49 : Int32).toNatClampNeg) :=
  ⟨fun j h1 h2 => by rw [cpy_at (by omega)]; exact h.1 j h1 h2, fun i h1 h2 => by rw [cpy_at (by omega)]; exact h.2 i h1 h2⟩
theorem z7_0 : Z7 (fun _ => (0 : Int32)) := ⟨fun _ _ _ => rfl, fun _ _ _ => rfl⟩
def tn0 : Nat → Int32 := (upd (upd (upd (upd (upd (fun _ => (0 : Int32)) (1 : Int32).toNatClampNeg (1 : Int32)) (6 : Int32).toNatClampNeg (1 : Int32)) (7 : Int32).toNatClampNeg (-1 : Int32)) (8 : Int32).toNatClampNeg (1 : Int32)) (13 : Int32).toNatClampNeg (1 : Int32))
theorem rt_0 {d9 : Nat → Int32} (hd : (List.range 49).map d9 = ffl) : RT 3 (va_cpy d9 (fun _ => (0 : Int32)) 0 0 (49 : Int32).toNatClampNeg) tn0 := by
  refine ⟨3, C0f, rfl, c0_cs, fun i j h1 h2 h3 h4 => ?_, z7_cpy (z7_d9 hd), fun r c h1 h2 h3 h4 => ?_⟩
  · have h2 : i ≤ 3 := h2
    have h4 : j ≤ 3 := h4
    rw [cpy_at (by omega), d9_at hd (by omega)]
    rcases (show i = 0 ∨ i = 1 ∨ i = 2 ∨ i = 3 by omega) with rfl | rfl | rfl | rfl <;> rcases (show j = 0 ∨ j = 1 ∨ j = 2 ∨ j = 3 by omega) with rfl | rfl | rfl | rfl <;> decide
  · have h2 : r < 3 := h2
    have h4 : c < 3 := h4
    rcases (show r = 0 ∨ r = 1 ∨ r = 2 by omega) with rfl | rfl | rfl <;> rcases (show c = 0 ∨ c = 1 ∨ c = 2 by omega) with rfl | rfl | rfl <;> decide
theorem sh_0 : ((1 : Int32) <<< ((1 : Int32) &&& 31)) = ii ((2 ^ (0 + 1) : Nat) : Int) := by decide
theorem sh_1 : ((1 : Int32) <<< ((2 : Int32) &&& 31)) = ii ((2 ^ (1 + 1) : Nat) : Int) := by decide
theorem sh_2 : ((1 : Int32) <<< ((3 : Int32) &&& 31)) = ii ((2 ^ (2 + 1) : Nat) : Int) := by decide
theorem sh_3 : ((1 : Int32) <<< ((4 : Int32) &&& 31)) = ii ((2 ^ (3 + 1) : Nat) : Int) := by decide
theorem sh_4 : ((1 : Int32) <<< ((5 : Int32) &&& 31)) = ii ((2 ^ (4 + 1) : Nat) : Int) := by decide
theorem sh_5 : ((1 : Int32) <<< ((6 : Int32) &&& 31)) = ii ((2 ^ (5 + 1) : Nat) : Int) := by decide
theorem iv_0 {d9 : Nat → Int32} (hd : (List.range 49).map d9 = ffl) : IV (swf d9) := by
  refine ⟨⟨rfl, rfl, rfl⟩, ⟨0, by omega, rfl, fun k h => absurd h (by omega)⟩, z7_d9 hd, rt_0 hd, Or.inl rfl, z7_0, ⟨fun _ => 0, fun _ _ => 0, fun j hj => ?_, ⟨0, 0, by omega, by omega, rfl, rfl, rfl, fun j h => absurd h (by omega)⟩⟩, fun k hk => ?_⟩
  · rcases (show j = 0 ∨ j = 1 ∨ j = 2 ∨ j = 3 ∨ j = 4 ∨ j = 5 by omega) with rfl | rfl | rfl | rfl | rfl | rfl <;> exact ⟨rfl, rfl⟩
  · rcases (show k = 0 ∨ k = 1 ∨ k = 2 ∨ k = 3 ∨ k = 4 ∨ k = 5 by omega) with rfl | rfl | rfl | rfl | rfl | rfl
    · exact ⟨⟨rfl, sh_0, Or.inl rfl⟩, Or.inl ⟨rfl, fun _ _ => rfl⟩⟩
    · exact ⟨⟨rfl, sh_1, Or.inl rfl⟩, Or.inl ⟨rfl, fun _ _ => rfl⟩⟩
    · exact ⟨⟨rfl, sh_2, Or.inl rfl⟩, Or.inl ⟨rfl, fun _ _ => rfl⟩⟩
    · exact ⟨⟨rfl, sh_3, Or.inl rfl⟩, Or.inl ⟨rfl, fun _ _ => rfl⟩⟩
    · exact ⟨⟨rfl, sh_4, Or.inl rfl⟩, Or.inl ⟨rfl, fun _ _ => rfl⟩⟩
    · exact ⟨⟨rfl, sh_5, Or.inl rfl⟩, Or.inl ⟨rfl, fun _ _ => rfl⟩⟩
theorem wmk {G : kG} {A : Nat → Prop} {a : kA} {σ : Nat → cv} {ws : va_W} {H : Heap} (hP : va_P G.1 vwCl ws H) (hD : va_D A ws) (h : ∀ i ∈ ([0, 1, 2, 3, 4, 5, 6, 7, 8, 9, 10, 11, 12, 13, 14, 15, 16, 17, 18, 19, 20, 21, 22, 23, 24, 25, 26, 27, 28, 29, 30, 31, 32, 33, 34, 35, 36, 37, 38, 39, 40, 41, 42, 43, 44, 45, 46, 47, 48, 49, 50, 51, 52, 53, 54, 55, 56, 57, 58, 59, 60, 61, 62, 63, 64, 65, 66, 67, 68, 69] : List Nat), ws[i]? = some (a.1 i, cel G a i (σ i))) : PW G a σ H ∧ DW A a := by
  have h' : ∀ i, i < 70 → ws[i]? = some (a.1 i, cel G a i (σ i)) := fun i hi => h i (List.mem_range.mpr hi)
  refine ⟨fun i hi => hP i _ (h' i hi), fun i j hi hj e => hD.1 i j _ _ (h' i hi) (h' j hj) e, fun i hi => hD.2 i _ (h' i hi)⟩
/-! what the law knows -/
set_option maxHeartbeats 4000000 in
set_option maxRecDepth 100000 in
theorem law_know {s : State} {b : Nat} (hts : ∀ w ∈ lw_tbl, w.before #[Value.ref b] s = true) : ∃ G : kG, kx G s := by
  obtain ⟨c0, i0, h0⟩ := u_known (C := RX0) (T := TX0) (N := 7) (n := 7) hts inX0 (hts (.instantiable RX0 7) (by decide +kernel))
  obtain ⟨c1, i1, h1⟩ := u_known (C := RX1) (T := TX1) (N := 11) (n := 11) hts inX1 (hts (.instantiable RX1 11) (by decide +kernel))
  obtain ⟨c2, i2, h2⟩ := u_known (C := RX2) (T := TX2) (N := 3) (n := 3) hts inX2 (hts (.instantiable RX2 3) (by decide +kernel))
  obtain ⟨c3, i3, h3⟩ := u_known (C := RX3) (T := TX3) (N := 2) (n := 2) hts inX3 (hts (.instantiable RX3 2) (by decide +kernel))
  obtain ⟨c4, i4, h4⟩ := u_known (C := RX4) (T := TX4) (N := 6) (n := 6) hts inX4 (hts (.instantiable RX4 6) (by decide +kernel))
  obtain ⟨c5, i5, h5⟩ := u_known (C := RX5) (T := TX5) (N := 7) (n := 7) hts inX5 (hts (.instantiable RX5 7) (by decide +kernel))
  obtain ⟨c6, i6, h6⟩ := u_known (C := RX6) (T := TX6) (N := 23) (n := 23) hts inX6 (hts (.instantiable RX6 23) (by decide +kernel))
  obtain ⟨b0, k0, m0, f0, g0, e0⟩ := Cond.arrayClass_spec (type := .char) (hts (.arrayClass .char) (by decide +kernel))
  obtain ⟨b1, k1, m1, f1, g1, e1⟩ := Cond.arrayClass_spec (type := .int) (hts (.arrayClass .int) (by decide +kernel))
  obtain ⟨b2, k2, m2, f2, g2, e2⟩ := Cond.arrayClass_spec (type := .long) (hts (.arrayClass .long) (by decide +kernel))
  obtain ⟨b3, k3, m3, f3, g3, e3⟩ := Cond.arrayClass_spec (type := .boolean) (hts (.arrayClass .boolean) (by decide +kernel))
  obtain ⟨m4, b4, k4, q4, -, g4, e4, f4⟩ := Cond.arrayOver_spec (n := RX0) (hts (.arrayOver (.object RX0)) (by decide +kernel))
  obtain ⟨m5, b5, k5, q5, -, g5, e5, f5⟩ := Cond.arrayOver_spec (n := RX3) (hts (.arrayOver (.object RX3)) (by decide +kernel))
  refine ⟨((fun k => ([c0, c1, c2, c3, c4, c5, c6] : List ClassId).getD k c0, fun k => ([i0, i1, i2, i3, i4, i5, i6] : List (Nat → Nat)).getD k i0), fun k => ([b0, b1, b2, b3, b4, b5] : List ClassId).getD k b0), ⟨⟨fun k q hq => ?_, fun k q hq => ?_⟩, va_Nw.of rfl (hts _ (by decide +kernel)), va_Nw.of rfl (hts _ (by decide +kernel))⟩, ⟨va_AO.of (hts (.arrayOver (.object RX3)) (by decide +kernel)), va_AO.of (hts (.arrayOver (.object RX0)) (by decide +kernel))⟩, va_Nw.of rfl (hts _ (by decide +kernel)), va_Nw.of rfl (hts _ (by decide +kernel)), va_Nw.of rfl (hts _ (by decide +kernel)), va_Nw.of rfl (hts _ (by decide +kernel)), va_Nw.of rfl (hts _ (by decide +kernel))⟩
  · match k, hq with
    | 0, hq => cases hq; exact h0
    | 1, hq => cases hq; exact h1
    | 2, hq => cases hq; exact h2
    | 3, hq => cases hq; exact h3
    | 4, hq => cases hq; exact h4
    | 5, hq => cases hq; exact h5
    | 6, hq => cases hq; exact h6
    | k + 7, hq => simp [vwCl] at hq
  · match k, hq with
    | 0, hq => cases hq; exact ⟨fun n z => ⟨fun k h => (by cases h), k0, g0, m0, e0⟩, f0⟩
    | 1, hq => cases hq; exact ⟨fun n z => ⟨fun k h => (by cases h), k1, g1, m1, e1⟩, f1⟩
    | 2, hq => cases hq; exact ⟨fun n z => ⟨fun k h => (by cases h), k2, g2, m2, e2⟩, f2⟩
    | 3, hq => cases hq; exact ⟨fun n z => ⟨fun k h => (by cases h), k3, g3, m3, e3⟩, f3⟩
    | 4, hq => cases hq; exact ⟨fun n z => ⟨fun k h => (by cases h), k4, g4, m4, e4⟩, k4, m4, g4, e4, q4, f4⟩
    | 5, hq => cases hq; exact ⟨fun n z => ⟨fun k h => (by cases h), k5, g5, m5, e5⟩, k5, m5, g5, e5, q5, f5⟩
    | k + 6, hq => simp [kT] at hq
set_option maxHeartbeats 4000000 in
set_option maxRecDepth 100000 in
theorem law_str {s : State} {b : Nat} (hts : ∀ w ∈ lw_tbl, w.before #[Value.ref b] s = true) (hgv : (Jvm.Cond.and given_1 narrow_1).before #[Value.ref b] s = true) : ∃ aK aV : Nat, vk_R RX5 52 "0+0;+-+;0+0;" aK s ∧ sk aK aV (fun q : Nat => s.heap.size ≤ q) s s.heap := by
  have hs := flat_of_before _ hgv
  have hA : ∀ a : Nat, a < s.heap.size → ¬ (fun q : Nat => s.heap.size ≤ q) a := fun a h => Nat.not_le.mpr h
  obtain ⟨aK, c, cA, kA, q1, q2, q3, q4, q5, q6, -⟩ := Cond.exactly_spec (args := #[Value.ref b]) (first := s) (o := none) (s := s) (idx := []) (t := .string RX5 52) (cls := "java/lang/String") (hs _ (by decide +kernel))
  obtain ⟨aV, ht, hT⟩ := va_Tof (args := #[Value.ref b]) (s := s) (tm := .field (.string RX5 52) "java/lang/String" "value" "[B") (ty := .byte) (N := 12) (f := fun j => .int (tb j)) (A := fun q : Nat => s.heap.size ≤ q) (by decide) (hs _ (by decide +kernel)) (va_eqt (hs _ (by decide +kernel))) (fun j hj => by
    rcases (show j = 0 ∨ j = 1 ∨ j = 2 ∨ j = 3 ∨ j = 4 ∨ j = 5 ∨ j = 6 ∨ j = 7 ∨ j = 8 ∨ j = 9 ∨ j = 10 ∨ j = 11 by omega) with rfl | rfl | rfl | rfl | rfl | rfl | rfl | rfl | rfl | rfl | rfl | rfl <;> exact va_eqt (hs _ (by decide +kernel))) hA
  exact ⟨aK, aV, vk_R.of (hts (.stringRef RX5 52 "0+0;+-+;0+0;") (by decide +kernel)) q1, ⟨cA, q3, q5, by rw [q6]; exact q2, hA aK (Array.getElem?_eq_some_iff.mp q3).1⟩, vk_OFof q1 (va_eqt (hs _ (by decide +kernel))) hA, vk_OFof q1 ht hA, hT, va_Zof (hts (.laysStatic "java/lang/String" "COMPACT_STRINGS" "Z") (by decide +kernel)) (hts (.initialized "java/lang/String") (by decide +kernel)) (va_eqi (hs _ (by decide +kernel))) hA, va_Zqof (hts (.laysStatic "jdk/internal/util/Preconditions" "SIOOBE_FORMATTER" "Ljava/util/function/BiFunction;") (by decide +kernel)) (hts (.initialized "jdk/internal/util/Preconditions") (by decide +kernel)) (hs _ (by decide +kernel)) hA⟩
theorem iy_S {G : kG} {s : State} {H : Heap} {ws : va_W} {As : List Value} {A : Nat → Prop} {aK aV : Nat} (hK : kx G s) (hR : vk_R RX5 52 "0+0;+-+;0+0;" aK s) (hSk : sk aK aV (va_A ws H.size) s H) (hP : va_P G.1 vwCl ws H) (hD : va_D A ws) : PreS s H (va_Pc As (fun U => U.heap.size = H.size ∧ va_P G.1 vwCl ws U.heap ∧ (kx G U ∧ vk_R RX5 52 "0+0;+-+;0+0;" aK U ∧ sk aK aV (va_A ws H.size) U U.heap) ∧ va_D (fun _ => True) ws)) As :=
  ⟨fun a U g mk q => by
    obtain ⟨q0, q1, qP, ⟨qK, qR, qS⟩, qD⟩ := q
    exact ⟨q0, q1, qP, ⟨kx.same (u := U) (U := U.calling g mk a) rfl qK, vk_R.same (u := U) (U := U.calling g mk a) rfl qR, sk.moved (u := U) (U := U.calling g mk a) (Vm.Alike.refl U.vm) qS⟩, qD⟩,
   fun U hU hW => ⟨rfl, by rw [hU], by rw [hU]; exact hP, ⟨kx.warm hW hK, vk_R.warm hW hR, by rw [hU]; exact hSk.moved hW.alike⟩, hD.weaken (fun _ _ _ _ => trivial)⟩⟩
