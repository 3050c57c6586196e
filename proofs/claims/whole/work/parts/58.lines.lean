def LJ (n : Int) (C : Int → Int → Int) (O pa ln : Nat → Int32) : Prop := L1 n C O ∧ L2 n C O (fun _ => False) ∧ L3 n C O pa ln (fun _ => False) ∧ L4 n C O
theorem DN.join {n : Int} {C : Int → Int → Int} (hC : CS n C) {pa ln : Nat → Int32} {k k' j : Int} {i : Nat} (k0 : 0 ≤ k) (k4 : k < 4 * n) (k2 : k % 2 = 0) (w : WK n C k i k') (hi : i ≤ 36) (j0 : 0 ≤ j) (j4 : j < 4 * n) (j2 : j % 2 = 0) (h : DN n C pa ln j ∨ j = k ∨ j = k') : DN n C (upd (upd pa (k / 2).toNat (ii (k' / 2))) (k' / 2).toNat (ii (k / 2))) (upd (upd ln (k / 2).toNat (ii ((i : Int) + 2))) (k' / 2).toNat (ii ((i : Int) + 2))) j := by
  have q0 := w.1
  have q2 := w.2.2.1
  by_cases a : j = k'
  · subst a
    exact ⟨i, k, w.rev hC k0 k4 k2, pk_us, pk_us, hi⟩
  · by_cases b : j = k
    · subst b
      exact ⟨i, k', w, by rw [pk_un (by omega), pk_us], by rw [pk_un (by omega), pk_us], hi⟩
    · rcases h with ⟨i', q, h1, h2, h3, h4⟩ | h | h
      · exact ⟨i', q, h1, by rw [pk_un (by omega), pk_un (by omega)]; exact h2, by rw [pk_un (by omega), pk_un (by omega)]; exact h3, h4⟩
      · exact absurd h b
      · exact absurd h a
theorem x1_followLine {n f o : Nat} {C : Int → Int → Int} {O pa ln em : Nat → Int32} (hC : CS n C) (hf : f < 4) (ho : o < n) (hem : ∀ k : Nat, k < 4 * n → em k = if k % 2 = 0 then ii ((k / 2 : Nat) : Int) else -4) (hL : LJ n C O pa ln) : ∃ (row col sd : Int32) (pa' ln' O' : Nat → Int32), S_X1_followLine (ii f) (ii o) (ii n) pa ln O em = some (row, col, sd, pa', ln', O') ∧ LJ n C O' pa' ln' ∧ ((f * n + o) % 2 = 0 → oc O' (rm n ((f * n + o : Nat) : Int)).1 (rm n ((f * n + o : Nat) : Int)).2.1 = 0) ∧ ∀ r c, IN n r c → oc O r c = 0 → oc O' r c = 0 := by
  have h6 := hC.n6
  have h1 := hC.n1
  obtain ⟨st, e3, lt⟩ := x1_stand (n := n) (by omega) hf ho
  have fm := rm_f (n := n) (k := ((f * n + o : Nat) : Int)) (by omega) (by omega) (by omega)
  have dd := rm_dr hC (k := ((f * n + o : Nat) : Int)) (by omega) (by omega)
  have io := x1_isOpen (C := C) (O := O) h6 fm.1 fm.2.1 fm.2.2.1
  rw [e3] at io
  unfold S_X1_followLine
  rw [st, Option.bind_some]
  dsimp only
  rw [ii_mul, ii_add, show (f : Int) * (n : Int) + (o : Int) = ((f * n + o : Nat) : Int) by push_cast; rfl, ck_in (by omega) (by omega) (by omega), ii_clamp (by omega) (by omega), Int.toNat_natCast, hem _ lt]
  by_cases c : (f * n + o) % 2 = 0
  · rw [if_pos c, if_neg (by rw [ii_0lt (by omega) (by omega)]; omega)]
    by_cases z : oc O (rm n ((f * n + o : Nat) : Int)).1 (rm n ((f * n + o : Nat) : Int)).2.1 = 0
    · rw [io.2 z, Option.bind_some, if_pos rfl]
      exact ⟨_, _, _, _, _, _, rfl, hL, fun _ => z, fun _ _ _ q => q⟩
    · have hm := (hL.1 _ _ fm.1).resolve_left z
      have c' : ((f * n + o : Nat) : Int) % 2 = 0 := by omega
      have vv := rm_va hC (k := ((f * n + o : Nat) : Int)) (by omega) (by omega) c'
      have dd2 := vv.2.2.2
      rw [e3] at dd2
      rw [io.1 hm, Option.bind_some, if_pos dd2, if_neg n10]
      obtain ⟨row, col, sd, O', i', k', r1, r2, r3, r4, r5, r6, r7, r8⟩ := line_walk hC (pa := pa) (ln := ln) (em := em) (k := ((f * n + o : Nat) : Int)) (by omega) (by omega) c' hem 36 0 (rm n ((f * n + o : Nat) : Int)) O 10000 (cnt_36 n O) (cnt_36 n O) (by omega) rfl vv hL.1 z (fun r c s a b d e g i => (hL.2.1 r c s a b d e g i).imp id Or.inr) (Or.inl rfl) (fun j a b d => (hL.2.2.1 j a b d).imp id (fun q => q.imp id False.elim)) hL.2.2.2
      refine ⟨row, col, sd, upd (upd pa (((f * n + o : Nat) : Int) / 2).toNat (ii (k' / 2))) (k' / 2).toNat (ii (((f * n + o : Nat) : Int) / 2)), upd (upd ln (((f * n + o : Nat) : Int) / 2).toNat (ii ((i' : Int) + 2))) (k' / 2).toNat (ii ((i' : Int) + 2)), O', ?_, ⟨r3, r4, fun j a b d => ?_, r6⟩, fun _ => r7, r8⟩
      · rw [show ((f * n + o) / 2 : Nat) = (((f * n + o : Nat) : Int) / 2).toNat by omega, show ((((f * n + o : Nat) : Int) / 2).toNat : Int) = ((f * n + o : Nat) : Int) / 2 by omega]
        exact r1
      · rcases r5 j a b d with q | q | q
        · exact Or.inl q
        · exact Or.inr (Or.inl (DN.join hC (by omega) (by omega) c' r2.1 r2.2 a b d (Or.inl q)))
        · exact Or.inr (Or.inl (DN.join hC (by omega) (by omega) c' r2.1 r2.2 a b d (Or.inr q)))
  · rw [if_neg c, if_pos (by decide)]
    exact ⟨_, _, _, _, _, _, rfl, hL, fun q => absurd q c, fun _ _ _ q => q⟩
/-- after all lines -/
def LE (n : Int) (C : Int → Int → Int) (O pa ln : Nat → Int32) : Prop := LJ n C O pa ln ∧ ∀ j, 0 ≤ j → j < 4 * n → j % 2 = 0 → oc O (rm n j).1 (rm n j).2.1 = 0
theorem LJ.start {n : Int} {C : Int → Int → Int} {O pa ln : Nat → Int32} (hC : CS n C) (h : ∀ r c, IN n r c → oc O r c = ii (mk C r c)) : LJ n C O pa ln := by
  refine ⟨fun r c hi => Or.inr (h r c hi), fun r c s hi _ _ _ _ hb => Or.inl ?_, fun j a b d => Or.inl ?_, fun r c hi z => ?_⟩
  · rw [h _ _ hb]; exact mk_ne hC hb
  · have f := (rm_f hC.n1 a b).1
    rw [h _ _ f]; exact mk_ne hC f
  · rw [h _ _ hi] at z; exact absurd z (mk_ne hC hi)
theorem x1_trace0 {n : Nat} {C : Int → Int → Int} {cs O pa ln em : Nat → Int32} {row col sd : Int32} (hC : CS n C) (hT : TC n C cs) (hR : ∀ (O pa ln : Nat → Int32) (row col sd : Int32), LE n C O pa ln → ∃ v, S_X1_followRings (ii n) row col sd O = some v) : ∃ (O' pa' ln' em' : Nat → Int32) (row' col' sd' : Int32) (v : Int32 × Int32 × Int32 × Int32 × Int32 × (Nat → Int32)), LE n C O' pa' ln' ∧ S_X1_followRings (ii n) row' col' sd' O' = some v ∧ S_X1_trace row col sd pa ln O em (ii n) cs = some (v.1, v.2.1, ii n, ii ((2 * n : Nat) : Int), v.2.2.1, v.2.2.2.1, v.2.2.2.2.1, pa', ln', v.2.2.2.2.2, em') := by
  have h6 := hC.n6
  have h1 := hC.n1
  obtain ⟨O1, a1, a2⟩ := x1_openPlaces (O := O) hC hT
  obtain ⟨r1, c1, s1, em1, b1, b2⟩ := x1_numberEnds (em := em) (row := row) (col := col) (sd := sd) hC a2
  unfold S_X1_trace
  rw [a1, Option.bind_some, b1, Option.bind_some]
  dsimp only
  suffices g : ∃ r : Int32 × Int32 × Int32 × Int32 × Int32 × Int32 × Int32 × (Nat → Int32) × (Nat → Int32) × (Nat → Int32) × (Nat → Int32), _ = some r ∧ ∃ (O' pa' ln' : Nat → Int32) (row' col' sd' : Int32) (v : Int32 × Int32 × Int32 × Int32 × Int32 × (Nat → Int32)), LE n C O' pa' ln' ∧ S_X1_followRings (ii n) row' col' sd' O' = some v ∧ r = (v.1, v.2.1, ii n, ii ((2 * n : Nat) : Int), v.2.2.1, v.2.2.2.1, v.2.2.2.2.1, pa', ln', v.2.2.2.2.2, em1) by
    obtain ⟨r, g1, O', pa', ln', row', col', sd', v, g2, g3, rfl⟩ := g
    exact ⟨O', pa', ln', em1, row', col', sd', v, g2, g3, g1⟩
  refine itr_ex (fun (f : Nat) (x : Int32 × Int32 × Int32 × Int32 × (Nat → Int32) × (Nat → Int32) × (Nat → Int32)) => x.1 = ii (f : Int) ∧ LJ n C x.2.2.2.2.2.2 x.2.2.2.2.1 x.2.2.2.2.2.1 ∧ ∀ j : Nat, j < f * n → j % 2 = 0 → oc x.2.2.2.2.2.2 (rm n j).1 (rm n j).2.1 = 0) _ 4 ⟨rfl, LJ.start hC a2, fun j hj => absurd hj (by omega)⟩ (by omega) ?_ ?_
  · rintro f ⟨x1, x2, x3, x4, x5, x6, x7⟩ hf ⟨q1, q2, q3⟩
    dsimp only at q1 q2 q3 ⊢
    subst q1
    left
    have hfn : f * n + n ≤ 4 * n := by rcases f4 hf with rfl | rfl | rfl | rfl <;> omega
    have hf1 : (f + 1) * n = f * n + n := by rw [Nat.add_mul, Nat.one_mul]
    rw [if_neg (by rw [ii_4, ii_le (by omega) (by omega) (by omega) (by omega)]; omega)]
    suffices g : ∃ o : (Int32 × Int32 × Int32 × Int32 × (Nat → Int32) × (Nat → Int32) × (Nat → Int32)) ⊕ (Int32 × Int32 × Int32 × Int32 × Int32 × Int32 × Int32 × (Nat → Int32) × (Nat → Int32) × (Nat → Int32) × (Nat → Int32)), _ = some o ∧ ∃ s', o = .inl s' ∧ s'.1 = ii ((f + 1 : Nat) : Int) ∧ LJ n C s'.2.2.2.2.2.2 s'.2.2.2.2.1 s'.2.2.2.2.2.1 ∧ ∀ j : Nat, j < (f + 1) * n → j % 2 = 0 → oc s'.2.2.2.2.2.2 (rm n j).1 (rm n j).2.1 = 0 by
      obtain ⟨o, g1, s', rfl, g2⟩ := g
      exact ⟨s', g1, g2⟩
    refine itr_ex (fun (o : Nat) (x : Int32 × Int32 × Int32 × Int32 × (Nat → Int32) × (Nat → Int32) × (Nat → Int32)) => x.1 = ii (o : Int) ∧ LJ n C x.2.2.2.2.2.2 x.2.2.2.2.1 x.2.2.2.2.2.1 ∧ ∀ j : Nat, j < f * n + o → j % 2 = 0 → oc x.2.2.2.2.2.2 (rm n j).1 (rm n j).2.1 = 0) _ n ⟨rfl, q2, q3⟩ (by omega) ?_ ?_
    · rintro o ⟨y1, y2, y3, y4, y5, y6, y7⟩ ho ⟨t1, t2, t3⟩
      dsimp only at t1 t2 t3 ⊢
      subst t1
      left
      obtain ⟨row', col', sd', pa', ln', O', u1, u2, u3, u4⟩ := x1_followLine hC hf ho b2 t2
      rw [if_neg (by rw [ii_le (by omega) (by omega) (by omega) (by omega)]; omega), u1, Option.bind_some, ii_a1]
      refine ⟨_, rfl, congrArg ii (by omega), u2, fun j hj j2 => ?_⟩
      dsimp only
      by_cases e : j = f * n + o
      · subst e; exact u3 j2
      · exact u4 _ _ (rm_f (n := n) (k := j) (by omega) (by omega) (by omega)).1 (t3 j (by omega) j2)
    · rintro ⟨y1, y2, y3, y4, y5, y6, y7⟩ ⟨t1, t2, t3⟩
      dsimp only at t1 t2 t3 ⊢
      subst t1
      rw [if_pos (by rw [ii_le (by omega) (by omega) (by omega) (by omega)]; omega), ii_a1, hf1]
      exact ⟨_, rfl, _, rfl, congrArg ii (by omega), t2, t3⟩
  · rintro ⟨x1, x2, x3, x4, x5, x6, x7⟩ ⟨q1, q2, q3⟩
    dsimp only at q1 q2 q3 ⊢
    subst q1
    have le : LE n C x7 x5 x6 := ⟨q2, fun j a b d => by
      obtain ⟨j, rfl⟩ := Int.eq_ofNat_of_zero_le a
      exact q3 j (by omega) (by omega)⟩
    obtain ⟨v, hv⟩ := hR x7 x5 x6 x2 x3 x4 le
    rw [if_pos (by decide), hv, Option.bind_some]
    exact ⟨_, rfl, x7, x5, x6, x2, x3, x4, v, le, hv, rfl⟩
theorem LE.dn {n : Int} {C : Int → Int → Int} {O pa ln : Nat → Int32} (h : LE n C O pa ln) {j : Int} (a : 0 ≤ j) (b : j < 4 * n) (d : j % 2 = 0) : DN n C pa ln j := by
  rcases h.1.2.2.1 j a b d with q | q | q
  · exact absurd (h.2 j a b d) q
  · exact q
  · exact q.elim
