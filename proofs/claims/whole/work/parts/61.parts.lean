/-! partner, line, count -/
theorem TM.some {n : Nat} {C : Int → Int → Int} (hC : CS n C) : ∃ sn, TM n C sn := by
  have h6 := hC.n6
  refine ⟨fun k => ii (sg C (k / 6 : Nat) (k % 6 : Nat)), fun r c a b x y => ?_⟩
  obtain ⟨r, rfl⟩ := Int.eq_ofNat_of_zero_le a
  obtain ⟨c, rfl⟩ := Int.eq_ofNat_of_zero_le x
  dsimp only
  rw [show (6 * (r : Int) + c).toNat = 6 * r + c by omega, show (6 * r + c) / 6 = r by omega, show (6 * r + c) % 6 = c by omega]
theorem RG.some {n : Nat} (h6 : (n : Int) ≤ 6) (O : Nat → Int32) : ∃ gone, RG n O gone := by
  refine ⟨fun k => if O ((k / 6 + 1) * 7 + (k % 6 + 1)) = 0 then 1 else 0, fun r c hi => ?_⟩
  obtain ⟨a1, a2, a3, a4⟩ := hi
  unfold ix oc
  dsimp only
  rw [show (6 * (r - 1) + c - 1).toNat / 6 + 1 = r.toNat by omega, show (6 * (r - 1) + c - 1).toNat % 6 + 1 = c.toNat by omega, show r.toNat * 7 + c.toNat = (r * 7 + c).toNat by omega]
  by_cases e : O (r * 7 + c).toNat = 0
  · rw [if_pos e]; exact ⟨fun _ => n10, fun _ => e⟩
  · rw [if_neg e]; exact ⟨fun q => absurd q e, fun q => absurd rfl q⟩
theorem rings_ex {n : Nat} {C : Int → Int → Int} {O pa ln : Nat → Int32} {row col sd : Int32} (hC : CS n C) (h : LE n C O pa ln) : ∃ v, S_X1_followRings (ii n) row col sd O = some v := by
  obtain ⟨sn, hM⟩ := TM.some hC
  obtain ⟨gone, hg⟩ := RG.some hC.n6 O
  obtain ⟨A, B, a, b, c, d, e, f, g, O', g', r, -⟩ := rings_sim (ya := sn) (yb := sn) (yc := sn) (row := row) (col := col) (sd := sd) (lr := 0) (lc := 0) (ls := 0) (lm := 0) (w := 0) hC hM h.1.1 h.1.2.1 h.2 hg
  exact ⟨_, r⟩
theorem x1_trace {n : Nat} {C : Int → Int → Int} {cs O pa ln em : Nat → Int32} {row col sd : Int32} (hC : CS n C) (hT : TC n C cs) : ∃ (O' pa' ln' em' : Nat → Int32) (row' col' sd' : Int32) (v : Int32 × Int32 × Int32 × Int32 × Int32 × (Nat → Int32)), LE n C O' pa' ln' ∧ S_X1_followRings (ii n) row' col' sd' O' = some v ∧ S_X1_trace row col sd pa ln O em (ii n) cs = some (v.1, v.2.1, ii n, ii ((2 * n : Nat) : Int), v.2.2.1, v.2.2.2.1, v.2.2.2.2.1, pa', ln', v.2.2.2.2.2, em') :=
  x1_trace0 hC hT (fun _ _ _ _ _ _ h => rings_ex hC h)
theorem LE.end {n : Nat} {C : Int → Int → Int} {O pa ln : Nat → Int32} (h : LE n C O pa ln) {e : Nat} (he : e < 2 * n) : ∃ (i : Nat) (k' : Int), WK n C (2 * e) i k' ∧ pa e = ii (k' / 2) ∧ ln e = ii ((i : Int) + 2) ∧ i ≤ 36 := by
  obtain ⟨i, k', a, b, c, d⟩ := h.dn (j := 2 * (e : Int)) (by omega) (by omega) (by omega)
  rw [show (2 * (e : Int) / 2).toNat = e by omega] at b c
  exact ⟨i, k', a, b, c, d⟩
theorem p_pl {tS : Int32} {tC tn : Nat → Int32} (hR : RT tS tC tn) (p1 : Int32) {qa qb qc qd qe qf qg la lb lc ld : Int32} {pa ln O em eR eC eS g : Nat → Int32} :
    (∃ (r a1 a2 a3 a4 a5 a6 a7 b1 b2 b3 b4 : Int32) (c1 c2 c3 c4 d1 d2 d3 d4 : Nat → Int32), S_X5_partner p1 tS tC qa qb qc qd qe qf qg pa ln O em = some (r, a1, a2, a3, a4, a5, a6, a7, c1, c2, c3, c4) ∧ S_X6_partner p1 tS la lb lc ld tn eR eC eS g = some (r, b1, b2, b3, b4, d1, d2, d3, d4)) ∧
    (∃ (r a1 a2 a3 a4 a5 a6 a7 b1 b2 b3 b4 : Int32) (c1 c2 c3 c4 d1 d2 d3 d4 : Nat → Int32), S_X5_line p1 tS tC qa qb qc qd qe qf qg pa ln O em = some (r, a1, a2, a3, a4, a5, a6, a7, c1, c2, c3, c4) ∧ S_X6_line p1 tS la lb lc ld tn eR eC eS g = some (r, b1, b2, b3, b4, d1, d2, d3, d4)) := by
  obtain ⟨N, C, rfl, hC, hT, hZ, hM⟩ := hR
  have h6 := hC.n6
  have h1 := hC.n1
  unfold S_X5_partner S_X6_partner S_X5_line S_X6_line S_X6_isEnd
  rw [x5_isBetween, ii_2, ii_mul, ii_s1, l64_0, x6_in, Option.bind_some, Option.bind_some]
  rcases bt_z0 p1 (b := 2 * (N : Int) - 1) (by omega) (by omega) with h | ⟨h, z, rfl, a1, a2⟩
  · rw [h, ck_b (by rfl)]
    simp only [Option.bind_some, if_pos]
    exact ⟨⟨_, _, _, _, _, _, _, _, _, _, _, _, _, _, _, _, _, _, _, _, rfl, rfl⟩, ⟨_, _, _, _, _, _, _, _, _, _, _, _, _, _, _, _, _, _, _, _, rfl, rfl⟩⟩
  · obtain ⟨e, rfl⟩ := Int.eq_ofNat_of_zero_le a1
    obtain ⟨O', pa', ln', em', row', col', sd', v, le, hv, tr⟩ := x1_trace (O := O) (pa := pa) (ln := ln) (em := em) (row := qe) (col := qf) (sd := qg) hC hT
    obtain ⟨eR', eC', eS', f1, f2⟩ := x6_findEnds (eR := eR) (eC := eC) (eS := eS) hC hM
    obtain ⟨i, k', w1, w2, w3, w4⟩ := le.end (e := e) (by omega)
    obtain ⟨g', g1, g2⟩ := x6_goes (g := g) hC hM f2 (e := e) (by omega) (by omega) w1
    rw [h, ck_b (by rfl)]
    simp only [Option.bind_some, if_neg n10, tr, f1, g1]
    rw [ck_in (by omega) (by omega) (by omega), ck_in (by omega) (by omega) (by omega), ii_clamp (by omega) (by omega), Int.toNat_natCast, w2, w3]
    exact ⟨⟨_, _, _, _, _, _, _, _, _, _, _, _, _, _, _, _, _, _, _, _, rfl, rfl⟩, ⟨_, _, _, _, _, _, _, _, _, _, _, _, _, _, _, _, _, _, _, _, rfl, rfl⟩⟩
/-! rings of both sides -/
theorem LE.on {n : Int} {C : Int → Int → Int} {O pa ln : Nat → Int32} (hC : CS n C) (h : LE n C O pa ln) : ∀ {i : Nat} {x y : TR}, PA n C i x y → VA n C x → oc O x.1 x.2.1 = 0 → oc O y.1 y.2.1 = 0 := by
  intro i
  induction i with
  | zero => intro x y p v z; cases p; exact z
  | succ i ih =>
    intro x y p v z
    obtain ⟨o1, o2, o3, o4, o5, o6⟩ := ot_f hC v.1 v.2.1 v.2.2.1 v.2.2.2
    have op := opp_f o1 o2 x.1 x.2.1
    have v2 := v.nx hC p.1
    refine ih p.2 v2 (Classical.byContradiction (fun q => ?_))
    have e1 : nro (nx C x).1 (nx C x).2.2 = x.1 := op.1
    have e2 : nco (nx C x).2.1 (nx C x).2.2 = x.2.1 := op.2.1
    rcases h.1.2.1 (nx C x).1 (nx C x).2.1 (nx C x).2.2 v2.1 v2.2.1 v2.2.2.1 q v2.2.2.2 (by rw [e1, e2]; exact v.1) with w | w
    · rw [e1, e2] at w; exact w z
    · exact w
theorem LE.rg {n : Nat} {C : Int → Int → Int} {O pa ln gone : Nat → Int32} (hC : CS n C) (h : LE n C O pa ln) (hg : ∀ r c, IN n r c → (¬ gone (ix r c) = 0 ↔ ∃ (e j : Nat) (z : TR), e < 2 * n ∧ PA n C j (rm n (2 * e)) z ∧ z.1 = r ∧ z.2.1 = c)) : RG n O gone := by
  intro r c hi
  rw [hg r c hi]
  constructor
  · intro z
    obtain ⟨j, i, y, j0, j4, j2, p, e1, e2⟩ := h.1.2.2.2 r c hi z
    refine ⟨(j / 2).toNat, i, y, by omega, ?_, e1, e2⟩
    rw [show 2 * (((j / 2).toNat : Nat) : Int) = j by omega]
    exact p
  · rintro ⟨e, j, z, he, p, rfl, rfl⟩
    exact h.on hC p (rm_va hC (by omega) (by omega) (by omega)) (h.2 _ (by omega) (by omega) (by omega))
theorem x6_rings {n : Nat} {C : Int → Int → Int} {sn O pa ln eR eC eS g : Nat → Int32} {row col sd lr lc ls lm w : Int32} {v : Int32 × Int32 × Int32 × Int32 × Int32 × (Nat → Int32)} (hC : CS n C) (hM : TM n C sn) (h : LE n C O pa ln) (hv : S_X1_followRings (ii n) row col sd O = some v) : ∃ (lr' lc' ls' lm' : Int32) (d1 d2 d3 d4 : Nat → Int32), S_X6_rings w (ii n) lr lc ls lm sn eR eC eS g = some (if w = 0 then v.1 else v.2.1, lr', lc', ls', lm', d1, d2, d3, d4) := by
  have h6 := hC.n6
  have h1 := hC.n1
  obtain ⟨eR', eC', eS', f1, f2⟩ := x6_findEnds (eR := eR) (eC := eC) (eS := eS) hC hM
  unfold S_X6_rings
  rw [f1, Option.bind_some]
  suffices gg : ∃ r : Int32 × Int32 × Int32 × Int32 × Int32 × (Nat → Int32) × (Nat → Int32) × (Nat → Int32) × (Nat → Int32), _ = some r ∧ r.1 = if w = 0 then v.1 else v.2.1 by
    obtain ⟨⟨r1, r2, r3, r4, r5, r6, r7, r8, r9⟩, g1, g2⟩ := gg
    dsimp only at g2
    subst g2
    exact ⟨_, _, _, _, _, _, _, _, g1⟩
  refine itr_ex (fun (k : Nat) (x : Int32 × (Nat → Int32)) => x.1 = ii (k : Int) ∧ ∀ i, i < k → x.2 i = 0) _ 36 ⟨rfl, fun i hi => absurd hi (by omega)⟩ (by omega) ?_ ?_
  · rintro k ⟨x1, x2⟩ hk ⟨q1, q2⟩
    dsimp only at q1 q2 ⊢
    subst q1
    left
    rw [if_neg (by rw [ii_36, ii_le (by omega) (by omega) (by omega) (by omega)]; omega), ck_in (by omega) (by omega) (by omega), ii_clamp (by omega) (by omega), Int.toNat_natCast, ii_a1, vb0]
    refine ⟨_, rfl, congrArg ii (by omega), fun i hi => ?_⟩
    dsimp only
    by_cases e : i = k
    · subst e; rw [pk_us]
    · rw [pk_un e]; exact q2 i (by omega)
  · rintro ⟨x1, x2⟩ ⟨q1, q2⟩
    dsimp only at q1 q2 ⊢
    subst q1
    rw [if_pos (by decide)]
    suffices gg : ∃ o : (Int32 × (Nat → Int32)) ⊕ (Int32 × Int32 × Int32 × Int32 × Int32 × (Nat → Int32) × (Nat → Int32) × (Nat → Int32) × (Nat → Int32)), _ = some o ∧ ∃ r, o = .inr r ∧ r.1 = if w = 0 then v.1 else v.2.1 by
      obtain ⟨o, g1, r, rfl, g2⟩ := gg
      exact ⟨r, g1, g2⟩
    refine itr_ex (fun (k : Nat) (x : Int32 × Int32 × Int32 × Int32 × Int32 × (Nat → Int32)) => x.1 = ii (k : Int) ∧ ∀ r c, IN n r c → (¬ x.2.2.2.2.2 (ix r c) = 0 ↔ ∃ (e j : Nat) (z : TR), e < k ∧ PA n C j (rm n (2 * e)) z ∧ z.1 = r ∧ z.2.1 = c)) _ (2 * n) ⟨rfl, fun r c hi => ?_⟩ (by omega) ?_ ?_
    · dsimp only
      obtain ⟨a1, a2, a3, a4⟩ := hi
      rw [q2 (ix r c) (by unfold ix; omega)]
      exact ⟨fun q => absurd rfl q, fun ⟨e, _, _, q, _⟩ => absurd q (by omega)⟩
    · rintro k ⟨y1, y2, y3, y4, y5, y6⟩ hk ⟨r1, r2⟩
      dsimp only at r1 r2 ⊢
      subst r1
      left
      obtain ⟨i, k', w1, w2, w3, w4⟩ := h.end (e := k) hk
      obtain ⟨g', g1, g2⟩ := x6_goes (g := y6) hC hM f2 hk (by omega) w1
      rw [if_neg (by rw [ii_2, ii_mul, ii_le (by omega) (by omega) (by omega) (by omega)]; omega), g1, Option.bind_some, ii_a1]
      refine ⟨_, rfl, congrArg ii (by omega), fun r c hi => ?_⟩
      dsimp only
      rw [g2 r c hi, r2 r c hi]
      constructor
      · rintro (⟨e, j, z, a, b⟩ | ⟨j, z, b⟩)
        · exact ⟨e, j, z, by omega, b⟩
        · exact ⟨k, j, z, by omega, b⟩
      · rintro ⟨e, j, z, a, b⟩
        by_cases q : e = k
        · subst q; exact Or.inr ⟨j, z, b⟩
        · exact Or.inl ⟨e, j, z, by omega, b⟩
    · rintro ⟨y1, y2, y3, y4, y5, y6⟩ ⟨r1, r2⟩
      dsimp only at r1 r2 ⊢
      subst r1
      rw [if_pos (by rw [ii_2, ii_mul, ii_le (by omega) (by omega) (by omega) (by omega)]; omega)]
      obtain ⟨A, B, a, b, c, d, e, f, gx, O', g', u1, u2⟩ := rings_sim (ya := eR') (yb := eC') (yc := eS') (row := row) (col := col) (sd := sd) (lr := y2) (lc := y3) (ls := y4) (lm := y5) (w := w) hC hM h.1.1 h.1.2.1 h.2 (h.rg hC r2)
      rw [hv] at u1
      cases u1
      exact ⟨_, u2, _, rfl, rfl⟩
theorem p_count {tS oS len free held um : Int32} {tC tn oC on lt tx pS bf : Nat → Int32} {pC : Nat → Nat → Int32} (hR : RT tS tC tn) (hP : RP free held pS pC um bf) (p1 : Int32) {qa qb qc qd qe qf qg la lb lc ld : Int32} {pa ln O em eR eC eS g : Nat → Int32} :
    ∃ (r a1 a2 a3 a4 a5 a6 a7 b1 b2 b3 b4 : Int32) (c1 c2 c3 c4 d1 d2 d3 d4 : Nat → Int32), S_X5_count p1 len tS tC oS held qa qb qc qd qe qf qg pa ln O em = some (r, a1, a2, a3, a4, a5, a6, a7, c1, c2, c3, c4) ∧ S_X6_count p1 len tS oS um la lb lc ld tn eR eC eS g = some (r, b1, b2, b3, b4, d1, d2, d3, d4) := by
  obtain ⟨N, C, rfl, hC, hT, hZ, hM⟩ := hR
  obtain ⟨f, h, hf, hh, rfl, rfl, rfl, hj⟩ := hP
  obtain ⟨v1, n1, n2⟩ := p_neg hC hT hM
  obtain ⟨v2, m1, m2⟩ := p_flpb hC hT hM
  obtain ⟨v3, i1, i2⟩ := p_inv hC hT hM
  obtain ⟨v4, t1, t2⟩ := p_hts hC hT hM
  obtain ⟨v5, d1, d2⟩ := p_drw hC hT hM
  obtain ⟨O', pa', ln', em', row', col', sd', v, le, hv, tr⟩ := x1_trace (O := O) (pa := pa) (ln := ln) (em := em) (row := qe) (col := qf) (sd := qg) hC hT
  obtain ⟨r1, r2, r3, r4, r5, r6, r7, r8, er⟩ := x6_rings (eR := eR) (eC := eC) (eS := eS) (g := g) (lr := la) (lc := lb) (ls := lc) (lm := ld) (w := 0) hC hM le hv
  obtain ⟨s1, s2, s3, s4, s5, s6, s7, s8, es⟩ := x6_rings (eR := eR) (eC := eC) (eS := eS) (g := g) (lr := la) (lc := lb) (ls := lc) (lm := ld) (w := 1) hC hM le hv
  rw [if_pos rfl] at er
  rw [if_neg n10] at es
  unfold S_X5_count S_X6_count
  by_cases c0 : p1 = 0
  · subst c0; simp only [if_pos]
    exact ⟨_, _, _, _, _, _, _, _, _, _, _, _, _, _, _, _, _, _, _, _, rfl, rfl⟩
  by_cases c1 : p1 = 1
  · subst c1; simp only [if_neg c0, if_pos, n1, n2, Option.bind_some]
    exact ⟨_, _, _, _, _, _, _, _, _, _, _, _, _, _, _, _, _, _, _, _, rfl, rfl⟩
  by_cases c2 : p1 = 2
  · subst c2; simp only [if_neg c0, if_neg c1, if_pos, m1, m2, Option.bind_some]
    exact ⟨_, _, _, _, _, _, _, _, _, _, _, _, _, _, _, _, _, _, _, _, rfl, rfl⟩
  by_cases c3 : p1 = 3
  · subst c3; simp only [if_neg c0, if_neg c1, if_neg c2, if_pos, i1, i2, Option.bind_some]
    exact ⟨_, _, _, _, _, _, _, _, _, _, _, _, _, _, _, _, _, _, _, _, rfl, rfl⟩
  by_cases c4 : p1 = 4
  · subst c4; simp only [if_neg c0, if_neg c1, if_neg c2, if_neg c3, if_pos, t1, t2, Option.bind_some]
    exact ⟨_, _, _, _, _, _, _, _, _, _, _, _, _, _, _, _, _, _, _, _, rfl, rfl⟩
  by_cases c5 : p1 = 5
  · subst c5; simp only [if_neg c0, if_neg c1, if_neg c2, if_neg c3, if_neg c4, if_pos]
    exact ⟨_, _, _, _, _, _, _, _, _, _, _, _, _, _, _, _, _, _, _, _, rfl, rfl⟩
  by_cases c6 : p1 = 6
  · subst c6; simp only [if_neg c0, if_neg c1, if_neg c2, if_neg c3, if_neg c4, if_neg c5, if_pos]
    exact ⟨_, _, _, _, _, _, _, _, _, _, _, _, _, _, _, _, _, _, _, _, rfl, rfl⟩
  by_cases c7 : p1 = 7
  · subst c7; simp only [if_neg c0, if_neg c1, if_neg c2, if_neg c3, if_neg c4, if_neg c5, if_neg c6, if_pos]
    exact ⟨_, _, _, _, _, _, _, _, _, _, _, _, _, _, _, _, _, _, _, _, rfl, rfl⟩
  by_cases c8 : p1 = 8
  · subst c8; simp only [if_neg c0, if_neg c1, if_neg c2, if_neg c3, if_neg c4, if_neg c5, if_neg c6, if_neg c7, if_pos, n1, n2, Option.bind_some]
    by_cases z : v1 = 0
    · rw [if_pos z, if_pos z]
      exact ⟨_, _, _, _, _, _, _, _, _, _, _, _, _, _, _, _, _, _, _, _, rfl, rfl⟩
    · rw [if_neg z, if_neg z]
      exact ⟨_, _, _, _, _, _, _, _, _, _, _, _, _, _, _, _, _, _, _, _, rfl, rfl⟩
  by_cases c9 : p1 = 9
  · subst c9; simp only [if_neg c0, if_neg c1, if_neg c2, if_neg c3, if_neg c4, if_neg c5, if_neg c6, if_neg c7, if_neg c8, if_pos, d1, d2, Option.bind_some]
    exact ⟨_, _, _, _, _, _, _, _, _, _, _, _, _, _, _, _, _, _, _, _, rfl, rfl⟩
  by_cases c10 : p1 = 10
  · subst c10; simp only [if_neg c0, if_neg c1, if_neg c2, if_neg c3, if_neg c4, if_neg c5, if_neg c6, if_neg c7, if_neg c8, if_neg c9, if_pos, tr, Option.bind_some]
    rw [show (10 : Int32) - 10 = 0 by decide, er, Option.bind_some]
    exact ⟨_, _, _, _, _, _, _, _, _, _, _, _, _, _, _, _, _, _, _, _, rfl, rfl⟩
  by_cases c11 : p1 = 11
  · subst c11; simp only [if_neg c0, if_neg c1, if_neg c2, if_neg c3, if_neg c4, if_neg c5, if_neg c6, if_neg c7, if_neg c8, if_neg c9, if_neg c10, if_pos, tr, Option.bind_some]
    rw [show (11 : Int32) - 10 = 1 by decide, es, Option.bind_some]
    exact ⟨_, _, _, _, _, _, _, _, _, _, _, _, _, _, _, _, _, _, _, _, rfl, rfl⟩
  simp only [if_neg c0, if_neg c1, if_neg c2, if_neg c3, if_neg c4, if_neg c5, if_neg c6, if_neg c7, if_neg c8, if_neg c9, if_neg c10, if_neg c11]
  exact ⟨_, _, _, _, _, _, _, _, _, _, _, _, _, _, _, _, _, _, _, _, rfl, rfl⟩
