/-! ways -/
theorem p2_j {p2 : Int32} {L : Nat} (hL : L ≤ 1000) (a : 0 ≤ p2) (b : ¬ ii (L : Int) ≤ p2) : ∃ j : Nat, j < L ∧ p2 = ii (j : Int) := by
  rw [Int32.le_iff_toInt_le] at a b
  rw [ii_toInt (by omega) (by omega)] at b
  have z0 : (0 : Int32).toInt = 0 := by decide
  rw [z0] at a
  refine ⟨p2.toInt.toNat, by omega, ?_⟩
  rw [show ((p2.toInt.toNat : Nat) : Int) = p2.toInt by omega]
  exact (Int32.ofInt_toInt p2).symm
theorem p2_m {p2 : Int32} (a : -1 ≤ p2) (b : ¬ p2 = -1) : 0 ≤ p2 := by
  rw [Int32.le_iff_toInt_le] at a ⊢
  have z0 : (0 : Int32).toInt = 0 := by decide
  have z1 : (-1 : Int32).toInt = -1 := by decide
  rw [z1] at a
  rw [z0]
  rcases Int.lt_or_le p2.toInt 0 with q | q
  · exact absurd (Int32.toInt_inj.mp (by rw [z1]; omega)) b
  · exact q
noncomputable def AW (n : Nat) (p2 : Int32) : Int32 := if 0 ≤ p2 then if ii ((dsl (cdk n) (EE n 0)).length : Int) ≤ p2 then -4 else ii (tal (cdk n) ((dsl (cdk n) (EE n 0)).getD p2.toNatClampNeg 0) (EE n 0) : Int) else ii ((dsl (cdk n) (EE n 0)).length : Int)
theorem WT.at {n : Nat} {p2 : Int32} {ty : Nat → Int32} (hT : WT (cdk n) (EE n 0) ty) (hL : (dsl (cdk n) (EE n 0)).length ≤ 42) (a : 0 ≤ p2) (b : ¬ ii ((dsl (cdk n) (EE n 0)).length : Int) ≤ p2) : inb p2 42 = true ∧ inb p2 429 = true ∧ ty p2.toNatClampNeg = AW n p2 := by
  unfold AW
  rw [if_pos a, if_neg b]
  obtain ⟨j, lj, rfl⟩ := p2_j (by omega) a b
  refine ⟨inb_t (by omega) (by omega) (by omega), inb_t (by omega) (by omega) (by omega), ?_⟩
  have hv : (dsl (cdk n) (EE n 0))[j]? = some (dsl (cdk n) (EE n 0))[j] := List.getElem?_eq_getElem lj
  rw [ii_clamp (by omega) (by omega), Int.toNat_natCast, hT j _ hv, List.getD_eq_getElem?_getD, hv]
  rfl
theorem x6_waysLoop {n : Nat} (h1 : 1 ≤ n) (h5 : n ≤ 5) {p2 : Int32} (hp2 : -1 ≤ p2) {sd eR eC eS g w mn : Nat → Int32} {cd : Nat → Int64} {la lb lc ld : Int32} :
    ∃ (b1 b2 b3 b4 : Int32) (d0 d1 d2 d3 d4 d5 : Nat → Int32) (d6 : Nat → Int64) (d7 : Nat → Int32), S_X6_ways (ii n) p2 la lb lc ld sd eR eC eS g w cd mn = some (AW n p2, b1, b2, b3, b4, d0, d1, d2, d3, d4, d5, d6, d7) := by
  have h6 : n ≤ 6 := by omega
  have hE := EE_b h1 h6
  have b42 := cdk_42 h1 h5 (Nat.le_refl (EE n 0))
  obtain ⟨w', f1, f2⟩ := wx h1 h6 w
  unfold S_X6_ways
  rw [l64_1, l64_5, x6_in, Option.bind_some, ii_5, bt_in1 (by omega) (by omega) (by omega) (by omega), if_pos (show 1 ≤ (n : Int) ∧ (n : Int) ≤ 5 from ⟨by omega, by omega⟩), if_neg n10, if_pos hp2, f1, Option.bind_some]
  dsimp only
  suffices gg : ∃ r : Int32 × Int32 × Int32 × Int32 × Int32 × (Nat → Int32) × (Nat → Int32) × (Nat → Int32) × (Nat → Int32) × (Nat → Int32) × (Nat → Int32) × (Nat → Int64) × (Nat → Int32), _ = some r ∧ r.1 = AW n p2 by
    obtain ⟨⟨r1, r2, r3, r4, r5, r6, r7, r8, r9, r10, r11, r12, r13⟩, g1, g2⟩ := gg
    dsimp only at g2
    subst g2
    exact ⟨_, _, _, _, _, _, _, _, _, _, _, _, g1⟩
  refine itr_ex (fun (k : Nat) (x : Int32 × Int32 × Int32 × Int32 × Int32 × Int32 × (Nat → Int32) × (Nat → Int32) × (Nat → Int32) × (Nat → Int32) × (Nat → Int32) × (Nat → Int64) × (Nat → Int32)) => x.2.1 = ii (k : Int) ∧ WI (cdk n) k x.1 x.2.2.2.2.2.2.2.2.2.2.2.1 ∧ WT (cdk n) k x.2.2.2.2.2.2.2.2.2.2.2.2) _ (EE n 0) ⟨rfl, ⟨rfl, fun j hj => absurd hj (by show ¬ j < 0; omega)⟩, (fun j v hv => by cases hv)⟩ (by omega) ?_ ?_
  · rintro k ⟨x1, x2, x3, x4, x5, x6, x7, x8, x9, x10, x11, x12, x13⟩ hk ⟨q1, q2, q3⟩
    dsimp only at q1 q2 q3 ⊢
    subst q1
    left
    obtain ⟨T0, L0, ch, hp, hz⟩ := chn_f h1 h6 hk
    obtain ⟨sn', u1, u2⟩ := x6_unrank (sn := x7) h1 h6 f2 T0 L0 ch hp
    have hD := CH.cs h1 h6 T0 ch hp
    obtain ⟨p1, p2', p3, p4, p5, p6, p7, p8, pq⟩ := x6_partners (eR := x8) (eC := x9) (eS := x10) (g := x11) (la := x3) (lb := x4) (lc := x5) (ld := x6) hD u2
    have L0 := cdk_42 h1 h5 (k := k) (by omega)
    have e0 : jj (CD n (TB (chn n k).1)) = cdk n k := rfl
    have hx1 : x1 = ii ((dsl (cdk n) k).length : Int) := q2.1
    rw [e0] at pq
    rw [if_neg (by rw [ii_le (by omega) (by omega) (by omega) (by omega)]; omega), u1, Option.bind_some, pq, Option.bind_some]
    dsimp only
    have hq : x1.toNatClampNeg = (dsl (cdk n) k).length := by rw [hx1, ii_clamp (by omega) (by omega), Int.toNat_natCast]
    have hb : inb x1 429 = true := by rw [hx1]; exact inb_t (by omega) (by omega) (by omega)
    have q2s := q2.sub (x := cdk n k)
    have self : vp_updL x12 (dsl (cdk n) k).length (cdk n k) (dsl (cdk n) k).length = cdk n k := if_pos rfl
    rw [hq, ck_b hb]
    suffices gg : ∃ o : (Int32 × Int32 × Int32 × Int32 × Int32 × Int32 × (Nat → Int32) × (Nat → Int32) × (Nat → Int32) × (Nat → Int32) × (Nat → Int32) × (Nat → Int64) × (Nat → Int32)) ⊕ (Int32 × Int32 × Int32 × Int32 × Int32 × (Nat → Int32) × (Nat → Int32) × (Nat → Int32) × (Nat → Int32) × (Nat → Int32) × (Nat → Int32) × (Nat → Int64) × (Nat → Int32)), _ = some o ∧ ∃ s', o = .inl s' ∧ s'.2.1 = ii ((k + 1 : Nat) : Int) ∧ WI (cdk n) (k + 1) s'.1 s'.2.2.2.2.2.2.2.2.2.2.2.1 ∧ WT (cdk n) (k + 1) s'.2.2.2.2.2.2.2.2.2.2.2.2 by
      obtain ⟨o, g1, s', rfl, g2⟩ := gg
      exact ⟨s', g1, g2⟩
    refine itr_ex (fun (i : Nat) (s : Int32) => s = ii (i : Int) ∧ ∀ j, j < i → ¬ vp_updL x12 (dsl (cdk n) k).length (cdk n k) j = cdk n k) _ (dsl (cdk n) k).length ⟨rfl, fun j hj => absurd hj (by omega)⟩ (by omega) ?_ ?_
    · rintro i s hi ⟨rfl, t2⟩
      try dsimp only
      have hbi : inb (ii (i : Int)) 429 = true := inb_t (by omega) (by omega) (by omega)
      rw [ck_b hbi, ck_b hb, self, ii_clamp (by omega) (by omega), Int.toNat_natCast]
      by_cases e : vp_updL x12 (dsl (cdk n) k).length (cdk n k) i = cdk n k
      · right
        have hv := q2s.2 i hi
        rw [e] at hv
        rw [if_pos ((lg_cmp_eq _ _).mpr e), if_neg (by rw [hx1, ii_eq (by omega) (by omega) (by omega) (by omega)]; omega), ck_b hbi, jn_l, ck_b hbi, if_neg (by rw [hx1, ii_eq (by omega) (by omega) (by omega) (by omega)]; omega), Int32.add_zero, ii_a1]
        exact ⟨_, rfl, _, rfl, congrArg ii (by omega), q2s.y (dsl_in hv).2, q3.y hv⟩
      · left
        rw [if_neg (fun q => e ((lg_cmp_eq _ _).mp q)), ii_a1]
        refine ⟨_, rfl, congrArg ii (by omega), fun j hj => ?_⟩
        by_cases q : j = i
        · subst q; exact e
        · exact t2 j (by omega)
    · rintro s ⟨rfl, t2⟩
      try dsimp only
      have hbi : inb (ii ((dsl (cdk n) k).length : Int)) 429 = true := inb_t (by omega) (by omega) (by omega)
      have nm : ¬ cdk n k ∈ dsl (cdk n) k := fun m => by
        obtain ⟨j, hj⟩ := List.getElem?_of_mem m
        have lj := (dsl_in hj).1
        rw [q2s.2 j lj] at hj
        exact t2 j lj (Option.some.inj hj)
      rw [ck_b hbi, ck_b hb, self, ii_clamp (by omega) (by omega), Int.toNat_natCast, self, if_pos ((lg_cmp_eq _ _).mpr rfl), if_pos hx1.symm, jn_l, ck_b hbi, if_pos hx1.symm, ii_a1]
      exact ⟨_, rfl, _, rfl, congrArg ii (by omega), q2.n nm, q3.n nm⟩
  · rintro ⟨x1, x2, x3, x4, x5, x6, x7, x8, x9, x10, x11, x12, x13⟩ ⟨q1, q2, q3⟩
    dsimp only at q1 q2 q3 ⊢
    subst q1
    have hx1 := q2.1
    subst hx1
    rw [if_pos (Int32.le_refl _)]
    by_cases a : 0 ≤ p2
    · rw [if_pos a]
      by_cases b : ii ((dsl (cdk n) (EE n 0)).length : Int) ≤ p2
      · rw [if_pos b]
        refine ⟨_, rfl, ?_⟩
        unfold AW
        rw [if_pos a, if_pos b]
      · obtain ⟨-, i1, i2⟩ := q3.at b42 a b
        rw [if_neg b, ck_b i1]
        exact ⟨_, rfl, i2⟩
    · rw [if_neg a]
      refine ⟨_, rfl, ?_⟩
      unfold AW
      rw [if_neg a]
theorem p_ways {n : Nat} {p1 p2 : Int32} (hn : ∀ m : Nat, 1 ≤ m → m ≤ 6 → p1 = ii m → n = m) {sd eR eC eS g w mn : Nat → Int32} {cd : Nat → Int64} {la lb lc ld : Int32} {zS zM zK zW : Int32} {zE zT : Nat → Int32} {zC : Nat → Int64} (hZ : RZ n zS zM zK zE) (hW : RW n zW zC zT) {qa qb qc qd qe qf qg sS : Int32} {pa ln O em sC : Nat → Int32} (z7 : Z7 sC) :
    ∃ (r sS' : Int32) (sC' : Nat → Int32) (a1 a2 a3 a4 a5 a6 a7 : Int32) (c1 c2 c3 c4 : Nat → Int32) (zK' zW' : Int32) (zE' : Nat → Int32) (zC' : Nat → Int64) (zT' : Nat → Int32) (b1 b2 b3 b4 : Int32) (d0 d1 d2 d3 d4 d5 : Nat → Int32) (d6 : Nat → Int64) (d7 : Nat → Int32),
      S_X5_ways p1 p2 sS sC qa qb qc qd qe qf qg pa ln O em zS zM zK zW zE zC zT = some (r, sS', sC', a1, a2, a3, a4, a5, a6, a7, c1, c2, c3, c4, zK', zW', zE', zC', zT') ∧ S_X6_ways p1 p2 la lb lc ld sd eR eC eS g w cd mn = some (r, b1, b2, b3, b4, d0, d1, d2, d3, d4, d5, d6, d7) ∧ Z7 sC' ∧ RZ n zS zM zK' zE' ∧ RW n zW' zC' zT' := by
  rcases bt_z1 p1 (b := 5) (by omega) (by omega) with h | ⟨h, z, rfl, a1, a2⟩
  · have h' : bt p1 1 5 = 0 := h
    unfold S_X5_ways S_X6_ways
    rw [x5_isBetween, l64_1, l64_5, x6_in, Option.bind_some, Option.bind_some, h', if_pos rfl, if_pos rfl]
    exact ⟨_, _, _, _, _, _, _, _, _, _, _, _, _, _, _, _, _, _, _, _, _, _, _, _, _, _, _, _, _, _, _, rfl, rfl, z7, hZ, hW⟩
  · obtain ⟨m, rfl⟩ := Int.eq_ofNat_of_zero_le (show 0 ≤ z by omega)
    have e := hn m (by omega) (by omega) rfl
    subst e
    have h1 : 1 ≤ n := by omega
    have h5 : n ≤ 5 := by omega
    have h' : bt (ii (n : Int)) 1 5 = 1 := h
    by_cases c : (-1 : Int32) ≤ p2
    · obtain ⟨b1, b2, b3, b4, d0, d1, d2, d3, d4, d5, d6, d7, ref⟩ := x6_waysLoop (sd := sd) (eR := eR) (eC := eC) (eS := eS) (g := g) (la := la) (lb := lb) (lc := lc) (ld := ld) (w := w) (mn := mn) (cd := cd) h1 h5 c
      obtain ⟨zK', zW', zE', zC', zT', a1, a2, a3, a4, a5, a6, a7, c1, c2, c3, c4, sS', sC', so, s2, s3, s4⟩ := x0_sort (qa := qa) (qb := qb) (qc := qc) (qd := qd) (qe := qe) (qf := qf) (qg := qg) (pa := pa) (ln := ln) (O := O) (em := em) (sS := sS) h1 h5 hZ hW z7
      have b42 := cdk_42 h1 h5 (Nat.le_refl (EE n 0))
      have hw := s3.1.1
      rw [ref]
      unfold S_X5_ways
      rw [x5_isBetween, Option.bind_some, h', if_neg n10, if_pos c, ii_s1, ck_in (by omega) (by omega) (by omega), so, Option.bind_some]
      dsimp only
      by_cases a : p2 = -1
      · rw [if_pos a]
        have e : zW' = AW n p2 := by
          unfold AW
          rw [a, if_neg (by decide), hw]
        rw [← e]
        exact ⟨_, _, _, _, _, _, _, _, _, _, _, _, _, _, _, _, _, _, _, _, _, _, _, _, _, _, _, _, _, _, _, rfl, rfl, s4, s2, Or.inr ⟨h5, s3⟩⟩
      · have a0 := p2_m c a
        rw [if_neg a]
        by_cases b : ii ((dsl (cdk n) (EE n 0)).length : Int) ≤ p2
        · have e : (-4 : Int32) = AW n p2 := by
            unfold AW
            rw [if_pos a0, if_pos b]
          rw [if_pos (by rw [hw]; exact b), ← e]
          exact ⟨_, _, _, _, _, _, _, _, _, _, _, _, _, _, _, _, _, _, _, _, _, _, _, _, _, _, _, _, _, _, _, rfl, rfl, s4, s2, Or.inr ⟨h5, s3⟩⟩
        · obtain ⟨i0, i1, i2⟩ := s3.2.1.at b42 a0 b
          rw [if_neg (by rw [hw]; exact b), ck_b i0, i2]
          exact ⟨_, _, _, _, _, _, _, _, _, _, _, _, _, _, _, _, _, _, _, _, _, _, _, _, _, _, _, _, _, _, _, rfl, rfl, s4, s2, Or.inr ⟨h5, s3⟩⟩
    · unfold S_X5_ways S_X6_ways
      rw [x5_isBetween, l64_1, l64_5, x6_in, Option.bind_some, Option.bind_some, h', if_neg n10, if_neg n10, if_neg c, if_neg c]
      exact ⟨_, _, _, _, _, _, _, _, _, _, _, _, _, _, _, _, _, _, _, _, _, _, _, _, _, _, _, _, _, _, _, rfl, rfl, z7, hZ, hW⟩
