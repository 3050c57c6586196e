/-! all tables of a size by their ranks, their numbers -/
def GC (n k : Nat) (p : (Nat → Nat) × (Nat → Nat)) : Prop := p.1 0 = 0 ∧ p.2 0 = k ∧ CH n p.1 p.2 n ∧ (∀ i, i ≤ n → p.1 i < 2 ^ n ∧ pc (p.1 i) = i ∧ p.2 i < EE n (rv n (p.1 i))) ∧ ∀ i, n < i → p.1 i = 0
theorem GC.ex {n k : Nat} (h1 : 1 ≤ n) (h6 : n ≤ 6) (hk : k < EE n 0) : ∃ p, GC n k p := by
  obtain ⟨T, L, t0, l0, ch, hp⟩ := CH.ex h1 h6 hk
  refine ⟨(fun i => if i ≤ n then T i else 0, L), ?_, l0, ?_, ?_, fun i hi => if_neg (by omega)⟩
  · show (if 0 ≤ n then T 0 else 0) = 0
    rw [if_pos (by omega), t0]
  · intro i hi
    have q := ch i hi
    dsimp only
    rw [if_pos (show i ≤ n by omega), if_pos (show i + 1 ≤ n by omega)]
    exact q
  · intro i hi
    dsimp only
    rw [if_pos hi]
    exact hp i hi
noncomputable def chn (n k : Nat) : (Nat → Nat) × (Nat → Nat) := Classical.epsilon (GC n k)
theorem chn_f {n k : Nat} (h1 : 1 ≤ n) (h6 : n ≤ 6) (hk : k < EE n 0) : GC n k (chn n k) := Classical.epsilon_spec (GC.ex h1 h6 hk)
noncomputable def cdk (n k : Nat) : Int64 := jj (CD n (TB (chn n k).1))
theorem ALL_len {n : Nat} (h1 : 1 ≤ n) (h5 : n ≤ 5) : (ALL n).length ≤ 42 := by
  rcases (by omega : n = 1 ∨ n = 2 ∨ n = 3 ∨ n = 4 ∨ n = 5) with rfl | rfl | rfl | rfl | rfl <;> decide
theorem cdk_all {n k : Nat} (h1 : 1 ≤ n) (h5 : n ≤ 5) (hk : k < EE n 0) : cdk n k ∈ (ALL n).map jj := by
  obtain ⟨T0, L0, ch, hp, hz⟩ := chn_f h1 (by omega) hk
  refine List.mem_map.mpr ⟨CD n (TB (chn n k).1), ?_, rfl⟩
  have q := all_codes (T := (chn n k).1) h1 h5 T0 hz (fun i hi => by
    obtain ⟨a, b, d⟩ := ch i hi
    refine ⟨a, ?_⟩
    rw [ld_cf h1 (by omega) (hp i (by omega)).1 a]
    exact b.2.1)
  exact List.contains_iff_mem.mp q
theorem cdk_42 {n k : Nat} (h1 : 1 ≤ n) (h5 : n ≤ 5) (hk : k ≤ EE n 0) : (dsl (cdk n) k).length ≤ 42 := by
  have q := List.Nodup.length_le_of_subset (dsl_nd (cdk n) k) (l₂ := (ALL n).map jj) (fun v hv => by
    obtain ⟨i, a, b⟩ := dsl_of (cdk n) k v hv
    rw [← b]
    exact cdk_all h1 h5 (by omega))
  rw [List.length_map] at q
  have := ALL_len h1 h5
  omega
theorem EE_1 {n : Nat} (h1 : 1 ≤ n) (h6 : n ≤ 6) : 1 ≤ EE n 0 := by
  rcases (by omega : n = 1 ∨ n = 2 ∨ n = 3 ∨ n = 4 ∨ n = 5 ∨ n = 6) with rfl | rfl | rfl | rfl | rfl | rfl <;> decide
theorem EE_b {n : Nat} (h1 : 1 ≤ n) (h6 : n ≤ 6) : EE n 0 ≤ 7436 := (eef h1 h6 (p1 n)).2.2.1
theorem dsl_pos {c : Nat → Int64} {k : Nat} (h : 1 ≤ k) : 0 < (dsl c k).length := by
  obtain ⟨k', rfl⟩ : ∃ k', k = k' + 1 := ⟨k - 1, by omega⟩
  exact List.length_pos_of_mem (dsl_m.mpr (Or.inr rfl))
def WA (n k : Nat) (w : Int32) (cd : Nat → Int64) (ty : Nat → Int32) : Prop := WI (cdk n) k w cd ∧ WT (cdk n) k ty ∧ WZ (cdk n) k ty
def RW (n : Nat) (w : Int32) (cd : Nat → Int64) (ty : Nat → Int32) : Prop := (w = 0 ∧ ∀ j, j < 42 → ty j = 0) ∨ (n ≤ 5 ∧ WA n (EE n 0) w cd ty)
theorem RW.new {n : Nat} {w : Int32} {cd : Nat → Int64} {ty : Nat → Int32} (h : w = 0 ∧ ∀ j, j < 42 → ty j = 0) : WA n 0 w cd ty :=
  ⟨⟨h.1, fun j hj => absurd hj (by show ¬ j < 0; omega)⟩, (fun j v hv => by cases hv), fun j _ h2 => h.2 j h2⟩
theorem x0_sort {n : Nat} (h1 : 1 ≤ n) (h5 : n ≤ 5) {zS zM zK zW : Int32} {zE zT : Nat → Int32} {zC : Nat → Int64} (hZ : RZ n zS zM zK zE) (hW : RW n zW zC zT) {qa qb qc qd qe qf qg sS : Int32} {pa ln O em sC : Nat → Int32} (z7 : Z7 sC) :
    ∃ (zK' zW' : Int32) (zE' : Nat → Int32) (zC' : Nat → Int64) (zT' : Nat → Int32) (a1 a2 a3 a4 a5 a6 a7 : Int32) (c1 c2 c3 c4 : Nat → Int32) (sS' : Int32) (sC' : Nat → Int32), S_X0_sortByPartners zS zM zK zW zE zC zT qa qb qc qd qe qf qg pa ln O em sS sC = some (zK', zW', zE', zC', zT', a1, a2, a3, a4, a5, a6, a7, c1, c2, c3, c4, sS', sC') ∧ RZ n zS zM zK' zE' ∧ WA n (EE n 0) zW' zC' zT' ∧ Z7 sC' := by
  have h6 : n ≤ 6 := by omega
  have hE := EE_b h1 h6
  unfold S_X0_sortByPartners
  by_cases cs0 : zW ≤ 0
  · have hW0 : zW = 0 ∧ ∀ j, j < 42 → zT j = 0 := by
      rcases hW with q | ⟨-, q⟩
      · exact q
      · have a := dsl_pos (c := cdk n) (EE_1 h1 h6)
        have b := cdk_42 h1 h5 (Nat.le_refl (EE n 0))
        rw [q.1.1, ii_0, ii_le (by omega) (by omega) (by omega) (by omega)] at cs0
        omega
    obtain ⟨zE1, t1, t2⟩ := x0_total h1 h6 hZ
    rw [if_pos cs0, t1, Option.bind_some]
    suffices gg : ∃ r : Int32 × Int32 × (Nat → Int32) × (Nat → Int64) × (Nat → Int32) × Int32 × Int32 × Int32 × Int32 × Int32 × Int32 × Int32 × (Nat → Int32) × (Nat → Int32) × (Nat → Int32) × (Nat → Int32) × Int32 × (Nat → Int32), _ = some r ∧ (RZ n zS zM r.1 r.2.2.1 ∧ WA n (EE n 0) r.2.1 r.2.2.2.1 r.2.2.2.2.1 ∧ Z7 r.2.2.2.2.2.2.2.2.2.2.2.2.2.2.2.2.2) by
      obtain ⟨⟨r1, r2, r3, r4, r5, r6, r7, r8, r9, r10, r11, r12, r13, r14, r15, r16, r17, r18⟩, g1, g2⟩ := gg
      exact ⟨_, _, _, _, _, _, _, _, _, _, _, _, _, _, _, _, _, _, g1, g2⟩
    refine itr_ex (fun (k : Nat) (x : Int32 × Int32 × Int32 × (Nat → Int32) × (Nat → Int64) × (Nat → Int32) × Int32 × Int32 × Int32 × Int32 × Int32 × Int32 × Int32 × (Nat → Int32) × (Nat → Int32) × (Nat → Int32) × (Nat → Int32) × Int32 × (Nat → Int32)) => x.1 = ii (k : Int) ∧ RZ n zS zM x.2.1 x.2.2.2.1 ∧ WA n k x.2.2.1 x.2.2.2.2.1 x.2.2.2.2.2.1 ∧ Z7 x.2.2.2.2.2.2.2.2.2.2.2.2.2.2.2.2.2.2) _ (EE n 0) ⟨rfl, t2, RW.new hW0, z7⟩ (by omega) ?_ ?_
    · rintro k ⟨x1, x2, x3, x4, x5, x6, x7, x8, x9, x10, x11, x12, x13, x14, x15, x16, x17, x18, x19⟩ hk ⟨q1, q2, q3, q4⟩
      dsimp only at q1 q2 q3 q4 ⊢
      subst q1
      left
      obtain ⟨T0, L0, ch, hp, hz⟩ := chn_f h1 h6 hk
      obtain ⟨zE2, tc', u1, u2, u3, u4⟩ := x0_put h1 h6 q2 T0 L0 ch hp q4
      have hC := CH.cs h1 h6 T0 ch hp
      obtain ⟨O', pa', ln', em', row', col', sd', v, le, hv, tr⟩ := x1_trace (O := x16) (pa := x14) (ln := x15) (em := x17) (row := x11) (col := x12) (sd := x13) hC u2
      obtain ⟨w', cd', ty', s1, s2, s3, s4⟩ := x0_addToWay q3.1 q3.2.1 q3.2.2 (cdk_42 h1 h5 (by omega)) (cdk_42 h1 h5 (by omega))
      rw [if_neg (by rw [ii_le (by omega) (by omega) (by omega) (by omega)]; omega), u1, Option.bind_some]
      dsimp only
      rw [tr, Option.bind_some]
      dsimp only
      rw [x1_partnersCode hC le, Option.bind_some]
      have e : jj (CD n (TB (chn n k).1)) = cdk n k := rfl
      rw [e, s1, Option.bind_some, ii_a1]
      exact ⟨_, rfl, congrArg ii (by omega), u4, ⟨s2, s3, s4⟩, u3⟩
    · rintro ⟨x1, x2, x3, x4, x5, x6, x7, x8, x9, x10, x11, x12, x13, x14, x15, x16, x17, x18, x19⟩ ⟨q1, q2, q3, q4⟩
      dsimp only at q1 q2 q3 q4 ⊢
      subst q1
      rw [if_pos (Int32.le_refl _)]
      exact ⟨_, rfl, q2, q3, q4⟩
  · rw [if_neg cs0]
    rcases hW with ⟨q, -⟩ | ⟨-, q⟩
    · exact absurd (by rw [q]; exact Int32.le_refl _) cs0
    · exact ⟨_, _, _, _, _, _, _, _, _, _, _, _, _, _, _, _, _, _, rfl, hZ, q, z7⟩
/-! the reference's loops -/
theorem x6_alikeLoop {n : Nat} (h1 : 1 ≤ n) (h5 : n ≤ 5) {w : Nat → Int32} (hw : ∀ r s, r ≤ n → s < 2 ^ n → w (64 * r + s) = ii (WW n r s)) {C : Int → Int → Int} {sn sd eR eC eS g : Nat → Int32} {la lb lc ld : Int32} (hC : CS n C) (hM : TM n C sn) (hf : ∃ w', S_X6_findWays (ii n) w' = some (ii (WW n 0 0), w)) :
    ∀ w', S_X6_findWays (ii n) w' = some (ii (WW n 0 0), w) → ∃ (b1 b2 b3 b4 : Int32) (d0 d1 d2 d3 d4 d5 : Nat → Int32), S_X6_alike (ii n) la lb lc ld sn sd eR eC eS g w' = some (ii (tal (cdk n) (jj (CD n C)) (EE n 0) : Int), b1, b2, b3, b4, d0, d1, d2, d3, d4, d5) := by
  intro w' hw'
  have h6 : n ≤ 6 := by omega
  have hE := EE_b h1 h6
  obtain ⟨b1, b2, b3, b4, d1, d2, d3, d4, pp⟩ := x6_partners (eR := eR) (eC := eC) (eS := eS) (g := g) (la := la) (lb := lb) (lc := lc) (ld := ld) hC hM
  unfold S_X6_alike
  rw [if_neg (by rw [ii_6, ii_eq (by omega) (by omega) (by omega) (by omega)]; omega), pp, Option.bind_some, hw', Option.bind_some]
  dsimp only
  rw [WW_00 h1 h6]
  suffices gg : ∃ r : Int32 × Int32 × Int32 × Int32 × Int32 × (Nat → Int32) × (Nat → Int32) × (Nat → Int32) × (Nat → Int32) × (Nat → Int32) × (Nat → Int32), _ = some r ∧ r.1 = ii (tal (cdk n) (jj (CD n C)) (EE n 0) : Int) by
    obtain ⟨⟨r1, r2, r3, r4, r5, r6, r7, r8, r9, r10, r11⟩, g1, g2⟩ := gg
    dsimp only at g2
    subst g2
    exact ⟨_, _, _, _, _, _, _, _, _, _, g1⟩
  refine itr_ex (fun (k : Nat) (x : Int32 × Int32 × Int32 × Int32 × Int32 × Int32 × (Nat → Int32) × (Nat → Int32) × (Nat → Int32) × (Nat → Int32) × (Nat → Int32)) => x.1 = ii (tal (cdk n) (jj (CD n C)) k : Int) ∧ x.2.1 = ii (k : Int)) _ (EE n 0) ⟨rfl, rfl⟩ (by omega) ?_ ?_
  · rintro k ⟨x1, x2, x3, x4, x5, x6, x7, x8, x9, x10, x11⟩ hk ⟨q1, q2⟩
    dsimp only at q1 q2 ⊢
    subst q1; subst q2
    left
    obtain ⟨T0, L0, ch, hp, hz⟩ := chn_f h1 h6 hk
    obtain ⟨sn', u1, u2⟩ := x6_unrank (sn := x7) h1 h6 hw T0 L0 ch hp
    have hD := CH.cs h1 h6 T0 ch hp
    obtain ⟨p1, p2, p3, p4, p5, p6, p7, p8, pq⟩ := x6_partners (eR := x8) (eC := x9) (eS := x10) (g := x11) (la := x3) (lb := x4) (lc := x5) (ld := x6) hD u2
    rw [if_neg (by rw [ii_le (by omega) (by omega) (by omega) (by omega)]; omega), u1, Option.bind_some, pq, Option.bind_some]
    dsimp only
    by_cases e : jj (CD n (TB (chn n k).1)) = jj (CD n C)
    · rw [if_pos ((lg_cmp_eq _ _).mpr e), ii_a1, ii_a1]
      refine ⟨_, rfl, ?_, congrArg ii (by omega)⟩
      have e' : cdk n k = jj (CD n C) := e
      rw [tal, if_pos e']
      exact congrArg ii (by omega)
    · rw [if_neg (fun q => e ((lg_cmp_eq _ _).mp q)), ii_a1, Int32.add_zero]
      refine ⟨_, rfl, ?_, congrArg ii (by omega)⟩
      have e' : ¬ cdk n k = jj (CD n C) := e
      rw [tal, if_neg e']
      rfl
  · rintro ⟨x1, x2, x3, x4, x5, x6, x7, x8, x9, x10, x11⟩ ⟨q1, q2⟩
    dsimp only at q1 q2 ⊢
    subst q1; subst q2
    rw [if_pos (Int32.le_refl _)]
    exact ⟨_, rfl, rfl⟩
theorem wx {n : Nat} (h1 : 1 ≤ n) (h6 : n ≤ 6) (w : Nat → Int32) : ∃ w', S_X6_findWays (ii n) w = some (ii (EE n 0), w') ∧ ∀ r s, r ≤ n → s < 2 ^ n → w' (64 * r + s) = ii (WW n r s) := by
  obtain ⟨w', a, b⟩ := x6_findWays (w := w) h1 h6
  rw [WW_00 h1 h6] at a
  exact ⟨w', a, b⟩
theorem p_alike {n : Nat} {C : Int → Int → Int} {cs sn sd eR eC eS g w : Nat → Int32} {la lb lc ld : Int32} (hC : CS n C) (hT : TC n C cs) (hM : TM n C sn) {zS zM zK zW : Int32} {zE zT : Nat → Int32} {zC : Nat → Int64} (hZ : RZ n zS zM zK zE) (hW : RW n zW zC zT) {qa qb qc qd qe qf qg sS : Int32} {pa ln O em sC : Nat → Int32} (z7 : Z7 sC) :
    ∃ (r sS' : Int32) (sC' : Nat → Int32) (a1 a2 a3 a4 a5 a6 a7 : Int32) (c1 c2 c3 c4 : Nat → Int32) (zK' zW' : Int32) (zE' : Nat → Int32) (zC' : Nat → Int64) (zT' : Nat → Int32) (b1 b2 b3 b4 : Int32) (d0 d1 d2 d3 d4 d5 : Nat → Int32),
      S_X5_alike (ii n) cs sS sC qa qb qc qd qe qf qg pa ln O em zS zM zK zW zE zC zT = some (r, sS', sC', a1, a2, a3, a4, a5, a6, a7, c1, c2, c3, c4, zK', zW', zE', zC', zT') ∧ S_X6_alike (ii n) la lb lc ld sn sd eR eC eS g w = some (r, b1, b2, b3, b4, d0, d1, d2, d3, d4, d5) ∧ Z7 sC' ∧ RZ n zS zM zK' zE' ∧ RW n zW' zC' zT' := by
  have h1 : 1 ≤ n := by have := hC.n1; omega
  have h6 : n ≤ 6 := by have := hC.n6; omega
  by_cases h5 : n ≤ 5
  · obtain ⟨w', f1, f2⟩ := x6_findWays (w := w) h1 h6
    obtain ⟨b1, b2, b3, b4, d0, d1, d2, d3, d4, d5, ref⟩ := x6_alikeLoop (sd := sd) (eR := eR) (eC := eC) (eS := eS) (g := g) (la := la) (lb := lb) (lc := lc) (ld := ld) h1 h5 f2 hC hM ⟨w, f1⟩ w f1
    obtain ⟨zK', zW', zE', zC', zT', a1, a2, a3, a4, a5, a6, a7, c1, c2, c3, c4, sS', sC', so, s2, s3, s4⟩ := x0_sort (qa := qa) (qb := qb) (qc := qc) (qd := qd) (qe := qe) (qf := qf) (qg := qg) (pa := pa) (ln := ln) (O := O) (em := em) (sS := sS) h1 h5 hZ hW z7
    obtain ⟨O', pa', ln', em', row', col', sd', v, le, hv, tr⟩ := x1_trace (O := c3) (pa := c1) (ln := c2) (em := c4) (row := a5) (col := a6) (sd := a7) hC hT
    have b42 := cdk_42 h1 h5 (Nat.le_refl (EE n 0))
    rw [ref]
    unfold S_X5_alike
    rw [if_pos (by rw [ii_5, ii_le (by omega) (by omega) (by omega) (by omega)]; omega), ii_s1, ck_in (by omega) (by omega) (by omega), so, Option.bind_some]
    dsimp only
    rw [tr, Option.bind_some]
    dsimp only
    rw [x1_partnersCode hC le, Option.bind_some]
    rcases x0_wayOf s3.1 b42 (jj (CD n C)) with ⟨j, a, s⟩ | ⟨m, s⟩
    · have lj := (dsl_in a).1
      rw [s, Option.bind_some, x5_isBetween, Option.bind_some, show (41 : Int32) = ii 41 from rfl, bt_in0 (by omega) (by omega) (by omega) (by omega), if_pos (show 0 ≤ (j : Int) ∧ (j : Int) ≤ 41 from ⟨by omega, by omega⟩), if_neg n10, ck_in (by omega) (by omega) (by omega), ii_clamp (by omega) (by omega), Int.toNat_natCast, s3.2.1 j _ a]
      exact ⟨_, _, _, _, _, _, _, _, _, _, _, _, _, _, _, _, _, _, _, _, _, _, _, _, _, _, _, _, _, rfl, rfl, s4, s2, Or.inr ⟨h5, s3⟩⟩
    · rw [tal_0 _ _ _ m, s, Option.bind_some, x5_isBetween, Option.bind_some, show (41 : Int32) = ii 41 from rfl, s3.1.1, bt_in0 (by omega) (by omega) (by omega) (by omega)]
      by_cases q : 0 ≤ ((dsl (cdk n) (EE n 0)).length : Int) ∧ ((dsl (cdk n) (EE n 0)).length : Int) ≤ 41
      · rw [if_pos q, if_neg n10, ck_in (by omega) (by omega) (by omega), ii_clamp (by omega) (by omega), Int.toNat_natCast, s3.2.2 _ (Nat.le_refl _) (by omega)]
        exact ⟨_, _, _, _, _, _, _, _, _, _, _, _, _, _, _, _, _, _, _, _, _, _, _, _, _, _, _, _, _, rfl, rfl, s4, s2, Or.inr ⟨h5, ⟨rfl, s3.1.2⟩, s3.2⟩⟩
      · rw [if_neg q, if_pos rfl]
        exact ⟨_, _, _, _, _, _, _, _, _, _, _, _, _, _, _, _, _, _, _, _, _, _, _, _, _, _, _, _, _, rfl, rfl, s4, s2, Or.inr ⟨h5, ⟨rfl, s3.1.2⟩, s3.2⟩⟩
  · have e : n = 6 := by omega
    subst e
    unfold S_X5_alike S_X6_alike
    rw [if_neg (by decide), if_pos (by rfl)]
    exact ⟨_, _, _, _, _, _, _, _, _, _, _, _, _, _, _, _, _, _, _, _, _, _, _, _, _, _, _, _, _, rfl, rfl, z7, hZ, hW⟩
