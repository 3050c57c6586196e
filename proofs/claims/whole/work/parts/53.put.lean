theorem AC_b {n a lo : Nat} (h1 : 1 ≤ n) (h6 : n ≤ 6) (ha : a < 2 ^ n) (hp : pc a < n) : AC n a lo ≤ 7436 := by
  have x := AC_le (n := n) (a := a) (lo := 0) (hi := lo) (by omega)
  rw [AC_0 h1 h6 ha hp] at x
  have := (eef h1 h6 ha).2.2.1
  omega
/-! the class: the mask that a number picks -/
theorem x0_pick {n a left M : Nat} {en : Nat → Int32} (h1 : 1 ≤ n) (h6 : n ≤ 6) (ha : a < 2 ^ n) (hp : pc a < n) (hl : left ≤ 7436) (he : ∀ m, m < 2 ^ n → en m = ii (EE n m)) (hP : PK n a left M) {ρ : Type} (K : Int32 × Int32 → Option ((Int32 × Int32) ⊕ ρ)) {v : ρ} (hK : K (ii ((left - AC n a (M + 1) : Nat) : Int), ii M) = some (.inr v)) : itr (fun (x2 : Int32 × Int32) => jn (if x2.2 ≤ 0 then some (.inl (x2.1, x2.2)) else (S_X0_canFollow (ii a) x2.2 (ii n)).bind (fun (y47 : Int32) => jn (if y47 = 0 then some (.inl (0 : Int32)) else ck (inb x2.2 64) (some (.inl (en x2.2.toNatClampNeg)))) (fun (x4 : Int32) => if x4 ≤ x2.1 then some (.inr (.inl (x2.1 - x4, x2.2 + (-1 : Int32)))) else some (.inl (x2.1, x2.2))))) (fun (x3 : Int32 × Int32) => K x3)) 10000 (ii left, ii ((2 ^ n : Nat) : Int) - (1 : Int32)) = some v := by
  have hp2 := p64 h6
  have hpp := p1 n
  obtain ⟨P1, P2, P3, P4⟩ := hP
  have M0 : 0 < M := by
    have := cfp h1 h6 ha P1 P2
    rcases Nat.eq_zero_or_pos M with e | e
    · subst e; rw [show pc 0 = 0 by decide] at this; omega
    · exact e
  have rd : ∀ m : Nat, 0 < m → m < 2 ^ n → ∀ l : Nat, l ≤ 7436 → ∀ {τ : Type} (Y : Int32 → Option τ), (if ii (m : Int) ≤ 0 then none else (S_X0_canFollow (ii a) (ii m) (ii n)).bind (fun (y47 : Int32) => jn (if y47 = 0 then some (.inl (0 : Int32)) else ck (inb (ii (m : Int)) 64) (some (.inl (en (ii (m : Int)).toNatClampNeg)))) Y)) = Y (ii ((if cf n a m = true then EE n m else 0 : Nat) : Int)) := by
    intro m m0 m1 l _ τ Y
    rw [if_neg (by rw [ii_0le (by omega) (by omega)]; omega), x0_canFollow h6 (by omega) (by omega), Option.bind_some]
    by_cases d : cf n a m = true
    · rw [if_pos d, if_neg n10, ck_in (by omega) (by omega) (by omega), jn_l, ii_clamp (by omega) (by omega), if_pos d, show (m : Int).toNat = m by omega, he m m1]
    · rw [if_neg d, if_pos rfl, jn_l, if_neg d]; rfl
  refine itr_up (fun i => (ii ((left - AC n a (2 ^ n - i) : Nat) : Int), ii ((2 ^ n - 1 - i : Nat) : Int))) (2 ^ n - 1 - M) ?_ (by omega) ?_ ?_
  · rw [Nat.sub_zero, Nat.sub_zero, AC_top (Nat.le_refl _), ii_s1, Nat.sub_zero, show ((2 ^ n : Nat) : Int) - 1 = ((2 ^ n - 1 : Nat) : Int) by omega]
  · intro i hi
    have s := AC_s (n := n) (a := a) (lo := 2 ^ n - 1 - i) (by omega)
    have m := AC_le (n := n) (a := a) (lo := M + 1) (hi := 2 ^ n - 1 - i) (by omega)
    have e1 : 2 ^ n - 1 - i + 1 = 2 ^ n - i := by omega
    rw [e1] at s
    have e2 : 2 ^ n - (i + 1) = 2 ^ n - 1 - i := by omega
    have e3 : 2 ^ n - 1 - (i + 1) = 2 ^ n - 1 - i - 1 := by omega
    have r := fun (Y : Int32 → Option ((Int32 × Int32) ⊕ ((Int32 × Int32) ⊕ ρ))) => rd (2 ^ n - 1 - i) (by omega) (by omega) left hl Y
    simp (disch := omega) only [ii_0le, if_neg] at r
    dsimp only
    rw [if_neg (by rw [ii_0le (by omega) (by omega)]; omega), r, if_pos (by rw [ii_le (by omega) (by omega) (by omega) (by omega)]; omega), jn_r, ii_sub, ii_m1, ii_add, e2, e3]
    exact ii2 (by omega) (by omega)
  · have r := fun (Y : Int32 → Option ((Int32 × Int32) ⊕ ((Int32 × Int32) ⊕ ρ))) => rd M M0 P1 left hl Y
    simp (disch := omega) only [ii_0le, if_neg] at r
    rw [if_pos P2] at r
    have be := (eef h1 h6 P1).2.2.1
    dsimp only
    rw [show 2 ^ n - (2 ^ n - 1 - M) = M + 1 by omega, show 2 ^ n - 1 - (2 ^ n - 1 - M) = M by omega, if_neg (by rw [ii_0le (by omega) (by omega)]; omega), r, if_neg (by rw [ii_le (by omega) (by omega) (by omega) (by omega)]; omega), jn_l]
    exact hK
theorem x3_putFullColumns {n r t : Nat} {cs : Nat → Int32} (h1 : 1 ≤ n) (h6 : n ≤ 6) (r1 : 1 ≤ r) (r6 : r ≤ 6) (ht : t < 2 ^ n) (hz : cs (r * 7) = 0) : ∃ cs', S_X3_putFullColumns (ii r) (ii (rv n t)) (ii n) cs = some cs' ∧ (∀ c, c ≤ n → cs' (r * 7 + c) = ii (bs t c)) ∧ ∀ i, (∀ c, 1 ≤ c → c ≤ n → i ≠ r * 7 + c) → cs' i = cs i := by
  have hp2 := p64 h6
  have f := rv_fact ⟨n - 1, by omega⟩ ⟨t, by omega⟩ (by dsimp only; rw [show n - 1 + 1 = n by omega]; exact ht)
  dsimp only at f
  rw [show n - 1 + 1 = n by omega] at f
  obtain ⟨f1, f2, f3, f4⟩ := f
  unfold S_X3_putFullColumns
  refine itr_ex (fun (k : Nat) (x : Int32 × (Nat → Int32)) => x.1 = ii (1 + (k : Int)) ∧ (∀ c, c ≤ k → x.2 (r * 7 + c) = ii (bs t c)) ∧ ∀ i, (∀ c, 1 ≤ c → c ≤ n → i ≠ r * 7 + c) → x.2 i = cs i) _ n ⟨rfl, fun c hc => ?_, fun _ _ => rfl⟩ (by omega) ?_ ?_
  · have : c = 0 := by omega
    subst this
    exact hz
  · rintro k ⟨x1, x2⟩ hk ⟨q1, q2, q3⟩
    dsimp only at q1 q2 q3 ⊢
    subst q1
    left
    have b := f4 ⟨n - 1 - k, by omega⟩ (by dsimp only; omega)
    dsimp only at b
    rw [show n - 1 - (n - 1 - k) = k by omega] at b
    rw [if_neg (by rw [ii_lt (by omega) (by omega) (by omega) (by omega)]; omega), ii_s1, x3_corner0 (by omega) (by omega) (by omega) (by omega), Option.bind_some, show ((r : Int) * 7 + (1 + (k : Int) - 1)).toNat = r * 7 + k by omega, q2 k (Nat.le_refl _), ii_sub, show (n : Int) - (1 + (k : Int)) = ((n - 1 - k : Nat) : Int) by omega, bvr (by omega) (by omega), b, ii_add, x3_putCorner _ (by omega) (by omega) (by omega) (by omega), Option.bind_some, show ((r : Int) * 7 + (1 + (k : Int))).toNat = r * 7 + (k + 1) by omega, ii_a1]
    refine ⟨_, rfl, congrArg ii (by omega), fun c hc => ?_, fun i hi => ?_⟩
    · dsimp only
      by_cases d : c = k + 1
      · subst d; rw [pk_us, bs_s]; exact congrArg ii (by omega)
      · rw [pk_un (by omega)]; exact q2 c (by omega)
    · dsimp only
      rw [pk_un (hi (k + 1) (by omega) (by omega))]; exact q3 i hi
  · rintro ⟨x1, x2⟩ ⟨q1, q2, q3⟩
    dsimp only at q1 q2 q3 ⊢
    subst q1
    rw [if_pos (by rw [ii_lt (by omega) (by omega) (by omega) (by omega)]; omega)]
    exact ⟨_, rfl, q2, q3⟩
theorem x0_put {n rank : Nat} {T L : Nat → Nat} {zS zM zK : Int32} {zE tc : Nat → Int32} (h1 : 1 ≤ n) (h6 : n ≤ 6) (hZ : RZ n zS zM zK zE) (T0 : T 0 = 0) (L0 : L 0 = rank) (hC : CH n T L n) (hp : ∀ k, k ≤ n → T k < 2 ^ n ∧ pc (T k) = k ∧ L k < EE n (rv n (T k))) (z7 : Z7 tc) : ∃ zE' tc', S_X0_put (ii rank) zS zM zK zE tc = some (1, zE', ii n, tc') ∧ TC n (TB T) tc' ∧ Z7 tc' ∧ RZ n zS zM 1 zE' := by
  have hp2 := p64 h6
  obtain ⟨zE', c1, c2, c3⟩ := hZ.count h1 h6
  have hZ2 := c3
  obtain ⟨rfl, rfl, -⟩ := c3
  unfold S_X0_put
  rw [c1, Option.bind_some]
  dsimp only
  suffices g : ∃ r : Int32 × (Nat → Int32) × Int32 × (Nat → Int32), _ = some r ∧ ∃ tc', r = (1, zE', ii n, tc') ∧ TC n (TB T) tc' ∧ Z7 tc' by
    obtain ⟨r, g1, tc', rfl, g2, g3⟩ := g
    exact ⟨zE', tc', g1, g2, g3, hZ2⟩
  refine itr_ex (fun (k : Nat) (x : Int32 × Int32 × Int32 × (Nat → Int32)) => x.1 = ii (L k) ∧ x.2.1 = ii (rv n (T k)) ∧ x.2.2.1 = ii (1 + (k : Int)) ∧ (∀ i j : Nat, i ≤ k → j ≤ n → x.2.2.2 (i * 7 + j) = ii (bs (T i) j)) ∧ Z7 x.2.2.2) _ n ⟨by rw [L0], by rw [T0, rv_0 h1 h6]; rfl, rfl, fun i j hi hj => ?_, z7⟩ (by omega) ?_ ?_
  · have : i = 0 := by omega
    subst this
    rw [T0, bs_0]
    have := z7.1 j (by omega) (by omega)
    rw [Int.toNat_natCast] at this
    dsimp only
    rw [Nat.zero_mul, Nat.zero_add, this]; rfl
  · rintro k ⟨x1, x2, x3, x4⟩ hk ⟨q1, q2, q3, q4, q5⟩
    dsimp only at q1 q2 q3 q4 q5 ⊢
    subst q1; subst q2; subst q3
    left
    obtain ⟨u1, u2, u3⟩ := hC k hk
    obtain ⟨w1, w2, w3⟩ := hp k (by omega)
    obtain ⟨v1, v2, v3⟩ := rvf h1 h6 w1
    have be := (eef h1 h6 v1).2.2.1
    obtain ⟨c', g1, g2, g3⟩ := x3_putFullColumns (r := k + 1) (cs := x4) h1 h6 (by omega) (by omega) u1 (by
      have := q5.2 ((k + 1 : Nat) : Int) (by omega) (by omega)
      rw [show (((k + 1 : Nat) : Int) * 7).toNat = (k + 1) * 7 by omega] at this
      exact this)
    have e1 : (1 + (k : Int)) = ((k + 1 : Nat) : Int) := by omega
    rw [if_neg (by rw [ii_lt (by omega) (by omega) (by omega) (by omega)]; omega)]
    refine ⟨(ii ((L k - AC n (rv n (T k)) (rv n (T (k + 1)) + 1) : Nat) : Int), ii (rv n (T (k + 1))), ii (1 + (k : Int)) + 1, c'), x0_pick (ρ := (Int32 × Int32 × Int32 × (Nat → Int32)) ⊕ (Int32 × (Nat → Int32) × Int32 × (Nat → Int32))) h1 h6 v1 (by omega) (by omega) c2 u2 (fun x3 => (S_X3_putFullColumns (ii (1 + (k : Int))) x3.2 (ii n) x4).bind (fun (y91 : Nat → Int32) => some (.inr (.inl (x3.1, x3.2, ii (1 + (k : Int)) + (1 : Int32), y91))))) (by dsimp only; rw [e1, g1, Option.bind_some]), ?_, rfl, ?_, ?_, ?_⟩
    · dsimp only; rw [u3]
    · dsimp only; rw [ii_a1]; exact congrArg ii (by omega)
    · intro i j hi hj
      dsimp only
      by_cases d : i = k + 1
      · subst d; exact g2 j hj
      · rw [g3 _ (fun c c1 c2 => by omega)]; exact q4 i j (by omega) hj
    · dsimp only
      refine ⟨fun j a b => ?_, fun i a b => ?_⟩
      · rw [g3 _ (fun c c1 c2 => by omega)]; exact q5.1 j a b
      · rw [g3 _ (fun c c1 c2 => by omega)]; exact q5.2 i a b
  · rintro ⟨x1, x2, x3, x4⟩ ⟨q1, q2, q3, q4, q5⟩
    dsimp only at q1 q2 q3 q4 q5 ⊢
    subst q3
    rw [if_pos (by rw [ii_lt (by omega) (by omega) (by omega) (by omega)]; omega)]
    refine ⟨_, rfl, _, rfl, fun i j a b c d => ?_, q5⟩
    obtain ⟨i, rfl⟩ := Int.eq_ofNat_of_zero_le a
    obtain ⟨j, rfl⟩ := Int.eq_ofNat_of_zero_le c
    rw [show ((i : Int) * 7 + j).toNat = i * 7 + j by omega, q4 i j (by omega) (by omega)]
    unfold TB
    rw [Int.toNat_natCast, Int.toNat_natCast]
/-! the reference -/
theorem x6_isRow {n r s to left : Nat} {w : Nat → Int32} (h1 : 1 ≤ n) (h6 : n ≤ 6) (hw : ∀ r s, r ≤ n → s < 2 ^ n → w (64 * r + s) = ii (WW n r s)) (hr : r < n) (hs : s < 2 ^ n) (ht : to < 2 ^ n) (hps : pc s = r) (hl : left ≤ 7436) : (PK n (rv n s) left (rv n to) → S_X6_isRow (ii n) (ii r) (ii s) (ii to) (ii left) w = some 1) ∧ (¬ PK n (rv n s) left (rv n to) → S_X6_isRow (ii n) (ii r) (ii s) (ii to) (ii left) w = some 0) := by
  have hp2 := p64 h6
  obtain ⟨v1, v2, v3⟩ := rvf h1 h6 hs
  obtain ⟨w1, w2, w3⟩ := rvf h1 h6 ht
  have ab := AC_b (lo := rv n to + 1) h1 h6 v1 (by omega)
  have be := (eef h1 h6 w1).2.2.1
  unfold S_X6_isRow
  rw [x6_leads h6 (by omega) (by omega), Option.bind_some, ld_cf h1 h6 hs ht]
  by_cases d : cf n (rv n s) (rv n to) = true
  · have pt := cfp h1 h6 v1 w1 d
    have eW : WW n (r + 1) to = EE n (rv n to) := by
      unfold WW
      rw [if_pos (by omega)]
    rw [if_pos d, if_neg n10, x6_aheadOf h1 h6 hw hr hs ht hps, ii_a1, ii_64, ii_mul, ii_add, ck_in (by omega) (by omega) (by omega), ii_clamp (by omega) (by omega), show (64 * ((r : Int) + 1) + (to : Int)).toNat = 64 * (r + 1) + to by omega, hw (r + 1) to (by omega) ht, eW, Option.bind_some, ck_in (by omega) (by omega) (by omega), ii_add, ii_s1, x6_in, Option.bind_some, bt_in (by omega) (by omega) (by omega) (by omega) (by omega) (by omega)]
    simp (disch := omega) only [ii_eq0]
    refine ⟨fun P => ?_, fun P => ?_⟩
    · have P4 := P.2.2
      rw [if_neg (by omega), if_pos (by omega), ck_b (by rfl)]
    · by_cases e : EE n (rv n to) = 0
      · rw [if_pos (by omega)]
      · rw [if_neg (by omega), if_neg (fun q => P ⟨w1, d, by omega, by omega⟩), ck_b (by rfl)]
  · rw [if_neg d, if_pos rfl]
    exact ⟨fun P => absurd P.2.1 d, fun _ => rfl⟩
theorem x6_unrank {n rank : Nat} {T L : Nat → Nat} {w sn : Nat → Int32} (h1 : 1 ≤ n) (h6 : n ≤ 6) (hw : ∀ r s, r ≤ n → s < 2 ^ n → w (64 * r + s) = ii (WW n r s)) (T0 : T 0 = 0) (L0 : L 0 = rank) (hC : CH n T L n) (hp : ∀ k, k ≤ n → T k < 2 ^ n ∧ pc (T k) = k ∧ L k < EE n (rv n (T k))) : ∃ sn', S_X6_unrank (ii n) (ii rank) w sn = some sn' ∧ TM n (TB T) sn' := by
  have hp2 := p64 h6
  unfold S_X6_unrank
  refine itr_ex (fun (k : Nat) (x : Int32 × Int32 × Int32 × (Nat → Int32)) => x.1 = ii (L k) ∧ x.2.1 = ii (T k) ∧ x.2.2.1 = ii (k : Int) ∧ ∀ i j : Nat, i < k → j < n → x.2.2.2 (6 * i + j) = ii ((bv (T (i + 1)) j : Int) - (bv (T i) j : Int))) _ n ⟨by rw [L0], by rw [T0]; rfl, rfl, fun i j hi => absurd hi (by omega)⟩ (by omega) ?_ ?_
  · rintro k ⟨x1, x2, x3, x4⟩ hk ⟨q1, q2, q3, q4⟩
    dsimp only at q1 q2 q3 q4 ⊢
    subst q1; subst q2; subst q3
    left
    obtain ⟨u1, u2, u3⟩ := hC k hk
    obtain ⟨w1, w2, w3⟩ := hp k (by omega)
    obtain ⟨v1, v2, v3⟩ := rvf h1 h6 w1
    have be := (eef h1 h6 v1).2.2.1
    rw [if_neg (by rw [ii_le (by omega) (by omega) (by omega) (by omega)]; omega)]
    suffices g : ∃ o : (Int32 × Int32 × Int32 × (Nat → Int32)) ⊕ (Nat → Int32), _ = some o ∧ ∃ s', o = .inl s' ∧ s'.1 = ii (L (k + 1)) ∧ s'.2.1 = ii (T (k + 1)) ∧ s'.2.2.1 = ii ((k + 1 : Nat) : Int) ∧ ∀ i j : Nat, i < k + 1 → j < n → s'.2.2.2 (6 * i + j) = ii ((bv (T (i + 1)) j : Int) - (bv (T i) j : Int)) by
      obtain ⟨o, g1, s', rfl, g2⟩ := g
      exact ⟨s', g1, g2⟩
    refine itr_ex (fun (m : Nat) (x : Int32) => x = ii (m : Int)) _ (T (k + 1)) rfl (by omega) ?_ ?_
    · rintro m x hm rfl
      left
      have np : ¬ PK n (rv n (T k)) (L k) (rv n m) := fun P => by
        have e := P.uniq u2
        obtain ⟨_, a2, _⟩ := rvf h1 h6 u1
        obtain ⟨_, b2, _⟩ := rvf h1 h6 (show m < 2 ^ n by omega)
        rw [e, a2] at b2
        omega
      rw [(x6_isRow h1 h6 hw hk w1 (by omega) w2 (by omega)).2 np, Option.bind_some, if_pos rfl, ii_a1]
      exact ⟨_, rfl, congrArg ii (by omega)⟩
    · rintro x rfl
      rw [(x6_isRow h1 h6 hw hk w1 u1 w2 (by omega)).1 u2, Option.bind_some, if_neg n10, x6_aheadOf h1 h6 hw hk w1 u1 w2, Option.bind_some]
      suffices g : ∃ o : Int32 ⊕ ((Int32 × Int32 × Int32 × (Nat → Int32)) ⊕ (Nat → Int32)), _ = some o ∧ ∃ s', o = .inr (.inl s') ∧ s'.1 = ii (L (k + 1)) ∧ s'.2.1 = ii (T (k + 1)) ∧ s'.2.2.1 = ii ((k + 1 : Nat) : Int) ∧ ∀ i j : Nat, i < k + 1 → j < n → s'.2.2.2 (6 * i + j) = ii ((bv (T (i + 1)) j : Int) - (bv (T i) j : Int)) by
        obtain ⟨o, g1, s', rfl, g2⟩ := g
        exact ⟨_, g1, s', rfl, g2⟩
      refine itr_ex (fun (m : Nat) (x : Int32 × (Nat → Int32)) => x.1 = ii (m : Int) ∧ (∀ i j : Nat, i < k → j < n → x.2 (6 * i + j) = ii ((bv (T (i + 1)) j : Int) - (bv (T i) j : Int))) ∧ ∀ j : Nat, j < m → x.2 (6 * k + j) = ii ((bv (T (k + 1)) j : Int) - (bv (T k) j : Int))) _ n ⟨rfl, q4, fun j hj => absurd hj (by omega)⟩ (by omega) ?_ ?_
      · rintro m ⟨y1, y2⟩ hm ⟨r1, r2, r3⟩
        dsimp only at r1 r2 r3 ⊢
        subst r1
        left
        unfold S_X6_signOf
        rw [if_neg (by rw [ii_le (by omega) (by omega) (by omega) (by omega)]; omega), bvr (by omega) (by omega), bvr (by omega) (by omega), ii_sub, Option.bind_some, ii_6, ii_mul, ii_add, ck_in (by omega) (by omega) (by omega), ii_clamp (by omega) (by omega), ii_a1, show (6 * (k : Int) + (m : Int)).toNat = 6 * k + m by omega]
        refine ⟨_, rfl, congrArg ii (by omega), fun i j hi hj => ?_, fun j hj => ?_⟩
        · dsimp only; rw [pk_un (by omega)]; exact r2 i j hi hj
        · dsimp only
          by_cases d : j = m
          · subst d; rw [pk_us]
          · rw [pk_un (by omega)]; exact r3 j (by omega)
      · rintro ⟨y1, y2⟩ ⟨r1, r2, r3⟩
        dsimp only at r1 r2 r3 ⊢
        subst r1
        have p3 := u2.2.2.1
        rw [if_pos (by rw [ii_le (by omega) (by omega) (by omega) (by omega)]; omega), ii_sub, ii_a1]
        refine ⟨_, rfl, _, rfl, ?_, rfl, congrArg ii (by omega), fun i j hi hj => ?_⟩
        · dsimp only; rw [u3]; exact congrArg ii (by omega)
        · dsimp only
          by_cases d : i = k
          · subst d; exact r3 j hj
          · exact r2 i j (by omega) hj
  · rintro ⟨x1, x2, x3, x4⟩ ⟨q1, q2, q3, q4⟩
    dsimp only at q1 q2 q3 q4 ⊢
    subst q3
    rw [if_pos (by rw [ii_le (by omega) (by omega) (by omega) (by omega)]; omega)]
    refine ⟨_, rfl, fun r c a b x y => ?_⟩
    obtain ⟨r, rfl⟩ := Int.eq_ofNat_of_zero_le a
    obtain ⟨c, rfl⟩ := Int.eq_ofNat_of_zero_le x
    rw [show (6 * (r : Int) + c).toNat = 6 * r + c by omega, q4 r c (by omega) (by omega)]
    unfold sg TB
    rw [show ((r : Int) + 1).toNat = r + 1 by omega, show ((c : Int) + 1).toNat = c + 1 by omega, Int.toNat_natCast, Int.toNat_natCast, bs_s, bs_s]
    exact congrArg ii (by omega)
theorem CH.cs {n : Nat} {T L : Nat → Nat} (h1 : 1 ≤ n) (h6 : n ≤ 6) (T0 : T 0 = 0) (hC : CH n T L n) (hp : ∀ k, k ≤ n → T k < 2 ^ n ∧ pc (T k) = k ∧ L k < EE n (rv n (T k))) : CS n (TB T) := by
  refine (CS.chain h1 h6 T0 (fun k hk => ⟨(hp k hk).1, (hp k hk).2.1⟩) (fun k hk => ?_)).1
  rw [ld_cf h1 h6 (hp k (by omega)).1 (hp (k + 1) (by omega)).1]
  exact (hC k hk).2.1.2.1
theorem p_take {n : Nat} {tS free held um p1 p2 : Int32} {tC tn pS bf w : Nat → Int32} {pC : Nat → Nat → Int32} {zS zM zK : Int32} {zE : Nat → Int32} (hR : RT tS tC tn) (hP : RP free held pS pC um bf) (hn : ∀ m : Nat, 1 ≤ m → m ≤ 6 → p1 = ii m → n = m) (hZ : RZ n zS zM zK zE) :
    ∃ (r tS' fr' hd' eS' um' zK' : Int32) (tC' eC' tn' bf' zE' w' : Nat → Int32), S_X5_take p1 p2 tS tC free held (pS free.toNatClampNeg) (pC free.toNatClampNeg) zS zM zK zE = some (r, tS', tC', fr', hd', eS', eC', zK', zE') ∧ S_X6_take p1 p2 tS um tn bf w = some (r, tS', um', tn', bf', w') ∧ RT tS' tC' tn' ∧ RP fr' hd' (upd pS free.toNatClampNeg eS') (fun k => if k = free.toNatClampNeg then eC' else pC k) um' bf' ∧ RZ n zS zM zK' zE' := by
  have hR0 := hR
  obtain ⟨N, C, rfl, hC, hT, h7, hM⟩ := hR
  unfold S_X5_take S_X6_take S_X5_isSize
  rw [x5_isBetween, l64_0, l64_1, l64_6, x6_in, Option.bind_some, Option.bind_some]
  rcases bt_z1 p1 (b := 6) (by omega) (by omega) with h | ⟨h, z, rfl, a1, a2⟩
  · rw [show bt p1 1 6 = 0 from h, if_pos rfl, ck_b (by rfl), Option.bind_some, if_pos rfl]
    exact ⟨_, _, _, _, _, _, _, _, _, _, _, _, _, rfl, rfl, hR0, hP.keep _, hZ⟩
  · obtain ⟨m, rfl⟩ := Int.eq_ofNat_of_zero_le (a := z) (by omega)
    have e := hn m (by omega) (by omega) rfl
    subst e
    obtain ⟨zE2, t1, t2⟩ := x0_total (by omega) (by omega) hZ
    obtain ⟨w', f1, f2⟩ := x6_findWays (w := w) (n := n) (by omega) (by omega)
    have be := (eef (n := n) (m := 0) (by omega) (by omega) (Nat.one_le_two_pow)).2.2.1
    rw [show bt (ii n) 1 6 = 1 from h, if_neg n10, ck_b (by rfl), Option.bind_some, if_neg n10, ii_s1, ck_in (by omega) (by omega) (by omega), f1, Option.bind_some, WW_00 (by omega) (by omega), t1, Option.bind_some]
    dsimp only
    rw [ii_s1, x6_in, Option.bind_some]
    rcases bt_z0 p2 (b := (EE n 0 : Int) - 1) (by omega) (by omega) with h | ⟨h, y, rfl, b1, b2⟩
    · rw [h, if_pos rfl]
      by_cases c : p2 < 0
      · rw [if_pos c]
        exact ⟨_, _, _, _, _, _, _, _, _, _, _, _, _, rfl, rfl, hR0, hP.keep _, hZ⟩
      · have c2 : ¬ p2 < ii (EE n 0) := by
          unfold bt at h
          rw [if_neg c] at h
          intro c3
          rw [if_neg (by
            rw [Int32.lt_iff_toInt_lt, ii_toInt (by omega) (by omega)]
            rw [Int32.lt_iff_toInt_lt, ii_toInt (by omega) (by omega)] at c3
            omega)] at h
          exact n10 h
        rw [if_neg c, if_neg c2]
        exact ⟨_, _, _, _, _, _, _, _, _, _, _, _, _, rfl, rfl, hR0, hP.keep _, t2⟩
    · obtain ⟨k, rfl⟩ := Int.eq_ofNat_of_zero_le b1
      obtain ⟨T, L, T0, L0, ch, inv⟩ := CH.ex (n := n) (rank := k) (by omega) (by omega) (by omega)
      obtain ⟨fr', hd', um', bf', c', n1, n2, n3⟩ := p_note hC hT h7 hM hP
      obtain ⟨zE3, tc', g1, g2, g3, g4⟩ := x0_put (by omega) (by omega) t2 T0 L0 ch inv h7
      obtain ⟨sn', k1, k2⟩ := x6_unrank (sn := tn) (by omega) (by omega) f2 T0 L0 ch inv
      rw [h, if_neg n10, if_neg (by rw [ii_0lt (by omega) (by omega)]; omega), if_pos (by rw [ii_lt (by omega) (by omega) (by omega) (by omega)]; omega), n1, n2, g1, k1]
      exact ⟨_, _, _, _, _, _, _, _, _, _, _, _, _, rfl, rfl, ⟨n, _, rfl, CH.cs (by omega) (by omega) T0 ch inv, g2, g3, k2⟩, n3, g4⟩
