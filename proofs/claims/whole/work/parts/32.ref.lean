/-! the reference's looks -/
theorem sm_tel (f : Int → Int) (n : Nat) : sm n (fun i => f (i + 1) - f i) = f n - f 0 := by
  induction n with
  | zero => simp [sm]
  | succ n ih => rw [sm, ih]; push_cast; omega
theorem ii2 {ρ : Type} {a a' b b' : Int} (h1 : a = a') (h2 : b = b') : (some (.inl (ii a, ii b)) : Option ((Int32 × Int32) ⊕ ρ)) = some (.inl (ii a', ii b')) := by rw [h1, h2]
theorem ii2r {ρ σ : Type} {a a' b b' : Int} (h1 : a = a') (h2 : b = b') : (some (.inr (.inl (ii a, ii b))) : Option (σ ⊕ ((Int32 × Int32) ⊕ ρ))) = some (.inr (.inl (ii a', ii b'))) := by rw [h1, h2]
theorem ii_n10 : ¬ ii 1 = ii 0 := by decide
theorem x6_cornerOf {n : Int} {C : Int → Int → Int} {sn : Nat → Int32} (hC : CS n C) (h : TM n C sn) {i j : Int} (h1 : 0 ≤ i) (h2 : i ≤ n) (h3 : 0 ≤ j) (h4 : j ≤ n) : S_X6_cornerOf (ii i) (ii j) sn = some (ii (C i j)) := by
  have hn := hC.n6
  obtain ⟨I, rfl⟩ := Int.eq_ofNat_of_zero_le h1
  obtain ⟨J, rfl⟩ := Int.eq_ofNat_of_zero_le h3
  unfold S_X6_cornerOf
  refine itr_up (fun r => (ii (C r J), ii r)) I ?_ (by omega) ?_ ?_
  · have e := hC.top h3 h4
    show ((0 : Int32), (0 : Int32)) = (ii (C 0 J), ii 0)
    rw [e]; rfl
  · intro r hr
    dsimp only
    simp (disch := omega) only [ii_le, if_neg]
    refine itr_up (fun c => (ii (C r J + (C (r + 1) c - C r c)), ii c)) J ?_ (by omega) ?_ ?_
    · have e := hC.left (i := r) (by omega) (by omega)
      have e2 := hC.left (i := r + 1) (by omega) (by omega)
      show (ii (C r J), (0 : Int32)) = (ii (C r J + (C (r + 1) 0 - C r 0)), ii 0)
      rw [e, e2]; simp; rfl
    · intro c hc
      dsimp only
      simp (disch := omega) only [ii_le, if_neg, ii_6, ii_1, ii_mul, ii_add, ck_in, ii_clamp, Option.bind_some]
      rw [h r c (by omega) (by omega) (by omega) (by omega), ii_add]
      unfold sg
      exact ii2 (by push_cast; omega) (by push_cast; omega)
    · dsimp only
      simp (disch := omega) only [ii_le, if_pos, ii_1, ii_add]
      exact ii2r (by push_cast; omega) (by push_cast; omega)
  · dsimp only
    simp (disch := omega) only [ii_le, if_pos]
theorem x6_heightOf {n : Int} {C : Int → Int → Int} {sn : Nat → Int32} (hC : CS n C) (h : TM n C sn) {i j : Int} (h1 : 0 ≤ i) (h2 : i ≤ n) (h3 : 0 ≤ j) (h4 : j ≤ n) : S_X6_heightOf (ii i) (ii j) sn = some (ii (hh C i j)) := by
  simp (disch := omega) only [S_X6_heightOf, x6_cornerOf hC h, Option.bind_some, ii_2, ii_mul, ii_add, ii_sub, hh]
theorem x6_mayBe {n : Int} {C : Int → Int → Int} {sn : Nat → Int32} (hC : CS n C) (h : TM n C sn) {i j : Int} (h1 : 1 ≤ i) (h2 : i < n) (h3 : 1 ≤ j) (h4 : j < n) : S_X6_mayBe (ii i) (ii j) sn = some (ii (kd C i j)) := by
  have hn := hC.n6
  have a1 := hC.hhb (i := i - 1) (j := j) (by omega) (by omega) (by omega) (by omega)
  have a2 := hC.hhb (i := i + 1) (j := j) (by omega) (by omega) (by omega) (by omega)
  have a3 := hC.hhb (i := i) (j := j - 1) (by omega) (by omega) (by omega) (by omega)
  have a4 := hC.hhb (i := i) (j := j + 1) (by omega) (by omega) (by omega) (by omega)
  have a5 := hC.hhb (i := i) (j := j) (by omega) (by omega) (by omega) (by omega)
  simp (disch := omega) only [S_X6_mayBe, ii_1, ii_2, ii_0, ii_sub, ii_add, x6_heightOf hC h, Option.bind_some, ii_eq, ii_le]
  unfold kd
  by_cases c1 : hh C (i + 1) j = hh C (i - 1) j
  · by_cases c2 : hh C i (j - 1) = hh C (i - 1) j
    · by_cases c3 : hh C i (j + 1) = hh C (i - 1) j
      · by_cases c4 : hh C (i - 1) j ≤ hh C i j
        · simp [c1, c2, c3, c4, jn_l, ii_n10, Int.not_lt.mpr c4]
        · simp [c1, c2, c3, c4, jn_l, ii_n10, Int.not_le.mp c4]
      · simp [c1, c2, c3, jn_l, Ne.symm c3, fun q => c3 (Eq.symm q)]
    · simp [c1, c2, jn_l, Ne.symm c2, fun q => c2 (Eq.symm q)]
  · simp [c1, jn_l, Ne.symm c1, fun q => c1 (Eq.symm q)]
theorem x6_isAcross {n : Int} {C : Int → Int → Int} {sn : Nat → Int32} (hC : CS n C) (h : TM n C sn) {r c : Int} (h1 : 1 ≤ r) (h2 : r ≤ n) (h3 : 0 ≤ c) (h4 : c ≤ n) : S_X6_isAcross (ii r) (ii c) sn = some (if dA C r c = true then 1 else 0) := by
  have hn := hC.n6
  have a1 := hC.rsb h1 h2 h3 h4
  obtain ⟨J, rfl⟩ := Int.eq_ofNat_of_zero_le h3
  unfold S_X6_isAcross
  refine itr_up (fun k => (ii (r + J + rs C r k), ii k)) J ?_ (by omega) ?_ ?_
  · have e := hC.left (i := r) (by omega) (by omega)
    have e2 := hC.left (i := r - 1) (by omega) (by omega)
    show (ii r + ii J, (0 : Int32)) = (ii (r + J + rs C r 0), ii 0)
    unfold rs
    rw [e, e2, ii_add]; simp; rfl
  · intro k hk
    dsimp only
    simp (disch := omega) only [ii_le, if_neg, ii_6, ii_1, ii_mul, ii_add, ii_sub, ck_in, ii_clamp, Option.bind_some]
    rw [h (r - 1) k (by omega) (by omega) (by omega) (by omega), ii_add]
    unfold sg rs
    rw [show r - 1 + 1 = r by omega]
    exact ii2 (by push_cast; omega) (by push_cast; omega)
  · dsimp only
    have e : 0 ≤ r + J + rs C r J := by omega
    simp (disch := omega) only [ii_le, if_pos, ii_1, ii_2, ii_0, ii_add, ii_rem, ii_eq]
    unfold dA
    by_cases q : (r + J + rs C r J) % 2 = 0
    · rw [if_pos q, if_pos (by rw [decide_eq_true_eq]; omega)]
    · rw [if_neg q, if_neg (by rw [decide_eq_true_eq]; omega)]
theorem x6_isDown {n : Int} {C : Int → Int → Int} {sn : Nat → Int32} (hC : CS n C) (h : TM n C sn) {r c : Int} (h1 : 0 ≤ r) (h2 : r ≤ n) (h3 : 1 ≤ c) (h4 : c ≤ n) : S_X6_isDown (ii r) (ii c) sn = some (if dD C r c = true then 1 else 0) := by
  have hn := hC.n6
  have a1 := hC.ksb h1 h2 h3 h4
  obtain ⟨J, rfl⟩ := Int.eq_ofNat_of_zero_le h1
  unfold S_X6_isDown
  refine itr_up (fun k => (ii (J + c + ks C k c), ii k)) J ?_ (by omega) ?_ ?_
  · have e := hC.top (j := c) (by omega) (by omega)
    have e2 := hC.top (j := c - 1) (by omega) (by omega)
    show (ii J + ii c, (0 : Int32)) = (ii (J + c + ks C 0 c), ii 0)
    unfold ks
    rw [e, e2, ii_add]; simp; rfl
  · intro k hk
    dsimp only
    simp (disch := omega) only [ii_le, if_neg, ii_6, ii_1, ii_mul, ii_add, ii_sub, ck_in, ii_clamp, Option.bind_some]
    rw [show 6 * (k : Int) + c - 1 = 6 * k + (c - 1) by omega, h k (c - 1) (by omega) (by omega) (by omega) (by omega), ii_add]
    unfold sg ks
    rw [show c - 1 + 1 = c by omega]
    exact ii2 (by push_cast; omega) (by push_cast; omega)
  · dsimp only
    have e : 0 ≤ J + c + ks C J c := by omega
    simp (disch := omega) only [ii_le, if_pos, ii_1, ii_2, ii_0, ii_add, ii_rem, ii_eq]
    unfold dD
    by_cases q : (J + c + ks C J c) % 2 = 0
    · rw [if_pos q, if_neg (by rw [decide_eq_true_eq]; omega)]
    · rw [if_neg q, if_pos (by rw [decide_eq_true_eq]; omega)]
