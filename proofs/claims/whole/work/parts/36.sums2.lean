theorem bt_yes {z a b : Int} (ha : -1000000000 ≤ a) (hb2 : b ≤ 1000000000) (h1 : a ≤ z) (h2 : z ≤ b) : bt (ii z) (ii a) (ii b) = 1 := by
  rw [bt_in (by omega) (by omega) (by omega) (by omega) (by omega) (by omega), if_pos ⟨h1, h2⟩]
theorem bt_in0 {z b : Int} (hb : -1000000000 ≤ b) (hb2 : b ≤ 1000000000) (hz1 : -1000000000 ≤ z) (hz2 : z ≤ 1000000000) : bt (ii z) 0 (ii b) = if 0 ≤ z ∧ z ≤ b then 1 else 0 := bt_in (a := 0) (by omega) (by omega) hb hb2 hz1 hz2
theorem bt_in1 {z b : Int} (hb : -1000000000 ≤ b) (hb2 : b ≤ 1000000000) (hz1 : -1000000000 ≤ z) (hz2 : z ≤ 1000000000) : bt (ii z) 1 (ii b) = if 1 ≤ z ∧ z ≤ b then 1 else 0 := bt_in (a := 1) (by omega) (by omega) hb hb2 hz1 hz2
theorem n14 : ¬ (1 : Int32) = 4 := by decide
theorem n24 : ¬ (2 : Int32) = 4 := by decide
theorem n21 : ¬ (2 : Int32) = 1 := by decide
theorem x6_inner {n i j : Int} (hn : n ≤ 1000000) (hn1 : 0 ≤ n) (h1 : -1000000 ≤ i) (h2 : i ≤ 1000000) (h3 : -1000000 ≤ j) (h4 : j ≤ 1000000) : S_X6_isInner (ii i) (ii j) (ii n) = some (if (1 ≤ i ∧ i ≤ n - 1) ∧ (1 ≤ j ∧ j ≤ n - 1) then 1 else 0) := by
  simp only [S_X6_isInner, l64_1, x6_in, Option.bind_some, ii_s1]
  rw [bt_in1 (by omega) (by omega) (by omega) (by omega), bt_in1 (by omega) (by omega) (by omega) (by omega)]
  by_cases c : 1 ≤ i ∧ i ≤ n - 1
  · by_cases d : 1 ≤ j ∧ j ≤ n - 1
    · rw [if_pos c, if_neg n10, if_pos d, if_neg n10, if_pos ⟨c, d⟩]
    · rw [if_pos c, if_neg n10, if_neg d, if_pos rfl, if_neg (fun q => d q.2)]
  · rw [if_neg c, if_pos rfl, if_neg (fun q => c q.1)]
theorem x6_sums4 {C : Int → Int → Int} {sn : Nat → Int32} {N : Nat} (hC : CS N C) (h : TM N C sn) : S_X6_sums (4 : Int32) (ii N) sn = some (ii (sm (N + 1) (fun i => sm (N + 1) (fun j => hh C i j)))) := by
  have hn := hC.n6
  have h1 := hC.n1
  unfold S_X6_sums
  refine itr_up (fun k => (ii (sm k (fun i => sm (N + 1) (fun j => hh C i j))), ii ((k : Int)))) (N + 1) ?_ (by omega) ?_ ?_
  · show ((0 : Int32), (0 : Int32)) = (ii 0, ii (((0 : Nat) : Int)))
    rfl
  · intro k hk
    dsimp only
    simp (disch := omega) only [ii_le, ii_lt, if_neg]
    refine itr_up (fun q => (ii (sm k (fun i => sm (N + 1) (fun j => hh C i j)) + sm q (fun j => hh C (k : Int) j)), ii ((q : Int)))) (N + 1) ?_ (by omega) ?_ ?_
    · show (ii _, (0 : Int32)) = (ii (_ + 0), ii (((0 : Nat) : Int)))
      rw [Int.add_zero]
      rfl
    · intro q hq
      dsimp only
      simp (disch := omega) only [ii_lt, if_neg, ↓reduceIte, x6_heightOf hC h, Option.bind_some, ii_1, ii_add]
      exact ii2 (by rw [sm]; omega) (by push_cast; omega)
    · dsimp only
      simp (disch := omega) only [ii_le, ii_lt, if_pos, ii_1, ii_add]
      exact ii2r rfl (by push_cast; omega)
  · dsimp only
    simp (disch := omega) only [ii_le, ii_lt, if_pos]
theorem x6_sums1 {C : Int → Int → Int} {sn : Nat → Int32} {N : Nat} (hC : CS N C) (h : TM N C sn) : S_X6_sums (1 : Int32) (ii N) sn = some (ii (sm (N + 1) (fun i => sm (N + 1) (fun j => (if i < N ∧ j < N ∧ sg C i j = -1 then 1 else 0))))) := by
  have hn := hC.n6
  have h1 := hC.n1
  unfold S_X6_sums
  refine itr_up (fun k => (ii (sm k (fun i => sm (N + 1) (fun j => (if i < N ∧ j < N ∧ sg C i j = -1 then 1 else 0)))), ii ((k : Int)))) (N + 1) ?_ (by omega) ?_ ?_
  · show ((0 : Int32), (0 : Int32)) = (ii 0, ii (((0 : Nat) : Int)))
    rfl
  · intro k hk
    dsimp only
    simp (disch := omega) only [ii_le, ii_lt, if_neg]
    refine itr_up (fun q => (ii (sm k (fun i => sm (N + 1) (fun j => (if i < N ∧ j < N ∧ sg C i j = -1 then 1 else 0))) + sm q (fun j => (if (k : Int) < N ∧ j < N ∧ sg C (k : Int) j = -1 then 1 else 0))), ii ((q : Int)))) (N + 1) ?_ (by omega) ?_ ?_
    · show (ii _, (0 : Int32)) = (ii (_ + 0), ii (((0 : Nat) : Int)))
      rw [Int.add_zero]
      rfl
    · intro q hq
      dsimp only
      simp (disch := omega) only [ii_lt, if_neg]
      simp only [if_neg n14, ↓reduceIte]
      simp (disch := omega) only [ii_le, ii_1, ii_0, ii_add]
      by_cases c1 : (N : Int) ≤ k
      · rw [if_pos c1]
        have z2 : ∀ m : Nat, sm m (fun j => if (k : Int) < N ∧ j < N ∧ sg C k j = -1 then (1 : Int) else 0) = sm m (fun _ => (0 : Int)) := fun m => sm_congr (fun j _ _ => if_neg (by omega))
        exact ii2 (by rw [z2 (q + 1), sm]; first | omega | (rw [z2 q]; omega)) (by push_cast; omega)
      · rw [if_neg c1]
        by_cases c2 : (N : Int) ≤ q
        · rw [if_pos c2]
          exact ii2 (by rw [sm, if_neg (by omega)]; omega) (by push_cast; omega)
        · have e := hC.sgb (r := k) (c := q) (by omega) (by omega) (by omega) (by omega)
          rw [if_neg c2]
          simp (disch := omega) only [ii_6, ii_mul, ii_add, ck_in, ii_clamp]
          rw [h k q (by omega) (by omega) (by omega) (by omega), show - ii 1 = ii (-1) from rfl]
          simp (disch := omega) only [ii_eq]
          by_cases c3 : sg C k q = -1
          · rw [if_pos c3]
            exact ii2 (by rw [sm, if_pos (by omega)]; omega) (by push_cast; omega)
          · rw [if_neg c3]
            exact ii2 (by rw [sm, if_neg (by omega)]; omega) (by push_cast; omega)
    · dsimp only
      simp (disch := omega) only [ii_le, ii_lt, if_pos, ii_1, ii_add]
      exact ii2r rfl (by push_cast; omega)
  · dsimp only
    simp (disch := omega) only [ii_le, ii_lt, if_pos]
theorem x6_sums2 {C : Int → Int → Int} {sn : Nat → Int32} {N : Nat} (hC : CS N C) (h : TM N C sn) : S_X6_sums (2 : Int32) (ii N) sn = some (ii (sm (N + 1) (fun i => sm (N + 1) (fun j => (if ((1 ≤ i ∧ i ≤ (N : Int) - 1) ∧ (1 ≤ j ∧ j ≤ (N : Int) - 1)) ∧ ¬ kd C i j = 0 then 1 else 0))))) := by
  have hn := hC.n6
  have h1 := hC.n1
  unfold S_X6_sums
  refine itr_up (fun k => (ii (sm k (fun i => sm (N + 1) (fun j => (if ((1 ≤ i ∧ i ≤ (N : Int) - 1) ∧ (1 ≤ j ∧ j ≤ (N : Int) - 1)) ∧ ¬ kd C i j = 0 then 1 else 0)))), ii ((k : Int)))) (N + 1) ?_ (by omega) ?_ ?_
  · show ((0 : Int32), (0 : Int32)) = (ii 0, ii (((0 : Nat) : Int)))
    rfl
  · intro k hk
    dsimp only
    simp (disch := omega) only [ii_le, ii_lt, if_neg]
    refine itr_up (fun q => (ii (sm k (fun i => sm (N + 1) (fun j => (if ((1 ≤ i ∧ i ≤ (N : Int) - 1) ∧ (1 ≤ j ∧ j ≤ (N : Int) - 1)) ∧ ¬ kd C i j = 0 then 1 else 0))) + sm q (fun j => (if ((1 ≤ (k : Int) ∧ (k : Int) ≤ (N : Int) - 1) ∧ (1 ≤ j ∧ j ≤ (N : Int) - 1)) ∧ ¬ kd C (k : Int) j = 0 then 1 else 0))), ii ((q : Int)))) (N + 1) ?_ (by omega) ?_ ?_
    · show (ii _, (0 : Int32)) = (ii (_ + 0), ii (((0 : Nat) : Int)))
      rw [Int.add_zero]
      rfl
    · intro q hq
      dsimp only
      simp (disch := omega) only [ii_lt, if_neg]
      simp only [if_neg n24, if_neg n21]
      simp (disch := omega) only [x6_inner, Option.bind_some]
      by_cases c1 : (1 ≤ (k : Int) ∧ (k : Int) ≤ (N : Int) - 1) ∧ (1 ≤ (q : Int) ∧ (q : Int) ≤ (N : Int) - 1)
      · have e := kd_r C k q
        rw [if_pos c1, if_neg n10]
        simp (disch := omega) only [x6_mayBe hC h, Option.bind_some, ii_1, ii_0, ii_add, ii_le]
        by_cases c2 : kd C k q ≤ 0
        · rw [if_pos c2]
          exact ii2 (by rw [sm, if_neg (by omega)]; omega) (by push_cast; omega)
        · rw [if_neg c2]
          exact ii2 (by rw [sm, if_pos (by omega)]; omega) (by push_cast; omega)
      · rw [if_neg c1, if_pos rfl]
        simp only [ii_1, ii_0, ii_add]
        exact ii2 (by rw [sm, if_neg (fun z => c1 z.1)]; omega) (by push_cast; omega)
    · dsimp only
      simp (disch := omega) only [ii_le, ii_lt, if_pos, ii_1, ii_add]
      exact ii2r rfl (by push_cast; omega)
  · dsimp only
    simp (disch := omega) only [ii_le, ii_lt, if_pos]
theorem x6_drawn {C : Int → Int → Int} {sn : Nat → Int32} {N : Nat} (hC : CS N C) (h : TM N C sn) : S_X6_drawn (ii N) sn = some (ii (sm N (fun i => sm (N + 1) (fun j => ((if dA C (1 + i) j = true then 1 else 0) + (if dD C j (1 + i) = true then 1 else 0)))))) := by
  have hn := hC.n6
  have h1 := hC.n1
  unfold S_X6_drawn
  refine itr_up (fun k => (ii (sm k (fun i => sm (N + 1) (fun j => ((if dA C (1 + i) j = true then 1 else 0) + (if dD C j (1 + i) = true then 1 else 0))))), ii (1 + (k : Int)))) N ?_ (by omega) ?_ ?_
  · show ((0 : Int32), (1 : Int32)) = (ii 0, ii (1 + ((0 : Nat) : Int)))
    rfl
  · intro k hk
    dsimp only
    simp (disch := omega) only [ii_le, ii_lt, if_neg]
    refine itr_up (fun q => (ii (sm k (fun i => sm (N + 1) (fun j => ((if dA C (1 + i) j = true then 1 else 0) + (if dD C j (1 + i) = true then 1 else 0)))) + sm q (fun j => ((if dA C (1 + (k : Int)) j = true then 1 else 0) + (if dD C j (1 + (k : Int)) = true then 1 else 0)))), ii ((q : Int)))) (N + 1) ?_ (by omega) ?_ ?_
    · show (ii _, (0 : Int32)) = (ii (_ + 0), ii (((0 : Nat) : Int)))
      rw [Int.add_zero]
      rfl
    · intro q hq
      dsimp only
      simp (disch := omega) only [ii_lt, if_neg, x6_isAcross hC h, x6_isDown hC h, Option.bind_some]
      by_cases c : dA C (1 + k) q = true
      · by_cases d : dD C q (1 + k) = true
        · simp only [if_pos c, if_pos d, if_neg n10, jn_l]
          simp only [ii_1, ii_0, ii_add]
          exact ii2 (by rw [sm, if_pos c, if_pos d]; omega) (by push_cast; omega)
        · simp only [if_pos c, if_neg d, if_neg n10, jn_l, if_pos]
          simp only [ii_1, ii_0, ii_add]
          exact ii2 (by rw [sm, if_pos c, if_neg d]; omega) (by push_cast; omega)
      · by_cases d : dD C q (1 + k) = true
        · simp only [if_neg c, if_pos d, if_neg n10, jn_l, if_pos]
          simp only [ii_1, ii_0, ii_add]
          exact ii2 (by rw [sm, if_neg c, if_pos d]; omega) (by push_cast; omega)
        · simp only [if_neg c, if_neg d, jn_l, if_pos]
          simp only [ii_1, ii_0, ii_add]
          exact ii2 (by rw [sm, if_neg c, if_neg d]; omega) (by push_cast; omega)
    · dsimp only
      simp (disch := omega) only [ii_le, ii_lt, if_pos, ii_1, ii_add]
      exact ii2r rfl (by push_cast; omega)
  · dsimp only
    simp (disch := omega) only [ii_le, ii_lt, if_pos]
theorem x6_inv0 {C : Int → Int → Int} {sn : Nat → Int32} {N M : Nat} (hC : CS N C) (h : TM N C sn) (hM : (N : Int) * N = M) (hM6 : M ≤ 36) : S_X6_inversions (ii N) sn = some (ii (sm M (fun i => sm M (fun j => (if i / N < j / N ∧ j % N < i % N then sg C (i / N) (i % N) * sg C (j / N) (j % N) else 0))))) := by
  have hn := hC.n6
  have h1 := hC.n1
  unfold S_X6_inversions
  refine itr_up (fun k => (ii (sm k (fun i => sm M (fun j => (if i / N < j / N ∧ j % N < i % N then sg C (i / N) (i % N) * sg C (j / N) (j % N) else 0)))), ii ((k : Int)))) M ?_ (by omega) ?_ ?_
  · show ((0 : Int32), (0 : Int32)) = (ii 0, ii (((0 : Nat) : Int)))
    rfl
  · intro k hk
    dsimp only
    simp (disch := omega) only [ii_mul, hM, ii_le, if_neg]
    refine itr_up (fun q => (ii (sm k (fun i => sm M (fun j => (if i / N < j / N ∧ j % N < i % N then sg C (i / N) (i % N) * sg C (j / N) (j % N) else 0))) + sm q (fun j => (if (k : Int) / N < j / N ∧ j % N < (k : Int) % N then sg C ((k : Int) / N) ((k : Int) % N) * sg C (j / N) (j % N) else 0))), ii ((q : Int)))) M ?_ (by omega) ?_ ?_
    · show (ii _, (0 : Int32)) = (ii (_ + 0), ii (((0 : Nat) : Int)))
      rw [Int.add_zero]
      rfl
    · intro q hq
      dsimp only
      have hz : (!(ii N == 0)) = true := by
        have : ¬ ii N = 0 := by rw [ii_0, ii_eq (by omega) (by omega) (by omega) (by omega)]; omega
        simp [this]
      have d1 : 0 ≤ (k : Int) / N := Int.ediv_nonneg (by omega) (by omega)
      have d2 : (k : Int) / N < N := Int.ediv_lt_of_lt_mul (by omega) (by rw [hM]; omega)
      have d3 : 0 ≤ (q : Int) / N := Int.ediv_nonneg (by omega) (by omega)
      have d4 : (q : Int) / N < N := Int.ediv_lt_of_lt_mul (by omega) (by rw [hM]; omega)
      have m1 : 0 ≤ (k : Int) % N := Int.emod_nonneg _ (by omega)
      have m2 : (k : Int) % N < N := Int.emod_lt_of_pos _ (by omega)
      have m3 : 0 ≤ (q : Int) % N := Int.emod_nonneg _ (by omega)
      have m4 : (q : Int) % N < N := Int.emod_lt_of_pos _ (by omega)
      simp only [hz, ck_tt]
      simp (disch := omega) only [ii_rem]
      simp (disch := omega) only [ii_div, ii_le, if_neg, ii_1, ii_0, ii_add, ii_6, ii_mul, ck_in, ii_clamp, Option.bind_some, hM]
      by_cases c1 : (q : Int) / N ≤ (k : Int) / N
      · rw [if_pos c1, jn_l, if_pos rfl]
        exact ii2 (by rw [sm, if_neg (by omega)]; omega) (by push_cast; omega)
      · rw [if_neg c1]
        by_cases c2 : (k : Int) % N ≤ (q : Int) % N
        · rw [if_pos c2, jn_l, if_pos rfl]
          exact ii2 (by rw [sm, if_neg (by omega)]; omega) (by push_cast; omega)
        · rw [if_neg c2, jn_l, if_neg ii_n10, h _ _ d1 d2 m1 m2, h _ _ d3 d4 m3 m4, ii_mul, ii_add]
          exact ii2 (by rw [sm, if_pos (by omega)]; omega) (by push_cast; omega)
    · dsimp only
      simp (disch := omega) only [ii_mul, hM, ii_le, if_pos, ii_1, ii_add]
      exact ii2r rfl (by push_cast; omega)
  · dsimp only
    simp (disch := omega) only [ii_mul, hM, ii_le, if_pos]
/-! both sides' sums are alike -/
theorem sm_cut {n c : Nat} (hc : c ≤ n) (g : Int → Int) : sm n (fun j => if j < c then g j else 0) = sm c g := by
  induction n with
  | zero => rw [show c = 0 by omega]; rfl
  | succ n ih =>
    by_cases e : c = n + 1
    · subst e
      exact sm_congr (fun i h1 h2 => if_pos (by omega))
    · rw [sm, ih (by omega), if_neg (by omega)]; omega
theorem sm_cut2 {n c : Nat} (hc : c ≤ n) (f : Int → Int) : sm n (fun j => if (c : Int) ≤ j then f (j + 1) - f j else 0) = f n - f c := by
  induction n with
  | zero => rw [show c = 0 by omega]; simp [sm]
  | succ n ih =>
    by_cases e : c = n + 1
    · subst e
      rw [sm_zero (fun i h1 h2 => if_neg (by omega))]; omega
    · rw [sm, ih (by omega), if_pos (by omega)]; push_cast; omega
theorem sm_app (p q : Nat) (f : Int → Int) : sm (p + q) f = sm p f + sm q (fun i => f (p + i)) := by
  induction q with
  | zero => simp [sm]
  | succ q ih => rw [← Nat.add_assoc, sm, ih, sm]; push_cast; omega
theorem sm_lin (N : Nat) (hN : 0 < N) (f : Int → Int → Int) : ∀ k : Nat, sm (N * k) (fun a => f (a / N) (a % N)) = sm k (fun r => sm N (fun c => f r c)) := by
  intro k
  induction k with
  | zero => rfl
  | succ k ih =>
    rw [Nat.mul_succ, sm_app, ih, sm]
    congr 1
    refine sm_congr (fun i h1 h2 => ?_)
    have e1 : (((N * k : Nat) : Int) + i) / N = k := by
      push_cast
      rw [Int.add_comm, Int.add_mul_ediv_left _ _ (by omega), Int.ediv_eq_zero_of_lt h1 h2]; omega
    have e2 : (((N * k : Nat) : Int) + i) % N = i := by
      push_cast
      rw [Int.add_comm, Int.add_mul_emod_self_left, Int.emod_eq_of_lt h1 h2]
    rw [e1, e2]
theorem q_neg {C : Int → Int → Int} {N : Nat} (hC : CS N C) : sm (N + 1) (fun i => sm (N + 1) (fun j => (if i < N ∧ j < N ∧ sg C i j = -1 then 1 else 0))) = sm N (fun i => sm N (fun j => if sg C i j < 0 then 1 else 0)) := by
  rw [sm, sm_zero (n := N + 1) (fun j h1 h2 => if_neg (by omega)), Int.add_zero]
  refine sm_congr (fun i h1 h2 => ?_)
  rw [sm, if_neg (by omega), Int.add_zero]
  refine sm_congr (fun j h3 h4 => ?_)
  have e := hC.sgb h1 h2 h3 h4
  by_cases c : sg C i j < 0
  · rw [if_pos c, if_pos (by omega)]
  · rw [if_neg c, if_neg (by omega)]
theorem q_flp {C : Int → Int → Int} {N : Nat} : sm (N + 2) (fun i => sm (N + 2) (fun j => (if ((1 ≤ i ∧ i ≤ ((N + 1 : Nat) : Int) - 1) ∧ (1 ≤ j ∧ j ≤ ((N + 1 : Nat) : Int) - 1)) ∧ ¬ kd C i j = 0 then 1 else 0))) = sm N (fun i => sm N (fun j => if kd C (1 + i) (1 + j) = 0 then 0 else 1)) := by
  rw [sm_inner _ _ (sm_zero (fun j h1 h2 => if_neg (by omega))) (sm_zero (fun j h1 h2 => if_neg (by omega)))]
  refine sm_congr (fun i h1 h2 => ?_)
  refine (sm_inner _ N ?_ ?_).trans ?_
  · rw [if_neg (by omega)]
  · rw [if_neg (by omega)]
  refine sm_congr (fun j h3 h4 => ?_)
  rw [Int.add_comm i 1, Int.add_comm j 1]
  by_cases c : kd C (1 + i) (1 + j) = 0
  · rw [if_pos c, if_neg (by omega)]
  · rw [if_neg c, if_pos (by omega)]
theorem q_drw {C : Int → Int → Int} {N : Nat} : sm N (fun i => sm (N + 1) (fun j => ((if dA C (1 + i) j = true then 1 else 0) + (if dD C j (1 + i) = true then 1 else 0)))) = sm (N + 1) (fun i => sm N (fun j => ((if dA C (1 + j) i = true then 1 else 0) + (if dD C i (1 + j) = true then 1 else 0)))) := sm_swap _ _ _
theorem q_inv {C : Int → Int → Int} {N : Nat} (hC : CS N C) : sm (N * N) (fun i => sm (N * N) (fun j => (if i / N < j / N ∧ j % N < i % N then sg C (i / N) (i % N) * sg C (j / N) (j % N) else 0))) = sm N (fun r => sm N (fun c => sg C r c * (c - C (r + 1) c))) := by
  have h1 := hC.n1
  have e : ∀ i : Int, sm (N * N) (fun j => (if i / N < j / N ∧ j % N < i % N then sg C (i / N) (i % N) * sg C (j / N) (j % N) else 0)) = sm N (fun r => sm N (fun c => (if i / N < r ∧ c < i % N then sg C (i / N) (i % N) * sg C r c else 0))) :=
    fun i => sm_lin N (by omega) (fun a b => if i / N < a ∧ b < i % N then sg C (i / N) (i % N) * sg C a b else 0) N
  rw [sm_congr (fun i _ _ => e i), sm_lin N (by omega) (fun a b => sm N (fun r => sm N (fun c => (if a < r ∧ c < b then sg C a b * sg C r c else 0)))) N]
  refine sm_congr (fun a a1 a2 => sm_congr (fun b b1 b2 => ?_))
  obtain ⟨A, rfl⟩ := Int.eq_ofNat_of_zero_le a1
  obtain ⟨B, rfl⟩ := Int.eq_ofNat_of_zero_le b1
  have f : ∀ r : Int, 0 ≤ r → r < N → sm N (fun c => (if (A : Int) < r ∧ c < (B : Int) then sg C A B * sg C r c else 0)) = sg C A B * (if ((A + 1 : Nat) : Int) ≤ r then C (r + 1) B - C r B else 0) := by
    intro r r1 r2
    by_cases c : ((A + 1 : Nat) : Int) ≤ r
    · rw [if_pos c, sm_congr (g := fun c => if c < (B : Int) then sg C A B * sg C r c else 0) (fun j j1 j2 => by
        by_cases d : j < (B : Int)
        · rw [if_pos d, if_pos ⟨by omega, d⟩]
        · rw [if_neg d, if_neg (by omega)]), sm_cut (by omega), sm_mul]
      congr 1
      have t := sm_tel (fun c => C (r + 1) c - C r c) B
      rw [sm_congr (g := fun i => C (r + 1) (i + 1) - C r (i + 1) - (C (r + 1) i - C r i)) (fun j j1 j2 => by unfold sg; omega), t, hC.left (i := r + 1) (by omega) (by omega), hC.left (i := r) (by omega) (by omega)]
      omega
    · rw [if_neg c, sm_zero (fun j j1 j2 => if_neg (by omega)), Int.mul_zero]
  rw [sm_congr f, sm_mul, sm_cut2 (f := fun r => C r B) (by omega), hC.bot (by omega) (by omega)]
  push_cast
  rfl
theorem q_apt {C C' : Int → Int → Int} {N : Nat} (hC : CS ((N + 1 : Nat) : Int) C) (hC' : CS ((N + 1 : Nat) : Int) C') : sm (N + 2) (fun i => sm (N + 2) (fun j => (if 0 ≤ hh C i j - hh C' i j then hh C i j - hh C' i j else - (hh C i j - hh C' i j)))) = 2 * sm N (fun i => sm N (fun j => (if 0 ≤ C (1 + i) (1 + j) - C' (1 + i) (1 + j) then C (1 + i) (1 + j) - C' (1 + i) (1 + j) else 0 - (C (1 + i) (1 + j) - C' (1 + i) (1 + j))))) := by
  have t0 : ∀ j : Int, 0 ≤ j → j < ((N + 2 : Nat) : Int) → C 0 j = C' 0 j := fun j a b => by rw [hC.top a (by omega), hC'.top a (by omega)]
  have l0 : ∀ j : Int, 0 ≤ j → j < ((N + 2 : Nat) : Int) → C j 0 = C' j 0 := fun j a b => by rw [hC.left a (by omega), hC'.left a (by omega)]
  have b0 : ∀ j : Int, 0 ≤ j → j < ((N + 2 : Nat) : Int) → C ((N : Int) + 1) j = C' ((N : Int) + 1) j := fun j a b => by
    have x := hC.bot a (by omega); have y := hC'.bot a (by omega); push_cast at x y; rw [x, y]
  have r0 : ∀ j : Int, 0 ≤ j → j < ((N + 2 : Nat) : Int) → C j ((N : Int) + 1) = C' j ((N : Int) + 1) := fun j a b => by
    have x := hC.right a (by omega); have y := hC'.right a (by omega); push_cast at x y; rw [x, y]
  have z : ∀ i j : Int, C i j = C' i j → (if 0 ≤ hh C i j - hh C' i j then hh C i j - hh C' i j else - (hh C i j - hh C' i j)) = 0 := by
    intro i j e; unfold hh; rw [e]; simp
  rw [sm_inner _ _ (sm_zero (fun j h1 h2 => z _ _ (t0 j h1 h2))) (sm_zero (fun j h1 h2 => z _ _ (b0 j h1 h2))), ← sm_mul]
  refine sm_congr (fun i h1 h2 => ?_)
  rw [sm_inner _ _ (z _ _ (l0 _ (by omega) (by omega))) (z _ _ (r0 _ (by omega) (by omega))), ← sm_mul]
  refine sm_congr (fun j h3 h4 => ?_)
  rw [Int.add_comm i 1, Int.add_comm j 1]
  unfold hh
  by_cases c : 0 ≤ C (1 + i) (1 + j) - C' (1 + i) (1 + j)
  · by_cases d : C (1 + i) (1 + j) = C' (1 + i) (1 + j)
    · rw [if_pos c, d]; simp
    · rw [if_pos c, if_neg (by omega)]; omega
  · rw [if_neg c, if_pos (by omega)]; omega
