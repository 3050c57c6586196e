/-! sets of columns as numbers -/
theorem bv_lt (m c : Nat) : bv m c < 2 := Nat.mod_lt _ (by omega)
theorem bvr {m c : Nat} (hm : m < 64) (hc : c < 6) : (ii (m : Int) >>> (ii (c : Int) &&& 31)) &&& 1 = ii ((bv m c : Nat) : Int) := bv_read ⟨m, hm⟩ ⟨c, hc⟩
def pc (m : Nat) : Nat := bv m 0 + bv m 1 + bv m 2 + bv m 3 + bv m 4 + bv m 5
theorem pc_bit : ∀ m : Fin 64, S_J6_bitCount_0f7a4 (ii ((m : Nat) : Int)) = some (ii ((pc m : Nat) : Int)) := by decide +kernel
/-- whether a row may lead from a to b: the class's masks, the highest bit first -/
def cfg (a b : Nat) : Nat → Nat → Bool
  | 0, s => s == 1
  | k + 1, s => if s + bv b k < bv a k then false else if 1 < s + bv b k - bv a k then false else cfg a b k (s + bv b k - bv a k)
def cf (n a b : Nat) : Bool := cfg a b n 0
/-- the reference's sets, the lowest bit first -/
def ldg (n a b : Nat) : Nat → Nat → Bool
  | 0, s => s == 1
  | k + 1, s => if s + bv b (n - 1 - k) < bv a (n - 1 - k) then false else if 1 < s + bv b (n - 1 - k) - bv a (n - 1 - k) then false else ldg n a b k (s + bv b (n - 1 - k) - bv a (n - 1 - k))
def ld (n a b : Nat) : Bool := ldg n a b n 0
theorem x0_canFollow {n a b : Nat} (hn : n ≤ 6) (ha : a < 64) (hb : b < 64) : S_X0_canFollow (ii (a : Int)) (ii (b : Int)) (ii (n : Int)) = some (if cf n a b = true then 1 else 0) := by
  unfold S_X0_canFollow cf
  rw [ii_s1]
  have key : ∀ (k s F : Nat), k ≤ n → s ≤ 1 → k < F → itr (fun (x1 : Int32 × Int32) => if x1.2 < 0 then if x1.1 = (1 : Int32) then some (.inr (1 : Int32)) else some (.inr (0 : Int32)) else (some (x1.1 + (((ii (b : Int) >>> (x1.2 &&& 31)) &&& (1 : Int32)) - ((ii (a : Int) >>> (x1.2 &&& 31)) &&& (1 : Int32))))).bind (fun (z_30 : Int32) => if z_30 < 0 then some (.inr (0 : Int32)) else if z_30 ≤ (1 : Int32) then some (.inl (z_30, x1.2 + (-1 : Int32))) else some (.inr (0 : Int32)))) F (ii (s : Int), ii ((k : Int) - 1)) = some (if cfg a b k s = true then 1 else 0) := by
    intro k
    induction k with
    | zero =>
      intro s F _ hs hF
      obtain ⟨F', rfl⟩ : ∃ F', F = F' + 1 := ⟨F - 1, by omega⟩
      refine itr_end ?_
      dsimp only
      rw [if_pos (by rw [ii_0lt (by omega) (by omega)]; omega)]
      simp (disch := omega) only [ii_eq1]
      unfold cfg
      by_cases c : (s : Int) = 1
      · have : s = 1 := by omega
        subst this; rfl
      · have : s = 0 := by omega
        subst this; rfl
    | succ k ih =>
      intro s F hk hs hF
      obtain ⟨F', rfl⟩ : ∃ F', F = F' + 1 := ⟨F - 1, by omega⟩
      have b1 := bv_lt b k
      have b2 := bv_lt a k
      have e1 : ((k + 1 : Nat) : Int) - 1 = (k : Int) := by omega
      have st : ∀ {v : Option ((Int32 × Int32) ⊕ Int32)}, (if (ii ((s : Int) + ((bv b k : Int) - (bv a k : Int)))) < 0 then some (.inr (0 : Int32)) else if (ii ((s : Int) + ((bv b k : Int) - (bv a k : Int)))) ≤ (1 : Int32) then some (.inl (ii ((s : Int) + ((bv b k : Int) - (bv a k : Int))), ii ((k : Int) - 1))) else some (.inr (0 : Int32))) = v → (fun (x1 : Int32 × Int32) => if x1.2 < 0 then if x1.1 = (1 : Int32) then some (.inr (1 : Int32)) else some (.inr (0 : Int32)) else (some (x1.1 + (((ii (b : Int) >>> (x1.2 &&& 31)) &&& (1 : Int32)) - ((ii (a : Int) >>> (x1.2 &&& 31)) &&& (1 : Int32))))).bind (fun (z_30 : Int32) => if z_30 < 0 then some (.inr (0 : Int32)) else if z_30 ≤ (1 : Int32) then some (.inl (z_30, x1.2 + (-1 : Int32))) else some (.inr (0 : Int32)))) (ii (s : Int), ii (((k + 1 : Nat) : Int) - 1)) = v := by
        intro v hv
        rw [e1]
        dsimp only
        rw [if_neg (by rw [ii_0lt (by omega) (by omega)]; omega), bvr hb (by omega), bvr ha (by omega), ii_sub, ii_add, Option.bind_some, ii_m1, ii_add, show (k : Int) + -1 = k - 1 by omega]
        exact hv
      unfold cfg
      by_cases c1 : s + bv b k < bv a k
      · rw [if_pos c1]
        refine itr_end (st ?_)
        rw [if_pos (by rw [ii_0lt (by omega) (by omega)]; omega)]
        rfl
      · rw [if_neg c1]
        by_cases c2 : 1 < s + bv b k - bv a k
        · rw [if_pos c2]
          refine itr_end (st ?_)
          rw [if_neg (by rw [ii_0lt (by omega) (by omega)]; omega), if_neg (by rw [ii_1, ii_le (by omega) (by omega) (by omega) (by omega)]; omega)]
          rfl
        · rw [if_neg c2]
          have e2 : (s : Int) + ((bv b k : Int) - (bv a k : Int)) = ((s + bv b k - bv a k : Nat) : Int) := by omega
          rw [itr_succ (st (by rw [if_neg (by rw [ii_0lt (by omega) (by omega)]; omega), if_pos (by rw [ii_1, ii_le (by omega) (by omega) (by omega) (by omega)]; omega)])), e2]
          exact ih _ F' (by omega) (by omega) (by omega)
  exact key n 0 10000 (by omega) (by omega) (by omega)
theorem x6_leads {n a b : Nat} (hn : n ≤ 6) (ha : a < 64) (hb : b < 64) : S_X6_leads (ii (n : Int)) (ii (a : Int)) (ii (b : Int)) = some (if ld n a b = true then 1 else 0) := by
  unfold S_X6_leads ld
  -- once it fails it stays so
  have dead : ∀ (k F : Nat) (s : Int32), k ≤ n → k < F → itr (fun (x1 : Int32 × Int32 × Int32) => if ii (n : Int) ≤ x1.2.2 then if x1.2.1 = 0 then some (.inr (0 : Int32)) else if x1.1 = (1 : Int32) then some (.inr (1 : Int32)) else some (.inr (0 : Int32)) else (S_X6_signOf (ii (a : Int)) (ii (b : Int)) x1.2.2).bind (fun (y19 : Int32) => if x1.2.1 = 0 then some (.inl (x1.1 + y19, (0 : Int32), x1.2.2 + (1 : Int32))) else (S_X6_in ((x1.1 + y19).toInt64) (0 : Int64) (1 : Int64)).bind (fun (y33 : Int32) => if y33 = 0 then some (.inl (x1.1 + y19, (0 : Int32), x1.2.2 + (1 : Int32))) else some (.inl (x1.1 + y19, (1 : Int32), x1.2.2 + (1 : Int32)))))) F (s, 0, ii ((n : Int) - k)) = some 0 := by
    intro k
    induction k with
    | zero =>
      intro F s _ hF
      obtain ⟨F', rfl⟩ : ∃ F', F = F' + 1 := ⟨F - 1, by omega⟩
      refine itr_end ?_
      dsimp only
      rw [if_pos (by rw [ii_le (by omega) (by omega) (by omega) (by omega)]; omega), if_pos rfl]
    | succ k ih =>
      intro F s hk hF
      obtain ⟨F', rfl⟩ : ∃ F', F = F' + 1 := ⟨F - 1, by omega⟩
      rw [itr_succ (by dsimp only; rw [if_neg (by rw [ii_le (by omega) (by omega) (by omega) (by omega)]; omega)]; unfold S_X6_signOf; rw [Option.bind_some, if_pos rfl]), ii_a1, show (n : Int) - ((k + 1 : Nat) : Int) + 1 = n - k by omega]
      exact ih F' _ (by omega) (by omega)
  have key : ∀ (k s F : Nat), k ≤ n → s ≤ 1 → k < F → itr (fun (x1 : Int32 × Int32 × Int32) => if ii (n : Int) ≤ x1.2.2 then if x1.2.1 = 0 then some (.inr (0 : Int32)) else if x1.1 = (1 : Int32) then some (.inr (1 : Int32)) else some (.inr (0 : Int32)) else (S_X6_signOf (ii (a : Int)) (ii (b : Int)) x1.2.2).bind (fun (y19 : Int32) => if x1.2.1 = 0 then some (.inl (x1.1 + y19, (0 : Int32), x1.2.2 + (1 : Int32))) else (S_X6_in ((x1.1 + y19).toInt64) (0 : Int64) (1 : Int64)).bind (fun (y33 : Int32) => if y33 = 0 then some (.inl (x1.1 + y19, (0 : Int32), x1.2.2 + (1 : Int32))) else some (.inl (x1.1 + y19, (1 : Int32), x1.2.2 + (1 : Int32)))))) F (ii (s : Int), 1, ii ((n : Int) - k)) = some (if ldg n a b k s = true then 1 else 0) := by
    intro k
    induction k with
    | zero =>
      intro s F _ hs hF
      obtain ⟨F', rfl⟩ : ∃ F', F = F' + 1 := ⟨F - 1, by omega⟩
      refine itr_end ?_
      dsimp only
      rw [if_pos (by rw [ii_le (by omega) (by omega) (by omega) (by omega)]; omega), if_neg n10]
      unfold ldg
      have : s = 0 ∨ s = 1 := by omega
      rcases this with rfl | rfl <;> rfl
    | succ k ih =>
      intro s F hk hs hF
      obtain ⟨F', rfl⟩ : ∃ F', F = F' + 1 := ⟨F - 1, by omega⟩
      have b1 := bv_lt b (n - 1 - k)
      have b2 := bv_lt a (n - 1 - k)
      have e1 : (n : Int) - ((k + 1 : Nat) : Int) = ((n - 1 - k : Nat) : Int) := by omega
      have e3 : (n : Int) - ((k + 1 : Nat) : Int) + 1 = n - k := by omega
      unfold ldg
      have stp : ∀ {ρ : Type} (K : Int32 → Option ρ), (S_X6_signOf (ii (a : Int)) (ii (b : Int)) (ii ((n : Int) - ((k + 1 : Nat) : Int)))).bind K = K (ii ((bv b (n - 1 - k) : Int) - (bv a (n - 1 - k) : Int))) := by
        intro ρ K
        unfold S_X6_signOf
        rw [Option.bind_some, e1, bvr hb (by omega), bvr ha (by omega), ii_sub]
      by_cases ok : s + bv b (n - 1 - k) < bv a (n - 1 - k) ∨ 1 < s + bv b (n - 1 - k) - bv a (n - 1 - k)
      · have hc : ¬ (0 ≤ (s : Int) + ((bv b (n - 1 - k) : Int) - (bv a (n - 1 - k) : Int)) ∧ (s : Int) + ((bv b (n - 1 - k) : Int) - (bv a (n - 1 - k) : Int)) ≤ 1) := by omega
        rw [itr_succ (by dsimp only; rw [if_neg (by rw [ii_le (by omega) (by omega) (by omega) (by omega)]; omega), stp, if_neg n10, ii_add, l64_0, l64_1, x6_in, Option.bind_some, show (1 : Int32) = ii 1 from rfl, bt_in0 (by omega) (by omega) (by omega) (by omega), if_neg hc, if_pos rfl])]
        rw [show ii 1 = (1 : Int32) from rfl, ii_a1, e3, dead k F' _ (by omega) (by omega)]
        by_cases c1 : s + bv b (n - 1 - k) < bv a (n - 1 - k)
        · rw [if_pos c1]; rfl
        · have c2 : 1 < s + bv b (n - 1 - k) - bv a (n - 1 - k) := by omega
          rw [if_neg c1, if_pos c2]; rfl
      · have c1 : ¬ s + bv b (n - 1 - k) < bv a (n - 1 - k) := by omega
        have c2 : ¬ 1 < s + bv b (n - 1 - k) - bv a (n - 1 - k) := by omega
        have e2 : (s : Int) + ((bv b (n - 1 - k) : Int) - (bv a (n - 1 - k) : Int)) = ((s + bv b (n - 1 - k) - bv a (n - 1 - k) : Nat) : Int) := by omega
        have hc : 0 ≤ (s : Int) + ((bv b (n - 1 - k) : Int) - (bv a (n - 1 - k) : Int)) ∧ (s : Int) + ((bv b (n - 1 - k) : Int) - (bv a (n - 1 - k) : Int)) ≤ 1 := by omega
        rw [itr_succ (by dsimp only; rw [if_neg (by rw [ii_le (by omega) (by omega) (by omega) (by omega)]; omega), stp, if_neg n10, ii_add, l64_0, l64_1, x6_in, Option.bind_some, show (1 : Int32) = ii 1 from rfl, bt_in0 (by omega) (by omega) (by omega) (by omega), if_pos hc, if_neg n10])]
        rw [show ii 1 = (1 : Int32) from rfl, ii_a1, e3, e2, if_neg c1, if_neg c2]
        exact ih _ F' (by omega) (by omega) (by omega)
  have := key n 0 10000 (by omega) (by omega) (by omega)
  rw [show (n : Int) - (n : Int) = 0 by omega] at this
  exact this
/-- whether the first unlike bit is 1 in t -/
def ahg (t u : Nat) : Nat → Bool
  | 0 => false
  | k + 1 => if bv t (5 - k) = bv u (5 - k) then ahg t u k else decide (bv u (5 - k) < bv t (5 - k))
def ah (t u : Nat) : Bool := ahg t u 6
theorem x6_isAhead {f t u : Nat} (hf : f < 64) (ht : t < 64) (hu : u < 64) : S_X6_isAhead (ii (f : Int)) (ii (t : Int)) (ii (u : Int)) = some (if ah t u = true then 1 else 0) := by
  unfold S_X6_isAhead ah
  have sg1 : ∀ (m c : Nat), m < 64 → c < 6 → S_X6_signOf (ii (f : Int)) (ii (m : Int)) (ii (c : Int)) = some (ii ((bv m c : Int) - (bv f c : Int))) := by
    intro m c hm hc
    unfold S_X6_signOf
    rw [bvr hm hc, bvr hf hc, ii_sub]
  have key : ∀ (k F : Nat), k ≤ 6 → k < F → itr (fun (x1 : Int32) => jn (if (6 : Int32) ≤ x1 then some (.inl x1) else (S_X6_signOf (ii (f : Int)) (ii (t : Int)) x1).bind (fun (y11 : Int32) => (S_X6_signOf (ii (f : Int)) (ii (u : Int)) x1).bind (fun (y17 : Int32) => if y11 = y17 then some (.inr (.inl (x1 + (1 : Int32)))) else some (.inl x1)))) (fun (x2 : Int32) => if (6 : Int32) ≤ x2 then some (.inr (0 : Int32)) else (S_X6_signOf (ii (f : Int)) (ii (t : Int)) x2).bind (fun (y38 : Int32) => (S_X6_signOf (ii (f : Int)) (ii (u : Int)) x2).bind (fun (y44 : Int32) => if y38 ≤ y44 then some (.inr (0 : Int32)) else some (.inr (1 : Int32)))))) F (ii (6 - (k : Int))) = some (if ahg t u k = true then 1 else 0) := by
    intro k
    induction k with
    | zero =>
      intro F _ hF
      obtain ⟨F', rfl⟩ : ∃ F', F = F' + 1 := ⟨F - 1, by omega⟩
      refine itr_end ?_
      try dsimp only
      rw [if_pos (by rw [ii_6, ii_le (by omega) (by omega) (by omega) (by omega)]; omega), jn_l, if_pos (by rw [ii_6, ii_le (by omega) (by omega) (by omega) (by omega)]; omega)]
      rfl
    | succ k ih =>
      intro F hk hF
      obtain ⟨F', rfl⟩ : ∃ F', F = F' + 1 := ⟨F - 1, by omega⟩
      have b1 := bv_lt t (5 - k)
      have b2 := bv_lt u (5 - k)
      have b3 := bv_lt f (5 - k)
      have e1 : (6 : Int) - ((k + 1 : Nat) : Int) = ((5 - k : Nat) : Int) := by omega
      have nle : ¬ (6 : Int32) ≤ ii ((5 - k : Nat) : Int) := by rw [ii_6, ii_le (by omega) (by omega) (by omega) (by omega)]; omega
      unfold ahg
      rw [e1]
      by_cases c : bv t (5 - k) = bv u (5 - k)
      · rw [itr_succ (by (try dsimp only); rw [if_neg nle, sg1 t _ ht (by omega), Option.bind_some, sg1 u _ hu (by omega), Option.bind_some, if_pos (by rw [c]), jn_r]), ii_a1, if_pos c, show ((5 - k : Nat) : Int) + 1 = 6 - (k : Int) by omega]
        exact ih F' (by omega) (by omega)
      · have ne : ¬ ii ((bv t (5 - k) : Int) - (bv f (5 - k) : Int)) = ii ((bv u (5 - k) : Int) - (bv f (5 - k) : Int)) := by rw [ii_eq (by omega) (by omega) (by omega) (by omega)]; omega
        rw [if_neg c]
        by_cases d : bv u (5 - k) < bv t (5 - k)
        · refine itr_end ?_
          try dsimp only
          rw [if_neg nle, sg1 t _ ht (by omega), Option.bind_some, sg1 u _ hu (by omega), Option.bind_some, if_neg ne, jn_l, if_neg nle, sg1 t _ ht (by omega), Option.bind_some, sg1 u _ hu (by omega), Option.bind_some, if_neg (by rw [ii_le (by omega) (by omega) (by omega) (by omega)]; omega), if_pos (by rw [decide_eq_true_eq]; exact d)]
        · refine itr_end ?_
          try dsimp only
          rw [if_neg nle, sg1 t _ ht (by omega), Option.bind_some, sg1 u _ hu (by omega), Option.bind_some, if_neg ne, jn_l, if_neg nle, sg1 t _ ht (by omega), Option.bind_some, sg1 u _ hu (by omega), Option.bind_some, if_pos (by rw [ii_le (by omega) (by omega) (by omega) (by omega)]; omega), if_neg (by rw [decide_eq_true_eq]; exact d)]
  exact key 6 10000 (by omega) (by omega)
/-! the class's mask of a set -/
def rv (n s : Nat) : Nat := match n with
  | 1 => bv s 0
  | 2 => 2 * bv s 0 + bv s 1
  | 3 => 4 * bv s 0 + 2 * bv s 1 + bv s 2
  | 4 => 8 * bv s 0 + 4 * bv s 1 + 2 * bv s 2 + bv s 3
  | 5 => 16 * bv s 0 + 8 * bv s 1 + 4 * bv s 2 + 2 * bv s 3 + bv s 4
  | _ => 32 * bv s 0 + 16 * bv s 1 + 8 * bv s 2 + 4 * bv s 3 + 2 * bv s 4 + bv s 5
theorem rv_fact : ∀ n : Fin 6, ∀ s : Fin 64, (s : Nat) < 2 ^ ((n : Nat) + 1) → rv ((n : Nat) + 1) s < 2 ^ ((n : Nat) + 1) ∧ rv ((n : Nat) + 1) (rv ((n : Nat) + 1) s) = s ∧ pc (rv ((n : Nat) + 1) s) = pc s ∧ ∀ k : Fin 6, (k : Nat) < (n : Nat) + 1 → bv (rv ((n : Nat) + 1) s) k = bv s ((n : Nat) + 1 - 1 - k) := by decide +kernel
theorem rv_ah : ∀ n : Fin 6, ∀ s : Fin 64, ∀ t : Fin 64, (s : Nat) < 2 ^ ((n : Nat) + 1) → (t : Nat) < 2 ^ ((n : Nat) + 1) → ah s t = decide (rv ((n : Nat) + 1) t < rv ((n : Nat) + 1) s) := by decide +kernel
theorem rv_perm : ∀ n : Fin 6, ((List.range (2 ^ ((n : Nat) + 1))).map (rv ((n : Nat) + 1))).Perm (List.range (2 ^ ((n : Nat) + 1))) := by decide +kernel
theorem ld_cf {n a b : Nat} (hn : 1 ≤ n) (hn6 : n ≤ 6) (ha : a < 2 ^ n) (hb : b < 2 ^ n) : ld n a b = cf n (rv n a) (rv n b) := by
  have h64 : 2 ^ n ≤ 64 := Nat.pow_le_pow_right (n := 2) (by omega) hn6
  have fa := (rv_fact ⟨n - 1, by omega⟩ ⟨a, by omega⟩ (by dsimp only; rw [show n - 1 + 1 = n by omega]; exact ha)).2.2.2
  have fb := (rv_fact ⟨n - 1, by omega⟩ ⟨b, by omega⟩ (by dsimp only; rw [show n - 1 + 1 = n by omega]; exact hb)).2.2.2
  dsimp only at fa fb
  rw [show n - 1 + 1 = n by omega] at fa fb
  unfold ld cf
  have key : ∀ k s, k ≤ n → ldg n a b k s = cfg (rv n a) (rv n b) k s := by
    intro k
    induction k with
    | zero => intro s _; rfl
    | succ k ih =>
      intro s hk
      have ea := fa ⟨k, by omega⟩ (by dsimp only; omega)
      have eb := fb ⟨k, by omega⟩ (by dsimp only; omega)
      dsimp only at ea eb
      unfold ldg cfg
      rw [ea, eb, ih _ (by omega)]
  exact key n 0 (by omega)
/-! how many ways go on: tables -/
def EL (n : Nat) : List Nat := match n with
  | 1 => [1, 1]
  | 2 => [2, 1, 1, 1]
  | 3 => [7, 2, 3, 1, 2, 1, 1, 1]
  | 4 => [42, 7, 14, 2, 14, 3, 4, 1, 7, 2, 3, 1, 2, 1, 1, 1]
  | 5 => [429, 42, 105, 7, 135, 14, 23, 2, 105, 14, 26, 3, 23, 4, 5, 1, 42, 7, 14, 2, 14, 3, 4, 1, 7, 2, 3, 1, 2, 1, 1, 1]
  | _ => [7436, 429, 1287, 42, 2002, 105, 203, 7, 2002, 135, 300, 14, 322, 23, 34, 2, 1287, 105, 250, 14, 300, 26, 41, 3, 203, 23, 41, 4, 34, 5, 6, 1, 429, 42, 105, 7, 135, 14, 23, 2, 105, 14, 26, 3, 23, 4, 5, 1, 42, 7, 14, 2, 14, 3, 4, 1, 7, 2, 3, 1, 2, 1, 1, 1]
def EE (n m : Nat) : Nat := (EL n).getD m 0
def snn (n : Nat) (f : Nat → Nat) : Nat := match n with
  | 0 => 0
  | n + 1 => snn n f + f n
theorem EE_rec : ∀ n : Fin 6, ∀ m : Fin 64, (m : Nat) < 2 ^ ((n : Nat) + 1) → (pc m = (n : Nat) + 1 ↔ (m : Nat) = 2 ^ ((n : Nat) + 1) - 1) ∧ pc m ≤ (n : Nat) + 1 ∧ EE ((n : Nat) + 1) m ≤ 7436 ∧ ((m : Nat) = 2 ^ ((n : Nat) + 1) - 1 → EE ((n : Nat) + 1) m = 1) ∧ ((m : Nat) ≠ 2 ^ ((n : Nat) + 1) - 1 → EE ((n : Nat) + 1) m = snn (2 ^ ((n : Nat) + 1)) (fun x => if cf ((n : Nat) + 1) m x = true then EE ((n : Nat) + 1) x else 0)) := by decide +kernel
theorem cf_pc : ∀ n : Fin 6, ∀ a : Fin 64, ∀ b : Fin 64, (a : Nat) < 2 ^ ((n : Nat) + 1) → (b : Nat) < 2 ^ ((n : Nat) + 1) → cf ((n : Nat) + 1) a b = true → pc b = pc a + 1 := by decide +kernel
