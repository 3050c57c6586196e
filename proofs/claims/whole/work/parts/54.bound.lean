/-! a table is told by its rank; orbits are not longer than ranks are many -/
theorem SET.bs {n : Nat} {C : Int → Int → Int} (hC : CS n C) {r t : Nat} (hr : r ≤ n) (h : SET n C r t) : ∀ j, j ≤ n → C r j = ((bs t j : Nat) : Int) := by
  intro j
  induction j with
  | zero => intro _; exact hC.left (by omega) (by omega)
  | succ j ih =>
    intro hj
    have e := h.2 j (by omega)
    unfold ks at e
    rw [show (j : Int) + 1 - 1 = j by omega, ih (by omega)] at e
    rw [bs_s]
    push_cast
    omega
theorem SET.ld {n : Nat} {C : Int → Int → Int} (hC : CS n C) {r s t : Nat} (hr : r < n) (h : SET n C r s) (h' : SET n C ((r + 1 : Nat) : Int) t) : ld n s t = true := by
  rw [ld_iff]
  have a := h.bs hC (by omega)
  have b := h'.bs hC (by omega)
  refine ⟨fun j hj => ?_, ?_⟩
  · have x := a j hj
    have y := b j hj
    have z := hC.row (i := ((r + 1 : Nat) : Int)) (j := j) (by omega) (by omega) (by omega) (by omega)
    rw [show ((r + 1 : Nat) : Int) - 1 = r by omega] at z
    omega
  · have x := a n (Nat.le_refl _)
    have y := b n (Nat.le_refl _)
    rw [hC.right (by omega) (by omega)] at x y
    omega
theorem RK_s (n : Nat) (T : Nat → Nat) (k : Nat) : RK n T (k + 1) = RK n T k + AC n (rv n (T k)) (rv n (T (k + 1)) + 1) := rfl
theorem RK_mono {n : Nat} {T : Nat → Nat} {k : Nat} : ∀ d, RK n T k ≤ RK n T (k + d) := by
  intro d
  induction d with
  | zero => exact Nat.le_refl _
  | succ d ih => have := RK_s n T (k + d); rw [Nat.add_assoc] at this; omega
theorem RK_tail {n : Nat} {C : Int → Int → Int} (hC : CS n C) {T : Nat → Nat} (hS : ∀ k : Nat, k ≤ n → SET n C k (T k)) : ∀ d k, k + d = n → RK n T n - RK n T k < EE n (rv n (T k)) ∧ (k < n → PK n (rv n (T k)) (RK n T n - RK n T k) (rv n (T (k + 1)))) := by
  have h6 : n ≤ 6 := by have := hC.n6; omega
  have h1 : 1 ≤ n := by have := hC.n1; omega
  intro d
  induction d with
  | zero =>
    intro k e
    have : k = n := by omega
    subst this
    obtain ⟨v1, v2, v3⟩ := rvf h1 h6 (hS k (by omega)).1
    have p := SET.pcr hC (by omega) (hS k (by omega))
    have f := eef h1 h6 v1
    refine ⟨?_, fun q => absurd q (by omega)⟩
    rw [f.2.2.2.1 (f.1.mp (by omega))]
    omega
  | succ d ih =>
    intro k e
    have hs := hS k (by omega)
    have ht := hS (k + 1) (by omega)
    obtain ⟨v1, v2, v3⟩ := rvf h1 h6 hs.1
    obtain ⟨w1, w2, w3⟩ := rvf h1 h6 ht.1
    have p := SET.pcr hC (by omega) hs
    have c := SET.ld hC (by omega) hs ht
    rw [ld_cf h1 h6 hs.1 ht.1] at c
    have i := (ih (k + 1) (by omega)).1
    have s := RK_s n T k
    have m := RK_mono (n := n) (T := T) (k := k + 1) d
    rw [show k + 1 + d = n by omega] at m
    have a := AC_s (a := rv n (T k)) w1
    rw [if_pos c] at a
    have b := AC_le (n := n) (a := rv n (T k)) (lo := 0) (hi := rv n (T (k + 1))) (by omega)
    rw [AC_0 h1 h6 v1 (by omega)] at b
    exact ⟨by omega, fun _ => ⟨w1, c, by omega, by omega⟩⟩
theorem RK_inj {n : Nat} {C D : Int → Int → Int} (hC : CS n C) (hD : CS n D) {T U : Nat → Nat} (T0 : T 0 = 0) (U0 : U 0 = 0) (hS : ∀ k : Nat, k ≤ n → SET n C k (T k)) (hU : ∀ k : Nat, k ≤ n → SET n D k (U k)) (e : RK n T n = RK n U n) : eqv n C D := by
  have h6 : n ≤ 6 := by have := hC.n6; omega
  have h1 : 1 ≤ n := by have := hC.n1; omega
  have key : ∀ k, k ≤ n → T k = U k ∧ RK n T k = RK n U k := by
    intro k
    induction k with
    | zero => intro _; exact ⟨by rw [T0, U0], rfl⟩
    | succ k ih =>
      intro hk
      obtain ⟨a, b⟩ := ih (by omega)
      have x := (RK_tail hC hS (n - k) k (by omega)).2 (by omega)
      have y := (RK_tail hD hU (n - k) k (by omega)).2 (by omega)
      rw [← a, ← e, ← b] at y
      have z := x.uniq y
      obtain ⟨_, v2, _⟩ := rvf h1 h6 (hS (k + 1) hk).1
      obtain ⟨_, w2, _⟩ := rvf h1 h6 (hU (k + 1) hk).1
      have et : T (k + 1) = U (k + 1) := by rw [← v2, z, w2]
      refine ⟨et, ?_⟩
      rw [RK_s, RK_s, a, b, et]
  intro i j a b c d
  obtain ⟨i, rfl⟩ := Int.eq_ofNat_of_zero_le a
  obtain ⟨j, rfl⟩ := Int.eq_ofNat_of_zero_le c
  rw [SET.bs hC (by omega) (hS i (by omega)) j (by omega), SET.bs hD (by omega) (hU i (by omega)) j (by omega), (key i (by omega)).1]
theorem pigeon : ∀ (B : Nat) (f : Nat → Nat), (∀ t, t ≤ B → f t < B) → ∃ i j, i < j ∧ j ≤ B ∧ f i = f j := by
  intro B
  induction B with
  | zero => intro f h; have := h 0 (by omega); omega
  | succ B ih =>
    intro f h
    by_cases c : ∃ i, i ≤ B ∧ f i = f (B + 1)
    · obtain ⟨i, a, b⟩ := c
      exact ⟨i, B + 1, by omega, by omega, b⟩
    · have c' : ∀ i, i ≤ B → f i ≠ f (B + 1) := fun i a b => c ⟨i, a, b⟩
      obtain ⟨i, j, a, b, e⟩ := ih (fun t => if f t = B then f (B + 1) else f t) (fun t ht => by
        try dsimp only
        have x := h t (by omega)
        have y := h (B + 1) (by omega)
        have z := c' t ht
        by_cases d : f t = B
        · rw [if_pos d]; omega
        · rw [if_neg d]; omega)
      try dsimp only at e
      refine ⟨i, j, a, by omega, ?_⟩
      have ci := c' i (by omega)
      have cj := c' j (by omega)
      by_cases d : f i = B
      · by_cases d' : f j = B
        · rw [d, d']
        · rw [if_pos d, if_neg d'] at e; exact absurd e.symm cj
      · by_cases d' : f j = B
        · rw [if_neg d, if_pos d'] at e; exact absurd e ci
        · rw [if_neg d, if_neg d'] at e; exact e
theorem CS.some {n : Nat} {C : Int → Int → Int} (hC : CS n C) : ∃ cs, TC n C cs ∧ Z7 cs := by
  have h6 := hC.n6
  refine ⟨fun k => if k / 7 = 0 ∨ k % 7 = 0 then 0 else ii (C (k / 7 : Nat) (k % 7 : Nat)), fun i j a b c d => ?_, fun j a b => ?_, fun i a b => ?_⟩
  · obtain ⟨i, rfl⟩ := Int.eq_ofNat_of_zero_le a
    obtain ⟨j, rfl⟩ := Int.eq_ofNat_of_zero_le c
    dsimp only
    rw [show ((i : Int) * 7 + j).toNat = i * 7 + j by omega, show (i * 7 + j) / 7 = i by omega, show (i * 7 + j) % 7 = j by omega]
    by_cases e : i = 0 ∨ j = 0
    · rw [if_pos e]
      rcases e with rfl | rfl
      · have := hC.top c d
        rw [show ((0 : Nat) : Int) = 0 from rfl, this]; rfl
      · have := hC.left a b
        rw [show ((0 : Nat) : Int) = 0 from rfl, this]; rfl
    · rw [if_neg e]
  · dsimp only
    rw [if_pos (Or.inl (by omega))]
  · dsimp only
    rw [if_pos (Or.inr (by omega))]
theorem CS.FF {n : Nat} {C : Int → Int → Int} (hC : CS n C) {col : Int} (hc : col = 0 ∨ col = 1) : CS n (FF n col C) := by
  obtain ⟨cs, a, b⟩ := hC.some
  obtain ⟨_, _, _, _, e⟩ := x3_flipAll hC a b hc
  exact e
theorem CS.Gk {n : Nat} {C : Int → Int → Int} (hC : CS n C) : ∀ t, CS n (Gk n C t) := by
  intro t
  induction t with
  | zero => exact hC
  | succ t ih => exact (ih.FF (Or.inl rfl)).FF (Or.inr rfl)
theorem orb {n : Nat} {C : Int → Int → Int} (hC : CS n C) : ∃ t, 1 ≤ t ∧ t ≤ 7436 ∧ eqv n (Gk n C t) C := by
  have h6 : n ≤ 6 := by have := hC.n6; omega
  have h1 : 1 ≤ n := by have := hC.n1; omega
  have g : ∀ t : Nat, ∃ T : Nat → Nat, T 0 = 0 ∧ ∀ k : Nat, k ≤ n → SET n (Gk n C t) k (T k) := fun t => SET.all (hC.Gk t)
  obtain ⟨F, hF⟩ := Classical.axiomOfChoice g
  obtain ⟨i, j, a, b, e⟩ := pigeon 7436 (fun t => RK n (F t) n) (fun t _ => by
    try dsimp only
    have x := (RK_tail (hC.Gk t) (hF t).2 n 0 (by omega)).1
    rw [(hF t).1, rv_0 h1 h6] at x
    have y := (eef h1 h6 (p1 n)).2.2.1
    have z : RK n (F t) 0 = 0 := rfl
    omega)
  have q := RK_inj (hC.Gk i) (hC.Gk j) (hF i).1 (hF j).1 (hF i).2 (hF j).2 e
  have down : ∀ i d, eqv n (Gk n C i) (Gk n C (i + d)) → eqv n C (Gk n C d) := by
    intro i
    induction i with
    | zero => intro d h; rw [Nat.zero_add] at h; exact h
    | succ i ih =>
      intro d h
      rw [show i + 1 + d = (i + d) + 1 by omega] at h
      exact ih d (GG_inj (hC.Gk i) (hC.Gk (i + d)) ((hC.Gk i).FF (Or.inl rfl)) ((hC.Gk (i + d)).FF (Or.inl rfl)) h)
  have r := down i (j - i) (by rw [show i + (j - i) = j by omega]; exact q)
  exact ⟨j - i, by omega, by omega, fun x y a b c d => (r x y a b c d).symm⟩
theorem p_orb {tS : Int32} {tC tn sC sd : Nat → Int32} (hR : RT tS tC tn) : ∃ r sS' sC' sd', S_X5_orbit tS tC sC = some (r, sS', sC') ∧ S_X6_orbit tS tn sd = some (r, sd') ∧ Z7 sC' := by
  obtain ⟨N, C, rfl, hC, hT, h7, hM⟩ := hR
  obtain ⟨r, sC', sd', a, b, c⟩ := p_orbit (sC := sC) (sd := sd) hC hT h7 hM (orb hC)
  exact ⟨_, _, _, _, a, b, c⟩
