/-! the sets of a chain: sums of bits -/
def bs (a j : Nat) : Nat := snn j (bv a)
theorem bs_s (a j : Nat) : bs a (j + 1) = bs a j + bv a j := rfl
theorem ldg_iff {n a b : Nat} : ∀ k s : Nat, k ≤ n → bs b (n - k) = bs a (n - k) + s → (ldg n a b k s = true ↔ (∀ j, n - k < j → j ≤ n → bs a j ≤ bs b j ∧ bs b j ≤ bs a j + 1) ∧ bs b n = bs a n + 1) := by
  intro k
  induction k with
  | zero =>
    intro s _ h
    rw [Nat.sub_zero] at h
    unfold ldg
    constructor
    · intro e
      have : s = 1 := by simpa using e
      exact ⟨fun j a b => absurd a (by omega), by omega⟩
    · rintro ⟨-, e⟩
      have : s = 1 := by omega
      subst this; rfl
  | succ k ih =>
    intro s hk h
    have e1 : n - k = n - (k + 1) + 1 := by omega
    have e2 : n - 1 - k = n - (k + 1) := by omega
    have ea := bs_s a (n - (k + 1))
    have eb := bs_s b (n - (k + 1))
    rw [← e1] at ea eb
    unfold ldg
    rw [e2]
    by_cases c1 : s + bv b (n - (k + 1)) < bv a (n - (k + 1))
    · rw [if_pos c1]
      constructor
      · intro e; exact absurd e (by decide)
      · rintro ⟨e, -⟩
        have := e (n - k) (by omega) (by omega)
        omega
    · rw [if_neg c1]
      by_cases c2 : 1 < s + bv b (n - (k + 1)) - bv a (n - (k + 1))
      · rw [if_pos c2]
        constructor
        · intro e; exact absurd e (by decide)
        · rintro ⟨e, -⟩
          have := e (n - k) (by omega) (by omega)
          omega
      · rw [if_neg c2, ih _ (by omega) (by omega)]
        constructor
        · rintro ⟨x, y⟩
          refine ⟨fun j h1 h2 => ?_, y⟩
          by_cases d : j = n - k
          · subst d; omega
          · exact x j (by omega) h2
        · rintro ⟨x, y⟩
          exact ⟨fun j h1 h2 => x j (by omega) h2, y⟩
theorem ld_iff {n a b : Nat} : ld n a b = true ↔ (∀ j, j ≤ n → bs a j ≤ bs b j ∧ bs b j ≤ bs a j + 1) ∧ bs b n = bs a n + 1 := by
  unfold ld
  rw [ldg_iff n 0 (by omega) (by rw [Nat.sub_self]; rfl)]
  constructor
  · rintro ⟨x, y⟩
    refine ⟨fun j h => ?_, y⟩
    by_cases d : j = 0
    · subst d; exact ⟨Nat.le_refl 0, Nat.zero_le _⟩
    · exact x j (by omega) h
  · rintro ⟨x, y⟩
    exact ⟨fun j _ h => x j h, y⟩
/-! choosing a row by a number -/
theorem snn_lo {f : Nat → Nat} {p : Nat → Bool} : ∀ N lo, lo < N → snn N (fun x => if lo ≤ x ∧ p x = true then f x else 0) = snn N (fun x => if lo + 1 ≤ x ∧ p x = true then f x else 0) + (if p lo = true then f lo else 0) := by
  intro N
  induction N with
  | zero => intro lo h; omega
  | succ N ih =>
    intro lo h
    rw [snn, snn]
    by_cases d : lo = N
    · subst d
      have z : snn lo (fun x => if lo ≤ x ∧ p x = true then f x else 0) = snn lo (fun x => if lo + 1 ≤ x ∧ p x = true then f x else 0) := snn_congr (fun i hi => by rw [if_neg (fun q => by omega), if_neg (fun q => by omega)])
      rw [z, if_neg (fun q : lo + 1 ≤ lo ∧ _ => by omega)]
      by_cases c : p lo = true
      · rw [if_pos ⟨Nat.le_refl _, c⟩, if_pos c]; omega
      · rw [if_neg (fun q => c q.2), if_neg c]
    · rw [ih lo (by omega)]
      have e : (if lo ≤ N ∧ p N = true then f N else 0) = (if lo + 1 ≤ N ∧ p N = true then f N else 0) := by
        by_cases c : p N = true
        · rw [if_pos ⟨by omega, c⟩, if_pos ⟨by omega, c⟩]
        · rw [if_neg (fun q => c q.2), if_neg (fun q => c q.2)]
      rw [e]; omega
theorem AC_s {n a lo : Nat} (h : lo < 2 ^ n) : AC n a lo = AC n a (lo + 1) + (if cf n a lo = true then EE n lo else 0) := by
  unfold AC
  exact snn_lo (2 ^ n) lo h
theorem AC_top {n a lo : Nat} (h : 2 ^ n ≤ lo) : AC n a lo = 0 := by
  unfold AC
  exact snn_0 (fun i hi => if_neg (fun q => by omega))
theorem AC_mono {n a lo : Nat} : ∀ d, AC n a (lo + d) ≤ AC n a lo := by
  intro d
  induction d with
  | zero => exact Nat.le_refl _
  | succ d ih =>
    by_cases h : lo + d < 2 ^ n
    · have := AC_s (a := a) h
      rw [Nat.add_assoc] at this
      omega
    · rw [AC_top (by omega : 2 ^ n ≤ lo + (d + 1))]
      omega
theorem AC_le {n a lo hi : Nat} (h : lo ≤ hi) : AC n a hi ≤ AC n a lo := by
  have := AC_mono (n := n) (a := a) (lo := lo) (hi - lo)
  rw [show lo + (hi - lo) = hi by omega] at this
  exact this
theorem AC_0 {n a : Nat} (h1 : 1 ≤ n) (h6 : n ≤ 6) (ha : a < 2 ^ n) (hp : pc a < n) : AC n a 0 = EE n a := by
  have f := eef h1 h6 ha
  rw [f.2.2.2.2 (fun e => by have := f.1.mpr e; omega)]
  unfold AC
  refine snn_congr (fun i _ => ?_)
  by_cases d : cf n a i = true
  · rw [if_pos ⟨Nat.zero_le _, d⟩, if_pos d]
  · rw [if_neg (fun q => d q.2), if_neg d]
/-- the mask M is the one that a number picks behind a -/
def PK (n a left M : Nat) : Prop := M < 2 ^ n ∧ cf n a M = true ∧ AC n a (M + 1) ≤ left ∧ left < AC n a (M + 1) + EE n M
theorem PK.uniq {n a left M M' : Nat} (h : PK n a left M) (h' : PK n a left M') : M = M' := by
  have key : ∀ {M M' : Nat}, PK n a left M → PK n a left M' → ¬ M < M' := by
    intro M M' h h' lt
    have s := AC_s (a := a) h'.1
    rw [if_pos h'.2.1] at s
    have m := AC_le (n := n) (a := a) (lo := M + 1) (hi := M') lt
    have x := h.2.2.1
    have y := h'.2.2.2
    omega
  have a1 := key h h'
  have a2 := key h' h
  omega
theorem PK.ex {n a left : Nat} (h1 : 1 ≤ n) (h6 : n ≤ 6) (ha : a < 2 ^ n) (hp : pc a < n) (hl : left < EE n a) : ∃ M, PK n a left M := by
  rw [← AC_0 h1 h6 ha hp] at hl
  have key : ∀ d lo, lo + d = 2 ^ n → left < AC n a lo → ∃ M, PK n a left M := by
    intro d
    induction d with
    | zero => intro lo e h; rw [AC_top (by omega)] at h; omega
    | succ d ih =>
      intro lo e h
      by_cases c : left < AC n a (lo + 1)
      · exact ih (lo + 1) (by omega) c
      · have s := AC_s (a := a) (show lo < 2 ^ n by omega)
        by_cases d : cf n a lo = true
        · rw [if_pos d] at s
          exact ⟨lo, by omega, d, by omega, by omega⟩
        · rw [if_neg d] at s; omega
  exact key (2 ^ n) 0 (by omega) hl
def itp {α : Type} (F : α → α) (x : α) : Nat → α
  | 0 => x
  | k + 1 => F (itp F x k)
/-- the chain of a rank -/
def CH (n : Nat) (T L : Nat → Nat) (k : Nat) : Prop := ∀ i, i < k → T (i + 1) < 2 ^ n ∧ PK n (rv n (T i)) (L i) (rv n (T (i + 1))) ∧ L (i + 1) = L i - AC n (rv n (T i)) (rv n (T (i + 1)) + 1)
theorem rk_step {n s left : Nat} (h1 : 1 ≤ n) (h6 : n ≤ 6) (hs : s < 2 ^ n) (hp : pc s < n) (hl : left < EE n (rv n s)) : ∃ t, t < 2 ^ n ∧ PK n (rv n s) left (rv n t) ∧ pc t = pc s + 1 ∧ left - AC n (rv n s) (rv n t + 1) < EE n (rv n t) := by
  obtain ⟨v1, v2, v3⟩ := rvf h1 h6 hs
  obtain ⟨M, hM⟩ := PK.ex h1 h6 v1 (by omega) hl
  obtain ⟨w1, w2, w3⟩ := rvf h1 h6 hM.1
  have c := cfp h1 h6 v1 hM.1 hM.2.1
  refine ⟨rv n M, w1, by rw [w2]; exact hM, by omega, ?_⟩
  rw [w2]
  have := hM.2.2
  omega
theorem CH.ex {n rank : Nat} (h1 : 1 ≤ n) (h6 : n ≤ 6) (hr : rank < EE n 0) : ∃ T L : Nat → Nat, T 0 = 0 ∧ L 0 = rank ∧ CH n T L n ∧ ∀ k, k ≤ n → T k < 2 ^ n ∧ pc (T k) = k ∧ L k < EE n (rv n (T k)) := by
  have g : ∀ x : Nat × Nat, ∃ y : Nat × Nat, x.1 < 2 ^ n → pc x.1 < n → x.2 < EE n (rv n x.1) → y.1 < 2 ^ n ∧ PK n (rv n x.1) x.2 (rv n y.1) ∧ pc y.1 = pc x.1 + 1 ∧ y.2 < EE n (rv n y.1) ∧ y.2 = x.2 - AC n (rv n x.1) (rv n y.1 + 1) := by
    intro x
    by_cases d : x.1 < 2 ^ n ∧ pc x.1 < n ∧ x.2 < EE n (rv n x.1)
    · obtain ⟨t, a, b, c, e⟩ := rk_step h1 h6 d.1 d.2.1 d.2.2
      exact ⟨(t, x.2 - AC n (rv n x.1) (rv n t + 1)), fun _ _ _ => ⟨a, b, c, e, rfl⟩⟩
    · exact ⟨x, fun a b c => absurd ⟨a, b, c⟩ d⟩
  obtain ⟨F, hF⟩ := Classical.axiomOfChoice g
  have inv : ∀ k, k ≤ n → (itp F (0, rank) k).1 < 2 ^ n ∧ pc (itp F (0, rank) k).1 = k ∧ (itp F (0, rank) k).2 < EE n (rv n (itp F (0, rank) k).1) := by
    intro k
    induction k with
    | zero => intro _; exact ⟨p1 n, (by decide : pc 0 = 0), by rw [show (itp F (0, rank) 0) = (0, rank) from rfl, rv_0 h1 h6]; exact hr⟩
    | succ k ih =>
      intro hk
      obtain ⟨a, b, c⟩ := ih (by omega)
      obtain ⟨u1, u2, u3, u4, u5⟩ := hF _ a (by omega) c
      exact ⟨u1, u3.trans (by rw [b]), u4⟩
  refine ⟨fun k => (itp F (0, rank) k).1, fun k => (itp F (0, rank) k).2, rfl, rfl, fun i hi => ?_, inv⟩
  obtain ⟨a, b, c⟩ := inv i (by omega)
  obtain ⟨u1, u2, u3, u4, u5⟩ := hF _ a (by omega) c
  exact ⟨u1, u2, u5⟩
/-- the table of a chain -/
def TB (T : Nat → Nat) : Int → Int → Int := fun i j => ((bs (T i.toNat) j.toNat : Nat) : Int)
theorem bs_full : ∀ n : Fin 7, ∀ j : Fin 7, (j : Nat) ≤ n → bs (2 ^ (n : Nat) - 1) j = j := by decide +kernel
theorem bs_pc : ∀ n : Fin 7, ∀ t : Fin 64, (t : Nat) < 2 ^ (n : Nat) → bs t n = pc t := by decide +kernel
theorem bs_0 (j : Nat) : bs 0 j = 0 := snn_0 (fun i _ => by unfold bv; simp)
theorem CS.chain {n : Nat} {T : Nat → Nat} (h1 : 1 ≤ n) (h6 : n ≤ 6) (T0 : T 0 = 0) (hp : ∀ k, k ≤ n → T k < 2 ^ n ∧ pc (T k) = k) (hl : ∀ k, k < n → ld n (T k) (T (k + 1)) = true) : CS n (TB T) ∧ ∀ k : Nat, k ≤ n → SET n (TB T) k (T k) := by
  have h64 := p64 h6
  have key : ∀ (i : Int), 0 ≤ i → ∃ k : Nat, i = k := fun i h => Int.eq_ofNat_of_zero_le h
  refine ⟨CS.of ⟨by omega, by omega⟩ ?_ ?_ ?_ ?_ ?_ ?_, ?_⟩
  · intro j a b
    unfold TB
    rw [show (0 : Int).toNat = 0 from rfl, T0, bs_0]; rfl
  · intro i a b
    unfold TB
    rw [show (0 : Int).toNat = 0 from rfl]; rfl
  · intro j a b
    obtain ⟨j, rfl⟩ := key j a
    unfold TB
    have t := hp n (by omega)
    have e := (eef h1 h6 t.1).1.mp t.2
    have f := bs_full ⟨n, by omega⟩ ⟨j, by omega⟩ (by dsimp only; omega)
    dsimp only at f
    rw [Int.toNat_natCast, Int.toNat_natCast, e, f]
  · intro i a b
    obtain ⟨i, rfl⟩ := key i a
    unfold TB
    have t := hp i (by omega)
    have f := bs_pc ⟨n, by omega⟩ ⟨T i, by omega⟩ t.1
    dsimp only at f
    rw [Int.toNat_natCast, Int.toNat_natCast, f, t.2]
  · intro i j a b c d
    obtain ⟨i, rfl⟩ := key i a
    obtain ⟨j, rfl⟩ := key j c
    unfold TB
    rw [show ((i : Int) + 1).toNat = i + 1 by omega, Int.toNat_natCast, Int.toNat_natCast]
    have := (ld_iff.mp (hl i (by omega))).1 j (by omega)
    omega
  · intro i j a b c d
    obtain ⟨i, rfl⟩ := key i a
    obtain ⟨j, rfl⟩ := key j c
    unfold TB
    rw [show ((j : Int) + 1).toNat = j + 1 by omega, Int.toNat_natCast, Int.toNat_natCast, bs_s]
    have := bv_lt (T i) j
    omega
  · intro k hk
    refine ⟨(hp k hk).1, fun c hc => ?_⟩
    unfold ks TB
    rw [show (c : Int) + 1 - 1 = c by omega, show ((c : Int) + 1).toNat = c + 1 by omega, Int.toNat_natCast, Int.toNat_natCast, bs_s]
    omega
