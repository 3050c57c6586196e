/-! numbers: an Int32 out of an Int, and what its operations are over small ones -/
def ii (z : Int) : Int32 := Int32.ofInt z
theorem ii_add (a b : Int) : ii a + ii b = ii (a + b) := (Int32.ofInt_add a b).symm
theorem ii_sub (a b : Int) : ii a - ii b = ii (a - b) := (Int32.ofInt_sub a b).symm
theorem ii_mul (a b : Int) : ii a * ii b = ii (a * b) := (Int32.ofInt_mul a b).symm
theorem ii_neg (a : Int) : - ii a = ii (- a) := (Int32.ofInt_neg a).symm
theorem ii_m1 : (-1 : Int32) = ii (-1) := rfl
theorem ii_m2 : (-2 : Int32) = ii (-2) := rfl
theorem ii_m3 : (-3 : Int32) = ii (-3) := rfl
theorem ii_m4 : (-4 : Int32) = ii (-4) := rfl
theorem ii_0 : (0 : Int32) = ii 0 := rfl
theorem ii_1 : (1 : Int32) = ii 1 := rfl
theorem ii_2 : (2 : Int32) = ii 2 := rfl
theorem ii_3 : (3 : Int32) = ii 3 := rfl
theorem ii_4 : (4 : Int32) = ii 4 := rfl
theorem ii_5 : (5 : Int32) = ii 5 := rfl
theorem ii_6 : (6 : Int32) = ii 6 := rfl
theorem ii_7 : (7 : Int32) = ii 7 := rfl
theorem ii_8 : (8 : Int32) = ii 8 := rfl
theorem ii_10 : (10 : Int32) = ii 10 := rfl
theorem ii_12 : (12 : Int32) = ii 12 := rfl
theorem ii_36 : (36 : Int32) = ii 36 := rfl
theorem ii_37 : (37 : Int32) = ii 37 := rfl
theorem ii_toInt {a : Int} (h : -1000000000 ≤ a) (h2 : a ≤ 1000000000) : (ii a).toInt = a := Int32.toInt_ofInt_of_le (by omega) (by omega)
theorem ii_le {a b : Int} (h : -1000000000 ≤ a) (h2 : a ≤ 1000000000) (h3 : -1000000000 ≤ b) (h4 : b ≤ 1000000000) : ii a ≤ ii b ↔ a ≤ b := by
  rw [Int32.le_iff_toInt_le, ii_toInt h h2, ii_toInt h3 h4]
theorem ii_lt {a b : Int} (h : -1000000000 ≤ a) (h2 : a ≤ 1000000000) (h3 : -1000000000 ≤ b) (h4 : b ≤ 1000000000) : ii a < ii b ↔ a < b := by
  rw [Int32.lt_iff_toInt_lt, ii_toInt h h2, ii_toInt h3 h4]
theorem ii_eq {a b : Int} (h : -1000000000 ≤ a) (h2 : a ≤ 1000000000) (h3 : -1000000000 ≤ b) (h4 : b ≤ 1000000000) : ii a = ii b ↔ a = b := by
  rw [← Int32.toInt_inj, ii_toInt h h2, ii_toInt h3 h4]
theorem ii_nat (n : Nat) : ii (n : Int) = nI n := Int32.ofInt_eq_ofNat
theorem ii_clamp {a : Int} (h : 0 ≤ a) (h2 : a ≤ 1000000000) : (ii a).toNatClampNeg = a.toNat := by
  obtain ⟨n, rfl⟩ := Int.eq_ofNat_of_zero_le h
  rw [ii_nat, nI_clamp (by omega)]
  simp
theorem inb_t {a : Int} {n : Nat} (h : 0 ≤ a) (h2 : a < (n : Int)) (hn : n ≤ 1000000) : inb (ii a) n = true := by
  unfold inb
  rw [ii_clamp h (by omega)]
  have h3 : ¬ ii a < 0 := by rw [ii_0, ii_lt (by omega) (by omega) (by omega) (by omega)]; omega
  simp [h3]
  omega
theorem ck_in {ρ : Type} {a : Int} {n : Nat} {k : Option ρ} (h : 0 ≤ a) (h2 : a < (n : Int)) (hn : n ≤ 1000000) : ck (inb (ii a) n) k = k := by
  unfold ck
  rw [inb_t h h2 hn, if_pos rfl]
theorem ck_tt {ρ : Type} {k : Option ρ} : ck true k = k := if_pos rfl
theorem ck_b {ρ : Type} {b : Bool} {k : Option ρ} (h : b = true) : ck b k = k := by subst h; exact ck_tt
theorem jn_l {σ ρ : Type} (s : σ) (k : σ → Option ρ) : jn (some (.inl s)) k = k s := rfl
theorem jn_r {σ ρ : Type} (r : ρ) (k : σ → Option ρ) : jn (some (.inr r)) k = some r := rfl
theorem ii_rem {a b : Int} (h : 0 ≤ a) (h2 : a ≤ 1000000000) (h3 : 0 < b) (h4 : b ≤ 1000000000) : ii a - ii a / ii b * ii b = ii (a % b) := by
  obtain ⟨n, rfl⟩ := Int.eq_ofNat_of_zero_le h
  obtain ⟨d, rfl⟩ := Int.eq_ofNat_of_zero_le (Int.le_of_lt h3)
  rw [ii_nat, ii_nat, pk_rem (by omega) (by omega) (by omega), ← ii_nat]
  simp
theorem ii_div {a b : Int} (h : 0 ≤ a) (h2 : a ≤ 1000000000) (h3 : 0 < b) (h4 : b ≤ 1000000000) : ii a / ii b = ii (a / b) := by
  obtain ⟨n, rfl⟩ := Int.eq_ofNat_of_zero_le h
  obtain ⟨d, rfl⟩ := Int.eq_ofNat_of_zero_le (Int.le_of_lt h3)
  rw [ii_nat, ii_nat, pk_div (by omega) (by omega) (by omega), ← ii_nat]
  simp
/-! loops that are counted -/
theorem itr_succ {σ ρ : Type} {f : σ → Option (σ ⊕ ρ)} {n : Nat} {s s' : σ} (h : f s = some (.inl s')) : itr f (n + 1) s = itr f n s' := by
  rw [itr, h]
theorem itr_end {σ ρ : Type} {f : σ → Option (σ ⊕ ρ)} {n : Nat} {s : σ} {r : ρ} (h : f s = some (.inr r)) : itr f (n + 1) s = some r := by
  rw [itr, h]
theorem itr_ex {σ ρ : Type} {f : σ → Option (σ ⊕ ρ)} (P : Nat → σ → Prop) (Post : ρ → Prop) (N : Nat) {F : Nat} {s0 : σ} (h0 : P 0 s0) (hF : N < F)
    (hs : ∀ i s, i < N → P i s → (∃ s', f s = some (.inl s') ∧ P (i + 1) s') ∨ (∃ r, f s = some (.inr r) ∧ Post r))
    (hx : ∀ s, P N s → ∃ r, f s = some (.inr r) ∧ Post r) : ∃ r, itr f F s0 = some r ∧ Post r := by
  have key : ∀ (d i F : Nat) (s : σ), i + d = N → d < F → P i s → ∃ r, itr f F s = some r ∧ Post r := by
    intro d
    induction d with
    | zero =>
      intro i F s hi hF hp
      obtain ⟨F', rfl⟩ : ∃ F', F = F' + 1 := ⟨F - 1, by omega⟩
      have : i = N := by omega
      subst this
      obtain ⟨r, h1, h2⟩ := hx s hp
      exact ⟨r, itr_end h1, h2⟩
    | succ d ih =>
      intro i F s hi hF hp
      obtain ⟨F', rfl⟩ : ∃ F', F = F' + 1 := ⟨F - 1, by omega⟩
      rcases hs i s (by omega) hp with ⟨s', h1, h2⟩ | ⟨r, h1, h2⟩
      · rw [itr_succ h1]
        exact ih (i + 1) F' s' (by omega) (by omega) h2
      · exact ⟨r, itr_end h1, h2⟩
  exact key N 0 F s0 (by omega) hF h0
theorem itr_rel {σ ρ : Type} {f : σ → Option (σ ⊕ ρ)} {r : ρ} (P : Nat → σ → Prop) (N : Nat) {F : Nat} {s0 : σ} (h0 : P 0 s0) (hF : N < F)
    (hs : ∀ i s, i < N → P i s → ∃ s', f s = some (.inl s') ∧ P (i + 1) s')
    (hx : ∀ s, P N s → f s = some (.inr r)) : itr f F s0 = some r := by
  obtain ⟨r', h1, h2⟩ := itr_ex (f := f) P (fun x => x = r) N h0 hF (fun i s hi hp => Or.inl (hs i s hi hp)) (fun s hp => ⟨r, hx s hp, rfl⟩)
  rw [h1, h2]
theorem itr_up {σ ρ : Type} {f : σ → Option (σ ⊕ ρ)} {r : ρ} {F : Nat} {s0 : σ} (inv : Nat → σ) (N : Nat) (h0 : s0 = inv 0) (hF : N < F)
    (hs : ∀ i, i < N → f (inv i) = some (.inl (inv (i + 1)))) (hx : f (inv N) = some (.inr r)) : itr f F s0 = some r :=
  itr_rel (fun i s => s = inv i) N h0 hF (fun i s hi e => ⟨_, by rw [e]; exact hs i hi, rfl⟩) (fun s e => by rw [e]; exact hx)
/-! sums -/
def sm (n : Nat) (f : Int → Int) : Int := match n with
  | 0 => 0
  | n + 1 => sm n f + f n
theorem sm_congr {n : Nat} {f g : Int → Int} (h : ∀ i : Int, 0 ≤ i → i < n → f i = g i) : sm n f = sm n g := by
  induction n with
  | zero => rfl
  | succ n ih => rw [sm, sm, ih (fun i h1 h2 => h i h1 (by omega)), h n (by omega) (by omega)]
theorem sm_bd {n : Nat} {f : Int → Int} {lo hi : Int} (h : ∀ i : Int, 0 ≤ i → i < n → lo ≤ f i ∧ f i ≤ hi) : n * lo ≤ sm n f ∧ sm n f ≤ n * hi := by
  induction n with
  | zero => simp [sm]
  | succ n ih =>
    have h1 := ih (fun i h1 h2 => h i h1 (by omega))
    have h2 := h n (by omega) (by omega)
    rw [sm]
    have e1 : ((n + 1 : Nat) : Int) * lo = n * lo + lo := by rw [Int.natCast_add, Int.add_mul]; simp
    have e2 : ((n + 1 : Nat) : Int) * hi = n * hi + hi := by rw [Int.natCast_add, Int.add_mul]; simp
    rw [e1, e2]
    omega
