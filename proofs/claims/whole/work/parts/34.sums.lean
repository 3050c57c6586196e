/-! loops side by side -/
theorem itr_sim {σ τ ρ ρ' : Type} {f : σ → Option (σ ⊕ ρ)} {g : τ → Option (τ ⊕ ρ')} (R : Nat → σ → τ → Prop) (E : ρ → ρ' → Prop) (N : Nat) {F K : Nat} {s0 : σ} {t0 : τ} (h0 : R 0 s0 t0) (hF : N < F) (hG : N < K)
    (hs : ∀ i s t, i < N → R i s t → (∃ s' t', f s = some (.inl s') ∧ g t = some (.inl t') ∧ R (i + 1) s' t') ∨ (∃ r r', f s = some (.inr r) ∧ g t = some (.inr r') ∧ E r r'))
    (hx : ∀ s t, R N s t → ∃ r r', f s = some (.inr r) ∧ g t = some (.inr r') ∧ E r r') : ∃ r r', itr f F s0 = some r ∧ itr g K t0 = some r' ∧ E r r' := by
  have key : ∀ (d i F K : Nat) (s : σ) (t : τ), i + d = N → d < F → d < K → R i s t → ∃ r r', itr f F s = some r ∧ itr g K t = some r' ∧ E r r' := by
    intro d
    induction d with
    | zero =>
      intro i F K s t hi hF hG hp
      obtain ⟨F', rfl⟩ : ∃ F', F = F' + 1 := ⟨F - 1, by omega⟩
      obtain ⟨K', rfl⟩ : ∃ F', K = F' + 1 := ⟨K - 1, by omega⟩
      have : i = N := by omega
      subst this
      obtain ⟨r, r', h1, h2, h3⟩ := hx s t hp
      exact ⟨r, r', itr_end h1, itr_end h2, h3⟩
    | succ d ih =>
      intro i F K s t hi hF hG hp
      obtain ⟨F', rfl⟩ : ∃ F', F = F' + 1 := ⟨F - 1, by omega⟩
      obtain ⟨K', rfl⟩ : ∃ F', K = F' + 1 := ⟨K - 1, by omega⟩
      rcases hs i s t (by omega) hp with ⟨s', t', h1, h2, h3⟩ | ⟨r, r', h1, h2, h3⟩
      · rw [itr_succ h1, itr_succ h2]
        exact ih (i + 1) F' K' s' t' (by omega) (by omega) (by omega) h3
      · exact ⟨r, r', itr_end h1, itr_end h2, h3⟩
  exact key N 0 F K s0 t0 (by omega) hF hG h0
/-! sums again -/
theorem sm_shift (f : Int → Int) (n : Nat) : sm (n + 1) f = f 0 + sm n (fun i => f (i + 1)) := by
  induction n with
  | zero => simp [sm]
  | succ n ih => rw [sm, ih, sm]; push_cast; omega
theorem sm_inner (f : Int → Int) (n : Nat) (h0 : f 0 = 0) (h1 : f ((n : Int) + 1) = 0) : sm (n + 2) f = sm n (fun i => f (i + 1)) := by
  rw [sm, sm_shift, h0]
  push_cast
  omega
theorem sm_zero {n : Nat} {f : Int → Int} (h : ∀ i : Int, 0 ≤ i → i < n → f i = 0) : sm n f = 0 := by
  rw [sm_congr (g := fun _ => 0) h]
  induction n with
  | zero => rfl
  | succ n ih => rw [sm, ih (fun i h1 h2 => h i h1 (by omega))]; rfl
theorem sm_add (n : Nat) (f g : Int → Int) : sm n (fun i => f i + g i) = sm n f + sm n g := by
  induction n with
  | zero => rfl
  | succ n ih => rw [sm, sm, sm, ih]; omega
theorem sm_mul (n : Nat) (k : Int) (f : Int → Int) : sm n (fun i => k * f i) = k * sm n f := by
  induction n with
  | zero => simp [sm]
  | succ n ih => rw [sm, sm, ih, Int.mul_add]
theorem sm_swap (n m : Nat) (f : Int → Int → Int) : sm n (fun i => sm m (fun j => f i j)) = sm m (fun j => sm n (fun i => f i j)) := by
  induction n with
  | zero => rw [sm]; symm; exact sm_zero (fun _ _ _ => rfl)
  | succ n ih => rw [sm, ih, ← sm_add]; exact sm_congr (fun i _ _ => rfl)
/-- a loop in a loop that adds up: the outer from a on, the inner from b on -/
theorem sm2_bd {n m : Nat} {f : Int → Int → Int} {lo hi : Int} (hlo : lo ≤ 0) (hhi : 0 ≤ hi) (hn : n ≤ 7) (hm : m ≤ 7) (h : ∀ i j : Int, 0 ≤ i → i < n → 0 ≤ j → j < m → lo ≤ f i j ∧ f i j ≤ hi) : 49 * lo ≤ sm n (fun i => sm m (fun j => f i j)) ∧ sm n (fun i => sm m (fun j => f i j)) ≤ 49 * hi := by
  have h1 : ∀ i : Int, 0 ≤ i → i < n → 7 * lo ≤ sm m (fun j => f i j) ∧ sm m (fun j => f i j) ≤ 7 * hi := by
    intro i a b
    have q := sm_bd (n := m) (f := fun j => f i j) (lo := lo) (hi := hi) (fun j c d => h i j a b c d)
    have e1 : 7 * lo ≤ m * lo := Int.mul_le_mul_of_nonpos_right (by omega) hlo
    have e2 : m * hi ≤ 7 * hi := Int.mul_le_mul_of_nonneg_right (by omega) hhi
    omega
  have q := sm_bd (n := n) (f := fun i => sm m (fun j => f i j)) (lo := 7 * lo) (hi := 7 * hi) h1
  have e1 : 7 * (7 * lo) ≤ n * (7 * lo) := Int.mul_le_mul_of_nonpos_right (by omega) (by omega)
  have e2 : n * (7 * hi) ≤ 7 * (7 * hi) := Int.mul_le_mul_of_nonneg_right (by omega) (by omega)
  omega
