theorem ii_lt0 {a : Int} (h : -1000000000 ≤ a) (h2 : a ≤ 1000000000) : (0 : Int32) < ii a ↔ 0 < a := ii_lt (a := 0) (by omega) (by omega) h h2
theorem ii_le0 {a : Int} (h : -1000000000 ≤ a) (h2 : a ≤ 1000000000) : (0 : Int32) ≤ ii a ↔ 0 ≤ a := ii_le (a := 0) (by omega) (by omega) h h2
theorem ii_0le {a : Int} (h : -1000000000 ≤ a) (h2 : a ≤ 1000000000) : ii a ≤ (0 : Int32) ↔ a ≤ 0 := ii_le (b := 0) h h2 (by omega) (by omega)
theorem ii_0lt {a : Int} (h : -1000000000 ≤ a) (h2 : a ≤ 1000000000) : ii a < (0 : Int32) ↔ a < 0 := ii_lt (b := 0) h h2 (by omega) (by omega)
theorem ii_eq0 {a : Int} (h : -1000000000 ≤ a) (h2 : a ≤ 1000000000) : ii a = (0 : Int32) ↔ a = 0 := ii_eq (b := 0) h h2 (by omega) (by omega)
theorem ii_eq1 {a : Int} (h : -1000000000 ≤ a) (h2 : a ≤ 1000000000) : ii a = (1 : Int32) ↔ a = 1 := ii_eq (b := 1) h h2 (by omega) (by omega)
theorem ii_eq2 {a : Int} (h : -1000000000 ≤ a) (h2 : a ≤ 1000000000) : ii a = (2 : Int32) ↔ a = 2 := ii_eq (b := 2) h h2 (by omega) (by omega)
/-- an inner loop beside an inner loop -/
theorem itr_simN {σ τ σ' τ' ρ ρ' : Type} {f : σ → Option (σ ⊕ (σ' ⊕ ρ))} {g : τ → Option (τ ⊕ (τ' ⊕ ρ'))} (R : Nat → σ → τ → Prop) (Q : σ' → τ' → Prop) (E : ρ → ρ' → Prop) (N : Nat) {F K : Nat} {s0 : σ} {t0 : τ} (h0 : R 0 s0 t0) (hF : N < F) (hG : N < K)
    (hs : ∀ i s t, i < N → R i s t → (∃ s' t', f s = some (.inl s') ∧ g t = some (.inl t') ∧ R (i + 1) s' t') ∨ (∃ o o', f s = some (.inr o) ∧ g t = some (.inr o') ∧ ((∃ s' t', o = .inl s' ∧ o' = .inl t' ∧ Q s' t') ∨ (∃ r r', o = .inr r ∧ o' = .inr r' ∧ E r r'))))
    (hx : ∀ s t, R N s t → ∃ o o', f s = some (.inr o) ∧ g t = some (.inr o') ∧ ((∃ s' t', o = .inl s' ∧ o' = .inl t' ∧ Q s' t') ∨ (∃ r r', o = .inr r ∧ o' = .inr r' ∧ E r r'))) :
    (∃ s' t', itr f F s0 = some (.inl s') ∧ itr g K t0 = some (.inl t') ∧ Q s' t') ∨ (∃ r r', itr f F s0 = some (.inr r) ∧ itr g K t0 = some (.inr r') ∧ E r r') := by
  obtain ⟨o, o', h1, h2, h3⟩ := itr_sim (f := f) (g := g) R (fun o o' => (∃ s' t', o = .inl s' ∧ o' = .inl t' ∧ Q s' t') ∨ (∃ r r', o = .inr r ∧ o' = .inr r' ∧ E r r')) N h0 hF hG hs hx
  rcases h3 with ⟨s', t', rfl, rfl, h4⟩ | ⟨r, r', rfl, rfl, h4⟩
  · exact Or.inl ⟨s', t', h1, h2, h4⟩
  · exact Or.inr ⟨r, r', h1, h2, h4⟩
/-! THE OTHER -/
def RO (oS : Int32) (oC on : Nat → Int32) : Prop := oS = 0 ∨ ∃ (n : Int) (C : Int → Int → Int), oS = ii n ∧ CS n C ∧ TC n C oC ∧ TM n C on
theorem RO.same {oS : Int32} {oC on : Nat → Int32} {n : Int} (h : RO oS oC on) (h1 : 1 ≤ n) (h6 : n ≤ 6) (e : oS = ii n) : ∃ C, CS n C ∧ TC n C oC ∧ TM n C on := by
  rcases h with h | ⟨n', C, h2, hC, hT, hM⟩
  · rw [h, ii_0] at e
    exact absurd ((ii_eq (by omega) (by omega) (by omega) (by omega)).mp e) (by omega)
  · have a := hC.n6
    have b := hC.n1
    rw [h2] at e
    have e' := (ii_eq (by omega) (by omega) (by omega) (by omega)).mp e
    subst e'
    exact ⟨C, hC, hT, hM⟩
theorem p_apart {n : Int} {C : Int → Int → Int} {cs sn oC on : Nat → Int32} {oS : Int32} (hC : CS n C) (hT : TC n C cs) (hM : TM n C sn) (hO : RO oS oC on) : ∃ r, S_X5_apart (ii n) cs oS oC = some r ∧ S_X6_apart (ii n) oS sn on = some r := by
  have h6 := hC.n6
  have h1 := hC.n1
  by_cases e : oS = ii n
  · obtain ⟨C', hC', hT', hM'⟩ := hO.same h1 h6 e
    subst e
    obtain ⟨N, rfl⟩ : ∃ N : Nat, n = 1 + (N : Int) := ⟨(n - 1).toNat, by omega⟩
    have hC2 : CS ((N + 1 : Nat) : Int) C := by push_cast; rw [Int.add_comm]; exact hC
    have hC2' : CS ((N + 1 : Nat) : Int) C' := by push_cast; rw [Int.add_comm]; exact hC'
    have hM2 : TM ((N + 1 : Nat) : Int) C sn := by push_cast; rw [Int.add_comm]; exact hM
    have hM2' : TM ((N + 1 : Nat) : Int) C' on := by push_cast; rw [Int.add_comm]; exact hM'
    have a := x6_apartS hC2 hM2 hC2' hM2'
    rw [q_apt hC2 hC2'] at a
    have b : 49 * 0 ≤ sm N (fun i => sm N (fun j => (if 0 ≤ C (1 + i) (1 + j) - C' (1 + i) (1 + j) then C (1 + i) (1 + j) - C' (1 + i) (1 + j) else 0 - (C (1 + i) (1 + j) - C' (1 + i) (1 + j))))) ∧ sm N (fun i => sm N (fun j => (if 0 ≤ C (1 + i) (1 + j) - C' (1 + i) (1 + j) then C (1 + i) (1 + j) - C' (1 + i) (1 + j) else 0 - (C (1 + i) (1 + j) - C' (1 + i) (1 + j))))) ≤ 49 * 12 := by
      refine sm2_bd (by omega) (by omega) (by omega) (by omega) (fun i j a1 a2 a3 a4 => ?_)
      have x := hC.bd (i := 1 + i) (j := 1 + j) (by omega) (by omega) (by omega) (by omega)
      have y := hC'.bd (i := 1 + i) (j := 1 + j) (by omega) (by omega) (by omega) (by omega)
      split <;> omega
    refine ⟨ii (sm N (fun i => sm N (fun j => (if 0 ≤ C (1 + i) (1 + j) - C' (1 + i) (1 + j) then C (1 + i) (1 + j) - C' (1 + i) (1 + j) else 0 - (C (1 + i) (1 + j) - C' (1 + i) (1 + j)))))), ?_, ?_⟩
    · unfold S_X5_apart S_X5_hasLikeOther
      rw [if_pos rfl, Option.bind_some, if_neg n10, x3_distance hC hT hC' hT', Option.bind_some]
    · rw [show (1 + (N : Int)) = ((N + 1 : Nat) : Int) by push_cast; omega, a, ii_2, ii_div (by omega) (by omega) (by omega) (by omega)]
      congr 2
      omega
  · refine ⟨-2, ?_, ?_⟩
    · unfold S_X5_apart S_X5_hasLikeOther
      rw [if_neg e, Option.bind_some, if_pos rfl]
    · unfold S_X6_apart
      rw [if_neg e]
/-! NEXT -/
def wt (C C' : Int → Int → Int) (i j : Int) : Int := if hh C i j < hh C' i j then 1 else if hh C' i j < hh C i j then 2 else 0
theorem x3_wayTo {n : Int} {C C' : Int → Int → Int} {cs cs' : Nat → Int32} (hC : CS n C) (h : TC n C cs) (hC' : CS n C') (h' : TC n C' cs') {i j : Int} (h1 : 0 ≤ i) (h2 : i ≤ n) (h3 : 0 ≤ j) (h4 : j ≤ n) : S_X3_wayTo (ii i) (ii j) cs cs' = some (ii (wt C C' i j)) := by
  have hn := hC.n6
  have a := hC.hhb h1 h2 h3 h4
  have b := hC'.hhb h1 h2 h3 h4
  simp (disch := omega) only [S_X3_wayTo, x3_heightAt hn h, x3_heightAt hn h', Option.bind_some, ii_0, ii_1, ii_2, ii_sub, ii_le]
  unfold wt
  by_cases c : hh C i j < hh C' i j
  · rw [if_neg (by omega), if_pos c]
  · rw [if_pos (by omega), if_neg c]
    by_cases d : hh C' i j < hh C i j
    · rw [if_neg (by omega), if_pos d]
    · rw [if_pos (by omega), if_neg d]
def nr (C C' : Int → Int → Int) (i j : Int) : Prop := ¬ kd C i j = 0 ∧ kd C i j = wt C C' i j
theorem wt_r (C C' : Int → Int → Int) (i j : Int) : wt C C' i j = 0 ∨ wt C C' i j = 1 ∨ wt C C' i j = 2 := by
  unfold wt
  split
  · exact Or.inr (Or.inl rfl)
  · split
    · exact Or.inr (Or.inr rfl)
    · exact Or.inl rfl
theorem x3_comesNearer {n : Int} {C C' : Int → Int → Int} {cs cs' : Nat → Int32} (hC : CS n C) (h : TC n C cs) (hC' : CS n C') (h' : TC n C' cs') {i j : Int} (h1 : 1 ≤ i) (h2 : i < n) (h3 : 1 ≤ j) (h4 : j < n) : (nr C C' i j → S_X3_comesNearer (ii i) (ii j) cs cs' = some 1) ∧ (¬ nr C C' i j → S_X3_comesNearer (ii i) (ii j) cs cs' = some 0) := by
  have a := kd_r C i j
  have b := wt_r C C' i j
  simp (disch := omega) only [S_X3_comesNearer, x3_flipKind hC h, x3_wayTo hC h hC' h', Option.bind_some, ii_0, ii_eq]
  unfold nr
  by_cases c : kd C i j = 0
  · rw [if_pos c]
    exact ⟨fun q => absurd c q.1, fun _ => rfl⟩
  · rw [if_neg c]
    by_cases d : kd C i j = wt C C' i j
    · rw [if_pos d]
      exact ⟨fun _ => rfl, fun q => absurd ⟨c, d⟩ q⟩
    · rw [if_neg d]
      exact ⟨fun q => absurd q.2 d, fun _ => rfl⟩
theorem p_next {n : Int} {C : Int → Int → Int} {cs sn oC on : Nat → Int32} {oS : Int32} (hC : CS n C) (hT : TC n C cs) (hM : TM n C sn) (hO : RO oS oC on) : ∃ r, S_X5_next (ii n) cs oS oC = some r ∧ S_X6_next (ii n) oS sn on = some r := by
  have h6 := hC.n6
  have h1 := hC.n1
  by_cases e : oS = ii n
  · obtain ⟨C', hC', hT', hM'⟩ := hO.same h1 h6 e
    subst e
    unfold S_X5_next S_X5_hasLikeOther S_X6_next
    rw [if_pos rfl, Option.bind_some, if_neg n10, if_pos rfl]
    suffices h : ∃ r r', _ = some r ∧ _ = some r' ∧ r = r' by
      obtain ⟨r, r', a, b, c⟩ := h
      exact ⟨r, a, by rw [c]; exact b⟩
    refine itr_sim (fun k s t => s = ii (1 + k) ∧ t = ii (1 + k)) (fun r r' => r = r') (n - 1).toNat ⟨rfl, rfl⟩ (by omega) (by omega) ?_ ?_
    · rintro k s t hk ⟨rfl, rfl⟩
      simp (disch := omega) only [ii_le, if_neg]
      refine itr_simN (fun q s t => s = ii (1 + q) ∧ t = ii (1 + q)) _ _ (n - 1).toNat ⟨rfl, rfl⟩ (by omega) (by omega) ?_ ?_
      · rintro q s t hq ⟨rfl, rfl⟩
        have a := kd_r C (1 + k) (1 + q)
        have b1 := hC.hhb (i := 1 + k) (j := 1 + q) (by omega) (by omega) (by omega) (by omega)
        have b2 := hC'.hhb (i := 1 + k) (j := 1 + q) (by omega) (by omega) (by omega) (by omega)
        obtain ⟨c1, c2⟩ := x3_comesNearer hC hT hC' hT' (i := 1 + k) (j := 1 + q) (by omega) (by omega) (by omega) (by omega)
        simp (disch := omega) only [ii_le, if_neg, x6_heightOf hC hM, x6_heightOf hC' hM', x6_mayBe hC hM, Option.bind_some, ii_a1]
        have s1 : ii (1 + (q : Int) + 1) = ii (1 + ((q + 1 : Nat) : Int)) := by first | rfl | (congr 1; done) | (congr 1; push_cast; omega)
        rw [s1]
        simp (disch := omega) only [ii_sub, ii_lt0, ii_le0, ii_eq1, ii_eq2]
        unfold nr wt at c1 c2
        by_cases k1 : kd C (1 + k) (1 + q) = 1
        · by_cases w1 : hh C (1 + k) (1 + q) < hh C' (1 + k) (1 + q)
          · refine Or.inr ?_
            rw [c1 ⟨by omega, by rw [if_pos w1]; exact k1⟩, Option.bind_some, if_neg n10, if_pos k1, if_pos (by omega), jn_r]
            exact ⟨_, _, rfl, rfl, Or.inr ⟨_, _, rfl, rfl, rfl⟩⟩
          · refine Or.inl ?_
            rw [c2 (fun z => by rw [if_neg w1] at z; split at z <;> omega), Option.bind_some, if_pos rfl, if_pos k1, if_neg (by omega), jn_l, if_neg (by omega)]
            exact ⟨_, _, rfl, rfl, rfl, rfl⟩
        · rw [if_neg k1, jn_l]
          by_cases k2 : kd C (1 + k) (1 + q) = 2
          · rw [if_pos k2]
            by_cases w1 : hh C' (1 + k) (1 + q) < hh C (1 + k) (1 + q)
            · refine Or.inr ?_
              rw [c1 ⟨by omega, by rw [if_neg (by omega), if_pos w1]; exact k2⟩, Option.bind_some, if_neg n10, if_neg (by omega)]
              exact ⟨_, _, rfl, rfl, Or.inr ⟨_, _, rfl, rfl, rfl⟩⟩
            · refine Or.inl ?_
              rw [c2 (fun z => by rw [if_neg w1] at z; split at z <;> omega), Option.bind_some, if_pos rfl, if_pos (by omega)]
              exact ⟨_, _, rfl, rfl, rfl, rfl⟩
          · refine Or.inl ?_
            rw [if_neg k2, c2 (fun z => by omega), Option.bind_some, if_pos rfl]
            exact ⟨_, _, rfl, rfl, rfl, rfl⟩
      · rintro s t ⟨rfl, rfl⟩
        simp (disch := omega) only [ii_le, if_pos, ii_a1]
        refine ⟨_, _, rfl, rfl, Or.inl ⟨_, _, rfl, rfl, ?_, ?_⟩⟩
        · first | rfl | (congr 1; done) | (congr 1; push_cast; omega)
        · first | rfl | (congr 1; done) | (congr 1; push_cast; omega)
    · rintro s t ⟨rfl, rfl⟩
      simp (disch := omega) only [ii_le, if_pos]
      exact ⟨_, _, rfl, rfl, rfl⟩
  · refine ⟨-2, ?_, ?_⟩
    · unfold S_X5_next S_X5_hasLikeOther
      rw [if_neg e, Option.bind_some, if_pos rfl]
    · unfold S_X6_next
      rw [if_neg e]
