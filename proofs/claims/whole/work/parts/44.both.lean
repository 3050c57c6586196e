theorem wt0 {C C' : Int → Int → Int} {i j : Int} (e : C i j = C' i j) : wt C C' i j = 0 := by
  unfold wt hh
  rw [e, if_neg (by omega), if_neg (by omega)]
theorem q_bc {N : Nat} {C C' : Int → Int → Int} (hC : CS N C) (hC' : CS N C') {k : Int} (hk : k = 1 ∨ k = 2) : sm (N + 1) (fun i => sm (N + 1) (fun j => if wt C C' i j = k then 1 else 0)) = bc N k C C' := by
  have h1 := hC.n1
  obtain ⟨M, rfl⟩ : ∃ M : Nat, N = M + 1 := ⟨N - 1, by omega⟩
  have z : ∀ i j : Int, C i j = C' i j → (if wt C C' i j = k then (1 : Int) else 0) = 0 := fun i j e => if_neg (by rw [wt0 e]; omega)
  unfold bc
  rw [show M + 1 - 1 = M by omega, show M + 1 + 1 = M + 2 by omega]
  refine (sm_inner _ M (sm_zero (fun j a b => z _ _ ?_)) (sm_zero (fun j a b => z _ _ ?_))).trans ?_
  · rw [hC.top a (by omega), hC'.top a (by omega)]
  · have x := hC.bot a (by omega); have y := hC'.bot a (by omega); push_cast at x y; rw [x, y]
  · refine sm_congr (fun i h2 h3 => ?_)
    refine (sm_inner (fun j => if wt C C' (i + 1) j = k then 1 else 0) M (z (i + 1) 0 ?_) (z (i + 1) ((M : Int) + 1) ?_)).trans ?_
    · rw [hC.left (by omega) (by omega), hC'.left (by omega) (by omega)]
    · have x := hC.right (i := i + 1) (by omega) (by omega); have y := hC'.right (i := i + 1) (by omega) (by omega); push_cast at x y; rw [x, y]
    · refine sm_congr (fun j h4 h5 => ?_)
      rw [Int.add_comm i 1, Int.add_comm j 1]
theorem x6_both {N : Nat} {C C' : Int → Int → Int} {sn on tl bf bf' : Nat → Int32} {um um' : Int32} (hC : CS N C) (h : TM N C sn) (hC' : CS N C') (h' : TM N C' on) (hN : S_X6_note (ii N) um sn bf = some (um', bf')) {p : Int32} {k : Int} (hp : (p = 0 ∧ k = 2) ∨ (p = 1 ∧ k = 1)) : ∃ sn' tl', S_X6_both p (ii N) (ii N) um sn on bf tl = some (ii (bc N k C C'), um', sn', bf', tl') ∧ TM N (bb k C C') sn' := by
  have hn := hC.n6
  have h1 := hC.n1
  have hk : k = 1 ∨ k = 2 := by rcases hp with ⟨-, h⟩ | ⟨-, h⟩ <;> omega
  have hB := hC.bb hC' hk
  rw [← q_bc hC hC' hk]
  have hin : S_X6_in p.toInt64 (0 : Int64) (1 : Int64) = some 1 := by
    rw [l64_0, l64_1, x6_in]
    rcases hp with ⟨rfl, -⟩ | ⟨rfl, -⟩ <;> rfl
  unfold S_X6_both
  rw [hin, Option.bind_some, if_neg n10, if_pos rfl]
  suffices g : ∃ r : Int32 × Int32 × (Nat → Int32) × (Nat → Int32) × (Nat → Int32), _ = some r ∧ ∃ sn' tl', r = (ii (sm (N + 1) (fun i => sm (N + 1) (fun j => if wt C C' i j = k then 1 else 0))), um', sn', bf', tl') ∧ TM N (bb k C C') sn' by
    obtain ⟨r, g1, sn', tl', rfl, g2⟩ := g
    exact ⟨sn', tl', g1, g2⟩
  refine itr_ex (fun (q : Nat) (s : Int32 × Int32 × (Nat → Int32)) => s.1 = ii (sm q (fun i => sm (N + 1) (fun j => if wt C C' i j = k then 1 else 0))) ∧ s.2.1 = ii q ∧ ∀ a b : Int, 0 ≤ a → a < q → 0 ≤ b → b ≤ N → s.2.2 (7 * a + b).toNat = ii (bb k C C' a b)) _ (N + 1) ⟨rfl, rfl, fun a b a1 a2 => absurd a2 (by omega)⟩ (by omega) ?_ ?_
  · rintro i ⟨s1, s2, s3⟩ hi ⟨q1, q2, q3⟩
    dsimp only at q1 q2 q3 ⊢
    subst q1; subst q2
    left
    simp (disch := omega) only [ii_lt, if_neg]
    suffices g : ∃ o : (Int32 × Int32 × (Nat → Int32)) ⊕ (Int32 × Int32 × (Nat → Int32) × (Nat → Int32) × (Nat → Int32)), _ = some o ∧ ∃ s', o = .inl s' ∧ (s'.1 = ii (sm (i + 1) (fun i => sm (N + 1) (fun j => if wt C C' i j = k then 1 else 0))) ∧ s'.2.1 = ii ((i + 1 : Nat) : Int) ∧ ∀ a b : Int, 0 ≤ a → a < ((i + 1 : Nat) : Int) → 0 ≤ b → b ≤ N → s'.2.2 (7 * a + b).toNat = ii (bb k C C' a b)) by
      obtain ⟨o, g1, s', rfl, g2⟩ := g
      exact ⟨s', g1, g2⟩
    refine itr_ex (fun (q : Nat) (s : Int32 × Int32 × (Nat → Int32)) => s.1 = ii (sm i (fun i => sm (N + 1) (fun j => if wt C C' i j = k then 1 else 0)) + sm q (fun j => if wt C C' i j = k then 1 else 0)) ∧ s.2.1 = ii q ∧ (∀ a b : Int, 0 ≤ a → a < i → 0 ≤ b → b ≤ N → s.2.2 (7 * a + b).toNat = ii (bb k C C' a b)) ∧ ∀ b : Int, 0 ≤ b → b < q → s.2.2 (7 * i + b).toNat = ii (bb k C C' i b)) _ (N + 1) ⟨?_, rfl, q3, fun b b1 b2 => absurd b2 (by omega)⟩ (by omega) ?_ ?_
    · rw [sm, Int.add_zero]
    · rintro j ⟨t1, t2, t3⟩ hj ⟨r1, r2, r3, r4⟩
      dsimp only at r1 r2 r3 r4 ⊢
      subst r1; subst r2
      left
      have e1 := hC.hhb (i := i) (j := j) (by omega) (by omega) (by omega) (by omega)
      have e2 := hC'.hhb (i := i) (j := j) (by omega) (by omega) (by omega) (by omega)
      have b1 := hC.bd (i := i) (j := j) (by omega) (by omega) (by omega) (by omega)
      have b2 := hC'.bd (i := i) (j := j) (by omega) (by omega) (by omega) (by omega)
      have wi := wt_iff C C' i j
      have jt : ∀ {ρ : Type} (K : Int32 → Option ρ), jn (if p = 0 then if ii (hh C i j) ≤ ii (hh C' i j) then some (.inl 0) else some (.inl 1) else if ii (hh C' i j) ≤ ii (hh C i j) then some (.inl 0) else some (.inl 1)) K = K (if wt C C' i j = k then 1 else 0) := by
        intro ρ K
        simp (disch := omega) only [ii_le]
        rcases hp with ⟨rfl, rfl⟩ | ⟨rfl, rfl⟩
        · rw [if_pos rfl]
          by_cases c : wt C C' i j = 2
          · rw [if_pos c, if_neg (by unfold hh; omega), jn_l]
          · rw [if_neg c, if_pos (by unfold hh; omega), jn_l]
        · rw [if_neg n10]
          by_cases c : wt C C' i j = 1
          · rw [if_pos c, if_neg (by unfold hh; omega), jn_l]
          · rw [if_neg c, if_pos (by unfold hh; omega), jn_l]
      simp (disch := omega) only [ii_lt, if_neg]
      rw [x6_heightOf hC h (by omega) (by omega) (by omega) (by omega), Option.bind_some, x6_heightOf hC' h' (by omega) (by omega) (by omega) (by omega), Option.bind_some, jt]
      have step : ∀ v : Int, v = bb k C C' i j → (∀ a b : Int, 0 ≤ a → a < i → 0 ≤ b → b ≤ N → upd t3 (7 * (i : Int) + j).toNat (ii v) (7 * a + b).toNat = ii (bb k C C' a b)) ∧ ∀ b : Int, 0 ≤ b → b < ((j + 1 : Nat) : Int) → upd t3 (7 * (i : Int) + j).toNat (ii v) (7 * i + b).toNat = ii (bb k C C' i b) := by
        intro v hv
        refine ⟨fun a b x1 x2 x3 x4 => ?_, fun b x3 x4 => ?_⟩
        · rw [pk_un (by omega)]; exact r3 a b x1 x2 x3 x4
        · by_cases z : b = j
          · subst z; rw [pk_us, hv]
          · rw [pk_un (by omega)]; exact r4 b x3 (by omega)
      by_cases c : wt C C' i j = k
      · have st := step (C' i j) (by unfold bb; rw [if_pos c])
        rw [if_pos c, if_neg n10, jn_l, if_neg n10]
        simp (disch := omega) only [ii_7, ii_mul, ii_add, ck_in, ii_clamp, ii_sub, Option.bind_some, ii_1]
        have dv : ii ((i : Int) + j - hh C' i j) / 2 = ii (C' i j) := by
          rw [ii_2, ii_div (by unfold hh; omega) (by unfold hh; omega) (by omega) (by omega)]
          unfold hh
          congr 1; omega
        rw [dv]
        refine ⟨_, rfl, ?_, ?_, st.1, st.2⟩
        · dsimp only; rw [sm, if_pos c]; first | (congr 1; done) | (congr 1; omega)
        · dsimp only; first | (congr 1; done) | (congr 1; omega)
      · have st := step (C i j) (by unfold bb; rw [if_neg c])
        rw [if_neg c, if_pos rfl, jn_l, if_pos rfl]
        simp (disch := omega) only [ii_7, ii_mul, ii_add, ck_in, ii_clamp, ii_sub, Option.bind_some, ii_1, ii_0]
        have dv : ii ((i : Int) + j - hh C i j) / 2 = ii (C i j) := by
          rw [ii_2, ii_div (by unfold hh; omega) (by unfold hh; omega) (by omega) (by omega)]
          unfold hh
          congr 1; omega
        rw [dv]
        refine ⟨_, rfl, ?_, ?_, st.1, st.2⟩
        · dsimp only; rw [sm, if_neg c]; first | (congr 1; done) | (congr 1; omega)
        · dsimp only; first | (congr 1; done) | (congr 1; omega)
    · rintro ⟨t1, t2, t3⟩ ⟨r1, r2, r3, r4⟩
      dsimp only at r1 r2 r3 r4 ⊢
      subst r1; subst r2
      simp (disch := omega) only [ii_lt, if_pos, ii_a1]
      refine ⟨_, rfl, _, rfl, rfl, ?_, fun a b a1 a2 b1 b2 => ?_⟩
      · dsimp only; first | (congr 1; done) | (congr 1; omega)
      · dsimp only
        by_cases z : a = i
        · subst z; exact r4 b b1 (by omega)
        · exact r3 a b a1 (by omega) b1 b2
  · rintro ⟨s1, s2, s3⟩ ⟨q1, q2, q3⟩
    dsimp only at q1 q2 q3 ⊢
    subst q1; subst q2
    simp (disch := omega) only [ii_lt, if_pos]
    rw [hN, Option.bind_some]
    dsimp only
    suffices g : ∃ o : (Int32 × Int32 × (Nat → Int32)) ⊕ (Int32 × Int32 × (Nat → Int32) × (Nat → Int32) × (Nat → Int32)), _ = some o ∧ ∃ r, o = .inr r ∧ ∃ sn' tl', r = (ii (sm (N + 1) (fun i => sm (N + 1) (fun j => if wt C C' i j = k then 1 else 0))), um', sn', bf', tl') ∧ TM N (bb k C C') sn' by
      obtain ⟨o, g1, r, rfl, g2⟩ := g
      exact ⟨r, g1, g2⟩
    refine itr_ex (fun (q : Nat) (s : Int32 × (Nat → Int32)) => s.1 = ii q ∧ ∀ r c : Int, 0 ≤ r → r < q → 0 ≤ c → c < N → s.2 (6 * r + c).toNat = ii (sg (bb k C C') r c)) _ N ⟨rfl, fun a b a1 a2 => absurd a2 (by omega)⟩ (by omega) ?_ ?_
    · rintro r ⟨u1, u2⟩ hr ⟨p1, p2⟩
      dsimp only at p1 p2 ⊢
      subst p1
      left
      simp (disch := omega) only [ii_le, if_neg]
      suffices g : ∃ o : (Int32 × (Nat → Int32)) ⊕ ((Int32 × Int32 × (Nat → Int32)) ⊕ (Int32 × Int32 × (Nat → Int32) × (Nat → Int32) × (Nat → Int32))), _ = some o ∧ ∃ s', o = .inl s' ∧ (s'.1 = ii ((r + 1 : Nat) : Int) ∧ ∀ x c : Int, 0 ≤ x → x < ((r + 1 : Nat) : Int) → 0 ≤ c → c < N → s'.2 (6 * x + c).toNat = ii (sg (bb k C C') x c)) by
        obtain ⟨o, g1, s', rfl, g2⟩ := g
        exact ⟨s', g1, g2⟩
      refine itr_ex (fun (q : Nat) (s : Int32 × (Nat → Int32)) => s.1 = ii q ∧ (∀ x c : Int, 0 ≤ x → x < r → 0 ≤ c → c < N → s.2 (6 * x + c).toNat = ii (sg (bb k C C') x c)) ∧ ∀ c : Int, 0 ≤ c → c < q → s.2 (6 * r + c).toNat = ii (sg (bb k C C') r c)) _ N ⟨rfl, p2, fun b b1 b2 => absurd b2 (by omega)⟩ (by omega) ?_ ?_
      · rintro c ⟨v1, v2⟩ hc ⟨w1, w2, w3⟩
        dsimp only at w1 w2 w3 ⊢
        subst w1
        left
        simp (disch := omega) only [ii_le, if_neg, ii_7, ii_8, ii_6, ii_1, ii_mul, ii_add, ck_in, ii_clamp, Option.bind_some]
        rw [show 7 * (r : Int) + 8 + c = 7 * (r + 1) + (c + 1) by omega, show 7 * (r : Int) + 7 + c = 7 * (r + 1) + c by omega, show 7 * (r : Int) + 1 + c = 7 * r + (c + 1) by omega]
        rw [q3 _ _ (by omega) (by omega) (by omega) (by omega), q3 _ _ (by omega) (by omega) (by omega) (by omega), q3 _ _ (by omega) (by omega) (by omega) (by omega), q3 _ _ (by omega) (by omega) (by omega) (by omega), ii_sub, ii_sub, ii_add]
        have ev : bb k C C' (r + 1) (c + 1) - bb k C C' (r + 1) c - bb k C C' r (c + 1) + bb k C C' r c = sg (bb k C C') r c := by unfold sg; omega
        rw [ev]
        refine ⟨_, rfl, ?_, fun x y x1 x2 x3 x4 => ?_, fun y x3 x4 => ?_⟩
        · dsimp only; first | (congr 1; done) | (congr 1; omega)
        · dsimp only; rw [pk_un (by omega)]; exact w2 x y x1 x2 x3 x4
        · dsimp only
          by_cases z : y = c
          · subst z; rw [pk_us]
          · rw [pk_un (by omega)]; exact w3 y x3 (by omega)
      · rintro ⟨v1, v2⟩ ⟨w1, w2, w3⟩
        dsimp only at w1 w2 w3 ⊢
        subst w1
        simp (disch := omega) only [ii_le, if_pos, ii_a1]
        refine ⟨_, rfl, _, rfl, ?_, fun x y x1 x2 x3 x4 => ?_⟩
        · dsimp only; first | (congr 1; done) | (congr 1; omega)
        · dsimp only
          by_cases z : x = r
          · subst z; exact w3 y x3 x4
          · exact w2 x y x1 (by omega) x3 x4
    · rintro ⟨u1, u2⟩ ⟨p1, p2⟩
      dsimp only at p1 p2 ⊢
      subst p1
      simp (disch := omega) only [ii_le, if_pos]
      exact ⟨_, rfl, _, rfl, _, _, rfl, p2⟩
theorem p_both {tS free held um oS : Int32} {tC tn pS bf oC on tl : Nat → Int32} {pC : Nat → Nat → Int32} (hR : RT tS tC tn) (hP : RP free held pS pC um bf) (hO : RO oS oC on) (p1 : Int32) :
    ∃ (r fr' hd' eS' um' : Int32) (tC' eC' tn' bf' tl' : Nat → Int32), S_X5_both p1 tS tC oS oC free held (pS free.toNatClampNeg) (pC free.toNatClampNeg) = some (r, tC', fr', hd', eS', eC') ∧ S_X6_both p1 tS oS um tn on bf tl = some (r, um', tn', bf', tl') ∧ RT tS tC' tn' ∧ RP fr' hd' (upd pS free.toNatClampNeg eS') (fun k => if k = free.toNatClampNeg then eC' else pC k) um' bf' := by
  have hR0 := hR
  obtain ⟨N, C, rfl, hC, hT, hZ, hM⟩ := hR
  have hn := hC.n6
  have h1 := hC.n1
  rcases bt_z0 p1 (b := 1) (by omega) (by omega) with h | ⟨h, z, rfl, a1, a2⟩
  · unfold S_X5_both S_X6_both
    rw [x5_isBetween, l64_0, l64_1, x6_in, Option.bind_some, Option.bind_some, show bt p1 0 1 = 0 from h, if_pos rfl, if_pos rfl]
    exact ⟨_, _, _, _, _, _, _, _, _, _, rfl, rfl, hR0, hP.keep _⟩
  · by_cases e : oS = ii N
    · obtain ⟨C', hC', hT', hM'⟩ := hO.same h1 hn e
      subst e
      obtain ⟨fr', hd', um', bf', c', n1, n2, n3⟩ := p_note hC hT hZ hM hP
      have zc : (ii z = 0 ∧ (2 : Int) = 2 ∧ z = 0) ∨ (ii z = 1 ∧ (1 : Int) = 1 ∧ z = 1) := by
        by_cases y : z = 0
        · subst y; exact Or.inl ⟨rfl, rfl, rfl⟩
        · have : z = 1 := by omega
          subst this; exact Or.inr ⟨rfl, rfl, rfl⟩
      rcases zc with ⟨z1, -, -⟩ | ⟨z1, -, -⟩
      · obtain ⟨sn', tl', u1, u2⟩ := x6_both (tl := tl) hC hM hC' hM' n2 (p := ii z) (k := 2) (Or.inl ⟨z1, rfl⟩)
        obtain ⟨cs', v1, v2, v3⟩ := x3_takeHeights hC hT hZ hC' hT' (k := 2) (Or.inr rfl)
        unfold S_X5_both S_X5_hasLikeOther
        rw [x5_isBetween, Option.bind_some, show bt (ii z) 0 1 = 1 from h, if_neg n10, if_pos rfl, Option.bind_some, if_neg n10, n1, Option.bind_some, if_pos z1, jn_l]
        have v1' : S_X3_takeHeights (2 : Int32) (ii N) tC oC = _ := v1
        rw [v1', Option.bind_some]
        exact ⟨_, _, _, _, _, _, _, _, _, _, rfl, u1, ⟨N, _, rfl, hC.bb hC' (Or.inr rfl), v2, v3, u2⟩, n3⟩
      · obtain ⟨sn', tl', u1, u2⟩ := x6_both (tl := tl) hC hM hC' hM' n2 (p := ii z) (k := 1) (Or.inr ⟨z1, rfl⟩)
        obtain ⟨cs', v1, v2, v3⟩ := x3_takeHeights hC hT hZ hC' hT' (k := 1) (Or.inl rfl)
        unfold S_X5_both S_X5_hasLikeOther
        rw [x5_isBetween, Option.bind_some, show bt (ii z) 0 1 = 1 from h, if_neg n10, if_pos rfl, Option.bind_some, if_neg n10, n1, Option.bind_some, if_neg (by rw [z1]; exact n10), jn_l]
        have v1' : S_X3_takeHeights (1 : Int32) (ii N) tC oC = _ := v1
        rw [v1', Option.bind_some]
        exact ⟨_, _, _, _, _, _, _, _, _, _, rfl, u1, ⟨N, _, rfl, hC.bb hC' (Or.inl rfl), v2, v3, u2⟩, n3⟩
    · unfold S_X5_both S_X6_both S_X5_hasLikeOther
      rw [x5_isBetween, l64_0, l64_1, x6_in, Option.bind_some, Option.bind_some, show bt (ii z) 0 1 = 1 from h, if_neg n10, if_neg n10, if_neg e, if_neg e, Option.bind_some, if_pos rfl]
      exact ⟨_, _, _, _, _, _, _, _, _, _, rfl, rfl, hR0, hP.keep _⟩
