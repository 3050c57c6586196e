/-! the set of the columns whose sum is 1 behind r rows -/
def SET (n : Nat) (C : Int → Int → Int) (r : Int) (t : Nat) : Prop := t < 2 ^ n ∧ ∀ c : Nat, c < n → (bv t c : Int) = ks C r (c + 1)
def hz (t : Nat) : Nat → Nat
  | 0 => 0
  | c + 1 => 2 * hz t c + bv t c
theorem hz_rv0 : ∀ n : Fin 6, ∀ t : Fin 64, (t : Nat) < 2 ^ ((n : Nat) + 1) → hz t ((n : Nat) + 1) = rv ((n : Nat) + 1) t := by decide +kernel
theorem hz_lt0 : ∀ t : Fin 64, ∀ c : Fin 7, hz t c < 64 := by decide +kernel
theorem bits0 : ∀ b0 b1 b2 b3 b4 b5 : Fin 2, bv (b0 + 2 * b1 + 4 * b2 + 8 * b3 + 16 * b4 + 32 * b5 : Nat) 0 = b0 ∧ bv (b0 + 2 * b1 + 4 * b2 + 8 * b3 + 16 * b4 + 32 * b5 : Nat) 1 = b1 ∧ bv (b0 + 2 * b1 + 4 * b2 + 8 * b3 + 16 * b4 + 32 * b5 : Nat) 2 = b2 ∧ bv (b0 + 2 * b1 + 4 * b2 + 8 * b3 + 16 * b4 + 32 * b5 : Nat) 3 = b3 ∧ bv (b0 + 2 * b1 + 4 * b2 + 8 * b3 + 16 * b4 + 32 * b5 : Nat) 4 = b4 ∧ bv (b0 + 2 * b1 + 4 * b2 + 8 * b3 + 16 * b4 + 32 * b5 : Nat) 5 = b5 := by decide +kernel
theorem bits1 : ∀ t : Fin 64, (t : Nat) = bv t 0 + 2 * bv t 1 + 4 * bv t 2 + 8 * bv t 3 + 16 * bv t 4 + 32 * bv t 5 := by decide +kernel
theorem bits2 : ∀ n : Fin 7, ∀ t : Fin 64, ((t : Nat) < 2 ^ (n : Nat) ↔ ∀ c : Fin 6, (n : Nat) ≤ c → bv t c = 0) := by decide +kernel
theorem SET.uniq {n : Nat} {C : Int → Int → Int} {r : Int} {t u : Nat} (h6 : n ≤ 6) (h : SET n C r t) (h' : SET n C r u) : t = u := by
  have hp := p64 h6
  have t64 : t < 64 := by have := h.1; omega
  have u64 : u < 64 := by have := h'.1; omega
  have a := bits1 ⟨t, t64⟩
  have b := bits1 ⟨u, u64⟩
  dsimp only at a b
  have e : ∀ c : Nat, c < 6 → bv t c = bv u c := by
    intro c hc
    by_cases d : c < n
    · have x := h.2 c d; have y := h'.2 c d; omega
    · have x := (bits2 ⟨n, by omega⟩ ⟨t, t64⟩).mp h.1 ⟨c, hc⟩ (by dsimp only; omega)
      have y := (bits2 ⟨n, by omega⟩ ⟨u, u64⟩).mp h'.1 ⟨c, hc⟩ (by dsimp only; omega)
      dsimp only at x y
      rw [x, y]
  rw [e 0 (by omega), e 1 (by omega), e 2 (by omega), e 3 (by omega), e 4 (by omega), e 5 (by omega)] at a
  exact a.trans b.symm
theorem SET.ex {n : Nat} {C : Int → Int → Int} (hC : CS n C) {r : Int} (h1 : 0 ≤ r) (h2 : r ≤ n) : ∃ t, SET n C r t := by
  have h6 := hC.n6
  have g : ∀ c : Nat, ∃ b : Fin 2, c < n → ((b : Nat) : Int) = ks C r (c + 1) := by
    intro c
    by_cases d : c < n
    · have x := hC.ksb (i := r) (j := c + 1) h1 h2 (by omega) (by omega)
      refine ⟨⟨(ks C r (c + 1)).toNat, by omega⟩, fun _ => ?_⟩
      dsimp only; omega
    · exact ⟨0, fun q => absurd q d⟩
  have g2 : ∀ c : Nat, ∃ b : Fin 2, (c < n → ((b : Nat) : Int) = ks C r (c + 1)) ∧ (¬ c < n → b = 0) := by
    intro c
    obtain ⟨b, hb⟩ := g c
    by_cases d : c < n
    · exact ⟨b, fun _ => hb d, fun q => absurd d q⟩
    · exact ⟨0, fun q => absurd q d, fun _ => rfl⟩
  obtain ⟨b0, a0, z0⟩ := g2 0
  obtain ⟨b1, a1, z1⟩ := g2 1
  obtain ⟨b2, a2, z2⟩ := g2 2
  obtain ⟨b3, a3, z3⟩ := g2 3
  obtain ⟨b4, a4, z4⟩ := g2 4
  obtain ⟨b5, a5, z5⟩ := g2 5
  obtain ⟨e0, e1, e2, e3, e4, e5⟩ := bits0 b0 b1 b2 b3 b4 b5
  have l0 := b0.isLt
  have l1 := b1.isLt
  have l2 := b2.isLt
  have l3 := b3.isLt
  have l4 := b4.isLt
  have l5 := b5.isLt
  have lt : (b0 + 2 * b1 + 4 * b2 + 8 * b3 + 16 * b4 + 32 * b5 : Nat) < 64 := by omega
  refine ⟨(b0 + 2 * b1 + 4 * b2 + 8 * b3 + 16 * b4 + 32 * b5 : Nat), (bits2 ⟨n, by omega⟩ ⟨_, lt⟩).mpr (fun c hc => ?_), fun c hc => ?_⟩
  · dsimp only at hc ⊢
    have := c.isLt
    rcases (by omega : (c : Nat) = 0 ∨ (c : Nat) = 1 ∨ (c : Nat) = 2 ∨ (c : Nat) = 3 ∨ (c : Nat) = 4 ∨ (c : Nat) = 5) with d | d | d | d | d | d
    · rw [d, e0, z0 (by omega)]; rfl
    · rw [d, e1, z1 (by omega)]; rfl
    · rw [d, e2, z2 (by omega)]; rfl
    · rw [d, e3, z3 (by omega)]; rfl
    · rw [d, e4, z4 (by omega)]; rfl
    · rw [d, e5, z5 (by omega)]; rfl
  · rcases (by omega : c = 0 ∨ c = 1 ∨ c = 2 ∨ c = 3 ∨ c = 4 ∨ c = 5) with rfl | rfl | rfl | rfl | rfl | rfl
    · rw [e0]; exact a0 hc
    · rw [e1]; exact a1 hc
    · rw [e2]; exact a2 hc
    · rw [e3]; exact a3 hc
    · rw [e4]; exact a4 hc
    · rw [e5]; exact a5 hc
theorem SET.zero {n : Nat} {C : Int → Int → Int} (hC : CS n C) : SET n C 0 0 := by
  refine ⟨p1 n, fun c hc => ?_⟩
  unfold ks
  rw [hC.top (by omega) (by omega), hC.top (by omega) (by omega)]
  unfold bv
  simp
theorem SET.pcr {n : Nat} {C : Int → Int → Int} (hC : CS n C) {r : Nat} {t : Nat} (hr : r ≤ n) (h : SET n C r t) : pc t = r := by
  have h6 := hC.n6
  have h1 := hC.n1
  have hp := p64 (n := n) (by omega)
  have t64 : t < 64 := by have := h.1; omega
  have z : ∀ c : Nat, c < 6 → n ≤ c → bv t c = 0 := fun c hc hn => (bits2 ⟨n, by omega⟩ ⟨t, t64⟩).mp h.1 ⟨c, hc⟩ hn
  have L := hC.left (i := r) (by omega) (by omega)
  have R := hC.right (i := r) (by omega) (by omega)
  have v := h.2
  unfold pc
  unfold ks at v
  rcases (by omega : n = 1 ∨ n = 2 ∨ n = 3 ∨ n = 4 ∨ n = 5 ∨ n = 6) with rfl | rfl | rfl | rfl | rfl | rfl
  · have v0 := v 0 (by omega)
    have z1 := z 1 (by omega) (by omega); have z2 := z 2 (by omega) (by omega); have z3 := z 3 (by omega) (by omega); have z4 := z 4 (by omega) (by omega); have z5 := z 5 (by omega) (by omega)
    simp at v0 R; omega
  · have v0 := v 0 (by omega); have v1 := v 1 (by omega)
    have z2 := z 2 (by omega) (by omega); have z3 := z 3 (by omega) (by omega); have z4 := z 4 (by omega) (by omega); have z5 := z 5 (by omega) (by omega)
    simp at v0 v1 R; omega
  · have v0 := v 0 (by omega); have v1 := v 1 (by omega); have v2 := v 2 (by omega)
    have z3 := z 3 (by omega) (by omega); have z4 := z 4 (by omega) (by omega); have z5 := z 5 (by omega) (by omega)
    simp at v0 v1 v2 R; omega
  · have v0 := v 0 (by omega); have v1 := v 1 (by omega); have v2 := v 2 (by omega); have v3 := v 3 (by omega)
    have z4 := z 4 (by omega) (by omega); have z5 := z 5 (by omega) (by omega)
    simp at v0 v1 v2 v3 R; omega
  · have v0 := v 0 (by omega); have v1 := v 1 (by omega); have v2 := v 2 (by omega); have v3 := v 3 (by omega); have v4 := v 4 (by omega)
    have z5 := z 5 (by omega) (by omega)
    simp at v0 v1 v2 v3 v4 R; omega
  · have v0 := v 0 (by omega); have v1 := v 1 (by omega); have v2 := v 2 (by omega); have v3 := v 3 (by omega); have v4 := v 4 (by omega); have v5 := v 5 (by omega)
    simp at v0 v1 v2 v3 v4 v5 R; omega
theorem x3_fullColumns {n : Nat} {C : Int → Int → Int} {cs : Nat → Int32} (hC : CS n C) (h : TC n C cs) {r t : Nat} (hr : r ≤ n) (ht : SET n C r t) : S_X3_fullColumns (ii r) (ii n) cs = some (ii (rv n t)) := by
  have h6 := hC.n6
  have h1 := hC.n1
  have hp := p64 (n := n) (by omega)
  have t64 : t < 64 := by have := ht.1; omega
  have e := hz_rv0 ⟨n - 1, by omega⟩ ⟨t, t64⟩ (by dsimp only; rw [show n - 1 + 1 = n by omega]; exact ht.1)
  dsimp only at e
  rw [show n - 1 + 1 = n by omega] at e
  rw [← e]
  unfold S_X3_fullColumns
  refine itr_up (fun k => (ii ((hz t k : Nat) : Int), ii (1 + (k : Int)))) n rfl (by omega) ?_ ?_
  · intro k hk
    have l := hz_lt0 ⟨t, t64⟩ ⟨k, by omega⟩
    dsimp only at l ⊢
    have b := ht.2 k hk
    rw [if_neg (by rw [ii_lt (by omega) (by omega) (by omega) (by omega)]; omega), x3_columnSum (by omega) h (by omega) (by omega) (by omega) (by omega), Option.bind_some, ii_2, ii_mul, ii_add, ii_a1]
    refine ii2 ?_ (by omega)
    rw [show hz t (k + 1) = 2 * hz t k + bv t k from rfl, show (1 + (k : Int)) = k + 1 by omega, ← b]
    omega
  · dsimp only
    rw [if_pos (by rw [ii_lt (by omega) (by omega) (by omega) (by omega)]; omega)]
/-! an object of the class that knows all tables of a size -/
def RZ (n : Nat) (zS zM zK : Int32) (zE : Nat → Int32) : Prop := zS = ii n ∧ zM = ii ((2 ^ n : Nat) : Int) ∧ (zK = 0 ∨ (zK = 1 ∧ ∀ m, m < 2 ^ n → zE m = ii (EE n m)))
theorem RZ.count {n : Nat} {zS zM zK : Int32} {zE : Nat → Int32} (h1 : 1 ≤ n) (h6 : n ≤ 6) (h : RZ n zS zM zK zE) : ∃ zE', S_X0_countEndings zS zM zK zE = some (1, zE') ∧ (∀ m, m < 2 ^ n → zE' m = ii (EE n m)) ∧ RZ n zS zM 1 zE' := by
  obtain ⟨rfl, rfl, h⟩ := h
  rcases h with rfl | ⟨rfl, h⟩
  · obtain ⟨e', a, b⟩ := x0_countEndings (en := zE) h1 h6
    exact ⟨e', a, b, rfl, rfl, Or.inr ⟨rfl, b⟩⟩
  · refine ⟨zE, ?_, h, rfl, rfl, Or.inr ⟨rfl, h⟩⟩
    unfold S_X0_countEndings
    rw [if_neg n10]
theorem x6_rankrow {n : Nat} {C : Int → Int → Int} {sn : Nat → Int32} (hC : CS n C) (h : TM n C sn) {r s t : Nat} (hr : r < n) (hs : SET n C r s) (ht : SET n C (r + 1) t) {ρ : Type} (K : Int32 → Option ((Int32 × Int32) ⊕ ρ)) {v : ρ} (hK : K (ii t) = some (.inr v)) : itr (fun (x2 : Int32 × Int32) => if ii n ≤ x2.2 then K x2.1 else ck (inb (((6 : Int32) * ii r) + x2.2) 36) (if (sn (((6 : Int32) * ii r) + x2.2).toNatClampNeg) = (1 : Int32) then some (.inl (x2.1 ||| ((1 : Int32) <<< (x2.2 &&& 31)), x2.2 + (1 : Int32))) else if (sn (((6 : Int32) * ii r) + x2.2).toNatClampNeg) = (-1 : Int32) then some (.inl (x2.1 &&& (((1 : Int32) <<< (x2.2 &&& 31)) ^^^ (-1 : Int32)), x2.2 + (1 : Int32))) else some (.inl (x2.1, x2.2 + (1 : Int32))))) 10000 (ii s, (0 : Int32)) = some v := by
  have h6 := hC.n6
  have h1 := hC.n1
  have hp := p64 (n := n) (by omega)
  have s64 : s < 64 := by have := hs.1; omega
  have t64 : t < 64 := by have := ht.1; omega
  refine itr_rel (fun (k : Nat) (x : Int32 × Int32) => x.2 = ii (k : Int) ∧ ∃ m : Nat, m < 64 ∧ x.1 = ii (m : Int) ∧ (∀ c : Nat, c < 6 → c < k → bv m c = bv t c) ∧ ∀ c : Nat, c < 6 → k ≤ c → bv m c = bv s c) n ⟨rfl, s, s64, rfl, fun c _ hc => absurd hc (by omega), fun _ _ _ => rfl⟩ (by omega) ?_ ?_
  · rintro k ⟨x1, x2⟩ hk ⟨q1, m, m1, q2, q3, q4⟩
    dsimp only at q1 q2 ⊢
    subst q1; subst q2
    have e := hC.sgb (r := r) (c := k) (by omega) (by omega) (by omega) (by omega)
    have bs := hs.2 k hk
    have bt := ht.2 k hk
    have es : ks C (r + 1) (k + 1) = ks C r (k + 1) + sg C r k := by
      unfold ks sg
      rw [show (k : Int) + 1 - 1 = k by omega]; omega
    have b1 := bv_lt s k
    have b2 := bv_lt t k
    have bm := q4 k (by omega) (by omega)
    simp (disch := omega) only [ii_le, if_neg, ii_6, ii_mul, ii_add, ck_in, ii_clamp]
    rw [h r k (by omega) (by omega) (by omega) (by omega), ii_a1, ii_m1]
    simp (disch := omega) only [ii_eq1, ii_eq]
    have e1 : ii ((k : Int) + 1) = ii ((k + 1 : Nat) : Int) := congrArg ii (by omega)
    by_cases c1 : sg C r k = 1
    · rw [if_pos c1]
      obtain ⟨u1, u2, u3, u4⟩ := bv_or ⟨m, m1⟩ ⟨k, by omega⟩
      dsimp only at u1 u2 u3 u4
      rw [u1]
      refine ⟨_, rfl, e1, _, u2, rfl, fun c hc hck => ?_, fun c hc hck => ?_⟩
      · by_cases d : c = k
        · subst d; omega
        · rw [u4 ⟨c, hc⟩ (fun z => d (congrArg Fin.val z))]; exact q3 c hc (by omega)
      · rw [u4 ⟨c, hc⟩ (fun z => by have := congrArg Fin.val z; dsimp only at this; omega)]; exact q4 c hc (by omega)
    · rw [if_neg c1]
      by_cases c2 : sg C r k = -1
      · rw [if_pos c2]
        obtain ⟨u1, u2, u3, u4⟩ := bv_and ⟨m, m1⟩ ⟨k, by omega⟩
        dsimp only at u1 u2 u3 u4
        rw [show ii (-1) = (-1 : Int32) from rfl, u1]
        refine ⟨_, rfl, e1, _, u2, rfl, fun c hc hck => ?_, fun c hc hck => ?_⟩
        · by_cases d : c = k
          · subst d; omega
          · rw [u4 ⟨c, hc⟩ (fun z => d (congrArg Fin.val z))]; exact q3 c hc (by omega)
        · rw [u4 ⟨c, hc⟩ (fun z => by have := congrArg Fin.val z; dsimp only at this; omega)]; exact q4 c hc (by omega)
      · rw [if_neg c2]
        refine ⟨_, rfl, e1, m, m1, rfl, fun c hc hck => ?_, fun c hc hck => q4 c hc (by omega)⟩
        by_cases d : c = k
        · subst d; omega
        · exact q3 c hc (by omega)
  · rintro ⟨x1, x2⟩ ⟨q1, m, m1, q2, q3, q4⟩
    dsimp only at q1 q2 ⊢
    subst q1; subst q2
    have em : m = t := by
      have a := bits1 ⟨m, m1⟩
      have b := bits1 ⟨t, t64⟩
      dsimp only at a b
      have g : ∀ c : Nat, c < 6 → bv m c = bv t c := by
        intro c hc
        by_cases d : c < n
        · exact q3 c hc d
        · have x := (bits2 ⟨n, by omega⟩ ⟨s, s64⟩).mp hs.1 ⟨c, hc⟩ (by dsimp only; omega)
          have y := (bits2 ⟨n, by omega⟩ ⟨t, t64⟩).mp ht.1 ⟨c, hc⟩ (by dsimp only; omega)
          dsimp only at x y
          rw [q4 c hc (by omega), x, y]
      rw [g 0 (by omega), g 1 (by omega), g 2 (by omega), g 3 (by omega), g 4 (by omega), g 5 (by omega)] at a
      exact a.trans b.symm
    subst em
    rw [if_pos (by rw [ii_le (by omega) (by omega) (by omega) (by omega)]; omega)]
    exact hK
theorem SET.all {n : Nat} {C : Int → Int → Int} (hC : CS n C) : ∃ T : Nat → Nat, T 0 = 0 ∧ ∀ k : Nat, k ≤ n → SET n C k (T k) := by
  have g : ∀ k : Nat, ∃ t, k ≤ n → SET n C k t := by
    intro k
    by_cases d : k ≤ n
    · obtain ⟨t, ht⟩ := SET.ex hC (r := k) (by omega) (by omega)
      exact ⟨t, fun _ => ht⟩
    · exact ⟨0, fun q => absurd q d⟩
  obtain ⟨T, hT⟩ := Classical.axiomOfChoice g
  exact ⟨T, SET.uniq (by have := hC.n6; omega) (hT 0 (by omega)) (SET.zero hC), hT⟩
/-- the rank of a chain of sets -/
def RK (n : Nat) (T : Nat → Nat) (k : Nat) : Nat := snn k (fun i => AC n (rv n (T i)) (rv n (T (i + 1)) + 1))
theorem rv_0 {n : Nat} (h1 : 1 ≤ n) (h6 : n ≤ 6) : rv n 0 = 0 := by
  rcases (by omega : n = 1 ∨ n = 2 ∨ n = 3 ∨ n = 4 ∨ n = 5 ∨ n = 6) with rfl | rfl | rfl | rfl | rfl | rfl <;> rfl
theorem x0_rankOf {n : Nat} {C : Int → Int → Int} {cs : Nat → Int32} {zS zM zK : Int32} {zE : Nat → Int32} (hC : CS n C) (hT : TC n C cs) (hZ : RZ n zS zM zK zE) {T : Nat → Nat} (T0 : T 0 = 0) (hS : ∀ k : Nat, k ≤ n → SET n C k (T k)) : ∃ zE', S_X0_rankOf zS zM zK zE (ii n) cs = some (ii (RK n T n), 1, zE') ∧ RZ n zS zM 1 zE' := by
  have h6 := hC.n6
  have h1 := hC.n1
  have hp := p64 (n := n) (by omega)
  obtain ⟨zE', c1, c2, c3⟩ := hZ.count (by omega) (by omega)
  have hZ2 := c3
  obtain ⟨rfl, rfl, -⟩ := c3
  refine ⟨zE', ?_, hZ2⟩
  unfold S_X0_rankOf
  rw [c1, Option.bind_some]
  dsimp only
  refine itr_up (fun k => (ii (RK n T k), ii (rv n (T k)), ii (1 + (k : Int)))) n ?_ (by omega) ?_ ?_
  · rw [T0, rv_0 (by omega) (by omega)]; rfl
  · intro k hk
    have hs := hS k (by omega)
    have ht := hS (k + 1) (by omega)
    obtain ⟨v1, v2, v3⟩ := rvf (by omega : 1 ≤ n) (by omega) hs.1
    obtain ⟨w1, w2, w3⟩ := rvf (by omega : 1 ≤ n) (by omega) ht.1
    dsimp only
    rw [if_neg (by rw [ii_lt (by omega) (by omega) (by omega) (by omega)]; omega)]
    have ef : S_X3_fullColumns (ii (1 + (k : Int))) (ii n) cs = some (ii (rv n (T (k + 1)))) := by
      rw [show (1 + (k : Int)) = ((k + 1 : Nat) : Int) by omega]
      exact x3_fullColumns hC hT (by omega) ht
    rw [ef, Option.bind_some, show ii ((rv n (T (k + 1)) : Nat) : Int) + 1 = ii ((rv n (T (k + 1)) + 1 : Nat) : Int) by rw [ii_a1]; exact congrArg ii (by omega), x0_endingsFrom (g := EE n) (by omega) (by omega) v1 (by omega) (fun x hx _ => c2 x hx), Option.bind_some, ii_a1, ii_add]
    have e1 : ((RK n T k : Nat) : Int) + ((snn (2 ^ n) (fun x => if rv n (T (k + 1)) + 1 ≤ x ∧ cf n (rv n (T k)) x = true then EE n x else 0) : Nat) : Int) = ((RK n T (k + 1) : Nat) : Int) := by
      rw [show RK n T (k + 1) = RK n T k + AC n (rv n (T k)) (rv n (T (k + 1)) + 1) from rfl]
      unfold AC
      omega
    rw [e1, show (1 + (k : Int) + 1) = 1 + ((k + 1 : Nat) : Int) by omega]
  · dsimp only
    rw [if_pos (by rw [ii_lt (by omega) (by omega) (by omega) (by omega)]; omega)]
theorem x6_rank {n : Nat} {C : Int → Int → Int} {sn w : Nat → Int32} (hC : CS n C) (hM : TM n C sn) {T : Nat → Nat} (T0 : T 0 = 0) (hS : ∀ k : Nat, k ≤ n → SET n C k (T k)) : ∃ w', S_X6_rank (ii n) sn w = some (ii (RK n T n), w') := by
  have h6 := hC.n6
  have h1 := hC.n1
  have hp := p64 (n := n) (by omega)
  obtain ⟨w', f1, f2⟩ := x6_findWays (w := w) (n := n) (by omega) (by omega)
  refine ⟨w', ?_⟩
  unfold S_X6_rank
  rw [f1, Option.bind_some]
  dsimp only
  refine itr_up (fun k => (ii (RK n T k), ii ((T k : Nat) : Int), ii (k : Int))) n ?_ (by omega) ?_ ?_
  · rw [T0]; rfl
  · intro k hk
    have hs := hS k (by omega)
    have ht := hS (k + 1) (by omega)
    have ea := x6_aheadOf (by omega) (by omega) f2 hk hs.1 ht.1 (SET.pcr hC (by omega) hs)
    dsimp only
    rw [if_neg (by rw [ii_le (by omega) (by omega) (by omega) (by omega)]; omega)]
    refine x6_rankrow hC hM hk hs ht (v := (Sum.inl (ii (RK n T (k + 1)), ii ((T (k + 1) : Nat) : Int), ii ((k + 1 : Nat) : Int)) : (Int32 × Int32 × Int32) ⊕ (Int32 × (Nat → Int32)))) (fun z => (S_X6_aheadOf (ii n) (ii k) (ii ((T k : Nat) : Int)) z w').bind (fun (y106 : Int32) => some (.inr (.inl (ii (RK n T k) + y106, z, ii (k : Int) + (1 : Int32)))))) ?_
    rw [ea, Option.bind_some, ii_a1, ii_add]
    have e1 : ((RK n T k : Nat) : Int) + ((AC n (rv n (T k)) (rv n (T (k + 1)) + 1) : Nat) : Int) = ((RK n T (k + 1) : Nat) : Int) := by
      rw [show RK n T (k + 1) = RK n T k + AC n (rv n (T k)) (rv n (T (k + 1)) + 1) from rfl]
      omega
    rw [e1, show ((k : Int) + 1) = ((k + 1 : Nat) : Int) by omega]
  · dsimp only
    rw [if_pos (by rw [ii_le (by omega) (by omega) (by omega) (by omega)]; omega)]
theorem p_rank {n : Nat} {C : Int → Int → Int} {cs sn w : Nat → Int32} {zS zM zK : Int32} {zE : Nat → Int32} (hC : CS n C) (hT : TC n C cs) (hM : TM n C sn) (hZ : RZ n zS zM zK zE) : ∃ (r zK' : Int32) (zE' w' : Nat → Int32), S_X5_rank (ii n) cs zS zM zK zE = some (r, zK', zE') ∧ S_X6_rank (ii n) sn w = some (r, w') ∧ RZ n zS zM zK' zE' := by
  have h6 := hC.n6
  have h1 := hC.n1
  obtain ⟨T, T0, hS⟩ := SET.all hC
  obtain ⟨zE', c1, c2⟩ := x0_rankOf hC hT hZ T0 hS
  obtain ⟨w', f1⟩ := x6_rank (w := w) hC hM T0 hS
  refine ⟨_, _, _, _, ?_, f1, c2⟩
  unfold S_X5_rank
  rw [ii_s1, ck_in (by omega) (by omega) (by omega), c1, Option.bind_some]
/-! how many there are -/
theorem rv_bit : ∀ n : Fin 6, ∀ c : Fin 6, (c : Nat) < (n : Nat) + 1 → pc (2 ^ (c : Nat)) = 1 ∧ rv ((n : Nat) + 1) (2 ^ (c : Nat)) = 2 ^ ((n : Nat) - c) := by decide +kernel
theorem x0_total {n : Nat} {zS zM zK : Int32} {zE : Nat → Int32} (h1 : 1 ≤ n) (h6 : n ≤ 6) (hZ : RZ n zS zM zK zE) : ∃ zE', S_X0_total zS zM zK zE = some (ii (EE n 0), 1, zE') ∧ RZ n zS zM 1 zE' := by
  obtain ⟨zE', c1, c2, c3⟩ := hZ.count h1 h6
  refine ⟨zE', ?_, c3⟩
  unfold S_X0_total
  rw [c1, Option.bind_some, show (0 : Int32) = ii 0 from rfl, ck_in (by omega) (by omega) (by omega), ii_clamp (by omega) (by omega)]
  have := c2 0 (p1 n)
  dsimp only
  rw [show (0 : Int).toNat = 0 from rfl, this]
theorem WW_00 {n : Nat} (h1 : 1 ≤ n) (h6 : n ≤ 6) : WW n 0 0 = EE n 0 := by
  unfold WW
  rw [rv_0 h1 h6, if_pos (by decide)]
theorem p_many {n : Nat} {p1 p2 : Int32} {w : Nat → Int32} {zS zM zK : Int32} {zE : Nat → Int32} (hn : ∀ m : Nat, 1 ≤ m → m ≤ 6 → p1 = ii m → n = m) (hZ : RZ n zS zM zK zE) : ∃ (r zK' : Int32) (zE' w' : Nat → Int32), S_X5_many p1 p2 zS zM zK zE = some (r, zK', zE') ∧ S_X6_many p1 p2 w = some (r, w') ∧ RZ n zS zM zK' zE' := by
  unfold S_X5_many S_X6_many S_X5_isSize
  rw [x5_isBetween, l64_1, l64_6, x6_in, Option.bind_some, Option.bind_some]
  rcases bt_z1 p1 (b := 6) (by omega) (by omega) with h | ⟨h, z, rfl, a1, a2⟩
  · rw [show bt p1 1 6 = 0 from h, if_pos rfl, ck_b (by rfl), Option.bind_some, if_pos rfl]
    exact ⟨_, _, _, _, rfl, rfl, hZ⟩
  · obtain ⟨m, rfl⟩ := Int.eq_ofNat_of_zero_le (a := z) (by omega)
    have e := hn m (by omega) (by omega) rfl
    subst e
    rw [show bt (ii n) 1 6 = 1 from h, if_neg n10, ck_b (by rfl), Option.bind_some, if_neg n10, show (-Int32.toInt64 1 : Int64) = (-1 : Int32).toInt64 by decide, x5_isBetween, ii_s1, x6_in, Option.bind_some, Option.bind_some]
    rcases bt_z p2 (a := -1) (b := (n : Int) - 1) (by omega) (by omega) (by omega) (by omega) with h | ⟨h, y, rfl, b1, b2⟩
    · rw [show bt p2 (-1) (ii ((n : Int) - 1)) = 0 from h, if_pos rfl, if_pos rfl]
      exact ⟨_, _, _, _, rfl, rfl, hZ⟩
    · obtain ⟨zE', c1, c2, c3⟩ := hZ.count (by omega) (by omega)
      obtain ⟨zE2, t1, t2⟩ := x0_total (by omega) (by omega) hZ
      obtain ⟨w', f1, f2⟩ := x6_findWays (w := w) (n := n) (by omega) (by omega)
      have hp := p64 (n := n) (by omega)
      rw [show bt (ii y) (-1) (ii ((n : Int) - 1)) = 1 from h, if_neg n10, if_neg n10, ck_in (by omega) (by omega) (by omega), f1, Option.bind_some, WW_00 (by omega) (by omega)]
      simp (disch := omega) only [ii_le0]
      by_cases c : 0 ≤ y
      · obtain ⟨k, rfl⟩ := Int.eq_ofNat_of_zero_le c
        have hZ2 := c3
        obtain ⟨rfl, rfl, -⟩ := c3
        have hk := Nat.pow_lt_pow_right (a := 2) (by omega) (show k < n by omega)
        have hk2 := Nat.pow_lt_pow_right (a := 2) (by omega) (show n - 1 - k < n by omega)
        obtain ⟨u1, u2⟩ := rv_bit ⟨n - 1, by omega⟩ ⟨k, by omega⟩ (by dsimp only; omega)
        dsimp only at u1 u2
        rw [show n - 1 + 1 = n by omega] at u2
        have k1 := p1 k
        have k2 := p1 (n - 1 - k)
        unfold S_X0_withFirstOne
        rw [if_pos c, if_pos c, c1, Option.bind_some, ii_s1, ii_sub, show (n : Int) - 1 - k = ((n - 1 - k : Nat) : Int) by omega, shl (by omega), shl (by omega), ii_64, ii_add, ck_in (by omega) (by omega) (by omega), ck_in (by omega) (by omega) (by omega), ii_clamp (by omega) (by omega), ii_clamp (by omega) (by omega), Option.bind_some]
        dsimp only
        rw [show (((2 ^ (n - 1 - k) : Nat) : Int)).toNat = 2 ^ (n - 1 - k) by omega, show (64 + ((2 ^ k : Nat) : Int)).toNat = 64 * 1 + 2 ^ k by omega, c2 _ hk2, f2 1 _ (by omega) hk]
        have : WW n 1 (2 ^ k) = EE n (2 ^ (n - 1 - k)) := by
          unfold WW
          rw [if_pos u1, u2]
        rw [this]
        exact ⟨_, _, _, _, rfl, rfl, hZ2⟩
      · rw [if_neg c, if_neg c, t1, Option.bind_some]
        exact ⟨_, _, _, _, rfl, rfl, t2⟩
