/-! the reference's walk -/
theorem x6_isDrawn {n : Int} {C : Int → Int → Int} {sn : Nat → Int32} (hC : CS n C) (h : TM n C sn) {r c s : Int} (hi : IN n r c) (s0 : 0 ≤ s) (s3 : s ≤ 3) : S_X6_isDrawn (ii r) (ii c) (ii s) sn = some (if dr C r c s = true then 1 else 0) := by
  obtain ⟨a1, a2, a3, a4⟩ := hi
  have k1 : ∀ b : Bool, ck ((if b = true then (1 : Int32) else 0) &&& 1 == (if b = true then (1 : Int32) else 0)) (some (if b = true then (1 : Int32) else 0)) = some (if b = true then (1 : Int32) else 0) := by decide
  unfold S_X6_isDrawn
  rcases s4 s0 s3 with rfl | rfl | rfl | rfl
  · rw [show ii 0 = (0 : Int32) from rfl, if_pos rfl, ii_s1, x6_isDown hC h (by omega) (by omega) (by omega) (by omega), Option.bind_some, k1, dr_0]
  · rw [show ii 1 = (1 : Int32) from rfl, if_neg n10, if_pos rfl, x6_isAcross hC h (by omega) (by omega) (by omega) (by omega), Option.bind_some, k1, dr_1]
  · rw [show ii 2 = (2 : Int32) from rfl, if_neg (by decide), if_neg (by decide), if_pos rfl, x6_isDown hC h (by omega) (by omega) (by omega) (by omega), Option.bind_some, k1, dr_2]
  · rw [show ii 3 = (3 : Int32) from rfl, if_neg (by decide), if_neg (by decide), if_neg (by decide), ii_s1, x6_isAcross hC h (by omega) (by omega) (by omega) (by omega), Option.bind_some, k1, dr_3]
theorem vb1 : vp_nar .boolean (1 : Int32) = 1 := by decide
theorem vb0 : vp_nar .boolean (0 : Int32) = 0 := by decide
def ix (r c : Int) : Nat := (6 * (r - 1) + c - 1).toNat
theorem nro_o {r o : Int} (o0 : 0 ≤ o) (o3 : o ≤ 3) {ρ : Type} (K : Int32 → Option ρ) : jn (if ii o = (2 : Int32) then some (.inl (1 : Int32)) else if ii o = 0 then some (.inl (-1 : Int32)) else some (.inl (0 : Int32))) K = K (ii (nro r o - r)) := by
  rcases s4 o0 o3 with rfl | rfl | rfl | rfl
  · rw [if_neg (by decide : ¬ ii 0 = (2 : Int32)), if_pos (by decide : ii 0 = (0 : Int32)), jn_l, show nro r 0 - r = -1 by show r - 1 - r = -1; omega]; rfl
  · rw [if_neg (by decide : ¬ ii 1 = (2 : Int32)), if_neg (by decide : ¬ ii 1 = (0 : Int32)), jn_l, show nro r 1 - r = 0 by show r - r = 0; omega]; rfl
  · rw [if_pos (by decide : ii 2 = (2 : Int32)), jn_l, show nro r 2 - r = 1 by show r + 1 - r = 1; omega]; rfl
  · rw [if_neg (by decide : ¬ ii 3 = (2 : Int32)), if_neg (by decide : ¬ ii 3 = (0 : Int32)), jn_l, show nro r 3 - r = 0 by show r - r = 0; omega]; rfl
theorem nco_o {c o : Int} (o0 : 0 ≤ o) (o3 : o ≤ 3) {ρ : Type} (K : Int32 → Option ρ) : jn (if ii o = (1 : Int32) then some (.inl (1 : Int32)) else if ii o = (3 : Int32) then some (.inl (-1 : Int32)) else some (.inl (0 : Int32))) K = K (ii (nco c o - c)) := by
  rcases s4 o0 o3 with rfl | rfl | rfl | rfl
  · rw [if_neg (by decide : ¬ ii 0 = (1 : Int32)), if_neg (by decide : ¬ ii 0 = (3 : Int32)), jn_l, show nco c 0 - c = 0 by show c - c = 0; omega]; rfl
  · rw [if_pos (by decide : ii 1 = (1 : Int32)), jn_l, show nco c 1 - c = 1 by show c + 1 - c = 1; omega]; rfl
  · rw [if_neg (by decide : ¬ ii 2 = (1 : Int32)), if_neg (by decide : ¬ ii 2 = (3 : Int32)), jn_l, show nco c 2 - c = 0 by show c - c = 0; omega]; rfl
  · rw [if_neg (by decide : ¬ ii 3 = (1 : Int32)), if_pos (by decide : ii 3 = (3 : Int32)), jn_l, show nco c 3 - c = -1 by show c - 1 - c = -1; omega]; rfl
theorem opp_m {o : Int} (o0 : 0 ≤ o) (o3 : o ≤ 3) : ii (o + 2) - ii (o + 2) / (4 : Int32) * (4 : Int32) = ii (opp o) := by
  rcases s4 o0 o3 with rfl | rfl | rfl | rfl <;> decide
theorem x6_goesOn {n : Int} {C : Int → Int → Int} {sn gone : Nat → Int32} {many : Int32} (hC : CS n C) (h : TM n C sn) {x : TR} (v : VA n C x) : (IN n (nx C x).1 (nx C x).2.1 → S_X6_goesOn (ii n) (ii x.1) (ii x.2.1) (ii x.2.2) many gone sn = some (1, ii (nx C x).1, ii (nx C x).2.1, ii (nx C x).2.2, many + 1, upd gone (ix x.1 x.2.1) 1)) ∧ (¬ IN n (nx C x).1 (nx C x).2.1 → S_X6_goesOn (ii n) (ii x.1) (ii x.2.1) (ii x.2.2) many gone sn = some (0, ii (bk C x).1, ii (bk C x).2.1, ii (bk C x).2.2, many + 1, upd gone (ix x.1 x.2.1) 1)) := by
  obtain ⟨r, c, s⟩ := x
  have hn := hC.n6
  have hn1 := hC.n1
  have vi := v.1
  obtain ⟨o1, o2, o3, o4, o5, o6⟩ := ot_f hC v.1 v.2.1 v.2.2.1 v.2.2.2
  obtain ⟨⟨a1, a2, a3, a4⟩, s0, s3, d⟩ := v
  have b := nx_b hC (x := (r, c, s)) ⟨⟨a1, a2, a3, a4⟩, s0, s3, d⟩
  show (IN n (nro r (ot C r c s)) (nco c (ot C r c s)) → _ = some (1, ii (nro r (ot C r c s)), ii (nco c (ot C r c s)), ii (opp (ot C r c s)), many + 1, upd gone (ix r c) 1)) ∧ (¬ IN n (nro r (ot C r c s)) (nco c (ot C r c s)) → _ = some (0, ii r, ii c, ii (ot C r c s), many + 1, upd gone (ix r c) 1))
  have b' : 0 ≤ nro r (ot C r c s) ∧ nro r (ot C r c s) ≤ 7 ∧ 0 ≤ nco c (ot C r c s) ∧ nco c (ot C r c s) ≤ 7 := b
  clear b
  dsimp only at a1 a2 a3 a4 s0 s3 d o1 o2 o3 o4 o5 o6 vi
  have key : ∀ (out : Int32 × Int32 × Int32 × Int32 × Int32 × (Nat → Int32)), ((IN n (nro r (ot C r c s)) (nco c (ot C r c s)) ∧ out = (1, ii (nro r (ot C r c s)), ii (nco c (ot C r c s)), ii (opp (ot C r c s)), many + 1, upd gone (ix r c) 1)) ∨ (¬ IN n (nro r (ot C r c s)) (nco c (ot C r c s)) ∧ out = (0, ii r, ii c, ii (ot C r c s), many + 1, upd gone (ix r c) 1))) → S_X6_goesOn (ii n) (ii r) (ii c) (ii s) many gone sn = some out := by
    intro out ho
    unfold S_X6_goesOn
    refine itr_up (fun t => ii (t : Int)) (ot C r c s).toNat rfl (by omega) ?_ ?_
    · intro t ht
      by_cases e : (t : Int) = s
      · rw [if_pos (by rw [e]), ii_a1]; rfl
      · have nd : ¬ dr C r c t = true := fun q => by
          rcases o5 t (by omega) (by omega) q with z | z
          · exact e z
          · omega
        rw [if_neg (by rw [ii_eq (by omega) (by omega) (by omega) (by omega)]; exact e), x6_isDrawn hC h vi (by omega) (by omega), Option.bind_some, if_neg nd, if_pos rfl, ii_a1]
        rfl
    · rw [show (((ot C r c s).toNat : Nat) : Int) = ot C r c s by omega]
      generalize ot C r c s = o at *
      rw [if_neg (by rw [ii_eq (by omega) (by omega) (by omega) (by omega)]; exact o3), x6_isDrawn hC h vi o1 o2, Option.bind_some, if_pos o4, if_neg n10, ii_s1, ii_6, ii_mul, ii_add, ii_s1, ck_in (by omega) (by omega) (by omega), ii_clamp (by omega) (by omega), nro_o (r := r) o1 o2, nco_o (c := c) o1 o2, ii_add, ii_add, show r + (nro r o - r) = nro r o by omega, show c + (nco c o - c) = nco c o by omega, l64_1, x6_in, Option.bind_some, x6_in, Option.bind_some, bt_in1 (by omega) (by omega) (by omega) (by omega), bt_in1 (by omega) (by omega) (by omega) (by omega), ii_2, ii_add, opp_m o1 o2, vb1]
      rcases ho with ⟨⟨p1, p2, p3, p4⟩, rfl⟩ | ⟨q, rfl⟩
      · rw [if_pos (show 1 ≤ nro r o ∧ nro r o ≤ n from ⟨p1, p2⟩), if_neg n10, if_pos (show 1 ≤ nco c o ∧ nco c o ≤ n from ⟨p3, p4⟩), if_neg n10, jn_r]
        rfl
      · by_cases e1 : 1 ≤ nro r o ∧ nro r o ≤ n
        · rw [if_pos e1, if_neg n10, if_neg (fun e2 : 1 ≤ nco c o ∧ nco c o ≤ n => q ⟨e1.1, e1.2, e2.1, e2.2⟩), if_pos rfl, jn_l]
          rfl
        · rw [if_neg e1, if_pos rfl, jn_l]
          rfl
  exact ⟨fun q => key _ (Or.inl ⟨q, rfl⟩), fun q => key _ (Or.inr ⟨q, rfl⟩)⟩
/-! where the ends are -/
def EA (n : Int) (eR eC eS : Nat → Int32) (m : Nat) : Prop := ∀ e : Nat, e < m → eR e = ii (rm n (2 * e)).1 ∧ eC e = ii (rm n (2 * e)).2.1 ∧ eS e = ii (rm n (2 * e)).2.2
theorem rm_if {n f o : Nat} (h6 : n ≤ 6) (hf : f < 4) (ho : o < n) {ρ : Type} : (if ii (f : Int) = 0 then some (.inl (1 : Int32)) else if ii (f : Int) = (1 : Int32) then some (.inl (ii (o : Int) + (1 : Int32))) else if ii (f : Int) = (2 : Int32) then some (.inl (ii n)) else some (.inl (ii n - ii (o : Int))) : Option (Int32 ⊕ ρ)) = some (.inl (ii (rm n ((f * n + o : Nat) : Int)).1)) ∧ (if ii (f : Int) = 0 then some (.inl (ii (o : Int) + (1 : Int32))) else if ii (f : Int) = (1 : Int32) then some (.inl (ii n)) else if ii (f : Int) = (2 : Int32) then some (.inl (ii n - ii (o : Int))) else some (.inl (1 : Int32)) : Option (Int32 ⊕ ρ)) = some (.inl (ii (rm n ((f * n + o : Nat) : Int)).2.1)) := by
  obtain ⟨st, -, -⟩ := x1_stand h6 hf ho
  have hq : ∀ a b : Int32, S_X1_standAtRim (ii f) (ii o) (ii n) = some (a, b, ii f) → (if ii (f : Int) = 0 then some (.inl (1 : Int32)) else if ii (f : Int) = (1 : Int32) then some (.inl (ii (o : Int) + (1 : Int32))) else if ii (f : Int) = (2 : Int32) then some (.inl (ii n)) else some (.inl (ii n - ii (o : Int))) : Option (Int32 ⊕ ρ)) = some (.inl a) ∧ (if ii (f : Int) = 0 then some (.inl (ii (o : Int) + (1 : Int32))) else if ii (f : Int) = (1 : Int32) then some (.inl (ii n)) else if ii (f : Int) = (2 : Int32) then some (.inl (ii n - ii (o : Int))) else some (.inl (1 : Int32)) : Option (Int32 ⊕ ρ)) = some (.inl b) := by
    intro a b e
    unfold S_X1_standAtRim at e
    by_cases c0 : ii (f : Int) = 0
    · simp only [if_pos c0, jn_l, Option.some.injEq, Prod.mk.injEq] at e ⊢
      exact ⟨by rw [e.1], by rw [e.2.1]⟩
    · by_cases c1 : ii (f : Int) = 1
      · simp only [if_neg c0, if_pos c1, jn_l, Option.some.injEq, Prod.mk.injEq] at e ⊢
        exact ⟨by rw [e.1], by rw [e.2.1]⟩
      · by_cases c2 : ii (f : Int) = 2
        · simp only [if_neg c0, if_neg c1, if_pos c2, jn_l, Option.some.injEq, Prod.mk.injEq] at e ⊢
          exact ⟨by rw [e.1], by rw [e.2.1]⟩
        · simp only [if_neg c0, if_neg c1, if_neg c2, jn_l, Option.some.injEq, Prod.mk.injEq] at e ⊢
          exact ⟨by rw [e.1], by rw [e.2.1]⟩
  have e3 := (x1_stand h6 hf ho).2.1
  rw [e3] at st
  exact hq _ _ st
theorem x6_findEnds {n : Nat} {C : Int → Int → Int} {sn eR eC eS : Nat → Int32} (hC : CS n C) (h : TM n C sn) : ∃ eR' eC' eS', S_X6_findEnds (ii n) eR eC eS sn = some (eR', eC', eS') ∧ EA n eR' eC' eS' (2 * n) := by
  have h6 := hC.n6
  have h1 := hC.n1
  unfold S_X6_findEnds
  suffices g : ∃ r : (Nat → Int32) × (Nat → Int32) × (Nat → Int32), _ = some r ∧ EA n r.1 r.2.1 r.2.2 (2 * n) by
    obtain ⟨⟨r1, r2, r3⟩, g1, g2⟩ := g
    exact ⟨_, _, _, g1, g2⟩
  refine itr_ex (fun (k : Nat) (x : Int32 × Int32 × (Nat → Int32) × (Nat → Int32) × (Nat → Int32)) => x.1 = ii (((k + 1) / 2 : Nat) : Int) ∧ x.2.1 = ii (k : Int) ∧ EA n x.2.2.1 x.2.2.2.1 x.2.2.2.2 ((k + 1) / 2)) _ (4 * n) ⟨rfl, rfl, fun e he => absurd he (by omega)⟩ (by omega) ?_ ?_
  · rintro k ⟨x1, x2, x3, x4, x5⟩ hk ⟨q1, q2, q3⟩
    dsimp only at q1 q2 q3 ⊢
    subst q1; subst q2
    left
    have ho : k % n < n := Nat.mod_lt _ (by omega)
    have hf : k / n < 4 := by rw [Nat.div_lt_iff_lt_mul (by omega)]; omega
    have ek : k / n * n + k % n = k := by rw [Nat.mul_comm]; exact Nat.div_add_mod k n
    obtain ⟨st, e3, lt⟩ := x1_stand (n := n) (by omega) hf ho
    rw [ek] at e3
    have fm := rm_f (n := n) (k := (k : Int)) (by omega) (by omega) (by omega)
    have dd := rm_dr hC (k := (k : Int)) (by omega) (by omega)
    have isd := x6_isDrawn hC h fm.1 fm.2.1 fm.2.2.1
    rw [dd, e3] at isd
    have rmf := fun {ρ : Type} => rm_if (n := n) (ρ := ρ) (by omega) hf ho
    rw [ek] at rmf
    rw [if_neg (by rw [ii_4, ii_mul, ii_le (by omega) (by omega) (by omega) (by omega)]; omega)]
    have nz : (!(ii (n : Int) == 0)) = true := by
      have : ¬ ii (n : Int) = 0 := by rw [ii_0, ii_eq (by omega) (by omega) (by omega) (by omega)]; omega
      simp [this]
    rw [ck_b nz, ck_b nz, ii_rem (by omega) (by omega) (by omega) (by omega), ii_div (by omega) (by omega) (by omega) (by omega), show (k : Int) / (n : Int) = ((k / n : Nat) : Int) by push_cast; rfl, show (k : Int) % (n : Int) = ((k % n : Nat) : Int) by push_cast; rfl, rmf.1, jn_l, rmf.2, jn_l, isd, Option.bind_some]
    by_cases c : (k : Int) % 2 = 0
    · rw [if_pos (decide_eq_true c), if_neg n10]
      simp (disch := omega) only [ck_in, ii_clamp, ii_a1]
      refine ⟨_, rfl, congrArg ii (by omega), congrArg ii (by omega), fun e he => ?_⟩
      dsimp only
      rw [Int.toNat_natCast]
      by_cases d : e = (k + 1) / 2
      · subst d
        rw [pk_us, pk_us, pk_us, show (2 * (((k + 1) / 2 : Nat) : Int)) = (k : Int) by omega, e3]
        exact ⟨rfl, rfl, rfl⟩
      · rw [pk_un d, pk_un d, pk_un d]; exact q3 e (by omega)
    · rw [show decide ((k : Int) % 2 = 0) = false from decide_eq_false c, if_neg (show ¬ (false = true) by decide), if_pos rfl, ii_a1]
      refine ⟨_, rfl, congrArg ii (by omega), congrArg ii (by omega), fun e he => ?_⟩
      exact q3 e (by omega)
  · rintro ⟨x1, x2, x3, x4, x5⟩ ⟨q1, q2, q3⟩
    dsimp only at q1 q2 q3 ⊢
    subst q1; subst q2
    rw [if_pos (by rw [ii_4, ii_mul, ii_le (by omega) (by omega) (by omega) (by omega)]; omega)]
    exact ⟨_, rfl, fun e he => q3 e (by omega)⟩
/-! the reference goes along a line -/
def gob (N : Int32) (eR eC eS sn : Nat → Int32) : (Int32 × Int32 × Int32 × Int32 × Int32 × (Nat → Int32)) → Option ((Int32 × Int32 × Int32 × Int32 × Int32 × (Nat → Int32)) ⊕ (Int32 × Int32 × Int32 × Int32 × Int32 × (Nat → Int32))) := fun (x1 : Int32 × Int32 × Int32 × Int32 × Int32 × (Nat → Int32)) => if x1.1 = 0 then itr (fun (x2 : Int32) => ck (inb x2 12) (if (eR x2.toNatClampNeg) = x1.2.1 then ck (inb x2 12) (if (eC x2.toNatClampNeg) = x1.2.2.1 then ck (inb x2 12) (if (eS x2.toNatClampNeg) = x1.2.2.2.1 then some (.inr (.inr (x2, x1.2.1, x1.2.2.1, x1.2.2.2.1, x1.2.2.2.2.1, x1.2.2.2.2.2))) else some (.inl (x2 + (1 : Int32)))) else some (.inl (x2 + (1 : Int32)))) else some (.inl (x2 + (1 : Int32))))) 10000 (0 : Int32) else (S_X6_goesOn N x1.2.1 x1.2.2.1 x1.2.2.2.1 x1.2.2.2.2.1 x1.2.2.2.2.2 sn).bind (fun (y46 : Int32 × Int32 × Int32 × Int32 × Int32 × (Nat → Int32)) => some (.inl (y46.1, y46.2.1, y46.2.2.1, y46.2.2.2.1, y46.2.2.2.2.1, y46.2.2.2.2.2)))
theorem ix_u {n : Int} (hn : n ≤ 6) {r c r' c' : Int} (h : IN n r c) (h' : IN n r' c') {g : Nat → Int32} : ¬ upd g (ix r c) 1 (ix r' c') = 0 ↔ (¬ g (ix r' c') = 0 ∨ (r' = r ∧ c' = c)) := by
  obtain ⟨a1, a2, a3, a4⟩ := h
  obtain ⟨b1, b2, b3, b4⟩ := h'
  by_cases e : r' = r ∧ c' = c
  · obtain ⟨rfl, rfl⟩ := e
    rw [pk_us]
    exact ⟨fun _ => Or.inr ⟨rfl, rfl⟩, fun _ => by decide⟩
  · rw [pk_un (by unfold ix; omega)]
    exact ⟨fun q => Or.inl q, fun q => q.resolve_right e⟩
theorem gob_walk {n : Nat} {C : Int → Int → Int} {sn eR eC eS : Nat → Int32} (hC : CS n C) (h : TM n C sn) : ∀ (i : Nat) (x y : TR) (g : Nat → Int32) (m : Int) (F : Nat), PA n C i x y → VA n C x → ¬ IN n (nx C y).1 (nx C y).2.1 → ∃ g', itr (gob (ii n) eR eC eS sn) (F + (i + 1)) (1, ii x.1, ii x.2.1, ii x.2.2, ii m, g) = itr (gob (ii n) eR eC eS sn) F (0, ii (bk C y).1, ii (bk C y).2.1, ii (bk C y).2.2, ii (m + i + 1), g') ∧ ∀ r c, IN n r c → (¬ g' (ix r c) = 0 ↔ (¬ g (ix r c) = 0 ∨ ∃ (j : Nat) (z : TR), PA n C j x z ∧ z.1 = r ∧ z.2.1 = c)) := by
  have hn := hC.n6
  intro i
  induction i with
  | zero =>
    intro x y g m F p v o
    cases p
    refine ⟨upd g (ix x.1 x.2.1) 1, ?_, fun r c hi => ?_⟩
    · rw [itr_succ (f := gob (ii n) eR eC eS sn) (s' := (0, ii (bk C x).1, ii (bk C x).2.1, ii (bk C x).2.2, ii (m + ((0 : Nat) : Int) + 1), upd g (ix x.1 x.2.1) 1)) (by
        unfold gob
        dsimp only
        rw [if_neg n10, (x6_goesOn hC h v).2 o, Option.bind_some, ii_a1, show m + 1 = m + ((0 : Nat) : Int) + 1 by omega])]
    · rw [ix_u hn v.1 hi]
      constructor
      · rintro (q | q)
        · exact Or.inl q
        · exact Or.inr ⟨0, x, rfl, q.1.symm, q.2.symm⟩
      · rintro (q | ⟨j, z, p, e1, e2⟩)
        · exact Or.inl q
        · cases j with
          | zero => cases p; exact Or.inr ⟨e1.symm, e2.symm⟩
          | succ j => exact absurd p.1 o
  | succ i ih =>
    intro x y g m F p v o
    obtain ⟨g', a, b⟩ := ih (nx C x) y (upd g (ix x.1 x.2.1) 1) (m + 1) F p.2 (v.nx hC p.1) o
    refine ⟨g', ?_, fun r c hi => ?_⟩
    · rw [show F + (i + 1 + 1) = F + (i + 1) + 1 by omega, itr_succ (f := gob (ii n) eR eC eS sn) (s' := (1, ii (nx C x).1, ii (nx C x).2.1, ii (nx C x).2.2, ii (m + 1), upd g (ix x.1 x.2.1) 1)) (by
        unfold gob
        dsimp only
        rw [if_neg n10, (x6_goesOn hC h v).1 p.1, Option.bind_some, ii_a1]), a, show m + 1 + (i : Int) + 1 = m + ((i + 1 : Nat) : Int) + 1 by omega]
    · rw [b r c hi, ix_u hn v.1 hi]
      constructor
      · rintro ((q | q) | ⟨j, z, w, e⟩)
        · exact Or.inl q
        · exact Or.inr ⟨0, x, rfl, q.1.symm, q.2.symm⟩
        · exact Or.inr ⟨j + 1, z, ⟨p.1, w⟩, e⟩
      · rintro (q | ⟨j, z, w, e1, e2⟩)
        · exact Or.inl (Or.inl q)
        · cases j with
          | zero => cases w; exact Or.inl (Or.inr ⟨e1.symm, e2.symm⟩)
          | succ j => exact Or.inr ⟨j, z, w.2, e1, e2⟩
theorem x6_goes {n : Nat} {C : Int → Int → Int} {sn eR eC eS g : Nat → Int32} (hC : CS n C) (h : TM n C sn) (hE : EA n eR eC eS (2 * n)) {e : Nat} (he : e < 2 * n) {i : Nat} {k' : Int} (hi : i ≤ 4000) (w : WK n C (2 * e) i k') : ∃ g', S_X6_goes (ii n) (ii e) eR eC eS g sn = some (ii (k' / 2), ii (rm n k').1, ii (rm n k').2.1, ii (rm n k').2.2, ii ((i : Int) + 2), g') ∧ ∀ r c, IN n r c → (¬ g' (ix r c) = 0 ↔ (¬ g (ix r c) = 0 ∨ ∃ (j : Nat) (z : TR), PA n C j (rm n (2 * e)) z ∧ z.1 = r ∧ z.2.1 = c)) := by
  have h6 := hC.n6
  have h1 := hC.n1
  obtain ⟨w0, w4, w2, y, p, ek⟩ := w
  have v := rm_va hC (k := 2 * (e : Int)) (by omega) (by omega) (by omega)
  have o := WK.out hC (k := 2 * (e : Int)) (p.va hC v) w0 w4 ek
  obtain ⟨g', a, b⟩ := gob_walk (sn := sn) (eR := eR) (eC := eC) (eS := eS) hC h i (rm n (2 * e)) y g 1 (10000 - (i + 1)) p v o
  refine ⟨g', ?_, b⟩
  obtain ⟨d1, d2, d3⟩ := hE e he
  have fk := rm_f h1 w0 w4
  unfold S_X6_goes
  rw [ck_in (by omega) (by omega) (by omega), ck_in (by omega) (by omega) (by omega), ck_in (by omega) (by omega) (by omega), ii_clamp (by omega) (by omega), Int.toNat_natCast, d1, d2, d3]
  show itr (gob (ii n) eR eC eS sn) 10000 (1, ii (rm n (2 * e)).1, ii (rm n (2 * e)).2.1, ii (rm n (2 * e)).2.2, ii 1, g) = _
  rw [show (10000 : Nat) = 10000 - (i + 1) + (i + 1) by omega, a, ek]
  obtain ⟨F, hF⟩ : ∃ F, 10000 - (i + 1) = F + 1 := ⟨10000 - (i + 1) - 1, by omega⟩
  rw [hF]
  refine itr_end ?_
  unfold gob
  dsimp only
  rw [if_pos rfl, show (1 : Int) + (i : Int) + 1 = (i : Int) + 2 by omega]
  obtain ⟨p1, p2, p3, p4⟩ := fk.1
  refine itr_up (fun t => ii (t : Int)) (k' / 2).toNat rfl (by omega) ?_ ?_
  · intro t ht
    obtain ⟨t1, t2, t3⟩ := hE t (by omega)
    have ft := rm_f (n := n) (k := 2 * (t : Int)) h1 (by omega) (by omega)
    obtain ⟨u1, u2, u3, u4⟩ := ft.1
    have ne : ¬ rm n (2 * (t : Int)) = rm n k' := fun q => by
      have := rm_inj h1 w0 w4 (by omega) (by omega) q
      omega
    simp (disch := omega) only [ck_in, ii_clamp, Int.toNat_natCast]
    rw [t1, t2, t3, ii_a1, show (t : Int) + 1 = ((t + 1 : Nat) : Int) by omega]
    by_cases c1 : (rm n (2 * (t : Int))).1 = (rm n k').1
    · by_cases c2 : (rm n (2 * (t : Int))).2.1 = (rm n k').2.1
      · by_cases c3 : (rm n (2 * (t : Int))).2.2 = (rm n k').2.2
        · exact absurd (Prod.ext c1 (Prod.ext c2 c3)) ne
        · rw [if_pos (by rw [c1]), if_pos (by rw [c2]), if_neg (by rw [ii_eq (by omega) (by omega) (by omega) (by omega)]; exact c3)]
      · rw [if_pos (by rw [c1]), if_neg (by rw [ii_eq (by omega) (by omega) (by omega) (by omega)]; exact c2)]
    · rw [if_neg (by rw [ii_eq (by omega) (by omega) (by omega) (by omega)]; exact c1)]
  · obtain ⟨t1, t2, t3⟩ := hE (k' / 2).toNat (by omega)
    simp (disch := omega) only [ck_in, ii_clamp, Int.toNat_natCast]
    rw [t1, t2, t3, show 2 * (((k' / 2).toNat : Nat) : Int) = k' by omega, if_pos rfl, if_pos rfl, if_pos rfl, show (((k' / 2).toNat : Nat) : Int) = k' / 2 by omega]
