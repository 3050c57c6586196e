/-! what can be undone -/
theorem ii_185 : (185 : Int32) = ii 185 := rfl
/-- the j-th of the latest changes, in the class's ring and in the reference's row -/
def RPj (f h j : Nat) (pS : Nat → Int32) (pC : Nat → Nat → Int32) (bf : Nat → Int32) : Prop :=
  ∃ (n : Int) (C : Int → Int → Int), CS n C ∧ pS ((f + 5 - j) % 6) = ii n ∧ TC n C (pC ((f + 5 - j) % 6)) ∧ Z7 (pC ((f + 5 - j) % 6)) ∧ bf (37 * (h - 1 - j)) = ii n ∧ TM n C (fun k => bf (37 * (h - 1 - j) + 1 + k))
def RP (free held : Int32) (pS : Nat → Int32) (pC : Nat → Nat → Int32) (um : Int32) (bf : Nat → Int32) : Prop :=
  ∃ f h : Nat, f < 6 ∧ h ≤ 6 ∧ free = ii f ∧ held = ii h ∧ um = ii h ∧ ∀ j, j < h → RPj f h j pS pC bf
theorem x6_shift (bf : Nat → Int32) (t : Int32) : ∃ b1, itr (ρ := (Int32 × (Nat → Int32)) ⊕ (Int32 × (Nat → Int32))) (fun (x3 : Int32 × (Nat → Int32)) => if (185 : Int32) ≤ x3.1 then some (.inr (.inl (t, x3.2))) else ck (inb ((37 : Int32) + x3.1) 222) (ck (inb x3.1 222) (some (.inl (x3.1 + (1 : Int32), upd x3.2 x3.1.toNatClampNeg (x3.2 ((37 : Int32) + x3.1).toNatClampNeg)))))) 10000 ((0 : Int32), bf) = some (.inl (t, b1)) ∧ ∀ k, k < 185 → b1 k = bf (37 + k) := by
  suffices g : ∃ o : (Int32 × (Nat → Int32)) ⊕ (Int32 × (Nat → Int32)), _ = some o ∧ ∃ b1, o = .inl (t, b1) ∧ ∀ k, k < 185 → b1 k = bf (37 + k) by
    obtain ⟨o, g1, b1, rfl, g2⟩ := g
    exact ⟨b1, g1, g2⟩
  refine itr_ex (fun (k : Nat) (s : Int32 × (Nat → Int32)) => s.1 = ii k ∧ (∀ j, j < k → s.2 j = bf (37 + j)) ∧ ∀ j, k ≤ j → s.2 j = bf j) _ 185 ⟨rfl, fun j h => absurd h (by omega), fun _ _ => rfl⟩ (by omega) ?_ ?_
  · rintro k ⟨s1, s2⟩ hk ⟨p1, p2, p3⟩
    dsimp only at p1 p2 p3 ⊢
    subst p1
    left
    simp (disch := omega) only [ii_185, ii_37, ii_le, if_neg, ii_add, ck_in, ii_clamp, ii_a1]
    refine ⟨_, rfl, rfl, fun j hj => ?_, fun j hj => ?_⟩
    · dsimp only
      by_cases e : j = k
      · subst e
        rw [show (j : Int).toNat = j by omega, pk_us, p3 _ (by omega)]
        first | (congr 1; done) | (congr 1; omega)
      · rw [pk_un (by omega)]; exact p2 j (by omega)
    · dsimp only
      rw [pk_un (by omega)]; exact p3 j (by omega)
  · rintro ⟨s1, s2⟩ ⟨p1, p2, p3⟩
    dsimp only at p1 p2 p3 ⊢
    subst p1
    simp (disch := omega) only [ii_185, ii_le, if_pos]
    exact ⟨_, rfl, _, rfl, p2⟩
theorem x6_note {sz : Int32} {h : Nat} (hh : h ≤ 6) (sn bf : Nat → Int32) : ∃ (m : Nat) (b' : Nat → Int32), S_X6_note sz (ii h) sn bf = some (ii (m + 1), b') ∧ (m = if h = 6 then 5 else h) ∧ b' (37 * m) = sz ∧ (∀ k, k < 36 → b' (37 * m + 1 + k) = sn k) ∧ ∀ i, i < 37 * m → b' i = if h = 6 then bf (37 + i) else bf i := by
  have key : ∀ (m : Nat) (b1 : Nat → Int32), m ≤ 5 → ∃ r : Int32 × (Nat → Int32), ck (inb ((37 : Int32) * ii m) 222) (itr (fun (x2 : Int32 × (Nat → Int32)) => if (36 : Int32) ≤ x2.1 then some (.inr (ii m + (1 : Int32), x2.2)) else ck (inb x2.1 36) (ck (inb ((((37 : Int32) * ii m) + (1 : Int32)) + x2.1) 222) ((some (upd x2.2 ((((37 : Int32) * ii m) + (1 : Int32)) + x2.1).toNatClampNeg (sn x2.1.toNatClampNeg))).bind (fun (z_94 : Nat → Int32) => some (.inl (x2.1 + (1 : Int32), z_94)))))) 10000 ((0 : Int32), upd b1 ((37 : Int32) * ii m).toNatClampNeg sz)) = some r ∧ r.1 = ii (m + 1) ∧ r.2 (37 * m) = sz ∧ (∀ k, k < 36 → r.2 (37 * m + 1 + k) = sn k) ∧ ∀ i, i < 37 * m → r.2 i = b1 i := by
    intro m b1 hm
    simp (disch := omega) only [ii_37, ii_mul, ck_in, ii_clamp]
    refine itr_ex (fun (k : Nat) (s : Int32 × (Nat → Int32)) => s.1 = ii k ∧ s.2 (37 * m) = sz ∧ (∀ j, j < k → s.2 (37 * m + 1 + j) = sn j) ∧ ∀ i, i < 37 * m → s.2 i = b1 i) _ 36 ⟨rfl, ?_, fun j h => absurd h (by omega), fun i hi => ?_⟩ (by omega) ?_ ?_
    · dsimp only; rw [show (37 * (m : Int)).toNat = 37 * m by omega, pk_us]
    · dsimp only; rw [pk_un (by omega)]
    · rintro k ⟨s1, s2⟩ hk ⟨p1, p2, p3, p4⟩
      dsimp only at p1 p2 p3 p4 ⊢
      subst p1
      left
      simp (disch := omega) only [ii_36, ii_le, if_neg, ii_1, ii_add, ck_in, ii_clamp, Option.bind_some]
      refine ⟨_, rfl, rfl, ?_, fun j hj => ?_, fun i hi => ?_⟩
      · dsimp only; rw [pk_un (by omega)]; exact p2
      · dsimp only
        by_cases e : j = k
        · subst e
          rw [show (37 * (m : Int) + 1 + (j : Int)).toNat = 37 * m + 1 + j by omega, pk_us]
          congr 1
        · rw [pk_un (by omega)]; exact p3 j (by omega)
      · dsimp only; rw [pk_un (by omega)]; exact p4 i hi
    · rintro ⟨s1, s2⟩ ⟨p1, p2, p3, p4⟩
      dsimp only at p1 p2 p3 p4 ⊢
      subst p1
      simp (disch := omega) only [ii_36, ii_le, if_pos, ii_a1]
      exact ⟨_, rfl, rfl, p2, p3, p4⟩
  unfold S_X6_note
  by_cases c : h = 6
  · subst c
    obtain ⟨b1, s1, s2⟩ := x6_shift bf (ii ((6 : Nat) : Int) - 1)
    rw [if_pos (show ii ((6 : Nat) : Int) = (6 : Int32) from rfl), s1, jn_l]
    dsimp only
    rw [ii_s1]
    obtain ⟨⟨r1, r2⟩, k1, k2, k3, k4, k5⟩ := key 5 b1 (by omega)
    dsimp only at k2 k3 k4 k5
    subst k2
    refine ⟨5, r2, k1, by rw [if_pos rfl], k3, k4, fun i hi => ?_⟩
    rw [k5 i hi, s2 i (by omega), if_pos rfl]
  · rw [if_neg (by rw [ii_6, ii_eq (by omega) (by omega) (by omega) (by omega)]; omega), jn_l]
    dsimp only
    obtain ⟨⟨r1, r2⟩, k1, k2, k3, k4, k5⟩ := key h bf (by omega)
    dsimp only at k2 k3 k4 k5
    subst k2
    refine ⟨h, r2, k1, by rw [if_neg c], k3, k4, fun i hi => ?_⟩
    rw [k5 i hi, if_neg c]
theorem x2_remember {f h : Nat} (hf : f < 6) (hh : h ≤ 6) (ec cs : Nat → Int32) (sz : Int32) : S_X2_remember (ii f) (ii h) ec sz cs = some (ii ((f + 1) % 6 : Nat), ii (if h = 6 then 6 else h + 1 : Nat), sz, va_cpy cs ec 0 0 (49 : Int32).toNatClampNeg) := by
  simp (disch := omega) only [S_X2_remember, S_X3_copy, ck_in, Option.bind_some, ii_1, ii_6, ii_add, ii_rem, ii_lt]
  refine congrArg some ?_
  refine Prod.ext ?_ (Prod.ext ?_ rfl)
  · dsimp only; congr 1
  · dsimp only
    by_cases c : h = 6
    · rw [if_pos c, if_pos (by omega)]; rfl
    · rw [if_neg c, if_neg (by omega)]; congr 1
/-- both sides note a table -/
theorem p_note {n : Int} {C : Int → Int → Int} {cs sn : Nat → Int32} {free held um : Int32} {pS : Nat → Int32} {pC : Nat → Nat → Int32} {bf : Nat → Int32} (hC : CS n C) (hT : TC n C cs) (hZ : Z7 cs) (hM : TM n C sn) (hP : RP free held pS pC um bf) :
    ∃ (fr' hd' um' : Int32) (bf' c' : Nat → Int32), S_X2_remember free held (pC free.toNatClampNeg) (ii n) cs = some (fr', hd', ii n, c') ∧ S_X6_note (ii n) um sn bf = some (um', bf') ∧ RP fr' hd' (upd pS free.toNatClampNeg (ii n)) (fun k => if k = free.toNatClampNeg then c' else pC k) um' bf' := by
  obtain ⟨f, h, hf, hh, rfl, rfl, rfl, hj⟩ := hP
  have hn := hC.n6
  obtain ⟨m, b', m1, m2, m3, m4, m5⟩ := x6_note (sz := ii n) hh sn bf
  rw [ii_clamp (by omega) (by omega), show (f : Int).toNat = f by omega]
  refine ⟨_, _, _, _, _, x2_remember hf hh _ _ _, m1, (f + 1) % 6, (if h = 6 then 6 else h + 1), by omega, by split <;> omega, rfl, rfl, ?_, ?_⟩
  · rw [m2]
    by_cases c : h = 6
    · rw [if_pos c, if_pos c]; rfl
    · rw [if_neg c, if_neg c]; congr 1
  · intro j hj2
    have hm : (if h = 6 then 6 else h + 1) = m + 1 := by rw [m2]; split <;> omega
    rw [hm] at hj2 ⊢
    by_cases c0 : j = 0
    · subst c0
      have ix : ((f + 1) % 6 + 5 - 0) % 6 = f := by omega
      unfold RPj
      rw [ix, show m + 1 - 1 - 0 = m by omega]
      refine ⟨n, C, hC, pk_us, ?_, ?_, m3, fun r c a b x y => ?_⟩
      · dsimp only; rw [if_pos rfl]; exact hT.cpy hn
      · dsimp only; rw [if_pos rfl]; exact hZ.cpy
      · dsimp only; rw [m4 _ (by omega)]; exact hM r c a b x y
    · have hjm : j - 1 < h := by
        by_cases c : h = 6
        · rw [if_pos c] at m2; omega
        · rw [if_neg c] at m2; omega
      obtain ⟨n', C', q1, q2, q3, q4, q5, q6⟩ := hj (j - 1) hjm
      have hj5 : j ≤ 5 := by
        by_cases c : h = 6
        · rw [if_pos c] at m2; omega
        · rw [if_neg c] at m2; omega
      have ix : ((f + 1) % 6 + 5 - j) % 6 = (f + 5 - (j - 1)) % 6 := by omega
      have nf : ¬ (f + 5 - (j - 1)) % 6 = f := by omega
      unfold RPj
      rw [ix]
      have e : ∀ i, i < 37 → b' (37 * (m + 1 - 1 - j) + i) = bf (37 * (h - 1 - (j - 1)) + i) := by
        intro i hi
        rw [m5 _ (by omega)]
        by_cases c : h = 6
        · rw [if_pos c]; rw [if_pos c] at m2; first | (congr 1; done) | (congr 1; omega)
        · rw [if_neg c]; rw [if_neg c] at m2; first | (congr 1; done) | (congr 1; omega)
      refine ⟨n', C', q1, ?_, ?_, ?_, ?_, fun r c a b x y => ?_⟩
      · rw [pk_un nf]; exact q2
      · dsimp only; rw [if_neg nf]; exact q3
      · dsimp only; rw [if_neg nf]; exact q4
      · have := e 0 (by omega); rw [Nat.add_zero, Nat.add_zero] at this; rw [this]; exact q5
      · have n6 := q1.n6
        dsimp only
        rw [Nat.add_assoc, e _ (by omega), ← Nat.add_assoc]
        exact q6 r c a b x y
theorem x2_giveBack {f h : Nat} (hf : f < 6) (h0 : 0 < h) (hh : h ≤ 6) (es sz : Int32) (ec cs : Nat → Int32) : S_X2_giveBack (ii f) (ii h) es ec sz cs = some (ii ((f + 5) % 6 : Nat), ii ((h - 1 : Nat) : Int), es, va_cpy ec cs 0 0 (49 : Int32).toNatClampNeg) := by
  simp (disch := omega) only [S_X2_giveBack, S_X3_copy, ii_0le, if_neg, ii_1, ii_6, ii_add, ii_sub, ii_rem, ck_in, Option.bind_some]
  refine congrArg some ?_
  refine Prod.ext ?_ (Prod.ext ?_ rfl)
  · dsimp only; first | (congr 1; done) | (congr 1; omega)
  · dsimp only; first | (congr 1; done) | (congr 1; omega)
theorem x6_undo {h : Nat} (h0 : 0 < h) (hh : h ≤ 6) (sz : Int32) (sn bf : Nat → Int32) : ∃ sn', S_X6_undo sz (ii h) sn bf = some (ii ((h - 1 : Nat) : Int), bf (37 * (h - 1)), ii ((h - 1 : Nat) : Int), sn') ∧ ∀ k, k < 36 → sn' k = bf (37 * (h - 1) + 1 + k) := by
  unfold S_X6_undo
  have e1 : (h : Int) - 1 = ((h - 1 : Nat) : Int) := by omega
  simp (disch := omega) only [ii_eq0, if_neg, ii_s1, ii_37, ii_mul, ck_in, ii_clamp]
  rw [e1]
  suffices g : ∃ r : Int32 × Int32 × Int32 × (Nat → Int32), _ = some r ∧ ∃ sn', r = (ii ((h - 1 : Nat) : Int), bf (37 * (h - 1)), ii ((h - 1 : Nat) : Int), sn') ∧ ∀ k, k < 36 → sn' k = bf (37 * (h - 1) + 1 + k) by
    obtain ⟨r, g1, sn', rfl, g2⟩ := g
    exact ⟨sn', g1, g2⟩
  refine itr_ex (fun (k : Nat) (s : Int32 × (Nat → Int32)) => s.1 = ii k ∧ ∀ j, j < k → s.2 j = bf (37 * (h - 1) + 1 + j)) _ 36 ⟨rfl, fun j h => absurd h (by omega)⟩ (by omega) ?_ ?_
  · rintro k ⟨s1, s2⟩ hk ⟨p1, p2⟩
    dsimp only at p1 p2 ⊢
    subst p1
    left
    simp (disch := omega) only [ii_36, ii_le, if_neg, ii_1, ii_add, ck_in, ii_clamp, Option.bind_some]
    refine ⟨_, rfl, rfl, fun j hj => ?_⟩
    dsimp only
    by_cases e : j = k
    · subst e
      rw [show (j : Int).toNat = j by omega, pk_us]
      first | (congr 1; done) | (congr 1; omega)
    · rw [pk_un (by omega)]; exact p2 j (by omega)
  · rintro ⟨s1, s2⟩ ⟨p1, p2⟩
    dsimp only at p1 p2 ⊢
    subst p1
    simp (disch := omega) only [ii_36, ii_le, if_pos]
    refine ⟨_, rfl, _, ?_, p2⟩
    refine Prod.ext rfl (Prod.ext ?_ rfl)
    dsimp only
    first | (congr 1; done) | (congr 1; omega)
theorem p_undo {n : Int} {C : Int → Int → Int} {cs sn : Nat → Int32} {free held um : Int32} {pS : Nat → Int32} {pC : Nat → Nat → Int32} {bf : Nat → Int32} (hC : CS n C) (hT : TC n C cs) (hZ : Z7 cs) (hM : TM n C sn) (hP : RP free held pS pC um bf) :
    ∃ (r fr' hd' : Int32) (n' : Int) (C' : Int → Int → Int) (cs' sn' : Nat → Int32), (∀ e : Nat, e = ((free + 6 - 1) - (free + 6 - 1) / 6 * 6).toNatClampNeg → S_X5_undo (ii n) cs free held (pS e) (pC e) = some (r, ii n', cs', fr', hd')) ∧ S_X6_undo (ii n) um sn bf = some (r, ii n', hd', sn') ∧ CS n' C' ∧ TC n' C' cs' ∧ Z7 cs' ∧ TM n' C' sn' ∧ RP fr' hd' pS pC hd' bf := by
  have hP0 := hP
  obtain ⟨f, h, hf, hh, rfl, rfl, rfl, hj⟩ := hP
  by_cases c : h = 0
  · subst c
    refine ⟨-2, ii f, ii ((0 : Nat) : Int), n, C, cs, sn, fun e _ => ?_, ?_, hC, hT, hZ, hM, hP0⟩
    · unfold S_X5_undo; rw [if_pos (show ii ((0 : Nat) : Int) = (0 : Int32) from rfl)]
    · unfold S_X6_undo; rw [if_pos (show ii ((0 : Nat) : Int) = (0 : Int32) from rfl)]
  · obtain ⟨n', C', q1, q2, q3, q4, q5, q6⟩ := hj 0 (by omega)
    obtain ⟨sn', u1, u2⟩ := x6_undo (by omega : 0 < h) hh (ii n) sn bf
    rw [show h - 1 - 0 = h - 1 by omega] at q5 q6
    rw [q5] at u1
    refine ⟨_, ii ((f + 5) % 6 : Nat), _, n', C', va_cpy (pC ((f + 5) % 6)) cs 0 0 (49 : Int32).toNatClampNeg, sn', fun e he => ?_, u1, q1, ?_, ?_, ?_, ?_⟩
    · have e2 : e = (f + 5) % 6 := by
        rw [he, ii_6, ii_1, ii_add, ii_sub, ii_rem (by omega) (by omega) (by omega) (by omega), ii_clamp (by omega) (by omega)]
        omega
      subst e2
      unfold S_X5_undo
      rw [if_neg (by rw [ii_0, ii_eq (by omega) (by omega) (by omega) (by omega)]; omega), x2_giveBack hf (by omega) hh, Option.bind_some]
      rw [Nat.sub_zero] at q2
      rw [q2]
    · rw [Nat.sub_zero] at q3; exact q3.cpy q1.n6
    · rw [Nat.sub_zero] at q4; exact q4.cpy
    · exact q6.agree q1.n6 u2
    · refine ⟨(f + 5) % 6, h - 1, by omega, by omega, rfl, rfl, rfl, fun j hj2 => ?_⟩
      obtain ⟨n2, C2, x1, x2, x3, x4, x5, x6⟩ := hj (j + 1) (by omega)
      have ix : ((f + 5) % 6 + 5 - j) % 6 = (f + 5 - (j + 1)) % 6 := by omega
      unfold RPj
      rw [ix, show h - 1 - 1 - j = h - 1 - (j + 1) by omega]
      exact ⟨n2, C2, x1, x2, x3, x4, x5, x6⟩
