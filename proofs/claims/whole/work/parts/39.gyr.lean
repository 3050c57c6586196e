/-! all of one colour flipped -/
abbrev gi (n col : Int) (C : Int → Int → Int) (a b : Int) : Prop := (1 ≤ a ∧ a < n ∧ 1 ≤ b ∧ b < n) ∧ (a + b) % 2 = col ∧ ¬ kd C a b = 0
def FF (n col : Int) (C : Int → Int → Int) : Int → Int → Int := fun a b => if gi n col C a b then C a b + dl C a b else C a b
def Fp (n col : Int) (C : Int → Int → Int) (i j : Int) : Int → Int → Int := fun a b => if gi n col C a b ∧ (a < i ∨ (a = i ∧ b < j)) then C a b + dl C a b else C a b
theorem kd_congr {C D : Int → Int → Int} {a b : Int} (e1 : C (a + 1) b = D (a + 1) b) (e2 : C (a - 1) b = D (a - 1) b) (e3 : C a (b - 1) = D a (b - 1)) (e4 : C a (b + 1) = D a (b + 1)) (e5 : C a b = D a b) : kd C a b = kd D a b := by
  unfold kd hh
  rw [e1, e2, e3, e4, e5]
theorem Fp_kd {n col : Int} {C : Int → Int → Int} {i j : Int} (hp : (i + j) % 2 = col) : kd (Fp n col C i j) i j = kd C i j := by
  refine kd_congr ?_ ?_ ?_ ?_ ?_
  · exact if_neg (fun q => by obtain ⟨⟨-, p, -⟩, -⟩ := q; omega)
  · exact if_neg (fun q => by obtain ⟨⟨-, p, -⟩, -⟩ := q; omega)
  · exact if_neg (fun q => by obtain ⟨⟨-, p, -⟩, -⟩ := q; omega)
  · exact if_neg (fun q => by obtain ⟨⟨-, p, -⟩, -⟩ := q; omega)
  · exact if_neg (fun q => by obtain ⟨-, q⟩ := q; omega)
theorem Fp_at {n col : Int} {C : Int → Int → Int} {i j : Int} : Fp n col C i j i j = C i j := if_neg (fun q => by obtain ⟨-, q⟩ := q; omega)
/-- a place that is not flipped -/
theorem Fp_no {n col : Int} {C : Int → Int → Int} {i j : Int} (h : ¬ gi n col C i j) : Fp n col C i (j + 1) = Fp n col C i j := by
  funext a b
  unfold Fp
  by_cases e : a = i ∧ b = j
  · obtain ⟨rfl, rfl⟩ := e
    rw [if_neg (fun q => h q.1), if_neg (fun q => h q.1)]
  · by_cases c : gi n col C a b ∧ (a < i ∨ (a = i ∧ b < j))
    · rw [if_pos c, if_pos ⟨c.1, by omega⟩]
    · rw [if_neg c, if_neg (fun q => c ⟨q.1, by have := q.2; omega⟩)]
theorem Fp_yes {n col : Int} {C : Int → Int → Int} {i j : Int} (h : gi n col C i j) : Fp n col C i (j + 1) = fl (Fp n col C i j) i j := by
  have e0 := Fp_kd (n := n) (C := C) h.2.1
  funext a b
  unfold fl dl
  rw [e0]
  by_cases e : a = i ∧ b = j
  · obtain ⟨rfl, rfl⟩ := e
    rw [up2_s, Fp_at]
    unfold Fp dl
    rw [if_pos ⟨h, by omega⟩]
  · rw [up2_n _ _ _ _ e]
    unfold Fp
    by_cases c : gi n col C a b ∧ (a < i ∨ (a = i ∧ b < j))
    · rw [if_pos c, if_pos ⟨c.1, by omega⟩]
    · rw [if_neg c, if_neg (fun q => c ⟨q.1, by have := q.2; omega⟩)]
theorem Fp_row {n col : Int} {C : Int → Int → Int} {i : Int} : Fp n col C (i + 1) 1 = Fp n col C i n := by
  funext a b
  unfold Fp
  by_cases c : gi n col C a b ∧ (a < i ∨ (a = i ∧ b < n))
  · rw [if_pos c, if_pos ⟨c.1, by have := c.2; omega⟩]
  · rw [if_neg c, if_neg (fun q => c ⟨q.1, by have := q.2; have := q.1.1; omega⟩)]
theorem Fp_beg {n col : Int} {C : Int → Int → Int} : Fp n col C 1 1 = C := by
  funext a b
  unfold Fp
  rw [if_neg (fun q => by have := q.2; have := q.1.1; omega)]
theorem Fp_end {n col : Int} {C : Int → Int → Int} (hn : 1 ≤ n) : Fp n col C n 1 = FF n col C := by
  funext a b
  unfold Fp FF
  by_cases c : gi n col C a b
  · rw [if_pos c, if_pos ⟨c, by have := c.1; omega⟩]
  · rw [if_neg c, if_neg (fun q => c q.1)]
/-- how many are flipped -/
def fc (n : Nat) (col : Int) (C : Int → Int → Int) : Int := sm (n - 1) (fun a => sm (n - 1) (fun b => if gi n col C (1 + a) (1 + b) then 1 else 0))
theorem ii3 {ρ : Type} {a a' b b' : Int} {f : Nat → Int32} (h1 : a = a') (h2 : b = b') : (some (.inl (ii a, ii b, f)) : Option ((Int32 × Int32 × (Nat → Int32)) ⊕ ρ)) = some (.inl (ii a', ii b', f)) := by rw [h1, h2]
theorem x3_flipAll {N : Nat} {C : Int → Int → Int} {cs : Nat → Int32} (hC : CS N C) (h : TC N C cs) (hz : Z7 cs) {col : Int} (hc : col = 0 ∨ col = 1) : ∃ cs', S_X3_flipAll (ii col) (ii N) cs = some (ii (fc N col C), cs') ∧ TC N (FF N col C) cs' ∧ Z7 cs' ∧ CS N (FF N col C) := by
  have hn := hC.n6
  have h1 := hC.n1
  unfold S_X3_flipAll
  suffices g : ∃ r : Int32 × (Nat → Int32), _ = some r ∧ r.1 = ii (fc N col C) ∧ TC N (FF N col C) r.2 ∧ Z7 r.2 ∧ CS N (FF N col C) by
    obtain ⟨⟨r1, r2⟩, g1, g2, g3⟩ := g
    dsimp only at g2
    rw [g2] at g1
    exact ⟨r2, g1, g3⟩
  refine itr_ex (fun (k : Nat) (s : Int32 × Int32 × (Nat → Int32)) => s.1 = ii (sm k (fun a => sm (N - 1) (fun b => if gi N col C (1 + a) (1 + b) then 1 else 0))) ∧ s.2.1 = ii (1 + k) ∧ TC N (Fp N col C (1 + k) 1) s.2.2 ∧ Z7 s.2.2 ∧ CS N (Fp N col C (1 + k) 1)) _ (N - 1) ⟨rfl, rfl, ?_, hz, ?_⟩ (by omega) ?_ ?_
  · show TC N (Fp N col C 1 1) cs
    rw [Fp_beg]; exact h
  · show CS N (Fp N col C 1 1)
    rw [Fp_beg]; exact hC
  · rintro k ⟨s1, s2, s3⟩ hk ⟨p1, p2, p3, p4, p5⟩
    dsimp only at p1 p2 p3 p4 ⊢
    subst p1; subst p2
    left
    simp (disch := omega) only [ii_le, if_neg]
    suffices g : ∃ o : (Int32 × Int32 × (Nat → Int32)) ⊕ (Int32 × (Nat → Int32)), _ = some o ∧ ∃ s', o = .inl s' ∧ (s'.1 = ii (sm (k + 1) (fun a => sm (N - 1) (fun b => if gi N col C (1 + a) (1 + b) then 1 else 0))) ∧ s'.2.1 = ii (1 + ((k + 1 : Nat) : Int)) ∧ TC N (Fp N col C (1 + ((k + 1 : Nat) : Int)) 1) s'.2.2 ∧ Z7 s'.2.2 ∧ CS N (Fp N col C (1 + ((k + 1 : Nat) : Int)) 1)) by
      obtain ⟨o, g1, s', rfl, g2⟩ := g
      exact ⟨s', g1, g2⟩
    refine itr_ex (fun (q : Nat) (s : Int32 × Int32 × (Nat → Int32)) => s.1 = ii (sm k (fun a => sm (N - 1) (fun b => if gi N col C (1 + a) (1 + b) then 1 else 0)) + sm q (fun b => if gi N col C (1 + k) (1 + b) then 1 else 0)) ∧ s.2.1 = ii (1 + q) ∧ TC N (Fp N col C (1 + k) (1 + q)) s.2.2 ∧ Z7 s.2.2 ∧ CS N (Fp N col C (1 + k) (1 + q))) _ (N - 1) ⟨?_, rfl, p3, p4, p5⟩ (by omega) ?_ ?_
    · rw [sm, Int.add_zero]
    · rintro q ⟨t1, t2, t3⟩ hq ⟨r1, r2, r3, r4, r5⟩
      dsimp only at r1 r2 r3 r4 ⊢
      subst r1; subst r2
      left
      simp (disch := omega) only [ii_le, if_neg, ii_add, ii_2, ii_rem, ii_eq, ii_1]
      have ek : ∀ z : Int, 1 + (q : Int) + 1 = z → ii (1 + (q : Int) + 1) = ii z := fun z e => by rw [e]
      by_cases cp : (1 + (k : Int) + (1 + (q : Int))) % 2 = col
      · have kk := kd_r C (1 + k) (1 + q)
        rw [if_pos cp, x3_flipKind r5 r3 (by omega) (by omega) (by omega) (by omega), Option.bind_some, Fp_kd cp]
        simp (disch := omega) only [ii_eq0]
        by_cases ck : kd C (1 + k) (1 + q) = 0
        · have ng : ¬ gi N col C (1 + k) (1 + q) := fun z => z.2.2 ck
          rw [if_pos ck]
          refine ⟨_, rfl, ?_, ?_, ?_, r4, ?_⟩
          · dsimp only; rw [sm, if_neg ng]; congr 1; omega
          · dsimp only; congr 1
          · dsimp only; rw [show (1 + ((q + 1 : Nat) : Int)) = 1 + q + 1 by push_cast; omega, Fp_no ng]; exact r3
          · rw [show (1 + ((q + 1 : Nat) : Int)) = 1 + q + 1 by push_cast; omega, Fp_no ng]; exact r5
        · have yg : gi N col C (1 + k) (1 + q) := ⟨by omega, cp, ck⟩
          have ck2 : ¬ kd (Fp N col C (1 + k) (1 + q)) (1 + k) (1 + q) = 0 := by rw [Fp_kd cp]; exact ck
          rw [if_neg ck, x3_flipAt r5 r3 (by omega) (by omega) (by omega) (by omega), Option.bind_some]
          refine ⟨_, rfl, ?_, ?_, ?_, ?_, ?_⟩
          · dsimp only; rw [sm, if_pos yg]; congr 1; omega
          · dsimp only; congr 1
          · dsimp only; rw [show (1 + ((q + 1 : Nat) : Int)) = 1 + q + 1 by push_cast; omega, Fp_yes yg]
            exact r3.upd hn (by omega) (by omega) (by omega) (by omega)
          · exact r4.upd _ (by omega) (by omega) (by omega) (by omega)
          · rw [show (1 + ((q + 1 : Nat) : Int)) = 1 + q + 1 by push_cast; omega, Fp_yes yg]
            exact r5.flp (by omega) (by omega) (by omega) (by omega) ck2
      · have ng : ¬ gi N col C (1 + k) (1 + q) := fun z => cp z.2.1
        rw [if_neg cp]
        refine ⟨_, rfl, ?_, ?_, ?_, r4, ?_⟩
        · dsimp only; rw [sm, if_neg ng]; congr 1; omega
        · dsimp only; congr 1
        · dsimp only; rw [show (1 + ((q + 1 : Nat) : Int)) = 1 + q + 1 by push_cast; omega, Fp_no ng]; exact r3
        · rw [show (1 + ((q + 1 : Nat) : Int)) = 1 + q + 1 by push_cast; omega, Fp_no ng]; exact r5
    · rintro ⟨t1, t2, t3⟩ ⟨r1, r2, r3, r4, r5⟩
      dsimp only at r1 r2 r3 r4 ⊢
      subst r1; subst r2
      simp (disch := omega) only [ii_le, if_pos, ii_a1]
      have e1 : (1 : Int) + ((N - 1 : Nat) : Int) = N := by omega
      have e2 : Fp N col C (1 + ((k + 1 : Nat) : Int)) 1 = Fp N col C (1 + k) N := by
        rw [show (1 + ((k + 1 : Nat) : Int)) = 1 + k + 1 by push_cast; omega, Fp_row]
      rw [e1] at r3 r5
      refine ⟨_, rfl, _, rfl, rfl, ?_, ?_, r4, ?_⟩
      · dsimp only; congr 1
      · dsimp only; rw [e2]; exact r3
      · rw [e2]; exact r5
  · rintro ⟨s1, s2, s3⟩ ⟨p1, p2, p3, p4, p5⟩
    dsimp only at p1 p2 p3 p4 ⊢
    subst p1; subst p2
    have e1 : (1 : Int) + ((N - 1 : Nat) : Int) = N := by omega
    rw [e1, Fp_end h1] at p3 p5
    simp (disch := omega) only [ii_le, if_pos]
    exact ⟨_, rfl, rfl, p3, p4, p5⟩
