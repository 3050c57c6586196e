def GG (n : Int) (C : Int → Int → Int) : Int → Int → Int := FF n 1 (FF n 0 C)
def gc (N : Nat) (C : Int → Int → Int) : Int := fc N 0 C + fc N 1 (FF N 0 C)
theorem x3_gyrateOnce {N : Nat} {C : Int → Int → Int} {cs : Nat → Int32} (hC : CS N C) (h : TC N C cs) (hz : Z7 cs) : ∃ cs', S_X3_gyrateOnce (ii N) cs = some (ii (gc N C), cs') ∧ TC N (GG N C) cs' ∧ Z7 cs' ∧ CS N (GG N C) := by
  obtain ⟨c1, a1, a2, a3, a4⟩ := x3_flipAll hC h hz (col := 0) (Or.inl rfl)
  obtain ⟨c2, b1, b2, b3, b4⟩ := x3_flipAll a4 a2 a3 (col := 1) (Or.inr rfl)
  refine ⟨c2, ?_, b2, b3, b4⟩
  unfold S_X3_gyrateOnce
  rw [ii_0i] at a1
  rw [ii_1i] at b1
  rw [a1, Option.bind_some, b1, Option.bind_some, ii_add]
  rfl
theorem x6_gyrates {N : Nat} {C : Int → Int → Int} {sn : Nat → Int32} (hC : CS N C) (h : TM N C sn) : ∃ sn', S_X6_gyrates (ii N) sn = some (ii (gc N C), sn') ∧ TM N (GG N C) sn' := by
  have hn := hC.n6
  have h1 := hC.n1
  have one : ∀ (col : Int) (hc : col = 0 ∨ col = 1) (D : Int → Int → Int) (sm0 : Int) (s3 : Nat → Int32), CS N D → TM N D s3 → ∃ o : (Int32 × Int32 × (Nat → Int32)) ⊕ (Int32 × (Nat → Int32)), itr (fun (x2 : Int32 × Int32 × (Nat → Int32)) => if ii N ≤ x2.2.1 then some (.inr (.inl (x2.1, ii col + (1 : Int32), x2.2.2))) else itr (fun (x3 : Int32 × Int32 × (Nat → Int32)) => if ii N ≤ x3.2.1 then some (.inr (.inl (x3.1, x2.2.1 + (1 : Int32), x3.2.2))) else if ((x2.2.1 + x3.2.1) - (x2.2.1 + x3.2.1) / (2 : Int32) * (2 : Int32)) = ii col then (S_X6_flips x2.2.1 x3.2.1 x3.2.2).bind (fun (y50 : Int32 × (Nat → Int32)) => if y50.1 = 0 then some (.inl (x3.1 + (0 : Int32), x3.2.1 + (1 : Int32), y50.2)) else some (.inl (x3.1 + (1 : Int32), x3.2.1 + (1 : Int32), y50.2))) else some (.inl (x3.1 + (0 : Int32), x3.2.1 + (1 : Int32), x3.2.2))) 10000 (x2.1, (1 : Int32), x2.2.2)) 10000 (ii sm0, (1 : Int32), s3) = some o ∧ ∃ s', o = .inl s' ∧ s'.1 = ii (sm0 + fc N col D) ∧ s'.2.1 = ii (col + 1) ∧ TM N (FF N col D) s'.2.2 ∧ CS N (FF N col D) := by
    intro col hc D sm0 s3 hD hM
    refine itr_ex (fun (k : Nat) (s : Int32 × Int32 × (Nat → Int32)) => s.1 = ii (sm0 + sm k (fun a => sm (N - 1) (fun b => if gi N col D (1 + a) (1 + b) then 1 else 0))) ∧ s.2.1 = ii (1 + k) ∧ TM N (Fp N col D (1 + k) 1) s.2.2 ∧ CS N (Fp N col D (1 + k) 1)) _ (N - 1) ⟨?_, rfl, ?_, ?_⟩ (by omega) ?_ ?_
    · rw [sm, Int.add_zero]
    · show TM N (Fp N col D 1 1) s3
      rw [Fp_beg]; exact hM
    · show CS N (Fp N col D 1 1)
      rw [Fp_beg]; exact hD
    · rintro k ⟨s1, s2, s3⟩ hk ⟨p1, p2, p3, p5⟩
      dsimp only at p1 p2 p3 ⊢
      subst p1; subst p2
      left
      simp (disch := omega) only [ii_le, if_neg]
      suffices g : ∃ o : (Int32 × Int32 × (Nat → Int32)) ⊕ ((Int32 × Int32 × (Nat → Int32)) ⊕ (Int32 × (Nat → Int32))), _ = some o ∧ ∃ s', o = .inl s' ∧ (s'.1 = ii (sm0 + sm (k + 1) (fun a => sm (N - 1) (fun b => if gi N col D (1 + a) (1 + b) then 1 else 0))) ∧ s'.2.1 = ii (1 + ((k + 1 : Nat) : Int)) ∧ TM N (Fp N col D (1 + ((k + 1 : Nat) : Int)) 1) s'.2.2 ∧ CS N (Fp N col D (1 + ((k + 1 : Nat) : Int)) 1)) by
        obtain ⟨o, g1, s', rfl, g2⟩ := g
        exact ⟨s', g1, g2⟩
      refine itr_ex (fun (q : Nat) (s : Int32 × Int32 × (Nat → Int32)) => s.1 = ii (sm0 + sm k (fun a => sm (N - 1) (fun b => if gi N col D (1 + a) (1 + b) then 1 else 0)) + sm q (fun b => if gi N col D (1 + k) (1 + b) then 1 else 0)) ∧ s.2.1 = ii (1 + q) ∧ TM N (Fp N col D (1 + k) (1 + q)) s.2.2 ∧ CS N (Fp N col D (1 + k) (1 + q))) _ (N - 1) ⟨?_, rfl, p3, p5⟩ (by omega) ?_ ?_
      · rw [sm, Int.add_zero]
      · rintro q ⟨t1, t2, t3⟩ hq ⟨r1, r2, r3, r5⟩
        dsimp only at r1 r2 r3 ⊢
        subst r1; subst r2
        left
        obtain ⟨f1, f2⟩ := x6_flips r5 r3 (i := 1 + k) (j := 1 + q) (by omega) (by omega) (by omega) (by omega)
        simp (disch := omega) only [ii_le, if_neg, ii_add, ii_2, ii_rem, ii_eq]
        by_cases cp : (1 + (k : Int) + (1 + (q : Int))) % 2 = col
        · have kk := kd_r D (1 + k) (1 + q)
          rw [Fp_kd cp] at f1 f2
          rw [if_pos cp]
          by_cases ck : kd D (1 + k) (1 + q) = 0
          · have ng : ¬ gi N col D (1 + k) (1 + q) := fun z => z.2.2 ck
            rw [f1 ck, Option.bind_some, if_pos rfl]
            simp only [ii_0, ii_1, ii_add]
            refine ⟨_, rfl, ?_, ?_, ?_, ?_⟩
            · dsimp only; rw [sm, if_neg ng]; congr 1; omega
            · dsimp only; congr 1
            · dsimp only; rw [show (1 + ((q + 1 : Nat) : Int)) = 1 + q + 1 by push_cast; omega, Fp_no ng]; exact r3
            · rw [show (1 + ((q + 1 : Nat) : Int)) = 1 + q + 1 by push_cast; omega, Fp_no ng]; exact r5
          · have yg : gi N col D (1 + k) (1 + q) := ⟨by omega, cp, ck⟩
            have ck2 : ¬ kd (Fp N col D (1 + k) (1 + q)) (1 + k) (1 + q) = 0 := by rw [Fp_kd cp]; exact ck
            obtain ⟨sn', g1, g2⟩ := f2 ck
            rw [g1, Option.bind_some, if_neg n10]
            simp only [ii_1, ii_add]
            refine ⟨_, rfl, ?_, ?_, ?_, ?_⟩
            · dsimp only; rw [sm, if_pos yg]; congr 1; omega
            · dsimp only; congr 1
            · dsimp only; rw [show (1 + ((q + 1 : Nat) : Int)) = 1 + q + 1 by push_cast; omega, Fp_yes yg]
              exact g2
            · rw [show (1 + ((q + 1 : Nat) : Int)) = 1 + q + 1 by push_cast; omega, Fp_yes yg]
              exact r5.flp (by omega) (by omega) (by omega) (by omega) ck2
        · have ng : ¬ gi N col D (1 + k) (1 + q) := fun z => cp z.2.1
          rw [if_neg cp]
          simp only [ii_0, ii_1, ii_add]
          refine ⟨_, rfl, ?_, ?_, ?_, ?_⟩
          · dsimp only; rw [sm, if_neg ng]; congr 1; omega
          · dsimp only; congr 1
          · dsimp only; rw [show (1 + ((q + 1 : Nat) : Int)) = 1 + q + 1 by push_cast; omega, Fp_no ng]; exact r3
          · rw [show (1 + ((q + 1 : Nat) : Int)) = 1 + q + 1 by push_cast; omega, Fp_no ng]; exact r5
      · rintro ⟨t1, t2, t3⟩ ⟨r1, r2, r3, r5⟩
        dsimp only at r1 r2 r3 ⊢
        subst r1; subst r2
        simp (disch := omega) only [ii_le, if_pos, ii_a1]
        have e1 : (1 : Int) + ((N - 1 : Nat) : Int) = N := by omega
        have e2 : Fp N col D (1 + ((k + 1 : Nat) : Int)) 1 = Fp N col D (1 + k) N := by
          rw [show (1 + ((k + 1 : Nat) : Int)) = 1 + k + 1 by push_cast; omega, Fp_row]
        rw [e1] at r3 r5
        refine ⟨_, rfl, _, rfl, ?_, ?_, ?_, ?_⟩
        · dsimp only; congr 1; rw [Int.add_assoc]; rfl
        · dsimp only; congr 1
        · dsimp only; rw [e2]; exact r3
        · rw [e2]; exact r5
    · rintro ⟨s1, s2, s3⟩ ⟨p1, p2, p3, p5⟩
      dsimp only at p1 p2 p3 ⊢
      subst p1; subst p2
      have e1 : (1 : Int) + ((N - 1 : Nat) : Int) = N := by omega
      rw [e1, Fp_end h1] at p3 p5
      simp (disch := omega) only [ii_le, if_pos, ii_a1]
      exact ⟨_, rfl, _, rfl, rfl, rfl, p3, p5⟩
  obtain ⟨o1, a1, ⟨u1, u2, u3⟩, rfl, a2, a3, a4, a5⟩ := one 0 (Or.inl rfl) C 0 sn hC h
  dsimp only at a2 a3 a4
  subst a2; subst a3
  obtain ⟨o2, b1, ⟨v1, v2, v3⟩, rfl, b2, b3, b4, b5⟩ := one 1 (Or.inr rfl) (FF N 0 C) (0 + fc N 0 C) u3 a5 a4
  dsimp only at b2 b3 b4
  subst b2; subst b3
  refine ⟨v3, ?_, b4⟩
  unfold S_X6_gyrates
  rw [show (10000 : Nat) = 9999 + 1 from rfl, itr_succ (s' := (ii (0 + fc N 0 C), ii (0 + 1), u3)) (by dsimp only; rw [if_neg (by decide)]; exact a1), show (9999 : Nat) = 9998 + 1 from rfl, itr_succ (s' := (ii (0 + fc N 0 C + fc N 1 (FF N 0 C)), ii (1 + 1), v3)) (by dsimp only; rw [if_neg (by decide)]; exact b1), show (9998 : Nat) = 9997 + 1 from rfl, itr_end (r := (ii (0 + fc N 0 C + fc N 1 (FF N 0 C)), v3)) (by dsimp only; rw [if_pos (by decide)])]
  unfold gc
  rw [Int.zero_add]
