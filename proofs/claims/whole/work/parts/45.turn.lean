/-! turned, mirrored -/
def tn (n k : Int) (C : Int → Int → Int) : Int → Int → Int := fun i j =>
  if k = 1 then i - C (n - j) i else if k = 2 then i + j - n + C (n - i) (n - j) else if k = 3 then j - C j (n - i) else if k = 4 then i - C i (n - j) else if k = 5 then j - C (n - i) j else C j i
/-- the place from which a sign comes -/
def tr (n k r c : Int) : Int := if k = 1 then n - 1 - c else if k = 2 then n - 1 - r else if k = 3 then c else if k = 4 then r else if k = 5 then n - 1 - r else c
def tc (n k r c : Int) : Int := if k = 1 then r else if k = 2 then n - 1 - c else if k = 3 then n - 1 - r else if k = 4 then n - 1 - c else if k = 5 then c else r
theorem k6 {k : Int} (h1 : 1 ≤ k) (h2 : k ≤ 6) : k = 1 ∨ k = 2 ∨ k = 3 ∨ k = 4 ∨ k = 5 ∨ k = 6 := by omega
theorem tr_b {n k r c : Int} (h1 : 0 ≤ r) (h2 : r < n) (h3 : 0 ≤ c) (h4 : c < n) : (0 ≤ tr n k r c ∧ tr n k r c < n) ∧ 0 ≤ tc n k r c ∧ tc n k r c < n := by
  unfold tr tc
  by_cases c1 : k = 1
  · simp only [if_pos c1]; omega
  · by_cases c2 : k = 2
    · simp only [if_neg c1, if_pos c2]; omega
    · by_cases c3 : k = 3
      · simp only [if_neg c1, if_neg c2, if_pos c3]; omega
      · by_cases c4 : k = 4
        · simp only [if_neg c1, if_neg c2, if_neg c3, if_pos c4]; omega
        · by_cases c5 : k = 5
          · simp only [if_neg c1, if_neg c2, if_neg c3, if_neg c4, if_pos c5]; omega
          · simp only [if_neg c1, if_neg c2, if_neg c3, if_neg c4, if_neg c5]; omega
theorem sg_tn {n k : Int} (C : Int → Int → Int) {r c : Int} (h1 : 1 ≤ k) (h2 : k ≤ 6) : sg (tn n k C) r c = sg C (tr n k r c) (tc n k r c) := by
  unfold sg tn tr tc
  rcases k6 h1 h2 with rfl | rfl | rfl | rfl | rfl | rfl
  · simp only [↓reduceIte]
    rw [show n - 1 - c + 1 = n - c by omega, show n - (c + 1) = n - 1 - c by omega]; omega
  · simp only [show ¬ (2 : Int) = 1 by decide, ↓reduceIte]
    rw [show n - 1 - c + 1 = n - c by omega, show n - 1 - r + 1 = n - r by omega, show n - (c + 1) = n - 1 - c by omega, show n - (r + 1) = n - 1 - r by omega]; omega
  · simp only [show ¬ (3 : Int) = 1 by decide, show ¬ (3 : Int) = 2 by decide, ↓reduceIte]
    rw [show n - 1 - r + 1 = n - r by omega, show n - (r + 1) = n - 1 - r by omega]; omega
  · simp only [show ¬ (4 : Int) = 1 by decide, show ¬ (4 : Int) = 2 by decide, show ¬ (4 : Int) = 3 by decide, ↓reduceIte]
    rw [show n - 1 - c + 1 = n - c by omega, show n - (c + 1) = n - 1 - c by omega]; omega
  · simp only [show ¬ (5 : Int) = 1 by decide, show ¬ (5 : Int) = 2 by decide, show ¬ (5 : Int) = 3 by decide, show ¬ (5 : Int) = 4 by decide, ↓reduceIte]
    rw [show n - 1 - r + 1 = n - r by omega, show n - (r + 1) = n - 1 - r by omega]; omega
  · simp only [show ¬ (6 : Int) = 1 by decide, show ¬ (6 : Int) = 2 by decide, show ¬ (6 : Int) = 3 by decide, show ¬ (6 : Int) = 4 by decide, show ¬ (6 : Int) = 5 by decide, ↓reduceIte]
    omega
theorem m21 : ¬ (2 : Int) = 1 := by decide
theorem m31 : ¬ (3 : Int) = 1 := by decide
theorem m32 : ¬ (3 : Int) = 2 := by decide
theorem m41 : ¬ (4 : Int) = 1 := by decide
theorem m42 : ¬ (4 : Int) = 2 := by decide
theorem m43 : ¬ (4 : Int) = 3 := by decide
theorem m51 : ¬ (5 : Int) = 1 := by decide
theorem m52 : ¬ (5 : Int) = 2 := by decide
theorem m53 : ¬ (5 : Int) = 3 := by decide
theorem m54 : ¬ (5 : Int) = 4 := by decide
theorem m61 : ¬ (6 : Int) = 1 := by decide
theorem m62 : ¬ (6 : Int) = 2 := by decide
theorem m63 : ¬ (6 : Int) = 3 := by decide
theorem m64 : ¬ (6 : Int) = 4 := by decide
theorem m65 : ¬ (6 : Int) = 5 := by decide
theorem CS.of {n : Int} {C : Int → Int → Int} (hn : 1 ≤ n ∧ n ≤ 6) (a : ∀ j, 0 ≤ j → j ≤ n → C 0 j = 0) (b : ∀ i, 0 ≤ i → i ≤ n → C i 0 = 0) (c : ∀ j, 0 ≤ j → j ≤ n → C n j = j) (d : ∀ i, 0 ≤ i → i ≤ n → C i n = i) (f : ∀ i j, 0 ≤ i → i < n → 0 ≤ j → j ≤ n → 0 ≤ C (i + 1) j - C i j ∧ C (i + 1) j - C i j ≤ 1) (g : ∀ i j, 0 ≤ i → i ≤ n → 0 ≤ j → j < n → 0 ≤ C i (j + 1) - C i j ∧ C i (j + 1) - C i j ≤ 1) : CS n C := ⟨hn, a, b, c, d, f, g⟩
theorem CS.tnp {n k : Int} {C : Int → Int → Int} (hC : CS n C) (h1 : 1 ≤ k) (h2 : k ≤ 6) : CS n (tn n k C) := by
  rcases k6 h1 h2 with rfl | rfl | rfl | rfl | rfl | rfl
  · have e : ∀ i j, tn n 1 C i j = i - C (n - j) i := fun i j => by unfold tn; simp only [↓reduceIte]
    refine CS.of hC.1 (fun j a b => ?_) (fun i a b => ?_) (fun j a b => ?_) (fun i a b => ?_) (fun i j a b c d => ?_) (fun i j a b c d => ?_)
    · rw [e, hC.left (by omega) (by omega)]; omega
    · rw [e, Int.sub_zero, hC.bot a b]; omega
    · rw [e, hC.right (by omega) (by omega)]; omega
    · rw [e, show n - n = 0 by omega, hC.top a b]; omega
    · have q := hC.col (i := n - j) (j := i + 1) (by omega) (by omega) (by omega) (by omega)
      rw [show i + 1 - 1 = i by omega] at q
      rw [e, e]; omega
    · have q := hC.row (i := n - j) (j := i) (by omega) (by omega) (by omega) (by omega)
      rw [e, e, show n - (j + 1) = n - j - 1 by omega]; omega
  · have e : ∀ i j, tn n 2 C i j = i + j - n + C (n - i) (n - j) := fun i j => by unfold tn; simp only [m21, ↓reduceIte]
    refine CS.of hC.1 (fun j a b => ?_) (fun i a b => ?_) (fun j a b => ?_) (fun i a b => ?_) (fun i j a b c d => ?_) (fun i j a b c d => ?_)
    · rw [e, Int.sub_zero, hC.bot (by omega) (by omega)]; omega
    · rw [e, Int.sub_zero, hC.right (by omega) (by omega)]; omega
    · rw [e, show n - n = 0 by omega, hC.top (by omega) (by omega)]; omega
    · rw [e, show n - n = 0 by omega, hC.left (by omega) (by omega)]; omega
    · have q := hC.row (i := n - i) (j := n - j) (by omega) (by omega) (by omega) (by omega)
      rw [e, e, show n - (i + 1) = n - i - 1 by omega]; omega
    · have q := hC.col (i := n - i) (j := n - j) (by omega) (by omega) (by omega) (by omega)
      rw [e, e, show n - (j + 1) = n - j - 1 by omega]; omega
  · have e : ∀ i j, tn n 3 C i j = j - C j (n - i) := fun i j => by unfold tn; simp only [m31, m32, ↓reduceIte]
    refine CS.of hC.1 (fun j a b => ?_) (fun i a b => ?_) (fun j a b => ?_) (fun i a b => ?_) (fun i j a b c d => ?_) (fun i j a b c d => ?_)
    · rw [e, Int.sub_zero, hC.right a b]; omega
    · rw [e, hC.top (by omega) (by omega)]; omega
    · rw [e, show n - n = 0 by omega, hC.left a b]; omega
    · rw [e, hC.bot (by omega) (by omega)]; omega
    · have q := hC.col (i := j) (j := n - i) (by omega) (by omega) (by omega) (by omega)
      rw [e, e, show n - (i + 1) = n - i - 1 by omega]; omega
    · have q := hC.row (i := j + 1) (j := n - i) (by omega) (by omega) (by omega) (by omega)
      rw [show j + 1 - 1 = j by omega] at q
      rw [e, e]; omega
  · have e : ∀ i j, tn n 4 C i j = i - C i (n - j) := fun i j => by unfold tn; simp only [m41, m42, m43, ↓reduceIte]
    refine CS.of hC.1 (fun j a b => ?_) (fun i a b => ?_) (fun j a b => ?_) (fun i a b => ?_) (fun i j a b c d => ?_) (fun i j a b c d => ?_)
    · rw [e, hC.top (by omega) (by omega)]; omega
    · rw [e, Int.sub_zero, hC.right a b]; omega
    · rw [e, hC.bot (by omega) (by omega)]; omega
    · rw [e, show n - n = 0 by omega, hC.left a b]; omega
    · have q := hC.row (i := i + 1) (j := n - j) (by omega) (by omega) (by omega) (by omega)
      rw [show i + 1 - 1 = i by omega] at q
      rw [e, e]; omega
    · have q := hC.col (i := i) (j := n - j) (by omega) (by omega) (by omega) (by omega)
      rw [e, e, show n - (j + 1) = n - j - 1 by omega]; omega
  · have e : ∀ i j, tn n 5 C i j = j - C (n - i) j := fun i j => by unfold tn; simp only [m51, m52, m53, m54, ↓reduceIte]
    refine CS.of hC.1 (fun j a b => ?_) (fun i a b => ?_) (fun j a b => ?_) (fun i a b => ?_) (fun i j a b c d => ?_) (fun i j a b c d => ?_)
    · rw [e, Int.sub_zero, hC.bot a b]; omega
    · rw [e, hC.left (by omega) (by omega)]; omega
    · rw [e, show n - n = 0 by omega, hC.top a b]; omega
    · rw [e, hC.right (by omega) (by omega)]; omega
    · have q := hC.row (i := n - i) (j := j) (by omega) (by omega) (by omega) (by omega)
      rw [e, e, show n - (i + 1) = n - i - 1 by omega]; omega
    · have q := hC.col (i := n - i) (j := j + 1) (by omega) (by omega) (by omega) (by omega)
      rw [show j + 1 - 1 = j by omega] at q
      rw [e, e]; omega
  · have e : ∀ i j, tn n 6 C i j = C j i := fun i j => by unfold tn; simp only [m61, m62, m63, m64, m65, ↓reduceIte]
    refine CS.of hC.1 (fun j a b => ?_) (fun i a b => ?_) (fun j a b => ?_) (fun i a b => ?_) (fun i j a b c d => ?_) (fun i j a b c d => ?_)
    · rw [e]; exact hC.left a b
    · rw [e]; exact hC.top a b
    · rw [e]; exact hC.right a b
    · rw [e]; exact hC.bot a b
    · have q := hC.col (i := j) (j := i + 1) (by omega) (by omega) (by omega) (by omega)
      rw [show i + 1 - 1 = i by omega] at q
      rw [e, e]; omega
    · have q := hC.row (i := j + 1) (j := i) (by omega) (by omega) (by omega) (by omega)
      rw [show j + 1 - 1 = j by omega] at q
      rw [e, e]; omega
theorem ii_i1 : ii 1 = (1 : Int32) := rfl
theorem x3_turnedSign {n k : Int} {C : Int → Int → Int} {cs : Nat → Int32} (hC : CS n C) (h : TC n C cs) (k1 : 1 ≤ k) (k2 : k ≤ 6) {r c : Int} (h1 : 0 ≤ r) (h2 : r < n) (h3 : 0 ≤ c) (h4 : c < n) : S_X3_turnedSign (ii k) (ii r) (ii c) (ii n) cs = some (ii (sg C (tr n k r c) (tc n k r c))) := by
  have hn := hC.n6
  unfold S_X3_turnedSign tr tc
  rcases k6 k1 k2 with rfl | rfl | rfl | rfl | rfl | rfl
  · rw [if_pos (by decide)]
    simp (disch := omega) only [ii_s1, ii_sub, x3_signAt hn h, Option.bind_some, ↓reduceIte]
  · rw [if_neg (by decide), if_pos (by decide)]
    simp (disch := omega) only [ii_s1, ii_sub, x3_signAt hn h, Option.bind_some, m21, ↓reduceIte]
  · rw [if_neg (by decide), if_neg (by decide), if_pos (by decide)]
    simp (disch := omega) only [ii_s1, ii_sub, x3_signAt hn h, Option.bind_some, m31, m32, ↓reduceIte]
  · rw [if_neg (by decide), if_neg (by decide), if_neg (by decide), if_pos (by decide)]
    simp (disch := omega) only [ii_s1, ii_sub, x3_signAt hn h, Option.bind_some, m41, m42, m43, ↓reduceIte]
  · rw [if_neg (by decide), if_neg (by decide), if_neg (by decide), if_neg (by decide), if_pos (by decide)]
    simp (disch := omega) only [ii_s1, ii_sub, x3_signAt hn h, Option.bind_some, m51, m52, m53, m54, ↓reduceIte]
  · rw [if_neg (by decide), if_neg (by decide), if_neg (by decide), if_neg (by decide), if_neg (by decide)]
    simp (disch := omega) only [ii_s1, ii_sub, x3_signAt hn h, Option.bind_some, m61, m62, m63, m64, m65, ↓reduceIte]
theorem x3_putTurned {N : Nat} {k : Int} {C : Int → Int → Int} {cs fc : Nat → Int32} (hC : CS N C) (h : TC N C fc) (hz : Z7 cs) (k1 : 1 ≤ k) (k2 : k ≤ 6) : ∃ cs', S_X3_putTurned (ii k) (ii N) cs (ii N) fc = some cs' ∧ TC N (tn N k C) cs' ∧ Z7 cs' := by
  have hn := hC.n6
  have h1 := hC.n1
  have hD := hC.tnp k1 k2
  unfold S_X3_putTurned
  refine itr_ex (fun (p : Nat) (s : Int32 × (Nat → Int32)) => s.1 = ii p ∧ (∀ a b : Int, 0 ≤ a → a ≤ p → 0 ≤ b → b ≤ N → s.2 (a * 7 + b).toNat = ii (tn N k C a b)) ∧ Z7 s.2) _ N ⟨rfl, fun a b a1 a2 b1 b2 => ?_, hz⟩ (by omega) ?_ ?_
  · have : a = 0 := by omega
    subst this
    dsimp only
    rw [hD.top b1 b2, show (0 * 7 + b) = b by omega]; exact hz.1 b b1 (by omega)
  · rintro p ⟨s1, s2⟩ hp ⟨q1, q2, q3⟩
    dsimp only at q1 q2 q3 ⊢
    subst q1
    left
    simp (disch := omega) only [ii_le, if_neg]
    suffices g : ∃ o : (Int32 × (Nat → Int32)) ⊕ (Nat → Int32), _ = some o ∧ ∃ s', o = .inl s' ∧ (s'.1 = ii ((p + 1 : Nat) : Int) ∧ (∀ a b : Int, 0 ≤ a → a ≤ ((p + 1 : Nat) : Int) → 0 ≤ b → b ≤ N → s'.2 (a * 7 + b).toNat = ii (tn N k C a b)) ∧ Z7 s'.2) by
      obtain ⟨o, g1, s', rfl, g2⟩ := g
      exact ⟨s', g1, g2⟩
    refine itr_ex (fun (q : Nat) (s : Int32 × Int32 × (Nat → Int32)) => s.1 = ii (tn N k C (p + 1) q - tn N k C p q) ∧ s.2.1 = ii q ∧ (∀ a b : Int, 0 ≤ a → a ≤ p → 0 ≤ b → b ≤ N → s.2.2 (a * 7 + b).toNat = ii (tn N k C a b)) ∧ (∀ b : Int, 0 ≤ b → b ≤ q → s.2.2 ((p + 1) * 7 + b).toNat = ii (tn N k C (p + 1) b)) ∧ Z7 s.2.2) _ N ⟨?_, rfl, q2, fun b b1 b2 => ?_, q3⟩ (by omega) ?_ ?_
    · dsimp only
      have e1 := hD.left (i := (p : Int) + 1) (by omega) (by omega)
      have e2 := hD.left (i := (p : Int)) (by omega) (by omega)
      show (0 : Int32) = ii (tn N k C (p + 1) 0 - tn N k C p 0)
      rw [e1, e2]; rfl
    · have : b = 0 := by omega
      subst this
      dsimp only
      rw [hD.left (by omega) (by omega), Int.add_zero]; exact q3.2 _ (by omega) (by omega)
    · rintro q ⟨t1, t2, t3⟩ hq ⟨r1, r2, r3, r4, r5⟩
      dsimp only at r1 r2 r3 r4 r5 ⊢
      subst r1; subst r2
      left
      have es := sg_tn (n := N) C (r := p) (c := q) k1 k2
      simp (disch := omega) only [ii_le, if_neg]
      rw [x3_turnedSign hC h k1 k2 (by omega) (by omega) (by omega) (by omega), Option.bind_some, ii_a1, x3_corner0 (by omega) (by omega) (by omega) (by omega), Option.bind_some, r3 _ _ (by omega) (by omega) (by omega) (by omega), ii_add, ii_add, ii_a1, x3_putCorner _ (by omega) (by omega) (by omega) (by omega), Option.bind_some, ← es]
      have ev : tn N k C p (q + 1) + (tn N k C (p + 1) q - tn N k C p q + sg (tn N k C) p q) = tn N k C (p + 1) (q + 1) := by unfold sg; omega
      rw [ev]
      refine ⟨_, rfl, ?_, ?_, fun a b a1 a2 b1 b2 => ?_, fun b b1 b2 => ?_, r5.upd _ (by omega) (by omega) (by omega) (by omega)⟩
      · dsimp only; congr 1; unfold sg; push_cast; omega
      · dsimp only; first | (congr 1; done) | (congr 1; omega)
      · dsimp only; rw [pk_un (by omega)]; exact r3 a b a1 a2 b1 b2
      · dsimp only
        by_cases z : b = q + 1
        · subst z; rw [pk_us]
        · rw [pk_un (by omega)]; exact r4 b b1 (by omega)
    · rintro ⟨t1, t2, t3⟩ ⟨r1, r2, r3, r4, r5⟩
      dsimp only at r1 r2 r3 r4 r5 ⊢
      subst r1; subst r2
      simp (disch := omega) only [ii_le, if_pos, ii_a1]
      refine ⟨_, rfl, _, rfl, ?_, fun a b a1 a2 b1 b2 => ?_, r5⟩
      · dsimp only; first | (congr 1; done) | (congr 1; omega)
      · dsimp only
        by_cases z : a = p + 1
        · subst z; exact r4 b b1 b2
        · exact r3 a b a1 (by omega) b1 b2
  · rintro ⟨s1, s2⟩ ⟨q1, q2, q3⟩
    dsimp only at q1 q2 q3 ⊢
    subst q1
    simp (disch := omega) only [ii_le, if_pos]
    exact ⟨_, rfl, q2, q3⟩
set_option maxHeartbeats 8000000 in
theorem x6_turn {N : Nat} {k : Int} {C : Int → Int → Int} {sn bf bf' sd : Nat → Int32} {um um' : Int32} (hC : CS N C) (h : TM N C sn) (hN : S_X6_note (ii N) um sn bf = some (um', bf')) (k1 : 1 ≤ k) (k2 : k ≤ 6) : ∃ sn' sd', S_X6_turn (ii k) (ii N) um sn bf sd = some (ii (sm N (fun i => sm N (fun j => if sg (tn N k C) i j = sg C i j then 0 else 1))), um', sn', bf', sd') ∧ TM N (tn N k C) sn' := by
  have hn := hC.n6
  have h1 := hC.n1
  have hD := hC.tnp k1 k2
  obtain ⟨cp, c1, c2⟩ := x6_copy sn sd
  have hcp : TM N C cp := h.agree hn c2
  unfold S_X6_turn
  have hin : S_X6_in (ii k).toInt64 (1 : Int64) (6 : Int64) = some 1 := by
    rw [l64_1, l64_6, x6_in]
    rcases k6 k1 k2 with rfl | rfl | rfl | rfl | rfl | rfl <;> rfl
  rw [hin, Option.bind_some, if_neg n10, hN, Option.bind_some, c1, Option.bind_some]
  dsimp only
  suffices g : ∃ r : Int32 × Int32 × (Nat → Int32) × (Nat → Int32) × (Nat → Int32), _ = some r ∧ ∃ sn', r = (ii (sm N (fun i => sm N (fun j => if sg (tn N k C) i j = sg C i j then 0 else 1))), um', sn', bf', cp) ∧ TM N (tn N k C) sn' by
    obtain ⟨r, g1, sn', rfl, g2⟩ := g
    exact ⟨sn', cp, g1, g2⟩
  refine itr_ex (fun (p : Nat) (s : Int32 × Int32 × (Nat → Int32)) => s.1 = ii (sm p (fun i => sm N (fun j => if sg (tn N k C) i j = sg C i j then 0 else 1))) ∧ s.2.1 = ii p ∧ (∀ r c : Int, 0 ≤ r → r < N → 0 ≤ c → c < N → s.2.2 (6 * r + c).toNat = ii (if r < p then sg (tn N k C) r c else sg C r c))) _ N ⟨rfl, rfl, fun r c a1 a2 b1 b2 => ?_⟩ (by omega) ?_ ?_
  · dsimp only; rw [if_neg (by omega)]; exact h r c a1 a2 b1 b2
  · rintro p ⟨s1, s2, s3⟩ hp ⟨q1, q2, q3⟩
    dsimp only at q1 q2 q3 ⊢
    subst q1; subst q2
    left
    simp (disch := omega) only [ii_le, if_neg]
    suffices g : ∃ o : (Int32 × Int32 × (Nat → Int32)) ⊕ (Int32 × Int32 × (Nat → Int32) × (Nat → Int32) × (Nat → Int32)), _ = some o ∧ ∃ s', o = .inl s' ∧ (s'.1 = ii (sm (p + 1) (fun i => sm N (fun j => if sg (tn N k C) i j = sg C i j then 0 else 1))) ∧ s'.2.1 = ii ((p + 1 : Nat) : Int) ∧ (∀ r c : Int, 0 ≤ r → r < N → 0 ≤ c → c < N → s'.2.2 (6 * r + c).toNat = ii (if r < ((p + 1 : Nat) : Int) then sg (tn N k C) r c else sg C r c))) by
      obtain ⟨o, g1, s', rfl, g2⟩ := g
      exact ⟨s', g1, g2⟩
    refine itr_ex (fun (q : Nat) (s : Int32 × Int32 × (Nat → Int32)) => s.1 = ii (sm p (fun i => sm N (fun j => if sg (tn N k C) i j = sg C i j then 0 else 1)) + sm q (fun j => if sg (tn N k C) p j = sg C p j then 0 else 1)) ∧ s.2.1 = ii q ∧ (∀ r c : Int, 0 ≤ r → r < N → 0 ≤ c → c < N → s.2.2 (6 * r + c).toNat = ii (if r < p ∨ (r = p ∧ c < q) then sg (tn N k C) r c else sg C r c))) _ N ⟨?_, rfl, fun r c a1 a2 b1 b2 => ?_⟩ (by omega) ?_ ?_
    · rw [sm, Int.add_zero]
    · dsimp only
      rw [q3 r c a1 a2 b1 b2]
      refine congrArg ii ?_
      by_cases w : r < (p : Int)
      · rw [if_pos w, if_pos (by omega)]
      · rw [if_neg w, if_neg (by omega)]
    · rintro q ⟨t1, t2, t3⟩ hq ⟨r1, r2, r3⟩
      dsimp only at r1 r2 r3 ⊢
      subst r1; subst r2
      left
      have es := sg_tn (n := N) C (r := p) (c := q) k1 k2
      have tb := tr_b (n := N) (k := k) (r := p) (c := q) (by omega) (by omega) (by omega) (by omega)
      have e1 := hC.sgb (r := p) (c := q) (by omega) (by omega) (by omega) (by omega)
      have e2 := hC.sgb tb.1.1 tb.1.2 tb.2.1 tb.2.2
      have jt : ∀ {ρ : Type} (K : Int32 → Option ρ), jn (if ii k = (1 : Int32) then some (.inl (((6 : Int32) * ((ii N - (1 : Int32)) - ii q)) + ii p)) else if ii k = (2 : Int32) then some (.inl ((((6 : Int32) * ((ii N - (1 : Int32)) - ii p)) + (ii N - (1 : Int32))) - ii q)) else if ii k = (3 : Int32) then some (.inl ((((6 : Int32) * ii q) + (ii N - (1 : Int32))) - ii p)) else if ii k = (4 : Int32) then some (.inl ((((6 : Int32) * ii p) + (ii N - (1 : Int32))) - ii q)) else if ii k = (5 : Int32) then some (.inl (((6 : Int32) * ((ii N - (1 : Int32)) - ii p)) + ii q)) else some (.inl (((6 : Int32) * ii q) + ii p))) K = K (ii (6 * tr N k p q + tc N k p q)) := by
        intro ρ K
        unfold tr tc
        rcases k6 k1 k2 with rfl | rfl | rfl | rfl | rfl | rfl
        · rw [if_pos (by decide), jn_l]
          simp only [ii_s1, ii_sub, ii_6, ii_mul, ii_add, ↓reduceIte]
        · rw [if_neg (by decide), if_pos (by decide), jn_l]
          simp only [ii_s1, ii_sub, ii_6, ii_mul, ii_add, m21, ↓reduceIte]
          exact congrArg (fun v => K (ii v)) (by omega)
        · rw [if_neg (by decide), if_neg (by decide), if_pos (by decide), jn_l]
          simp only [ii_s1, ii_sub, ii_6, ii_mul, ii_add, m31, m32, ↓reduceIte]
          exact congrArg (fun v => K (ii v)) (by omega)
        · rw [if_neg (by decide), if_neg (by decide), if_neg (by decide), if_pos (by decide), jn_l]
          simp only [ii_s1, ii_sub, ii_6, ii_mul, ii_add, m41, m42, m43, ↓reduceIte]
          exact congrArg (fun v => K (ii v)) (by omega)
        · rw [if_neg (by decide), if_neg (by decide), if_neg (by decide), if_neg (by decide), if_pos (by decide), jn_l]
          simp only [ii_s1, ii_sub, ii_6, ii_mul, ii_add, m51, m52, m53, m54, ↓reduceIte]
        · rw [if_neg (by decide), if_neg (by decide), if_neg (by decide), if_neg (by decide), if_neg (by decide), jn_l]
          simp only [ii_6, ii_mul, ii_add, m61, m62, m63, m64, m65, ↓reduceIte]
      simp (disch := omega) only [ii_le, if_neg]
      rw [jt]
      simp (disch := omega) only [ii_6, ii_mul, ii_add, ck_in, ii_clamp, ii_1]
      have r3q : t3 (6 * (p : Int) + q).toNat = ii (sg C p q) := by
        rw [r3 _ _ (by omega) (by omega) (by omega) (by omega)]
        rw [if_neg (by omega)]
      rw [hcp _ _ tb.1.1 tb.1.2 tb.2.1 tb.2.2, r3q, ← es]
      rw [← es] at e2
      simp (disch := omega) only [ii_eq]
      have nx : ∀ r c : Int, 0 ≤ r → r < N → 0 ≤ c → c < N → upd t3 (6 * (p : Int) + q).toNat (ii (sg (tn N k C) p q)) (6 * r + c).toNat = ii (if r < p ∨ (r = p ∧ c < ((q + 1 : Nat) : Int)) then sg (tn N k C) r c else sg C r c) := by
        intro r c a1 a2 b1 b2
        by_cases z : r = p ∧ c = q
        · obtain ⟨rfl, rfl⟩ := z
          rw [pk_us, if_pos (by omega)]
        · rw [pk_un (by omega), r3 r c a1 a2 b1 b2]
          refine congrArg ii ?_
          by_cases w : r < (p : Int) ∨ (r = p ∧ c < q)
          · rw [if_pos w, if_pos (by omega)]
          · rw [if_neg w, if_neg (by omega)]
      by_cases c : sg (tn N k C) p q = sg C p q
      · rw [if_pos c, jn_l, ii_0, ii_add]
        refine ⟨_, rfl, ?_, ?_, nx⟩
        · dsimp only; rw [sm, if_pos c]; exact congrArg ii (by omega)
        · dsimp only; exact congrArg ii (by omega)
      · rw [if_neg c, jn_l, ii_add]
        refine ⟨_, rfl, ?_, ?_, nx⟩
        · dsimp only; rw [sm, if_neg c]; exact congrArg ii (by omega)
        · dsimp only; exact congrArg ii (by omega)
    · rintro ⟨t1, t2, t3⟩ ⟨r1, r2, r3⟩
      dsimp only at r1 r2 r3 ⊢
      subst r1; subst r2
      simp (disch := omega) only [ii_le, if_pos, ii_a1]
      refine ⟨_, rfl, _, rfl, rfl, ?_, fun r c a1 a2 b1 b2 => ?_⟩
      · dsimp only; exact congrArg ii (by omega)
      · dsimp only
        rw [r3 r c a1 a2 b1 b2]
        refine congrArg ii ?_
        by_cases w : r < ((p + 1 : Nat) : Int)
        · rw [if_pos w, if_pos (by omega)]
        · rw [if_neg w, if_neg (by omega)]
  · rintro ⟨s1, s2, s3⟩ ⟨q1, q2, q3⟩
    dsimp only at q1 q2 q3 ⊢
    subst q1; subst q2
    simp (disch := omega) only [ii_le, if_pos]
    refine ⟨_, rfl, _, rfl, fun r c a1 a2 b1 b2 => ?_⟩
    rw [q3 r c a1 a2 b1 b2, if_pos (by omega)]
theorem p_turn {tS free held um sS : Int32} {tC tn' pS bf sC sd : Nat → Int32} {pC : Nat → Nat → Int32} (hR : RT tS tC tn') (hP : RP free held pS pC um bf) (hZs : Z7 sC) (p1 : Int32) :
    ∃ (r fr' hd' eS' um' sS' : Int32) (tC' eC' tn2 bf' sC' sd' : Nat → Int32), S_X5_turn p1 tS tC sS sC free held (pS free.toNatClampNeg) (pC free.toNatClampNeg) = some (r, tC', sS', sC', fr', hd', eS', eC') ∧ S_X6_turn p1 tS um tn' bf sd = some (r, um', tn2, bf', sd') ∧ RT tS tC' tn2 ∧ Z7 sC' ∧ RP fr' hd' (upd pS free.toNatClampNeg eS') (fun k => if k = free.toNatClampNeg then eC' else pC k) um' bf' := by
  have hR0 := hR
  obtain ⟨N, C, rfl, hC, hT, hZ, hM⟩ := hR
  have hn := hC.n6
  have h1 := hC.n1
  rcases bt_z1 p1 (b := 6) (by omega) (by omega) with h | ⟨h, z, rfl, a1, a2⟩
  · unfold S_X5_turn S_X6_turn
    rw [x5_isBetween, l64_1, l64_6, x6_in, Option.bind_some, Option.bind_some, show bt p1 1 6 = 0 from h, if_pos rfl, if_pos rfl]
    exact ⟨_, _, _, _, _, _, _, _, _, _, _, _, rfl, rfl, hR0, hZs, hP.keep _⟩
  · obtain ⟨fr', hd', um', bf', c', n1, n2, n3⟩ := p_note hC hT hZ hM hP
    obtain ⟨sn', sd', u1, u2⟩ := x6_turn (sd := sd) hC hM n2 a1 a2
    obtain ⟨cs', v1, v2, v3⟩ := x3_putTurned hC (hT.cpy (g := sC) hn) hZ a1 a2
    have w := x3_unlikeSigns (hC.tnp a1 a2) v2 hC (hT.cpy (g := sC) hn)
    unfold S_X5_turn S_X3_copy
    rw [x5_isBetween, Option.bind_some, show bt (ii z) 1 6 = 1 from h, if_neg n10, n1, Option.bind_some, Option.bind_some]
    dsimp only
    rw [v1, Option.bind_some, w, Option.bind_some]
    exact ⟨_, _, _, _, _, _, _, _, _, _, _, _, rfl, u1, ⟨N, _, rfl, hC.tnp a1 a2, v2, v3, u2⟩, hZ.cpy, n3⟩
