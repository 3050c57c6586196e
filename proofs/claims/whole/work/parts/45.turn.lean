/-! turned, mirrored -/
def tn (n k : Int) (C : Int → Int → Int) : Int → Int → Int := fun i j =>
  if k = 1 then i - C (n - j) i else if k = 2 then i + j - n + C (n - i) (n - j) else if k = 3 then j - C j (n - i) else if k = 4 then i - C i (n - j) else if k = 5 then j - C (n - i) j else C j i
/-- the place from which a sign comes -/
def tr (n k r c : Int) : Int := if k = 1 then n - 1 - c else if k = 2 then n - 1 - r else if k = 3 then c else if k = 4 then r else if k = 5 then n - 1 - r else c
def tc (n k r c : Int) : Int := if k = 1 then r else if k = 2 then n - 1 - c else if k = 3 then n - 1 - r else if k = 4 then n - 1 - c else if k = 5 then c else r
theorem k6 {k : Int} (h1 : 1 ≤ k) (h2 : k ≤ 6) : k = 1 ∨ k = 2 ∨ k = 3 ∨ k = 4 ∨ k = 5 ∨ k = 6 := by omega
theorem tr_b {n k r c : Int} (h1 : 0 ≤ r) (h2 : r < n) (h3 : 0 ≤ c) (h4 : c < n) : (0 ≤ tr n k r c ∧ tr n k r c < n) ∧ 0 ≤ tc n k r c ∧ tc n k r c < n := by
  unfold tr tc
  by_cases c1 : k = 1
  · simp only [if_pos c1]; omega
  · by_cases c2 : k = 2
    · simp only [if_neg c1, if_pos c2]; omega
    · by_cases c3 : k = 3
      · simp only [if_neg c1, if_neg c2, if_pos c3]; omega
      · by_cases c4 : k = 4
        · simp only [if_neg c1, if_neg c2, if_neg c3, if_pos c4]; omega
        · by_cases c5 : k = 5
          · simp only [if_neg c1, if_neg c2, if_neg c3, if_neg c4, if_pos c5]; omega
          · simp only [if_neg c1, if_neg c2, if_neg c3, if_neg c4, if_neg c5]; omega
theorem sg_tn {n k : Int} (C : Int → Int → Int) {r c : Int} (h1 : 1 ≤ k) (h2 : k ≤ 6) : sg (tn n k C) r c = sg C (tr n k r c) (tc n k r c) := by
  unfold sg tn tr tc
  rcases k6 h1 h2 with rfl | rfl | rfl | rfl | rfl | rfl
  · simp only [↓reduceIte]
    rw [show n - 1 - c + 1 = n - c by omega, show n - (c + 1) = n - 1 - c by omega]; omega
  · simp only [show ¬ (2 : Int) = 1 by decide, ↓reduceIte]
    rw [show n - 1 - c + 1 = n - c by omega, show n - 1 - r + 1 = n - r by omega, show n - (c + 1) = n - 1 - c by omega, show n - (r + 1) = n - 1 - r by omega]; omega
  · simp only [show ¬ (3 : Int) = 1 by decide, show ¬ (3 : Int) = 2 by decide, ↓reduceIte]
    rw [show n - 1 - r + 1 = n - r by omega, show n - (r + 1) = n - 1 - r by omega]; omega
  · simp only [show ¬ (4 : Int) = 1 by decide, show ¬ (4 : Int) = 2 by decide, show ¬ (4 : Int) = 3 by decide, ↓reduceIte]
    rw [show n - 1 - c + 1 = n - c by omega, show n - (c + 1) = n - 1 - c by omega]; omega
  · simp only [show ¬ (5 : Int) = 1 by decide, show ¬ (5 : Int) = 2 by decide, show ¬ (5 : Int) = 3 by decide, show ¬ (5 : Int) = 4 by decide, ↓reduceIte]
    rw [show n - 1 - r + 1 = n - r by omega, show n - (r + 1) = n - 1 - r by omega]; omega
  · simp only [show ¬ (6 : Int) = 1 by decide, show ¬ (6 : Int) = 2 by decide, show ¬ (6 : Int) = 3 by decide, show ¬ (6 : Int) = 4 by decide, show ¬ (6 : Int) = 5 by decide, ↓reduceIte]
    omega
