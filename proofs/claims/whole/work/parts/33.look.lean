/-! tests of numbers that are told -/
def bt (p a b : Int32) : Int32 := if p < a then 0 else if b < p then 0 else 1
theorem x5_isBetween (p a b : Int32) : S_X5_isBetween p a b = some (bt p a b) := by
  unfold S_X5_isBetween bt
  split
  · rfl
  · split <;> rfl
theorem lgc_lt (x y : Int64) : lg_cmp x y < 0 ↔ x < y := by
  unfold lg_cmp
  simp only [gt_iff_lt, Int64.lt_iff_toInt_lt, ← Int64.toInt_inj]
  split
  · constructor
    · intro h; exact absurd h (by decide)
    · intro h; omega
  · split
    · constructor
      · intro h; exact absurd h (by decide)
      · intro h; omega
    · constructor
      · intro h; omega
      · intro h; decide
theorem lgc_gt (x y : Int64) : 0 < lg_cmp x y ↔ y < x := by
  unfold lg_cmp
  simp only [gt_iff_lt, Int64.lt_iff_toInt_lt, ← Int64.toInt_inj]
  split
  · constructor
    · intro h; assumption
    · intro h; decide
  · split
    · constructor
      · intro h; exact absurd h (by decide)
      · intro h; omega
    · constructor
      · intro h; exact absurd h (by decide)
      · intro h; omega
theorem x6_in (p a b : Int32) : S_X6_in p.toInt64 a.toInt64 b.toInt64 = some (bt p a b) := by
  unfold S_X6_in bt
  simp only [lgc_lt, lgc_gt, Int32.toInt64_lt]
  split
  · rfl
  · split <;> rfl
theorem l64_0 : (0 : Int64) = (0 : Int32).toInt64 := by decide
theorem l64_1 : (1 : Int64) = (1 : Int32).toInt64 := by decide
theorem l64_2 : (2 : Int64) = (2 : Int32).toInt64 := by decide
theorem l64_5 : (5 : Int64) = (5 : Int32).toInt64 := by decide
theorem l64_6 : (6 : Int64) = (6 : Int32).toInt64 := by decide
theorem l64_32 : (32 : Int64) = (32 : Int32).toInt64 := by decide
theorem l64_100 : (100 : Int64) = (100 : Int32).toInt64 := by decide
theorem l64_126 : (126 : Int64) = (126 : Int32).toInt64 := by decide
theorem l64_m1 : (-1 : Int64) = (-1 : Int32).toInt64 := by decide
theorem ii_toInt' (p : Int32) : ii p.toInt = p := Int32.ofInt_toInt p
theorem ii_of {p : Int32} {a b : Int} (ha : -1000000000 ≤ a) (ha2 : a ≤ 1000000000) (hb : -1000000000 ≤ b) (hb2 : b ≤ 1000000000) (h1 : ii a ≤ p) (h2 : p ≤ ii b) : ∃ z, p = ii z ∧ a ≤ z ∧ z ≤ b := by
  refine ⟨p.toInt, (ii_toInt' p).symm, ?_, ?_⟩
  · rw [Int32.le_iff_toInt_le, ii_toInt ha ha2] at h1; exact h1
  · rw [Int32.le_iff_toInt_le, ii_toInt hb hb2] at h2; exact h2
theorem bt_or (p a b : Int32) : bt p a b = 0 ∨ (bt p a b = 1 ∧ a ≤ p ∧ p ≤ b) := by
  unfold bt
  by_cases h1 : p < a
  · rw [if_pos h1]; exact Or.inl rfl
  · rw [if_neg h1]
    by_cases h2 : b < p
    · rw [if_pos h2]; exact Or.inl rfl
    · rw [if_neg h2]; exact Or.inr ⟨rfl, Int32.not_lt.mp h1, Int32.not_lt.mp h2⟩
theorem bt_z (p : Int32) {a b : Int} (ha : -1000000000 ≤ a) (ha2 : a ≤ 1000000000) (hb : -1000000000 ≤ b) (hb2 : b ≤ 1000000000) : bt p (ii a) (ii b) = 0 ∨ (bt p (ii a) (ii b) = 1 ∧ ∃ z, p = ii z ∧ a ≤ z ∧ z ≤ b) := by
  rcases bt_or p (ii a) (ii b) with h | ⟨h, h1, h2⟩
  · exact Or.inl h
  · exact Or.inr ⟨h, ii_of ha ha2 hb hb2 h1 h2⟩
theorem bt_z0 (p : Int32) {b : Int} (hb : -1000000000 ≤ b) (hb2 : b ≤ 1000000000) : bt p 0 (ii b) = 0 ∨ (bt p 0 (ii b) = 1 ∧ ∃ z, p = ii z ∧ 0 ≤ z ∧ z ≤ b) := bt_z p (a := 0) (by omega) (by omega) hb hb2
theorem bt_z1 (p : Int32) {b : Int} (hb : -1000000000 ≤ b) (hb2 : b ≤ 1000000000) : bt p 1 (ii b) = 0 ∨ (bt p 1 (ii b) = 1 ∧ ∃ z, p = ii z ∧ 1 ≤ z ∧ z ≤ b) := bt_z p (a := 1) (by omega) (by omega) hb hb2
theorem ii_s1 (a : Int) : ii a - 1 = ii (a - 1) := ii_sub a 1
theorem ii_a1 (a : Int) : ii a + 1 = ii (a + 1) := ii_add a 1
theorem bt_in {z a b : Int} (ha : -1000000000 ≤ a) (ha2 : a ≤ 1000000000) (hb : -1000000000 ≤ b) (hb2 : b ≤ 1000000000) (hz1 : -1000000000 ≤ z) (hz2 : z ≤ 1000000000) : bt (ii z) (ii a) (ii b) = if a ≤ z ∧ z ≤ b then 1 else 0 := by
  unfold bt
  simp only [ii_lt hz1 hz2 ha ha2, ii_lt hb hb2 hz1 hz2]
  by_cases h1 : z < a
  · rw [if_pos h1, if_neg (by omega)]
  · rw [if_neg h1]
    by_cases h2 : b < z
    · rw [if_pos h2, if_neg (by omega)]
    · rw [if_neg h2, if_pos (by omega)]
theorem ii_0i : ii 0 = 0 := rfl
theorem ii_1i : ii 1 = 1 := rfl
theorem n10 : ¬ (1 : Int32) = 0 := by decide
/-! sign, corner, height, may, across, down: both sides -/
theorem p_sign {n : Int} {C : Int → Int → Int} {cs sn : Nat → Int32} (hC : CS n C) (hT : TC n C cs) (hM : TM n C sn) (p1 p2 : Int32) : ∃ r, S_X5_sign p1 p2 (ii n) cs = some r ∧ S_X6_sign p1 p2 (ii n) sn = some r := by
  have h6 := hC.n6
  have h1 := hC.n1
  simp only [S_X5_sign, S_X6_sign, x5_isBetween, l64_0, x6_in, Option.bind_some, ii_s1]
  rcases bt_z0 p1 (b := n - 1) (by omega) (by omega) with h | ⟨h, z1, rfl, a1, a2⟩
  · simp only [h, if_pos]; exact ⟨_, rfl, rfl⟩
  · rcases bt_z0 p2 (b := n - 1) (by omega) (by omega) with g | ⟨g, z2, rfl, b1, b2⟩
    · simp only [h, g, if_pos, if_neg n10]; exact ⟨_, rfl, rfl⟩
    · simp (disch := omega) only [h, g, if_neg n10, x3_signAt h6 hT, ii_6, ii_mul, ii_add, ck_in, ii_clamp, Option.bind_some]
      rw [hM z1 z2 a1 (by omega) b1 (by omega)]
      refine ⟨_, rfl, ?_⟩
      rw [Int32.add_comm]
theorem p_corner {n : Int} {C : Int → Int → Int} {cs sn : Nat → Int32} (hC : CS n C) (hT : TC n C cs) (hM : TM n C sn) (p1 p2 : Int32) : ∃ r, S_X5_corner p1 p2 (ii n) cs = some r ∧ S_X6_corner p1 p2 (ii n) sn = some r := by
  have h6 := hC.n6
  have h1 := hC.n1
  simp only [S_X5_corner, S_X5_isCorner, S_X6_isCorner, S_X6_corner, x5_isBetween, l64_0, x6_in, Option.bind_some, ii_s1]
  rcases bt_z0 p1 (b := n) (by omega) (by omega) with h | ⟨h, z1, rfl, a1, a2⟩
  · simp only [h, if_pos, Option.bind_some]; exact ⟨_, rfl, rfl⟩
  · rcases bt_z0 p2 (b := n) (by omega) (by omega) with g | ⟨g, z2, rfl, b1, b2⟩
    · simp only [h, g, if_pos, if_neg n10, Option.bind_some]; exact ⟨_, rfl, rfl⟩
    · simp (disch := omega) only [h, g, if_neg n10, x3_cornerAt h6 hT, x6_cornerOf hC hM, Option.bind_some]
      exact ⟨_, rfl, rfl⟩
theorem p_height {n : Int} {C : Int → Int → Int} {cs sn : Nat → Int32} (hC : CS n C) (hT : TC n C cs) (hM : TM n C sn) (p1 p2 : Int32) : ∃ r, S_X5_height p1 p2 (ii n) cs = some r ∧ S_X6_height p1 p2 (ii n) sn = some r := by
  have h6 := hC.n6
  have h1 := hC.n1
  simp only [S_X5_height, S_X5_isCorner, S_X6_isCorner, S_X6_height, x5_isBetween, l64_0, x6_in, Option.bind_some, ii_s1]
  rcases bt_z0 p1 (b := n) (by omega) (by omega) with h | ⟨h, z1, rfl, a1, a2⟩
  · simp only [h, if_pos, Option.bind_some]; exact ⟨_, rfl, rfl⟩
  · rcases bt_z0 p2 (b := n) (by omega) (by omega) with g | ⟨g, z2, rfl, b1, b2⟩
    · simp only [h, g, if_pos, if_neg n10, Option.bind_some]; exact ⟨_, rfl, rfl⟩
    · simp (disch := omega) only [h, g, if_neg n10, x3_heightAt h6 hT, x6_heightOf hC hM, Option.bind_some]
      exact ⟨_, rfl, rfl⟩
/-- whether (i, j) is inner: both sides answer alike, and if it is, the numbers are small -/
theorem p_inner {n : Int} {C : Int → Int → Int} (hC : CS n C) (p1 p2 : Int32) : (S_X5_isInner p1 p2 (ii n) = some 0 ∧ S_X6_isInner p1 p2 (ii n) = some 0) ∨ (S_X5_isInner p1 p2 (ii n) = some 1 ∧ S_X6_isInner p1 p2 (ii n) = some 1 ∧ ∃ z1 z2, p1 = ii z1 ∧ p2 = ii z2 ∧ 1 ≤ z1 ∧ z1 < n ∧ 1 ≤ z2 ∧ z2 < n) := by
  have h6 := hC.n6
  have h1 := hC.n1
  simp only [S_X5_isInner, S_X6_isInner, x5_isBetween, l64_1, x6_in, Option.bind_some, ii_s1]
  rcases bt_z1 p1 (b := n - 1) (by omega) (by omega) with h | ⟨h, z1, rfl, a1, a2⟩
  · refine Or.inl ?_
    simp only [h, if_pos, and_self]
  · rcases bt_z1 p2 (b := n - 1) (by omega) (by omega) with g | ⟨g, z2, rfl, b1, b2⟩
    · refine Or.inl ?_
      simp only [h, g, if_pos, if_neg n10, and_self]
    · refine Or.inr ?_
      simp only [h, g, if_neg n10]
      exact ⟨trivial, trivial, z1, z2, rfl, rfl, a1, by omega, b1, by omega⟩
theorem p_may {n : Int} {C : Int → Int → Int} {cs sn : Nat → Int32} (hC : CS n C) (hT : TC n C cs) (hM : TM n C sn) (p1 p2 : Int32) : ∃ r, S_X5_may p1 p2 (ii n) cs = some r ∧ S_X6_may p1 p2 (ii n) sn = some r := by
  unfold S_X5_may S_X6_may
  rcases p_inner hC p1 p2 with ⟨e1, e2⟩ | ⟨e1, e2, z1, z2, rfl, rfl, a1, a2, b1, b2⟩
  · rw [e1, e2]; exact ⟨_, rfl, rfl⟩
  · simp (disch := omega) only [e1, e2, Option.bind_some, if_neg n10, x3_flipKind hC hT, x6_mayBe hC hM]
    exact ⟨_, rfl, rfl⟩
theorem p_across {n : Int} {C : Int → Int → Int} {cs sn : Nat → Int32} (hC : CS n C) (hT : TC n C cs) (hM : TM n C sn) (p1 p2 : Int32) : ∃ r, S_X5_across p1 p2 (ii n) cs = some r ∧ S_X6_across p1 p2 (ii n) sn = some r := by
  have h6 := hC.n6
  have h1 := hC.n1
  simp only [S_X5_across, S_X6_across, x5_isBetween, l64_0, l64_1, x6_in, Option.bind_some, ii_s1]
  rcases bt_z1 p1 (b := n) (by omega) (by omega) with h | ⟨h, z1, rfl, a1, a2⟩
  · simp only [h, if_pos, Option.bind_some]; exact ⟨_, rfl, rfl⟩
  · rcases bt_z0 p2 (b := n) (by omega) (by omega) with g | ⟨g, z2, rfl, b1, b2⟩
    · simp only [h, g, if_pos, if_neg n10, Option.bind_some]; exact ⟨_, rfl, rfl⟩
    · simp (disch := omega) only [h, g, if_neg n10, x3_isDrawnAcross hC hT, x6_isAcross hC hM, Option.bind_some]
      by_cases q : dA C z1 z2 = true
      · rw [if_pos q, if_neg n10]; exact ⟨_, rfl, rfl⟩
      · rw [if_neg q, if_pos rfl]; exact ⟨_, rfl, rfl⟩
theorem p_down {n : Int} {C : Int → Int → Int} {cs sn : Nat → Int32} (hC : CS n C) (hT : TC n C cs) (hM : TM n C sn) (p1 p2 : Int32) : ∃ r, S_X5_down p1 p2 (ii n) cs = some r ∧ S_X6_down p1 p2 (ii n) sn = some r := by
  have h6 := hC.n6
  have h1 := hC.n1
  simp only [S_X5_down, S_X6_down, x5_isBetween, l64_0, l64_1, x6_in, Option.bind_some, ii_s1]
  rcases bt_z0 p1 (b := n) (by omega) (by omega) with h | ⟨h, z1, rfl, a1, a2⟩
  · simp only [h, if_pos, Option.bind_some]; exact ⟨_, rfl, rfl⟩
  · rcases bt_z1 p2 (b := n) (by omega) (by omega) with g | ⟨g, z2, rfl, b1, b2⟩
    · simp only [h, g, if_pos, if_neg n10, Option.bind_some]; exact ⟨_, rfl, rfl⟩
    · simp (disch := omega) only [h, g, if_neg n10, x3_isDrawnDown hC hT, x6_isDown hC hM, Option.bind_some]
      by_cases q : dD C z1 z2 = true
      · rw [if_pos q, if_neg n10]; exact ⟨_, rfl, rfl⟩
      · rw [if_neg q, if_pos rfl]; exact ⟨_, rfl, rfl⟩
