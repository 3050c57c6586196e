/-! a table by its corners -/
def CS (n : Int) (C : Int → Int → Int) : Prop :=
  (1 ≤ n ∧ n ≤ 6) ∧ (∀ j, 0 ≤ j → j ≤ n → C 0 j = 0) ∧ (∀ i, 0 ≤ i → i ≤ n → C i 0 = 0) ∧ (∀ j, 0 ≤ j → j ≤ n → C n j = j) ∧ (∀ i, 0 ≤ i → i ≤ n → C i n = i) ∧
  (∀ i j, 0 ≤ i → i < n → 0 ≤ j → j ≤ n → 0 ≤ C (i + 1) j - C i j ∧ C (i + 1) j - C i j ≤ 1) ∧
  (∀ i j, 0 ≤ i → i ≤ n → 0 ≤ j → j < n → 0 ≤ C i (j + 1) - C i j ∧ C i (j + 1) - C i j ≤ 1)
theorem CS.n1 {n : Int} {C : Int → Int → Int} (h : CS n C) : 1 ≤ n := h.1.1
theorem CS.n6 {n : Int} {C : Int → Int → Int} (h : CS n C) : n ≤ 6 := h.1.2
theorem CS.top {n : Int} {C : Int → Int → Int} (h : CS n C) {j : Int} (h1 : 0 ≤ j) (h2 : j ≤ n) : C 0 j = 0 := h.2.1 j h1 h2
theorem CS.left {n : Int} {C : Int → Int → Int} (h : CS n C) {i : Int} (h1 : 0 ≤ i) (h2 : i ≤ n) : C i 0 = 0 := h.2.2.1 i h1 h2
theorem CS.bot {n : Int} {C : Int → Int → Int} (h : CS n C) {j : Int} (h1 : 0 ≤ j) (h2 : j ≤ n) : C n j = j := h.2.2.2.1 j h1 h2
theorem CS.right {n : Int} {C : Int → Int → Int} (h : CS n C) {i : Int} (h1 : 0 ≤ i) (h2 : i ≤ n) : C i n = i := h.2.2.2.2.1 i h1 h2
theorem CS.row {n : Int} {C : Int → Int → Int} (h : CS n C) {i j : Int} (h1 : 1 ≤ i) (h2 : i ≤ n) (h3 : 0 ≤ j) (h4 : j ≤ n) : 0 ≤ C i j - C (i - 1) j ∧ C i j - C (i - 1) j ≤ 1 := by
  have q := h.2.2.2.2.2.1 (i - 1) j (by omega) (by omega) h3 h4
  rw [show i - 1 + 1 = i by omega] at q
  exact q
theorem CS.col {n : Int} {C : Int → Int → Int} (h : CS n C) {i j : Int} (h1 : 0 ≤ i) (h2 : i ≤ n) (h3 : 1 ≤ j) (h4 : j ≤ n) : 0 ≤ C i j - C i (j - 1) ∧ C i j - C i (j - 1) ≤ 1 := by
  have q := h.2.2.2.2.2.2 i (j - 1) h1 h2 (by omega) (by omega)
  rw [show j - 1 + 1 = j by omega] at q
  exact q
theorem CS.bdN {n : Int} {C : Int → Int → Int} (h : CS n C) {i : Int} (h1 : 0 ≤ i) (h2 : i ≤ n) : ∀ k : Nat, (k : Int) ≤ n → 0 ≤ C i k ∧ C i k ≤ k := by
  intro k
  induction k with
  | zero => intro _; have := h.left h1 h2; simp at *; omega
  | succ k ih =>
    intro hk
    have a := ih (by omega)
    have b := h.2.2.2.2.2.2 i k h1 h2 (by omega) (by omega)
    push_cast
    omega
theorem CS.bd {n : Int} {C : Int → Int → Int} (h : CS n C) {i j : Int} (h1 : 0 ≤ i) (h2 : i ≤ n) (h3 : 0 ≤ j) (h4 : j ≤ n) : 0 ≤ C i j ∧ C i j ≤ 6 := by
  obtain ⟨k, rfl⟩ := Int.eq_ofNat_of_zero_le h3
  have a := h.bdN h1 h2 k h4
  have b := h.n6
  omega
/-- a sign -/
def sg (C : Int → Int → Int) (r c : Int) : Int := C (r + 1) (c + 1) - C r (c + 1) - C (r + 1) c + C r c
/-- a height -/
def hh (C : Int → Int → Int) (i j : Int) : Int := i + j - 2 * C i j
/-- how a height can be flipped -/
def kd (C : Int → Int → Int) (i j : Int) : Int := if hh C (i + 1) j = hh C (i - 1) j ∧ hh C i (j - 1) = hh C (i - 1) j ∧ hh C i (j + 1) = hh C (i - 1) j then (if hh C i j < hh C (i - 1) j then 1 else 2) else 0
/-- the sum of a row ahead of an edge, of a column -/
def rs (C : Int → Int → Int) (r c : Int) : Int := C r c - C (r - 1) c
def ks (C : Int → Int → Int) (r c : Int) : Int := C r c - C r (c - 1)
/-- whether an edge is drawn -/
def dA (C : Int → Int → Int) (r c : Int) : Bool := decide ((rs C r c + r + c) % 2 = 0)
def dD (C : Int → Int → Int) (r c : Int) : Bool := decide (¬ (ks C r c + r + c) % 2 = 0)
/-- the class's row of corners -/
def TC (n : Int) (C : Int → Int → Int) (cs : Nat → Int32) : Prop := ∀ i j, 0 ≤ i → i ≤ n → 0 ≤ j → j ≤ n → cs (i * 7 + j).toNat = ii (C i j)
def Z7 (cs : Nat → Int32) : Prop := (∀ j : Int, 0 ≤ j → j ≤ 6 → cs j.toNat = 0) ∧ ∀ i : Int, 0 ≤ i → i ≤ 6 → cs (i * 7).toNat = 0
/-- the reference's row of signs -/
def TM (n : Int) (C : Int → Int → Int) (sn : Nat → Int32) : Prop := ∀ r c, 0 ≤ r → r < n → 0 ≤ c → c < n → sn (6 * r + c).toNat = ii (sg C r c)
theorem CS.sgb {n : Int} {C : Int → Int → Int} (h : CS n C) {r c : Int} (h1 : 0 ≤ r) (h2 : r < n) (h3 : 0 ≤ c) (h4 : c < n) : -1 ≤ sg C r c ∧ sg C r c ≤ 1 := by
  have a := h.row (i := r + 1) (j := c + 1) (by omega) (by omega) (by omega) (by omega)
  have b := h.row (i := r + 1) (j := c) (by omega) (by omega) (by omega) (by omega)
  rw [show r + 1 - 1 = r by omega] at a b
  unfold sg
  omega
theorem CS.hhb {n : Int} {C : Int → Int → Int} (h : CS n C) {i j : Int} (h1 : 0 ≤ i) (h2 : i ≤ n) (h3 : 0 ≤ j) (h4 : j ≤ n) : -12 ≤ hh C i j ∧ hh C i j ≤ 12 := by
  have a := h.bd h1 h2 h3 h4
  have b := h.n6
  unfold hh
  omega
theorem CS.rsb {n : Int} {C : Int → Int → Int} (h : CS n C) {i j : Int} (h1 : 1 ≤ i) (h2 : i ≤ n) (h3 : 0 ≤ j) (h4 : j ≤ n) : 0 ≤ rs C i j ∧ rs C i j ≤ 1 := h.row h1 h2 h3 h4
theorem CS.ksb {n : Int} {C : Int → Int → Int} (h : CS n C) {i j : Int} (h1 : 0 ≤ i) (h2 : i ≤ n) (h3 : 1 ≤ j) (h4 : j ≤ n) : 0 ≤ ks C i j ∧ ks C i j ≤ 1 := h.col h1 h2 h3 h4
theorem kd_r (C : Int → Int → Int) (i j : Int) : kd C i j = 0 ∨ kd C i j = 1 ∨ kd C i j = 2 := by
  unfold kd
  split
  · split
    · exact Or.inr (Or.inl rfl)
    · exact Or.inr (Or.inr rfl)
  · exact Or.inl rfl
/-! the class's looks -/
theorem x3_cornerAt {n : Int} {C : Int → Int → Int} {cs : Nat → Int32} (hn : n ≤ 6) (h : TC n C cs) {i j : Int} (h1 : 0 ≤ i) (h2 : i ≤ n) (h3 : 0 ≤ j) (h4 : j ≤ n) : S_X3_cornerAt (ii i) (ii j) cs = some (ii (C i j)) := by
  simp (disch := omega) only [S_X3_cornerAt, ii_7, ii_mul, ii_add, ck_in, ii_clamp]
  rw [h i j h1 h2 h3 h4]
theorem x3_heightAt {n : Int} {C : Int → Int → Int} {cs : Nat → Int32} (hn : n ≤ 6) (h : TC n C cs) {i j : Int} (h1 : 0 ≤ i) (h2 : i ≤ n) (h3 : 0 ≤ j) (h4 : j ≤ n) : S_X3_heightAt (ii i) (ii j) cs = some (ii (hh C i j)) := by
  simp (disch := omega) only [S_X3_heightAt, x3_cornerAt hn h, Option.bind_some, ii_2, ii_mul, ii_add, ii_sub, hh]
theorem x3_rowSum {n : Int} {C : Int → Int → Int} {cs : Nat → Int32} (hn : n ≤ 6) (h : TC n C cs) {i j : Int} (h1 : 1 ≤ i) (h2 : i ≤ n) (h3 : 0 ≤ j) (h4 : j ≤ n) : S_X3_rowSum (ii i) (ii j) cs = some (ii (rs C i j)) := by
  simp (disch := omega) only [S_X3_rowSum, ii_1, ii_sub, x3_cornerAt hn h, Option.bind_some, rs]
theorem x3_columnSum {n : Int} {C : Int → Int → Int} {cs : Nat → Int32} (hn : n ≤ 6) (h : TC n C cs) {i j : Int} (h1 : 0 ≤ i) (h2 : i ≤ n) (h3 : 1 ≤ j) (h4 : j ≤ n) : S_X3_columnSum (ii i) (ii j) cs = some (ii (ks C i j)) := by
  simp (disch := omega) only [S_X3_columnSum, ii_1, ii_sub, x3_cornerAt hn h, Option.bind_some, ks]
theorem x3_signAt {n : Int} {C : Int → Int → Int} {cs : Nat → Int32} (hn : n ≤ 6) (h : TC n C cs) {i j : Int} (h1 : 0 ≤ i) (h2 : i < n) (h3 : 0 ≤ j) (h4 : j < n) : S_X3_signAt (ii i) (ii j) cs = some (ii (sg C i j)) := by
  simp (disch := omega) only [S_X3_signAt, ii_1, ii_sub, ii_add, x3_rowSum hn h, Option.bind_some, rs, sg]
  rw [show i + 1 - 1 = i by omega]
  congr 2
  omega
theorem x3_flipKind {n : Int} {C : Int → Int → Int} {cs : Nat → Int32} (hC : CS n C) (h : TC n C cs) {i j : Int} (h1 : 1 ≤ i) (h2 : i < n) (h3 : 1 ≤ j) (h4 : j < n) : S_X3_flipKind (ii i) (ii j) cs = some (ii (kd C i j)) := by
  have hn := hC.n6
  have a1 := hC.hhb (i := i - 1) (j := j) (by omega) (by omega) (by omega) (by omega)
  have a2 := hC.hhb (i := i + 1) (j := j) (by omega) (by omega) (by omega) (by omega)
  have a3 := hC.hhb (i := i) (j := j - 1) (by omega) (by omega) (by omega) (by omega)
  have a4 := hC.hhb (i := i) (j := j + 1) (by omega) (by omega) (by omega) (by omega)
  have a5 := hC.hhb (i := i) (j := j) (by omega) (by omega) (by omega) (by omega)
  simp (disch := omega) only [S_X3_flipKind, ii_1, ii_2, ii_0, ii_sub, ii_add, x3_heightAt hn h, Option.bind_some, ii_eq, ii_le]
  unfold kd
  by_cases c1 : hh C (i + 1) j = hh C (i - 1) j
  · by_cases c2 : hh C i (j - 1) = hh C (i - 1) j
    · by_cases c3 : hh C i (j + 1) = hh C (i - 1) j
      · by_cases c4 : hh C (i - 1) j ≤ hh C i j
        · rw [if_pos c1, if_pos c2, if_pos c3, if_pos c4, if_pos ⟨c1, c2, c3⟩, if_neg (by omega)]
        · rw [if_pos c1, if_pos c2, if_pos c3, if_neg c4, if_pos ⟨c1, c2, c3⟩, if_pos (by omega)]
      · rw [if_pos c1, if_pos c2, if_neg c3, if_neg (fun q => c3 q.2.2)]
    · rw [if_pos c1, if_neg c2, if_neg (fun q => c2 q.2.1)]
  · rw [if_neg c1, if_neg (fun q => c1 q.1)]
theorem x3_isDrawnAcross {n : Int} {C : Int → Int → Int} {cs : Nat → Int32} (hC : CS n C) (h : TC n C cs) {i j : Int} (h1 : 1 ≤ i) (h2 : i ≤ n) (h3 : 0 ≤ j) (h4 : j ≤ n) : S_X3_isDrawnAcross (ii i) (ii j) cs = some (if dA C i j = true then 1 else 0) := by
  have hn := hC.n6
  have a1 := hC.rsb h1 h2 h3 h4
  simp (disch := omega) only [S_X3_isDrawnAcross, ii_1, ii_2, ii_0, ii_sub, ii_add, x3_rowSum hn h, Option.bind_some, ii_rem, ii_eq]
  unfold dA
  by_cases c : (rs C i j + i + j) % 2 = 0
  · simp [c]
  · simp [c]
theorem x3_isDrawnDown {n : Int} {C : Int → Int → Int} {cs : Nat → Int32} (hC : CS n C) (h : TC n C cs) {i j : Int} (h1 : 0 ≤ i) (h2 : i ≤ n) (h3 : 1 ≤ j) (h4 : j ≤ n) : S_X3_isDrawnDown (ii i) (ii j) cs = some (if dD C i j = true then 1 else 0) := by
  have hn := hC.n6
  have a1 := hC.ksb h1 h2 h3 h4
  simp (disch := omega) only [S_X3_isDrawnDown, ii_1, ii_2, ii_0, ii_sub, ii_add, x3_columnSum hn h, Option.bind_some, ii_rem, ii_eq]
  unfold dD
  by_cases c : (ks C i j + i + j) % 2 = 0
  · simp [c]
  · simp [c]
