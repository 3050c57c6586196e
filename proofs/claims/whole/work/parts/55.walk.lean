/-! LINES: sides of a place, the walk through places -/
def nro (r s : Int) : Int := if s = 0 then r - 1 else if s = 2 then r + 1 else r
def nco (c s : Int) : Int := if s = 1 then c + 1 else if s = 3 then c - 1 else c
def opp (s : Int) : Int := if s = 0 then 2 else if s = 1 then 3 else if s = 2 then 0 else 1
def dr (C : Int → Int → Int) (r c s : Int) : Bool := if s = 0 then dD C (r - 1) c else if s = 1 then dA C r c else if s = 2 then dD C r c else dA C r (c - 1)
def ot (C : Int → Int → Int) (r c s : Int) : Int := if ¬ s = 0 ∧ dr C r c 0 = true then 0 else if ¬ s = 1 ∧ dr C r c 1 = true then 1 else if ¬ s = 2 ∧ dr C r c 2 = true then 2 else 3
def IN (n r c : Int) : Prop := 1 ≤ r ∧ r ≤ n ∧ 1 ≤ c ∧ c ≤ n
theorem s4 {s : Int} (h0 : 0 ≤ s) (h3 : s ≤ 3) : s = 0 ∨ s = 1 ∨ s = 2 ∨ s = 3 := by omega
theorem dr_0 (C : Int → Int → Int) (r c : Int) : dr C r c 0 = dD C (r - 1) c := rfl
theorem dr_1 (C : Int → Int → Int) (r c : Int) : dr C r c 1 = dA C r c := rfl
theorem dr_2 (C : Int → Int → Int) (r c : Int) : dr C r c 2 = dD C r c := rfl
theorem dr_3 (C : Int → Int → Int) (r c : Int) : dr C r c 3 = dA C r (c - 1) := rfl
theorem dr_two {n : Int} {C : Int → Int → Int} (hC : CS n C) {r c : Int} (h : IN n r c) :
    (dr C r c 0 = true ∧ dr C r c 1 = true ∧ dr C r c 2 = false ∧ dr C r c 3 = false) ∨ (dr C r c 0 = true ∧ dr C r c 1 = false ∧ dr C r c 2 = true ∧ dr C r c 3 = false) ∨ (dr C r c 0 = true ∧ dr C r c 1 = false ∧ dr C r c 2 = false ∧ dr C r c 3 = true) ∨ (dr C r c 0 = false ∧ dr C r c 1 = true ∧ dr C r c 2 = true ∧ dr C r c 3 = false) ∨ (dr C r c 0 = false ∧ dr C r c 1 = true ∧ dr C r c 2 = false ∧ dr C r c 3 = true) ∨ (dr C r c 0 = false ∧ dr C r c 1 = false ∧ dr C r c 2 = true ∧ dr C r c 3 = true) := by
  obtain ⟨h1, h2, h3, h4⟩ := h
  have a := hC.ksb (i := r - 1) (j := c) (by omega) (by omega) (by omega) (by omega)
  have b := hC.ksb (i := r) (j := c) (by omega) (by omega) (by omega) (by omega)
  have x := hC.rsb (i := r) (j := c - 1) (by omega) (by omega) (by omega) (by omega)
  have y := hC.rsb (i := r) (j := c) (by omega) (by omega) (by omega) (by omega)
  have e : ks C r c - ks C (r - 1) c = rs C r c - rs C r (c - 1) := by unfold ks rs; omega
  rw [dr_0, dr_1, dr_2, dr_3]
  unfold dD dA
  generalize ks C (r - 1) c = A at *
  generalize ks C r c = B at *
  generalize rs C r (c - 1) = X at *
  generalize rs C r c = Y at *
  simp only [decide_eq_true_eq, decide_eq_false_iff_not]
  omega
theorem opp_f {s : Int} (h0 : 0 ≤ s) (h3 : s ≤ 3) (r c : Int) : nro (nro r s) (opp s) = r ∧ nco (nco c s) (opp s) = c ∧ opp (opp s) = s ∧ 0 ≤ opp s ∧ opp s ≤ 3 ∧ ¬ (nro r s = r ∧ nco c s = c) := by
  rcases s4 h0 h3 with rfl | rfl | rfl | rfl <;> simp [nro, nco, opp] <;> omega
theorem dr_adj (C : Int → Int → Int) {s : Int} (h0 : 0 ≤ s) (h3 : s ≤ 3) (r c : Int) : dr C (nro r s) (nco c s) (opp s) = dr C r c s := by
  rcases s4 h0 h3 with rfl | rfl | rfl | rfl
  · show dr C (r - 1) c 2 = dr C r c 0
    rfl
  · show dr C r (c + 1) 3 = dr C r c 1
    rw [dr_3, dr_1, show c + 1 - 1 = c by omega]
  · show dr C (r + 1) c 0 = dr C r c 2
    rw [dr_0, dr_2, show r + 1 - 1 = r by omega]
  · show dr C r (c - 1) 1 = dr C r c 3
    rfl
theorem ot_f {n : Int} {C : Int → Int → Int} (hC : CS n C) {r c s : Int} (h : IN n r c) (h0 : 0 ≤ s) (h3 : s ≤ 3) (hd : dr C r c s = true) :
    0 ≤ ot C r c s ∧ ot C r c s ≤ 3 ∧ ¬ ot C r c s = s ∧ dr C r c (ot C r c s) = true ∧ (∀ t, 0 ≤ t → t ≤ 3 → dr C r c t = true → t = s ∨ t = ot C r c s) ∧ ot C r c (ot C r c s) = s := by
  have all : ∀ t : Int, 0 ≤ t → t ≤ 3 → t = 0 ∨ t = 1 ∨ t = 2 ∨ t = 3 := fun t => s4
  rcases dr_two hC h with ⟨a, b, d, e⟩ | ⟨a, b, d, e⟩ | ⟨a, b, d, e⟩ | ⟨a, b, d, e⟩ | ⟨a, b, d, e⟩ | ⟨a, b, d, e⟩ <;>
  · rcases s4 h0 h3 with rfl | rfl | rfl | rfl <;> first
      | (exfalso; simp_all; done)
      | (refine ⟨?_, ?_, ?_, ?_, fun t t0 t3 td => ?_, ?_⟩
         · simp [ot, a, b, d, e]
         · simp [ot, a, b, d, e]
         · simp [ot, a, b, d, e]
         · simp [ot, a, b, d, e]
         · rcases all t t0 t3 with rfl | rfl | rfl | rfl <;> simp_all [ot]
         · simp [ot, a, b, d, e])
abbrev TR : Type := Int × Int × Int
/-- a state: a place and the side by which it was come into; the next one; its way back -/
def nx (C : Int → Int → Int) (x : TR) : TR := (nro x.1 (ot C x.1 x.2.1 x.2.2), nco x.2.1 (ot C x.1 x.2.1 x.2.2), opp (ot C x.1 x.2.1 x.2.2))
def bk (C : Int → Int → Int) (x : TR) : TR := (x.1, x.2.1, ot C x.1 x.2.1 x.2.2)
def VA (n : Int) (C : Int → Int → Int) (x : TR) : Prop := IN n x.1 x.2.1 ∧ 0 ≤ x.2.2 ∧ x.2.2 ≤ 3 ∧ dr C x.1 x.2.1 x.2.2 = true
theorem VA.nx {n : Int} {C : Int → Int → Int} (hC : CS n C) {x : TR} (h : VA n C x) (hi : IN n (nx C x).1 (nx C x).2.1) : VA n C (nx C x) := by
  obtain ⟨a, b, c, d⟩ := ot_f hC h.1 h.2.1 h.2.2.1 h.2.2.2
  have e := opp_f a b x.1 x.2.1
  refine ⟨hi, e.2.2.2.1, e.2.2.2.2.1, ?_⟩
  show dr C (nro x.1 (ot C x.1 x.2.1 x.2.2)) (nco x.2.1 (ot C x.1 x.2.1 x.2.2)) (opp (ot C x.1 x.2.1 x.2.2)) = true
  rw [dr_adj C a b]
  exact d.1
theorem VA.bk {n : Int} {C : Int → Int → Int} (hC : CS n C) {x : TR} (h : VA n C x) : VA n C (bk C x) := by
  obtain ⟨a, b, c, d⟩ := ot_f hC h.1 h.2.1 h.2.2.1 h.2.2.2
  exact ⟨h.1, a, b, d.1⟩
theorem bk_bk {n : Int} {C : Int → Int → Int} (hC : CS n C) {x : TR} (h : VA n C x) : bk C (bk C x) = x := by
  obtain ⟨a, b, c, d⟩ := ot_f hC h.1 h.2.1 h.2.2.1 h.2.2.2
  show (x.1, x.2.1, ot C x.1 x.2.1 (ot C x.1 x.2.1 x.2.2)) = x
  rw [d.2.2]
/-- going back from the next one -/
theorem nx_bk {n : Int} {C : Int → Int → Int} (hC : CS n C) {x : TR} (h : VA n C x) (hi : IN n (nx C x).1 (nx C x).2.1) : nx C (bk C (nx C x)) = bk C x := by
  have v := h.nx hC hi
  obtain ⟨a, b, c, d⟩ := ot_f hC h.1 h.2.1 h.2.2.1 h.2.2.2
  obtain ⟨a', b', c', d'⟩ := ot_f hC v.1 v.2.1 v.2.2.1 v.2.2.2
  have e := opp_f a b x.1 x.2.1
  have o : ot C (bk C (nx C x)).1 (bk C (nx C x)).2.1 (bk C (nx C x)).2.2 = (nx C x).2.2 := d'.2.2
  show (nro (bk C (nx C x)).1 (ot C (bk C (nx C x)).1 (bk C (nx C x)).2.1 (bk C (nx C x)).2.2), nco (bk C (nx C x)).2.1 (ot C (bk C (nx C x)).1 (bk C (nx C x)).2.1 (bk C (nx C x)).2.2), opp (ot C (bk C (nx C x)).1 (bk C (nx C x)).2.1 (bk C (nx C x)).2.2)) = bk C x
  rw [o]
  show (nro (nro x.1 (ot C x.1 x.2.1 x.2.2)) (opp (ot C x.1 x.2.1 x.2.2)), nco (nco x.2.1 (ot C x.1 x.2.1 x.2.2)) (opp (ot C x.1 x.2.1 x.2.2)), opp (opp (ot C x.1 x.2.1 x.2.2))) = bk C x
  rw [e.1, e.2.1, e.2.2.1]
  rfl
/-- i steps that stay inside -/
def PA (n : Int) (C : Int → Int → Int) : Nat → TR → TR → Prop
  | 0, x, y => x = y
  | i + 1, x, y => IN n (nx C x).1 (nx C x).2.1 ∧ PA n C i (nx C x) y
theorem PA.va {n : Int} {C : Int → Int → Int} (hC : CS n C) : ∀ {i : Nat} {x y : TR}, PA n C i x y → VA n C x → VA n C y := by
  intro i
  induction i with
  | zero => intro x y h v; cases h; exact v
  | succ i ih => intro x y h v; exact ih h.2 (v.nx hC h.1)
theorem PA.snoc {n : Int} {C : Int → Int → Int} : ∀ {i : Nat} {x y : TR}, PA n C i x y → IN n (nx C y).1 (nx C y).2.1 → PA n C (i + 1) x (nx C y) := by
  intro i
  induction i with
  | zero => intro x y h v; cases h; exact ⟨v, rfl⟩
  | succ i ih => intro x y h v; exact ⟨h.1, ih h.2 v⟩
theorem PA.rev {n : Int} {C : Int → Int → Int} (hC : CS n C) : ∀ {i : Nat} {x y : TR}, PA n C i x y → VA n C x → PA n C i (bk C y) (bk C x) := by
  intro i
  induction i with
  | zero => intro x y h v; cases h; rfl
  | succ i ih =>
    intro x y h v
    have v' := v.nx hC h.1
    have a := ih h.2 v'
    have b := nx_bk hC v h.1
    have c := a.snoc (by rw [b]; exact v.1)
    rw [b] at c
    exact c
theorem PA.det {n : Int} {C : Int → Int → Int} : ∀ {i : Nat} {x y z : TR}, PA n C i x y → PA n C i x z → y = z := by
  intro i
  induction i with
  | zero => intro x y z h g; cases h; cases g; rfl
  | succ i ih => intro x y z h g; exact ih h.2 g.2
/-! the rim -/
def rm (n k : Int) : TR := if k < n then (1, k + 1, 0) else if k < 2 * n then (k - n + 1, n, 1) else if k < 3 * n then (n, 3 * n - k, 2) else (4 * n - k, 1, 3)
def rk (n r c : Int) : Int := if r < 1 then c - 1 else if n < c then n + r - 1 else if n < r then 3 * n - c else 4 * n - r
theorem rm_f {n k : Int} (hn : 1 ≤ n) (h0 : 0 ≤ k) (h4 : k < 4 * n) : IN n (rm n k).1 (rm n k).2.1 ∧ 0 ≤ (rm n k).2.2 ∧ (rm n k).2.2 ≤ 3 ∧ ¬ IN n (nro (rm n k).1 (rm n k).2.2) (nco (rm n k).2.1 (rm n k).2.2) ∧ rk n (nro (rm n k).1 (rm n k).2.2) (nco (rm n k).2.1 (rm n k).2.2) = k := by
  unfold rm
  by_cases a : k < n
  · rw [if_pos a]
    refine ⟨⟨?_, ?_, ?_, ?_⟩, ?_, ?_, fun q => ?_, ?_⟩ <;> simp [IN, nro, nco, rk] at * <;> omega
  · rw [if_neg a]
    by_cases b : k < 2 * n
    · rw [if_pos b]
      refine ⟨⟨?_, ?_, ?_, ?_⟩, ?_, ?_, fun q => ?_, ?_⟩ <;> simp [IN, nro, nco, rk] at * <;> omega
    · rw [if_neg b]
      by_cases c : k < 3 * n
      · rw [if_pos c]
        refine ⟨⟨?_, ?_, ?_, ?_⟩, ?_, ?_, fun q => ?_, ?_⟩ <;> simp [IN, nro, nco, rk] at * <;> omega
      · rw [if_neg c]
        refine ⟨⟨?_, ?_, ?_, ?_⟩, ?_, ?_, fun q => ?_, ?_⟩ <;> simp [IN, nro, nco, rk] at * <;> omega
theorem rm_inj {n j k : Int} (hn : 1 ≤ n) (h0 : 0 ≤ k) (h4 : k < 4 * n) (g0 : 0 ≤ j) (g4 : j < 4 * n) (e : rm n j = rm n k) : j = k := by
  have a := (rm_f hn h0 h4).2.2.2.2
  have b := (rm_f hn g0 g4).2.2.2.2
  rw [e] at b
  omega
theorem rm_rk {n r c s : Int} (h : IN n r c) (h0 : 0 ≤ s) (h3 : s ≤ 3) (ho : ¬ IN n (nro r s) (nco c s)) : 0 ≤ rk n (nro r s) (nco c s) ∧ rk n (nro r s) (nco c s) < 4 * n ∧ rm n (rk n (nro r s) (nco c s)) = (r, c, s) := by
  obtain ⟨a, b, d, e⟩ := h
  rcases s4 h0 h3 with rfl | rfl | rfl | rfl
  · have : r = 1 := by simp [IN, nro, nco] at ho; omega
    subst this
    have e : rk n (nro 1 0) (nco c 0) = c - 1 := by simp [rk, nro, nco]
    rw [e]
    unfold rm
    rw [if_pos (by omega)]
    refine ⟨by omega, by omega, ?_⟩
    congr 2; omega
  · have : c = n := by simp [IN, nro, nco] at ho; omega
    subst this
    have e : rk c (nro r 1) (nco c 1) = c + r - 1 := by simp [rk, nro, nco]; omega
    rw [e]
    unfold rm
    rw [if_neg (by omega), if_pos (by omega)]
    refine ⟨by omega, by omega, ?_⟩
    congr 1; omega
  · have : r = n := by simp [IN, nro, nco] at ho; omega
    subst this
    have e : rk r (nro r 2) (nco c 2) = 3 * r - c := by
      have e1 : nro r 2 = r + 1 := rfl
      have e2 : nco c 2 = c := rfl
      unfold rk
      rw [e1, e2, if_neg (by omega), if_neg (by omega), if_pos (by omega)]
    rw [e]
    unfold rm
    rw [if_neg (by omega), if_neg (by omega), if_pos (by omega)]
    refine ⟨by omega, by omega, ?_⟩
    congr 2; omega
  · have : c = 1 := by simp [IN, nro, nco] at ho; omega
    subst this
    have e : rk n (nro r 3) (nco 1 3) = 4 * n - r := by
      have e1 : nro r 3 = r := rfl
      have e2 : nco 1 3 = 0 := rfl
      unfold rk
      rw [e1, e2, if_neg (by omega), if_neg (by omega), if_neg (by omega)]
    rw [e]
    unfold rm
    rw [if_neg (by omega), if_neg (by omega), if_neg (by omega)]
    refine ⟨by omega, by omega, ?_⟩
    congr 1; omega
theorem rm_dr {n : Int} {C : Int → Int → Int} (hC : CS n C) {k : Int} (h0 : 0 ≤ k) (h4 : k < 4 * n) : dr C (rm n k).1 (rm n k).2.1 (rm n k).2.2 = decide (k % 2 = 0) := by
  have hn := hC.n1
  unfold rm
  by_cases a : k < n
  · rw [if_pos a]
    show dD C (1 - 1) (k + 1) = _
    unfold dD ks
    rw [show (1 : Int) - 1 = 0 from rfl, hC.top (by omega) (by omega), hC.top (by omega) (by omega)]
    rw [decide_eq_decide]; omega
  · rw [if_neg a]
    by_cases b : k < 2 * n
    · rw [if_pos b]
      show dA C (k - n + 1) n = _
      unfold dA rs
      rw [hC.right (by omega) (by omega), hC.right (by omega) (by omega)]
      rw [decide_eq_decide]; omega
    · rw [if_neg b]
      by_cases c : k < 3 * n
      · rw [if_pos c]
        show dD C n (3 * n - k) = _
        unfold dD ks
        rw [hC.bot (by omega) (by omega), hC.bot (by omega) (by omega)]
        rw [decide_eq_decide]; omega
      · rw [if_neg c]
        show dA C (4 * n - k) (1 - 1) = _
        unfold dA rs
        rw [show (1 : Int) - 1 = 0 from rfl, hC.left (by omega) (by omega), hC.left (by omega) (by omega)]
        rw [decide_eq_decide]; omega
theorem rm_va {n : Int} {C : Int → Int → Int} (hC : CS n C) {k : Int} (h0 : 0 ≤ k) (h4 : k < 4 * n) (h2 : k % 2 = 0) : VA n C (rm n k) := by
  have a := rm_f hC.n1 h0 h4
  refine ⟨a.1, a.2.1, a.2.2.1, ?_⟩
  rw [rm_dr hC h0 h4, decide_eq_true_eq]
  exact h2
/-- the walk from a rim place goes i steps on and comes out at another -/
def WK (n : Int) (C : Int → Int → Int) (k : Int) (i : Nat) (k' : Int) : Prop := 0 ≤ k' ∧ k' < 4 * n ∧ k' % 2 = 0 ∧ ∃ y, PA n C i (rm n k) y ∧ bk C y = rm n k'
theorem WK.rev {n : Int} {C : Int → Int → Int} (hC : CS n C) {k k' : Int} {i : Nat} (h0 : 0 ≤ k) (h4 : k < 4 * n) (h2 : k % 2 = 0) (h : WK n C k i k') : WK n C k' i k := by
  obtain ⟨a, b, c, y, d, e⟩ := h
  have v := rm_va hC h0 h4 h2
  refine ⟨h0, h4, h2, bk C (rm n k), ?_, bk_bk hC v⟩
  rw [← e]
  exact d.rev hC v
theorem WK.out {n : Int} {C : Int → Int → Int} (hC : CS n C) {k k' : Int} {y : TR} (v : VA n C y) (h0 : 0 ≤ k') (h4 : k' < 4 * n) (e : bk C y = rm n k') : ¬ IN n (nx C y).1 (nx C y).2.1 := by
  have f := (rm_f hC.n1 h0 h4).2.2.2.1
  rw [← e] at f
  exact f
theorem WK.det {n : Int} {C : Int → Int → Int} (hC : CS n C) {k a b : Int} {i j : Nat} (h0 : 0 ≤ k) (h4 : k < 4 * n) (h2 : k % 2 = 0) (h : WK n C k i a) (g : WK n C k j b) : i = j ∧ a = b := by
  obtain ⟨a1, a2, a3, y, a4, a5⟩ := h
  obtain ⟨b1, b2, b3, z, b4, b5⟩ := g
  have key : ∀ {i j : Nat} {x y z : TR} {a b : Int}, VA n C x → PA n C i x y → PA n C j x z → 0 ≤ a → a < 4 * n → 0 ≤ b → b < 4 * n → bk C y = rm n a → bk C z = rm n b → i = j ∧ y = z := by
    intro i
    induction i with
    | zero =>
      intro j x y z a b v h g a1 a2 b1 b2 e f
      cases h
      cases j with
      | zero => cases g; exact ⟨rfl, rfl⟩
      | succ j => exact absurd g.1 (WK.out hC (k := 0) v a1 a2 e)
    | succ i ih =>
      intro j x y z a b v h g a1 a2 b1 b2 e f
      cases j with
      | zero => cases g; exact absurd h.1 (WK.out hC (k := 0) v b1 b2 f)
      | succ j =>
        obtain ⟨p, q⟩ := ih (v.nx hC h.1) h.2 g.2 a1 a2 b1 b2 e f
        exact ⟨by omega, q⟩
  obtain ⟨p, q⟩ := key (rm_va hC h0 h4 h2) a4 b4 a1 a2 b1 b2 a5 b5
  refine ⟨p, rm_inj hC.n1 b1 b2 a1 a2 ?_⟩
  rw [← a5, ← b5, q]
