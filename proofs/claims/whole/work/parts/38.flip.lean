/-! one height flipped -/
def up2 (C : Int → Int → Int) (a b v : Int) : Int → Int → Int := fun i j => if i = a ∧ j = b then v else C i j
theorem up2_s (C : Int → Int → Int) (a b v : Int) : up2 C a b v a b = v := if_pos ⟨rfl, rfl⟩
theorem up2_n (C : Int → Int → Int) (a b v : Int) {i j : Int} (h : ¬ (i = a ∧ j = b)) : up2 C a b v i j = C i j := if_neg h
def eqv (n : Int) (C D : Int → Int → Int) : Prop := ∀ i j, 0 ≤ i → i ≤ n → 0 ≤ j → j ≤ n → C i j = D i j
theorem eqv.symm {n : Int} {C D : Int → Int → Int} (h : eqv n C D) : eqv n D C := fun i j a b c d => (h i j a b c d).symm
theorem eqv.trans {n : Int} {C D E : Int → Int → Int} (h : eqv n C D) (h2 : eqv n D E) : eqv n C E := fun i j a b c d => (h i j a b c d).trans (h2 i j a b c d)
theorem eqv.rfl {n : Int} {C : Int → Int → Int} : eqv n C C := fun _ _ _ _ _ _ => Eq.refl _
theorem CS.congr {n : Int} {C D : Int → Int → Int} (h : CS n C) (e : eqv n C D) : CS n D := by
  obtain ⟨⟨n1, n6⟩, a, b, c, d, f, g⟩ := h
  refine ⟨⟨n1, n6⟩, fun j h1 h2 => ?_, fun i h1 h2 => ?_, fun j h1 h2 => ?_, fun i h1 h2 => ?_, fun i j h1 h2 h3 h4 => ?_, fun i j h1 h2 h3 h4 => ?_⟩
  · rw [← e 0 j (by omega) (by omega) h1 h2]; exact a j h1 h2
  · rw [← e i 0 h1 h2 (by omega) (by omega)]; exact b i h1 h2
  · rw [← e n j (by omega) (by omega) h1 h2]; exact c j h1 h2
  · rw [← e i n h1 h2 (by omega) (by omega)]; exact d i h1 h2
  · rw [← e (i + 1) j (by omega) (by omega) h3 h4, ← e i j h1 (by omega) h3 h4]; exact f i j h1 h2 h3 h4
  · rw [← e i (j + 1) h1 h2 (by omega) (by omega), ← e i j h1 h2 h3 (by omega)]; exact g i j h1 h2 h3 h4
theorem TC.congr {n : Int} {C D : Int → Int → Int} {cs : Nat → Int32} (h : TC n C cs) (e : eqv n C D) : TC n D cs := fun i j a b c d => by rw [← e i j a b c d]; exact h i j a b c d
theorem sg_congr {n : Int} {C D : Int → Int → Int} (e : eqv n C D) {r c : Int} (h1 : 0 ≤ r) (h2 : r < n) (h3 : 0 ≤ c) (h4 : c < n) : sg C r c = sg D r c := by
  unfold sg
  rw [e _ _ (by omega) (by omega) (by omega) (by omega), e _ _ (by omega) (by omega) (by omega) (by omega), e _ _ (by omega) (by omega) (by omega) (by omega), e _ _ (by omega) (by omega) (by omega) (by omega)]
theorem TM.congr {n : Int} {C D : Int → Int → Int} {sn : Nat → Int32} (h : TM n C sn) (e : eqv n C D) : TM n D sn := fun r c a b x d => by rw [← sg_congr e a b x d]; exact h r c a b x d
theorem TC.eqv {n : Int} {C D : Int → Int → Int} {cs : Nat → Int32} (hC : CS n C) (hD : CS n D) (h : TC n C cs) (h2 : TC n D cs) : eqv n C D := by
  intro i j a b c d
  have x := hC.bd a b c d
  have y := hD.bd a b c d
  have z := (h i j a b c d).symm.trans (h2 i j a b c d)
  exact (ii_eq (by omega) (by omega) (by omega) (by omega)).mp z
theorem TC.upd {n : Int} {C : Int → Int → Int} {cs : Nat → Int32} (hn : n ≤ 6) (h : TC n C cs) {a b v : Int} (h1 : 0 ≤ a) (h2 : a ≤ n) (h3 : 0 ≤ b) (h4 : b ≤ n) : TC n (up2 C a b v) (upd cs (a * 7 + b).toNat (ii v)) := by
  intro i j i1 i2 j1 j2
  by_cases e : i = a ∧ j = b
  · obtain ⟨rfl, rfl⟩ := e
    rw [pk_us, up2_s]
  · rw [pk_un (by omega), up2_n _ _ _ _ e]
    exact h i j i1 i2 j1 j2
theorem Z7.upd {cs : Nat → Int32} (h : Z7 cs) {a b : Int} (v : Int32) (h1 : 1 ≤ a) (h2 : a ≤ 6) (h3 : 1 ≤ b) (h4 : b ≤ 6) : Z7 (upd cs (a * 7 + b).toNat v) := by
  refine ⟨fun j j1 j2 => ?_, fun i i1 i2 => ?_⟩
  · rw [pk_un (by omega)]; exact h.1 j j1 j2
  · rw [pk_un (by omega)]; exact h.2 i i1 i2
def dl (C : Int → Int → Int) (i j : Int) : Int := if kd C i j = 1 then -1 else 1
/-- flipped at (i, j) -/
def fl (C : Int → Int → Int) (i j : Int) : Int → Int → Int := up2 C i j (C i j + dl C i j)
theorem kd_spec {n : Int} {C : Int → Int → Int} (hC : CS n C) {i j : Int} (h1 : 1 ≤ i) (h2 : i < n) (h3 : 1 ≤ j) (h4 : j < n) (hk : ¬ kd C i j = 0) : C (i + 1) j = C (i - 1) j + 1 ∧ C i (j - 1) = C (i - 1) j ∧ C i (j + 1) = C (i - 1) j + 1 ∧ ((kd C i j = 1 ∧ C i j = C (i - 1) j + 1) ∨ (kd C i j = 2 ∧ C i j = C (i - 1) j)) := by
  have a := hC.row (i := i) (j := j) h1 (by omega) (by omega) (by omega)
  unfold kd hh at hk ⊢
  by_cases c : i + 1 + j - 2 * C (i + 1) j = i - 1 + j - 2 * C (i - 1) j ∧ i + (j - 1) - 2 * C i (j - 1) = i - 1 + j - 2 * C (i - 1) j ∧ i + (j + 1) - 2 * C i (j + 1) = i - 1 + j - 2 * C (i - 1) j
  · rw [if_pos c]
    refine ⟨by omega, by omega, by omega, ?_⟩
    by_cases d : i + j - 2 * C i j < i - 1 + j - 2 * C (i - 1) j
    · rw [if_pos d]; exact Or.inl ⟨rfl, by omega⟩
    · rw [if_neg d]; exact Or.inr ⟨rfl, by omega⟩
  · rw [if_neg c] at hk
    exact absurd rfl hk
theorem CS.flp {n : Int} {C : Int → Int → Int} (hC : CS n C) {i j : Int} (h1 : 1 ≤ i) (h2 : i < n) (h3 : 1 ≤ j) (h4 : j < n) (hk : ¬ kd C i j = 0) : CS n (fl C i j) := by
  obtain ⟨k1, k2, k3, k4⟩ := kd_spec hC h1 h2 h3 h4 hk
  have hd : (kd C i j = 1 ∧ dl C i j = -1) ∨ (kd C i j = 2 ∧ dl C i j = 1) := by
    unfold dl
    rcases k4 with ⟨e, -⟩ | ⟨e, -⟩
    · left; rw [if_pos e]; exact ⟨e, rfl⟩
    · right; rw [if_neg (by omega)]; exact ⟨e, rfl⟩
  have hv : C i j + dl C i j = C (i - 1) j ∨ C i j + dl C i j = C (i - 1) j + 1 := by omega
  have e6 : C (i - 1) j ≤ C i j + dl C i j ∧ C i j + dl C i j ≤ C (i - 1) j + 1 := by omega
  have hC' := hC
  obtain ⟨⟨n1, n6⟩, a, b, c, d, f, g⟩ := hC
  unfold fl
  generalize C i j + dl C i j = v at e6
  refine ⟨⟨n1, n6⟩, fun y y1 y2 => ?_, fun x x1 x2 => ?_, fun y y1 y2 => ?_, fun x x1 x2 => ?_, fun x y x1 x2 y1 y2 => ?_, fun x y x1 x2 y1 y2 => ?_⟩
  · rw [up2_n _ _ _ _ (by omega)]; exact a y y1 y2
  · rw [up2_n _ _ _ _ (by omega)]; exact b x x1 x2
  · rw [up2_n _ _ _ _ (by omega)]; exact c y y1 y2
  · rw [up2_n _ _ _ _ (by omega)]; exact d x x1 x2
  · by_cases p : x + 1 = i ∧ y = j
    · obtain ⟨p1, rfl⟩ := p
      rw [show x = i - 1 by omega, show i - 1 + 1 = i by omega, up2_s, up2_n _ _ _ _ (by omega)]
      omega
    · by_cases q : x = i ∧ y = j
      · obtain ⟨rfl, rfl⟩ := q
        rw [up2_s, up2_n _ _ _ _ (by omega)]
        omega
      · rw [up2_n _ _ _ _ p, up2_n _ _ _ _ q]; exact f x y x1 x2 y1 y2
  · by_cases p : x = i ∧ y + 1 = j
    · obtain ⟨rfl, p1⟩ := p
      rw [show y = j - 1 by omega, show j - 1 + 1 = j by omega, up2_s, up2_n _ _ _ _ (by omega)]
      omega
    · by_cases q : x = i ∧ y = j
      · obtain ⟨rfl, rfl⟩ := q
        rw [up2_s, up2_n _ _ _ _ (by omega)]
        omega
      · rw [up2_n _ _ _ _ p, up2_n _ _ _ _ q]; exact g x y x1 x2 y1 y2
theorem x3_putCorner {cs : Nat → Int32} {i j : Int} (v : Int32) (h1 : 0 ≤ i) (h2 : i ≤ 6) (h3 : 0 ≤ j) (h4 : j ≤ 6) : S_X3_putCorner (ii i) (ii j) v cs = some (upd cs (i * 7 + j).toNat v) := by
  simp (disch := omega) only [S_X3_putCorner, ii_7, ii_mul, ii_add, ck_in, ii_clamp]
theorem x3_flipAt {n : Int} {C : Int → Int → Int} {cs : Nat → Int32} (hC : CS n C) (h : TC n C cs) {i j : Int} (h1 : 1 ≤ i) (h2 : i < n) (h3 : 1 ≤ j) (h4 : j < n) : S_X3_flipAt (ii i) (ii j) cs = some (upd cs (i * 7 + j).toNat (ii (C i j + dl C i j))) := by
  have hn := hC.n6
  have a := kd_r C i j
  simp (disch := omega) only [S_X3_flipAt, x3_flipKind hC h, x3_cornerAt hn h, Option.bind_some, ii_eq1]
  unfold dl
  by_cases c : kd C i j = 1
  · rw [if_pos c, if_pos c, jn_l, ii_m1, ii_add, x3_putCorner _ (by omega) (by omega) (by omega) (by omega)]; rfl
  · rw [if_neg c, if_neg c, jn_l, ii_1, ii_add, x3_putCorner _ (by omega) (by omega) (by omega) (by omega)]; rfl
theorem x6_flips {n : Int} {C : Int → Int → Int} {sn : Nat → Int32} (hC : CS n C) (h : TM n C sn) {i j : Int} (h1 : 1 ≤ i) (h2 : i < n) (h3 : 1 ≤ j) (h4 : j < n) : (kd C i j = 0 → S_X6_flips (ii i) (ii j) sn = some (0, sn)) ∧ (¬ kd C i j = 0 → ∃ sn', S_X6_flips (ii i) (ii j) sn = some (1, sn') ∧ TM n (fl C i j) sn') := by
  have hn := hC.n6
  have a := kd_r C i j
  constructor
  · intro k
    simp (disch := omega) only [S_X6_flips, x6_mayBe hC h, Option.bind_some, k]
    simp only [ii_0i, if_pos]
    rfl
  · intro k
    have d1 : S_X6_flips (ii i) (ii j) sn = some (1, upd (upd (upd (upd sn (6 * (i - 1) + j - 1).toNat (sn (6 * (i - 1) + j - 1).toNat + ii (dl C i j))) (6 * (i - 1) + j).toNat (sn (6 * (i - 1) + j).toNat - ii (dl C i j))) (6 * i + j - 1).toNat (sn (6 * i + j - 1).toNat - ii (dl C i j))) (6 * i + j).toNat (sn (6 * i + j).toNat + ii (dl C i j))) := by
      simp (disch := omega) only [S_X6_flips, x6_mayBe hC h, Option.bind_some, ii_eq2, ii_eq0, if_neg k]
      have j1 : ∀ {ρ : Type} (k : Int32 → Option ρ), jn (if kd C i j = 2 then some (.inl 1) else some (.inl (-1))) k = k (ii (dl C i j)) := by
        intro ρ k
        unfold dl
        by_cases c : kd C i j = 2
        · rw [if_pos c, if_neg (by omega)]; rfl
        · rw [if_neg c, if_pos (by omega)]; rfl
      rw [j1]
      simp (disch := omega) only [ii_6, ii_1, ii_mul, ii_sub, ii_add, ck_in, ii_clamp, Option.bind_some]
      rw [pk_un (f := sn) (by omega), pk_un (by omega), pk_un (f := sn) (by omega), pk_un (by omega), pk_un (by omega), pk_un (f := sn) (by omega)]
    refine ⟨_, d1, ?_⟩
    intro r c r1 r2 c1 c2
    have q := h r c r1 r2 c1 c2
    unfold fl
    by_cases x1 : r = i ∧ c = j
    · obtain ⟨rfl, rfl⟩ := x1
      rw [pk_us, q, ii_add]
      unfold sg
      rw [up2_s, up2_n _ _ _ _ (by omega), up2_n _ _ _ _ (by omega), up2_n _ _ _ _ (by omega)]
      congr 1; omega
    · rw [pk_un (by omega)]
      by_cases x2 : r = i ∧ c = j - 1
      · obtain ⟨rfl, rfl⟩ := x2
        rw [show 6 * r + (j - 1) = 6 * r + j - 1 by omega] at q ⊢
        rw [pk_us, q, ii_sub]
        unfold sg
        rw [show j - 1 + 1 = j by omega, up2_s, up2_n _ _ _ _ (by omega), up2_n _ _ _ _ (by omega), up2_n _ _ _ _ (by omega)]
        congr 1; omega
      · rw [pk_un (by omega)]
        by_cases x3 : r = i - 1 ∧ c = j
        · obtain ⟨rfl, rfl⟩ := x3
          rw [pk_us, q, ii_sub]
          unfold sg
          rw [show i - 1 + 1 = i by omega, up2_s, up2_n _ _ _ _ (by omega), up2_n _ _ _ _ (by omega), up2_n _ _ _ _ (by omega)]
          congr 1; omega
        · rw [pk_un (by omega)]
          by_cases x4 : r = i - 1 ∧ c = j - 1
          · obtain ⟨rfl, rfl⟩ := x4
            rw [show 6 * (i - 1) + (j - 1) = 6 * (i - 1) + j - 1 by omega] at q ⊢
            rw [pk_us, q, ii_add]
            unfold sg
            rw [show i - 1 + 1 = i by omega, show j - 1 + 1 = j by omega, up2_s, up2_n _ _ _ _ (by omega), up2_n _ _ _ _ (by omega), up2_n _ _ _ _ (by omega)]
            congr 1; omega
          · rw [pk_un (by omega), q]
            unfold sg
            rw [up2_n _ _ _ _ (by omega), up2_n _ _ _ _ (by omega), up2_n _ _ _ _ (by omega), up2_n _ _ _ _ (by omega)]
