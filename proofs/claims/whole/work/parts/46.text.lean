/-! THE TEXT, read letter by letter on both sides -/
def bv (m c : Nat) : Nat := m / 2 ^ c % 2
theorem bv_read : ∀ m : Fin 64, ∀ c : Fin 6, (ii ((m : Nat) : Int) >>> (ii ((c : Nat) : Int) &&& 31)) &&& 1 = ii ((bv m c : Nat) : Int) := by decide +kernel
theorem bv_or : ∀ m : Fin 64, ∀ c : Fin 6, ii ((m : Nat) : Int) ||| ((1 : Int32) <<< (ii ((c : Nat) : Int) &&& 31)) = ii (((m : Nat) ||| 2 ^ (c : Nat) : Nat) : Int) ∧ ((m : Nat) ||| 2 ^ (c : Nat)) < 64 ∧ bv ((m : Nat) ||| 2 ^ (c : Nat)) c = 1 ∧ ∀ d : Fin 6, d ≠ c → bv ((m : Nat) ||| 2 ^ (c : Nat)) d = bv m d := by decide +kernel
theorem bv_and : ∀ m : Fin 64, ∀ c : Fin 6, ii ((m : Nat) : Int) &&& (((1 : Int32) <<< (ii ((c : Nat) : Int) &&& 31)) ^^^ (-1 : Int32)) = ii (((m : Nat) &&& (63 - 2 ^ (c : Nat)) : Nat) : Int) ∧ ((m : Nat) &&& (63 - 2 ^ (c : Nat))) < 64 ∧ bv ((m : Nat) &&& (63 - 2 ^ (c : Nat))) c = 0 ∧ ∀ d : Fin 6, d ≠ c → bv ((m : Nat) &&& (63 - 2 ^ (c : Nat))) d = bv m d := by decide +kernel
def wd (Z : Int) : Int := if Z = 0 then 6 else Z
/-- R rows have ended, L letters stand in the next one, S is its sum so far, Z the size (0: none yet), m the columns whose sum is 1 -/
def RF (R L S Z : Int) (m : Nat) (D : Int → Int → Int) (dcs rd : Nat → Int32) : Prop :=
  ((0 ≤ Z ∧ Z ≤ 6) ∧ 0 ≤ R ∧ (Z = 0 → R = 0) ∧ (¬ Z = 0 → R ≤ Z) ∧ 0 ≤ L ∧ L ≤ wd Z ∧ (S = 0 ∨ S = 1) ∧ m < 64 ∧ Z7 dcs) ∧
  (∀ i j, 0 ≤ i → i ≤ R → 0 ≤ j → j ≤ wd Z → dcs (i * 7 + j).toNat = ii (D i j)) ∧
  (R < wd Z → ∀ j, 0 ≤ j → j ≤ L → dcs ((R + 1) * 7 + j).toNat = ii (D (R + 1) j)) ∧
  ((∀ j, 0 ≤ j → j ≤ wd Z → D 0 j = 0) ∧ ∀ i, D i 0 = 0) ∧
  (∀ i j, 0 ≤ i → i < R → 0 ≤ j → j ≤ wd Z → 0 ≤ D (i + 1) j - D i j ∧ D (i + 1) j - D i j ≤ 1) ∧
  (R < wd Z → ∀ j, 0 ≤ j → j ≤ L → 0 ≤ D (R + 1) j - D R j ∧ D (R + 1) j - D R j ≤ 1) ∧
  (∀ i j, 0 ≤ i → i ≤ R → 0 ≤ j → j < wd Z → 0 ≤ D i (j + 1) - D i j ∧ D i (j + 1) - D i j ≤ 1) ∧
  (R < wd Z → ∀ j, 0 ≤ j → j < L → 0 ≤ D (R + 1) (j + 1) - D (R + 1) j ∧ D (R + 1) (j + 1) - D (R + 1) j ≤ 1) ∧
  (¬ Z = 0 → ∀ i, 0 ≤ i → i ≤ R → D i Z = i) ∧
  (R < wd Z → S = D (R + 1) L - D R L) ∧
  (R < wd Z → ∀ c : Nat, (c : Int) < wd Z → (bv m c : Int) = if (c : Int) < L then D (R + 1) (c + 1) - D (R + 1) c else D R (c + 1) - D R c) ∧
  (∀ r c, 0 ≤ r → r < R → 0 ≤ c → c < wd Z → rd (6 * r + c).toNat = ii (sg D r c)) ∧
  (R < wd Z → ∀ c, 0 ≤ c → c < L → rd (6 * R + c).toNat = ii (sg D R c))
theorem RF_0 {dcs rd : Nat → Int32} (hz : Z7 dcs) : RF 0 0 0 0 0 (fun _ _ => 0) dcs rd := by
  have w : wd 0 = 6 := rfl
  unfold RF
  rw [w]
  refine ⟨⟨by omega, by omega, fun _ => rfl, fun h => absurd rfl h, by omega, by omega, Or.inl rfl, by omega, hz⟩, fun i j a b c d => ?_, fun _ j a b => ?_, ⟨fun _ _ _ => rfl, fun _ => rfl⟩, fun i j a b => absurd b (by omega), fun _ j a b => by dsimp only; omega, fun i j a b c d => by dsimp only; omega, fun _ j a b => absurd b (by omega), fun h => absurd rfl h, fun _ => by dsimp only; omega, fun _ c h => ?_, fun r c a b => absurd b (by omega), fun _ c a b => absurd b (by omega)⟩
  · have : i = 0 := by omega
    subst this
    rw [show (0 * 7 + j) = j by omega]; exact hz.1 j c d
  · have : j = 0 := by omega
    subst this
    exact hz.2 1 (by omega) (by omega)
  · rw [if_neg (by omega)]
    have : c < 6 := by omega
    rcases (by omega : c = 0 ∨ c = 1 ∨ c = 2 ∨ c = 3 ∨ c = 4 ∨ c = 5) with rfl | rfl | rfl | rfl | rfl | rfl <;> rfl
/-- a row ends -/
theorem RF_row {R L Z : Int} {m : Nat} {D : Int → Int → Int} {dcs rd : Nat → Int32} (h : RF R L 1 Z m D dcs rd) (hw : ¬ (¬ Z = 0 ∧ R = Z)) (h1 : ¬ L = 0) (h2 : Z ≤ L) : RF (R + 1) 0 0 L m D dcs rd := by
  obtain ⟨⟨z0, r0, zr, rz, l0, lw, -, m6, hz⟩, f1, f2, ⟨f3, f4⟩, f5, f6, f7, f8, f9, f10, f11, f12, f13⟩ := h
  have wl : wd L = L := if_neg h1
  have hwd : wd Z = Z ∨ wd Z = 6 := by unfold wd; split <;> omega
  have hL6 : L ≤ 6 := by omega
  have hRw : R < wd Z := by
    unfold wd
    by_cases c : Z = 0
    · rw [if_pos c]; have := zr c; omega
    · rw [if_neg c]; have := rz c; omega
  have hLw : L ≤ wd Z := lw
  have hLZ : ¬ Z = 0 → L = Z := by
    intro c
    have : wd Z = Z := if_neg c
    omega
  have g2 := f2 hRw
  have g6 := f6 hRw
  have g8 := f8 hRw
  have g10 := f10 hRw
  have g11 := f11 hRw
  have g13 := f13 hRw
  have dRL : D R L = R := by
    by_cases c : Z = 0
    · have := zr c; subst this; exact f3 L (by omega) lw
    · rw [hLZ c]; exact f9 c R r0 (by omega)
  have hR1L : R + 1 ≤ L := by
    by_cases c : Z = 0
    · have := zr c; omega
    · have := rz c; have := hLZ c; omega
  unfold RF
  rw [wl]
  refine ⟨⟨by omega, by omega, fun c => absurd c h1, fun _ => hR1L, by omega, by omega, Or.inl rfl, m6, hz⟩, fun i j a b c d => ?_, fun hlt j a b => ?_, ⟨fun j a b => f3 j a (by omega), f4⟩, fun i j a b c d => ?_, fun hlt j a b => ?_, fun i j a b c d => ?_, fun _ j a b => absurd b (by omega), fun _ i a b => ?_, fun _ => by rw [f4, f4]; omega, fun _ c hc => ?_, fun r c a b x y => ?_, fun _ c a b => absurd b (by omega)⟩
  · by_cases e : i = R + 1
    · subst e; exact g2 j c d
    · exact f1 i j a (by omega) c (by omega)
  · have : j = 0 := by omega
    subst this
    rw [f4, Int.add_zero]; exact hz.2 _ (by omega) (by omega)
  · by_cases e : i = R
    · subst e; exact g6 j c d
    · exact f5 i j a (by omega) c (by omega)
  · have : j = 0 := by omega
    subst this
    rw [f4, f4]; omega
  · by_cases e : i = R + 1
    · subst e; exact g8 j c d
    · exact f7 i j a (by omega) c (by omega)
  · by_cases e : i = R + 1
    · subst e; omega
    · by_cases c : Z = 0
      · have := zr c
        have : i = 0 := by omega
        subst this; exact f3 L (by omega) lw
      · rw [hLZ c]; exact f9 c i a (by omega)
  · rw [if_neg (by omega), g11 c (by omega), if_pos hc]
  · by_cases e : r = R
    · subst e; exact g13 c x y
    · exact f12 r c a (by omega) x (by omega)
/-- a sign comes -/
theorem RF_put {R L S Z v : Int} {m m' : Nat} {D : Int → Int → Int} {dcs rd : Nat → Int32} (h : RF R L S Z m D dcs rd) (hRw : R < wd Z) (hL : L < wd Z) (hv : -1 ≤ v ∧ v ≤ 1) (s1 : 0 ≤ S + v ∧ S + v ≤ 1) (s2 : 0 ≤ (bv m L.toNat : Int) + v ∧ (bv m L.toNat : Int) + v ≤ 1) (hm : m' < 64) (b1 : (bv m' L.toNat : Int) = (bv m L.toNat : Int) + v) (b2 : ∀ c : Nat, c < 6 → c ≠ L.toNat → bv m' c = bv m c) :
    RF R (L + 1) (S + v) Z m' (up2 D (R + 1) (L + 1) (D R (L + 1) + (S + v))) (upd dcs ((R + 1) * 7 + (L + 1)).toNat (ii (D R (L + 1) + (S + v)))) (upd rd (6 * R + L).toNat (ii v)) := by
  obtain ⟨⟨z0, r0, zr, rz, l0, lw, s0, m6, hz⟩, f1, f2, ⟨f3, f4⟩, f5, f6, f7, f8, f9, f10, f11, f12, f13⟩ := h
  have hW : wd Z ≤ 6 := by unfold wd; split <;> omega
  have g2 := f2 hRw
  have g6 := f6 hRw
  have g8 := f8 hRw
  have g10 := f10 hRw
  have g11 := f11 hRw
  have g13 := f13 hRw
  have bL := g11 L.toNat (by omega)
  rw [if_neg (by omega), show ((L.toNat : Nat) : Int) = L by omega] at bL
  unfold RF
  refine ⟨⟨z0, r0, zr, rz, by omega, by omega, by omega, hm, hz.upd _ (by omega) (by omega) (by omega) (by omega)⟩, fun i j a b c d => ?_, fun _ j a b => ?_, ⟨fun j a b => ?_, fun i => ?_⟩, fun i j a b c d => ?_, fun _ j a b => ?_, fun i j a b c d => ?_, fun _ j a b => ?_, fun hZ i a b => ?_, fun _ => ?_, fun _ c hc => ?_, fun r c a b x y => ?_, fun _ c a b => ?_⟩
  · rw [pk_un (by omega), up2_n _ _ _ _ (by omega)]; exact f1 i j a b c d
  · by_cases e : j = L + 1
    · subst e; rw [pk_us, up2_s]
    · rw [pk_un (by omega), up2_n _ _ _ _ (by omega)]; exact g2 j a (by omega)
  · rw [up2_n _ _ _ _ (by omega)]; exact f3 j a b
  · rw [up2_n _ _ _ _ (by omega)]; exact f4 i
  · rw [up2_n _ _ _ _ (by omega), up2_n _ _ _ _ (by omega)]; exact f5 i j a b c d
  · rw [up2_n D _ _ _ (i := R) (by omega)]
    by_cases e : j = L + 1
    · subst e; rw [up2_s]; omega
    · rw [up2_n _ _ _ _ (by omega)]; exact g6 j a (by omega)
  · rw [up2_n _ _ _ _ (by omega), up2_n _ _ _ _ (by omega)]; exact f7 i j a b c d
  · by_cases e : j = L
    · subst e; rw [up2_s, up2_n _ _ _ _ (by omega)]; omega
    · rw [up2_n _ _ _ _ (by omega), up2_n _ _ _ _ (by omega)]; exact g8 j a (by omega)
  · rw [up2_n _ _ _ _ (by omega)]; exact f9 hZ i a b
  · rw [up2_s, up2_n _ _ _ _ (by omega)]; omega
  · by_cases e : c = L.toNat
    · subst e
      rw [b1, if_pos (by omega), show ((L.toNat : Nat) : Int) = L by omega, up2_s, up2_n _ _ _ _ (by omega)]; omega
    · rw [b2 c (by omega) e, g11 c hc]
      by_cases e2 : (c : Int) < L
      · rw [if_pos e2, if_pos (by omega), up2_n _ _ _ _ (by omega), up2_n _ _ _ _ (by omega)]
      · rw [if_neg e2, if_neg (by omega), up2_n _ _ _ _ (by omega), up2_n _ _ _ _ (by omega)]
  · rw [pk_un (by omega), f12 r c a b x y]
    unfold sg
    rw [up2_n _ _ _ _ (by omega), up2_n _ _ _ _ (by omega), up2_n _ _ _ _ (by omega), up2_n _ _ _ _ (by omega)]
  · by_cases e : c = L
    · subst e
      rw [pk_us]
      unfold sg
      rw [up2_s, up2_n _ _ _ _ (by omega), up2_n _ _ _ _ (by omega), up2_n _ _ _ _ (by omega)]
      refine congrArg ii ?_
      omega
    · rw [pk_un (by omega), g13 c a (by omega)]
      unfold sg
      rw [up2_n _ _ _ _ (by omega), up2_n _ _ _ _ (by omega), up2_n _ _ _ _ (by omega), up2_n _ _ _ _ (by omega)]
/-- a whole text -/
theorem RF_end {R L S Z : Int} {m : Nat} {D : Int → Int → Int} {dcs rd : Nat → Int32} (h : RF R L S Z m D dcs rd) (hZ : ¬ Z = 0) (hR : R = Z) : CS Z D ∧ TC Z D dcs ∧ TM Z D rd := by
  obtain ⟨⟨z0, r0, zr, rz, l0, lw, s0, m6, hz⟩, f1, f2, ⟨f3, f4⟩, f5, f6, f7, f8, f9, f10, f11, f12, f13⟩ := h
  have w : wd Z = Z := if_neg hZ
  subst hR
  rw [w] at f1 f3 f5 f7 f12
  have up : ∀ k : Nat, (k : Int) ≤ R → D R k ≤ k := by
    intro k
    induction k with
    | zero => intro _; have := f4 R; simp at *; omega
    | succ k ih => intro hk; have := ih (by omega); have := f7 R k (by omega) (by omega) (by omega) (by omega); push_cast; omega
  have dn : ∀ k : Nat, (k : Int) ≤ R → R - k ≤ D R (R - k) := by
    intro k
    induction k with
    | zero => intro _; have := f9 hZ R (by omega) (by omega); simp; omega
    | succ k ih =>
      intro hk
      have a := ih (by omega)
      have b := f7 R (R - (k + 1)) (by omega) (by omega) (by omega) (by omega)
      rw [show R - (k + 1) + 1 = R - k by omega] at b
      push_cast
      omega
  refine ⟨CS.of ⟨by omega, by omega⟩ f3 (fun i _ _ => f4 i) (fun j a b => ?_) (fun i a b => f9 hZ i a b) (fun i j a b c d => f5 i j a b c d) (fun i j a b c d => f7 i j a b c d), f1, fun r c a b x y => f12 r c a b x y⟩
  obtain ⟨J, rfl⟩ := Int.eq_ofNat_of_zero_le a
  have x := up J b
  have y := dn (R - J).toNat (by omega)
  rw [show R - ((R - (J : Int)).toNat : Int) = J by omega] at y
  omega
