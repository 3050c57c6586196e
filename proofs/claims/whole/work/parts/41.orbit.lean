/-! ORBIT -/
theorem n01 : ¬ (0 : Int32) = 1 := by decide
def Gk (n : Int) (C : Int → Int → Int) : Nat → Int → Int → Int
  | 0 => C
  | k + 1 => GG n (Gk n C k)
theorem least {p : Nat → Prop} {B : Nat} (h : ∃ t, t ≤ B ∧ p t) : ∃ t, t ≤ B ∧ p t ∧ ∀ s, s < t → ¬ p s := by
  obtain ⟨t, ht, hp⟩ := h
  induction t using Nat.strongRecOn with
  | ind t ih =>
    by_cases c : ∃ s, s < t ∧ p s
    · obtain ⟨s, hs, hps⟩ := c
      exact ih s hs (by omega) hps
    · exact ⟨t, ht, hp, fun s hs q => c ⟨s, hs, q⟩⟩
theorem sm_nn0 {n : Nat} {f : Int → Int} (h : ∀ i : Int, 0 ≤ i → i < n → 0 ≤ f i) : 0 ≤ sm n f ∧ (sm n f = 0 → ∀ i : Int, 0 ≤ i → i < n → f i = 0) := by
  induction n with
  | zero => exact ⟨Int.le_refl 0, fun _ i a b => absurd b (by omega)⟩
  | succ n ih =>
    obtain ⟨a, b⟩ := ih (fun i x y => h i x (by omega))
    have c := h n (by omega) (by omega)
    rw [sm]
    refine ⟨by omega, fun e i x y => ?_⟩
    by_cases z : i = n
    · subst z; omega
    · exact b (by omega) i x (by omega)
theorem x3_dist0 {C C' : Int → Int → Int} {cs cs' : Nat → Int32} {N : Nat} (hC : CS N C) (h : TC N C cs) (hC' : CS N C') (h' : TC N C' cs') : ∃ d : Int, S_X3_distance (ii N) cs cs' = some (ii d) ∧ 0 ≤ d ∧ d ≤ 1000 ∧ (d = 0 ↔ eqv N C C') := by
  have hn := hC.n6
  have h1 := hC.n1
  obtain ⟨M, rfl⟩ : ∃ M : Nat, N = M + 1 := ⟨N - 1, by omega⟩
  have e : ((M + 1 : Nat) : Int) = 1 + (M : Int) := by push_cast; omega
  rw [e] at hC h hC' h' ⊢
  refine ⟨_, x3_distance hC h hC' h', ?_⟩
  have bnd : ∀ i j : Int, 0 ≤ i → i < M → 0 ≤ j → j < M → 0 ≤ (if 0 ≤ C (1 + i) (1 + j) - C' (1 + i) (1 + j) then C (1 + i) (1 + j) - C' (1 + i) (1 + j) else 0 - (C (1 + i) (1 + j) - C' (1 + i) (1 + j))) ∧ (if 0 ≤ C (1 + i) (1 + j) - C' (1 + i) (1 + j) then C (1 + i) (1 + j) - C' (1 + i) (1 + j) else 0 - (C (1 + i) (1 + j) - C' (1 + i) (1 + j))) ≤ 12 := by
    intro i j a1 a2 a3 a4
    have x := hC.bd (i := 1 + i) (j := 1 + j) (by omega) (by omega) (by omega) (by omega)
    have y := hC'.bd (i := 1 + i) (j := 1 + j) (by omega) (by omega) (by omega) (by omega)
    split <;> omega
  have b2 := sm2_bd (n := M) (m := M) (lo := 0) (hi := 12) (by omega) (by omega) (by omega) (by omega) bnd
  refine ⟨by omega, by omega, ?_, ?_⟩
  · intro z i j i1 i2 j1 j2
    by_cases c1 : i = 0
    · subst c1; rw [hC.top j1 j2, hC'.top j1 j2]
    · by_cases c2 : i = 1 + M
      · subst c2; rw [hC.bot j1 j2, hC'.bot j1 j2]
      · by_cases c3 : j = 0
        · subst c3; rw [hC.left i1 i2, hC'.left i1 i2]
        · by_cases c4 : j = 1 + M
          · subst c4; rw [hC.right i1 i2, hC'.right i1 i2]
          · have r := (sm_nn0 (fun a x y => (sm_nn0 (fun b u v => (bnd a b x y u v).1)).1)).2 z (i - 1) (by omega) (by omega)
            have s := (sm_nn0 (fun b u v => (bnd (i - 1) b (by omega) (by omega) u v).1)).2 r (j - 1) (by omega) (by omega)
            rw [show 1 + (i - 1) = i by omega, show 1 + (j - 1) = j by omega] at s
            split at s <;> omega
  · intro z
    refine sm_zero (fun i i1 i2 => sm_zero (fun j j1 j2 => ?_))
    rw [z (1 + i) (1 + j) (by omega) (by omega) (by omega) (by omega)]
    simp
theorem sg_eqv {n : Int} {C D : Int → Int → Int} (hC : CS n C) (hD : CS n D) (h : ∀ r c, 0 ≤ r → r < n → 0 ≤ c → c < n → sg C r c = sg D r c) : eqv n C D := by
  have key : ∀ (i : Nat), (i : Int) ≤ n → ∀ (j : Nat), (j : Int) ≤ n → C i j = D i j := by
    intro i
    induction i with
    | zero => intro _ j hj; rw [show ((0 : Nat) : Int) = 0 from Eq.refl _, hC.top (by omega) hj, hD.top (by omega) hj]
    | succ i ih =>
      intro hi j
      induction j with
      | zero => intro hj; rw [show ((0 : Nat) : Int) = 0 from Eq.refl _, hC.left (by omega) hi, hD.left (by omega) hi]
      | succ j jh =>
        intro hj
        have a := jh (by omega)
        have b := ih (by omega) j (by omega)
        have c := ih (by omega) (j + 1) hj
        have d := h i j (by omega) (by omega) (by omega) (by omega)
        unfold sg at d
        push_cast at a b c ⊢
        omega
  intro i j a b c d
  obtain ⟨I, rfl⟩ := Int.eq_ofNat_of_zero_le a
  obtain ⟨J, rfl⟩ := Int.eq_ofNat_of_zero_le c
  exact key I b J d
theorem x6_isOwn {N : Nat} {C D : Int → Int → Int} {sn sd : Nat → Int32} (hC : CS N C) (h : TM N C sn) (hD : CS N D) (h' : TM N D sd) : (eqv N D C → S_X6_isOwn (ii N) sn sd = some 1) ∧ (¬ eqv N D C → S_X6_isOwn (ii N) sn sd = some 0) := by
  have hn := hC.n6
  have h1 := hC.n1
  have key : ∃ v : Int32, S_X6_isOwn (ii N) sn sd = some v ∧ (v = 1 ∨ v = 0) ∧ (v = 1 ↔ ∀ r c : Int, 0 ≤ r → r < N → 0 ≤ c → c < N → sg D r c = sg C r c) := by
    unfold S_X6_isOwn
    refine itr_ex (fun (k : Nat) (s : Int32 × Int32) => s.2 = ii k ∧ (s.1 = 1 ∨ s.1 = 0) ∧ (s.1 = 1 ↔ ∀ r c : Int, 0 ≤ r → r < k → 0 ≤ c → c < N → sg D r c = sg C r c)) _ N ⟨rfl, Or.inl rfl, fun _ r c a b => absurd b (by omega), fun _ => rfl⟩ (by omega) ?_ ?_
    · rintro k ⟨s1, s2⟩ hk ⟨p1, p2, p3⟩
      dsimp only at p1 p2 p3 ⊢
      subst p1
      left
      simp (disch := omega) only [ii_le, if_neg]
      suffices g : ∃ o : (Int32 × Int32) ⊕ Int32, _ = some o ∧ ∃ s', o = .inl s' ∧ (s'.2 = ii ((k + 1 : Nat) : Int) ∧ (s'.1 = 1 ∨ s'.1 = 0) ∧ (s'.1 = 1 ↔ ∀ r c : Int, 0 ≤ r → r < ((k + 1 : Nat) : Int) → 0 ≤ c → c < N → sg D r c = sg C r c)) by
        obtain ⟨o, g1, s', rfl, g2⟩ := g
        exact ⟨s', g1, g2⟩
      refine itr_ex (fun (q : Nat) (s : Int32 × Int32) => s.2 = ii q ∧ (s.1 = 1 ∨ s.1 = 0) ∧ (s.1 = 1 ↔ (∀ r c : Int, 0 ≤ r → r < k → 0 ≤ c → c < N → sg D r c = sg C r c) ∧ ∀ c : Int, 0 ≤ c → c < q → sg D k c = sg C k c)) _ N ⟨rfl, p2, ?_⟩ (by omega) ?_ ?_
      · rw [p3]; exact ⟨fun z => ⟨z, fun c a b => absurd b (by omega)⟩, fun z => z.1⟩
      · rintro q ⟨t1, t2⟩ hq ⟨r1, r2, r3⟩
        dsimp only at r1 r2 r3 ⊢
        subst r1
        left
        have e1 := hC.sgb (r := k) (c := q) (by omega) (by omega) (by omega) (by omega)
        have e2 := hD.sgb (r := k) (c := q) (by omega) (by omega) (by omega) (by omega)
        simp (disch := omega) only [ii_le, if_neg, ii_6, ii_mul, ii_add, ck_in, ii_clamp, ii_a1]
        rw [h k q (by omega) (by omega) (by omega) (by omega), h' k q (by omega) (by omega) (by omega) (by omega)]
        simp (disch := omega) only [ii_eq]
        rcases r2 with r2 | r2
        · subst r2
          rw [if_neg n10]
          by_cases c : sg D k q = sg C k q
          · rw [if_pos c]
            refine ⟨_, rfl, rfl, Or.inl rfl, fun _ => ⟨(r3.mp rfl).1, fun c' a b => ?_⟩, fun _ => rfl⟩
            by_cases z : c' = q
            · subst z; exact c
            · exact (r3.mp rfl).2 c' a (by omega)
          · rw [if_neg c]
            exact ⟨_, rfl, rfl, Or.inr rfl, fun z => absurd z n01, fun z => absurd (z.2 q (by omega) (by omega)) c⟩
        · subst r2
          rw [if_pos rfl]
          exact ⟨_, rfl, rfl, Or.inr rfl, fun z => absurd z n01, fun z => absurd (r3.mpr ⟨z.1, fun c a b => z.2 c a (by omega)⟩) (by decide)⟩
      · rintro ⟨t1, t2⟩ ⟨r1, r2, r3⟩
        dsimp only at r1 r2 r3 ⊢
        subst r1
        simp (disch := omega) only [ii_le, if_pos, ii_a1]
        refine ⟨_, rfl, _, rfl, rfl, r2, ?_⟩
        rw [r3]
        constructor
        · intro z r c a b x y
          by_cases w : r = k
          · subst w; exact z.2 c x y
          · exact z.1 r c a (by omega) x y
        · intro z
          exact ⟨fun r c a b x y => z r c a (by omega) x y, fun c x y => z k c (by omega) (by omega) x y⟩
    · rintro ⟨s1, s2⟩ ⟨p1, p2, p3⟩
      dsimp only at p1 p2 p3 ⊢
      subst p1
      simp (disch := omega) only [ii_le, if_pos]
      rcases p2 with p2 | p2
      · subst p2; exact ⟨_, rfl, Or.inl rfl, p3⟩
      · subst p2; exact ⟨_, rfl, Or.inr rfl, p3⟩
  obtain ⟨v, k1, k2, k3⟩ := key
  rw [k1]
  constructor
  · intro e
    rw [k3.mpr (fun r c a b x y => sg_congr e a b x y)]
  · intro e
    rcases k2 with k2 | k2
    · exact absurd (sg_eqv hD hC (k3.mp k2)) e
    · rw [k2]
theorem cpy49 (f g : Nat → Int32) {k : Nat} (h : k < 49) : va_cpy f g 0 0 (49 : Int32).toNatClampNeg k = f k := by
  rw [show (49 : Int32).toNatClampNeg = 49 from rfl, pk_cpy_in (by omega) (by omega)]
  congr 1; omega
theorem TC.cpy {n : Int} {C : Int → Int → Int} {f g : Nat → Int32} (hn : n ≤ 6) (h : TC n C f) : TC n C (va_cpy f g 0 0 (49 : Int32).toNatClampNeg) := fun i j a b c d => by rw [cpy49 _ _ (by omega)]; exact h i j a b c d
theorem Z7.cpy {f g : Nat → Int32} (h : Z7 f) : Z7 (va_cpy f g 0 0 (49 : Int32).toNatClampNeg) := ⟨fun j a b => by rw [cpy49 _ _ (by omega)]; exact h.1 j a b, fun i a b => by rw [cpy49 _ _ (by omega)]; exact h.2 i a b⟩
theorem x6_copy (f g : Nat → Int32) : ∃ g', S_X6_copy f g = some g' ∧ ∀ k, k < 36 → g' k = f k := by
  unfold S_X6_copy
  refine itr_ex (fun (k : Nat) (s : Int32 × (Nat → Int32)) => s.1 = ii k ∧ ∀ j, j < k → s.2 j = f j) (fun (g' : Nat → Int32) => ∀ k, k < 36 → g' k = f k) 36 ⟨rfl, fun j h => absurd h (by omega)⟩ (by omega) ?_ ?_
  · rintro k ⟨s1, s2⟩ hk ⟨p1, p2⟩
    dsimp only at p1 p2 ⊢
    subst p1
    left
    simp (disch := omega) only [ii_36, ii_le, if_neg, ck_in, ii_clamp, ii_a1]
    refine ⟨_, rfl, rfl, fun j hj => ?_⟩
    dsimp only
    by_cases e : j = k
    · subst e
      rw [show (j : Int).toNat = j by omega, pk_us]
    · rw [pk_un (by omega)]; exact p2 j (by omega)
  · rintro ⟨s1, s2⟩ ⟨p1, p2⟩
    dsimp only at p1 p2 ⊢
    subst p1
    simp (disch := omega) only [ii_36, ii_le, if_pos]
    exact ⟨_, rfl, p2⟩
theorem TM.agree {n : Int} {C : Int → Int → Int} {f g : Nat → Int32} (hn : n ≤ 6) (h : TM n C f) (e : ∀ k, k < 36 → g k = f k) : TM n C g := fun r c a b x y => by rw [e _ (by omega)]; exact h r c a b x y
theorem ii_7436 : (7436 : Int32) = ii 7436 := rfl
theorem p_orbit {N : Nat} {C : Int → Int → Int} {cs sn sC sd : Nat → Int32} (hC : CS N C) (hT : TC N C cs) (hZ : Z7 cs) (hM : TM N C sn) (hB : ∃ t, 1 ≤ t ∧ t ≤ 7436 ∧ eqv N (Gk N C t) C) : ∃ r sC' sd', S_X5_orbit (ii N) cs sC = some (r, ii N, sC') ∧ S_X6_orbit (ii N) sn sd = some (r, sd') ∧ Z7 sC' := by
  have hn := hC.n6
  have h1 := hC.n1
  obtain ⟨T, t1, ⟨t2, t3⟩, t4⟩ := least (p := fun t => 1 ≤ t ∧ eqv N (Gk N C t) C) (B := 7436) (by obtain ⟨t, a, b, c⟩ := hB; exact ⟨t, b, a, c⟩)
  have hall : ∀ t, CS N (Gk N C t) ∧ True := by
    intro t
    refine ⟨?_, trivial⟩
    have : ∀ t, ∃ f, TC N (Gk N C t) f ∧ Z7 f ∧ CS N (Gk N C t) := by
      intro t
      induction t with
      | zero => exact ⟨cs, hT, hZ, hC⟩
      | succ t ih =>
        obtain ⟨f, a, b, c⟩ := ih
        obtain ⟨f', -, a2, a3, a4⟩ := x3_gyrateOnce c a b
        exact ⟨f', a2, a3, a4⟩
    obtain ⟨f, -, -, c⟩ := this t
    exact c
  have A : ∃ r : Int32 × Int32 × (Nat → Int32), S_X5_orbit (ii N) cs sC = some r ∧ (r.1 = ii T ∧ r.2.1 = ii N ∧ Z7 r.2.2) := by
    unfold S_X5_orbit S_X3_copy
    rw [Option.bind_some]
    refine itr_ex (fun (k : Nat) (s : Int32 × (Nat → Int32)) => s.1 = ii (1 + k) ∧ TC N (Gk N C k) s.2 ∧ Z7 s.2) _ (T - 1) ⟨rfl, hT.cpy hn, hZ.cpy⟩ (by omega) ?_ ?_
    · rintro k ⟨s1, s2⟩ hk ⟨p1, p2, p3⟩
      dsimp only at p1 p2 p3 ⊢
      subst p1
      left
      obtain ⟨f, a1, a2, a3, a4⟩ := x3_gyrateOnce (hall k).1 p2 p3
      obtain ⟨d, b1, b2, b3, b4⟩ := x3_dist0 a4 a2 hC hT
      simp (disch := omega) only [ii_7436, ii_le, if_neg, a1, Option.bind_some, b1, ii_eq0]
      rw [if_neg (fun z => t4 (k + 1) (by omega) ⟨by omega, b4.mp z⟩)]
      refine ⟨_, rfl, ?_, a2, a3⟩
      dsimp only
      rw [ii_a1]; congr 1
    · rintro ⟨s1, s2⟩ ⟨p1, p2, p3⟩
      dsimp only at p1 p2 p3 ⊢
      subst p1
      by_cases c : T = 7436
      · rw [if_pos (by rw [ii_7436, ii_le (by omega) (by omega) (by omega) (by omega)]; omega)]
        refine ⟨_, rfl, ?_, rfl, p3⟩
        rw [c]; rfl
      · obtain ⟨f, a1, a2, a3, a4⟩ := x3_gyrateOnce (hall (T - 1)).1 p2 p3
        obtain ⟨d, b1, b2, b3, b4⟩ := x3_dist0 a4 a2 hC hT
        have e : d = 0 := b4.mpr (by have : Gk N C T = GG N (Gk N C (T - 1)) := by rw [show T = (T - 1) + 1 by omega]; rfl
                                     rw [this] at t3; exact t3)
        simp (disch := omega) only [ii_7436, ii_le, if_neg, a1, Option.bind_some, b1, ii_eq0]
        rw [if_pos e]
        refine ⟨_, rfl, ?_, rfl, a3⟩
        dsimp only
        congr 1; omega
  have B : ∃ r : Int32 × (Nat → Int32), S_X6_orbit (ii N) sn sd = some r ∧ r.1 = ii T := by
    unfold S_X6_orbit
    obtain ⟨g, g1, g2⟩ := x6_copy sn sd
    rw [g1, Option.bind_some]
    refine itr_ex (fun (k : Nat) (s : Int32 × Int32 × (Nat → Int32)) => s.1 = ii k ∧ s.2.1 = (if k < T then 1 else 0) ∧ TM N (Gk N C k) s.2.2) _ T ⟨rfl, by rw [if_pos (by omega)], hM.agree hn g2⟩ (by omega) ?_ ?_
    · rintro k ⟨s1, s2, s3⟩ hk ⟨p1, p2, p3⟩
      dsimp only at p1 p2 p3 ⊢
      rw [if_pos hk] at p2
      subst p1; subst p2
      left
      obtain ⟨f, a1, a2⟩ := x6_gyrates (hall k).1 p3
      obtain ⟨b1, b2⟩ := x6_isOwn hC hM (hall (k + 1)).1 a2
      rw [if_neg n10, a1, Option.bind_some]
      dsimp only
      by_cases c : k + 1 < T
      · rw [b2 (fun z => t4 (k + 1) c ⟨by omega, z⟩), Option.bind_some, if_pos rfl]
        refine ⟨_, rfl, ?_, ?_, a2⟩
        · dsimp only; rw [ii_a1]; congr 1
        · rw [if_pos c]
      · have e : k + 1 = T := by omega
        rw [b1 (by have := t3; rw [← e] at this; exact this), Option.bind_some, if_neg n10]
        refine ⟨_, rfl, ?_, ?_, a2⟩
        · dsimp only; rw [ii_a1]; congr 1
        · rw [if_neg c]
    · rintro ⟨s1, s2, s3⟩ ⟨p1, p2, p3⟩
      dsimp only at p1 p2 p3 ⊢
      rw [if_neg (by omega)] at p2
      subst p1; subst p2
      rw [if_pos rfl]
      exact ⟨_, rfl, rfl⟩
  obtain ⟨⟨r1, r2, r3⟩, a1, a2, a3, a4⟩ := A
  obtain ⟨⟨q1, q2⟩, b1, b2⟩ := B
  dsimp only at a2 a3 a4 b2
  subst a2; subst a3; subst b2
  exact ⟨_, _, _, a1, b1, a4⟩
/-! flips of one colour twice are none -/
theorem FF_inv {n col : Int} {C : Int → Int → Int} (hC : CS n C) : eqv n (FF n col (FF n col C)) C := by
  have h6 := hC.n6
  have kk : ∀ a b, 1 ≤ a → a < n → 1 ≤ b → b < n → (a + b) % 2 = col → (kd C a b = 0 → kd (FF n col C) a b = 0) ∧ (kd C a b = 1 → kd (FF n col C) a b = 2) ∧ (kd C a b = 2 → kd (FF n col C) a b = 1) := by
    intro a b a1 a2 b1 b2 p
    have n1 : FF n col C (a + 1) b = C (a + 1) b := if_neg (fun q => by have := q.2.1; omega)
    have n2 : FF n col C (a - 1) b = C (a - 1) b := if_neg (fun q => by have := q.2.1; omega)
    have n3 : FF n col C a (b - 1) = C a (b - 1) := if_neg (fun q => by have := q.2.1; omega)
    have n4 : FF n col C a (b + 1) = C a (b + 1) := if_neg (fun q => by have := q.2.1; omega)
    refine ⟨fun k => ?_, fun k => ?_, fun k => ?_⟩
    · have n5 : FF n col C a b = C a b := if_neg (fun q => q.2.2 k)
      rw [kd_congr n1 n2 n3 n4 n5]; exact k
    · obtain ⟨s1, s2, s3, s4⟩ := kd_spec hC a1 a2 b1 b2 (by omega)
      have n5 : FF n col C a b = C a b + -1 := by
        have : FF n col C a b = C a b + dl C a b := if_pos ⟨⟨a1, a2, b1, b2⟩, p, by omega⟩
        rw [this]; unfold dl; rw [if_pos k]
      unfold kd hh
      rw [n1, n2, n3, n4, n5, if_pos (by omega), if_neg (by omega)]
    · obtain ⟨s1, s2, s3, s4⟩ := kd_spec hC a1 a2 b1 b2 (by omega)
      have n5 : FF n col C a b = C a b + 1 := by
        have : FF n col C a b = C a b + dl C a b := if_pos ⟨⟨a1, a2, b1, b2⟩, p, by omega⟩
        rw [this]; unfold dl; rw [if_neg (by omega)]
      unfold kd hh
      rw [n1, n2, n3, n4, n5, if_pos (by omega), if_pos (by omega)]
  intro a b a1 a2 b1 b2
  by_cases g : gi n col C a b
  · obtain ⟨x1, x2, x3⟩ := kk a b g.1.1 g.1.2.1 g.1.2.2.1 g.1.2.2.2 g.2.1
    have r := kd_r C a b
    have v : FF n col C a b = C a b + dl C a b := if_pos g
    have g2 : gi n col (FF n col C) a b := ⟨g.1, g.2.1, by have := g.2.2; omega⟩
    have w : FF n col (FF n col C) a b = FF n col C a b + dl (FF n col C) a b := if_pos g2
    rw [w, v]
    unfold dl
    rcases r with r | r | r
    · exact absurd r g.2.2
    · rw [if_pos r, if_neg (by rw [x2 r]; decide)]; omega
    · rw [if_neg (by omega), if_pos (by rw [x3 r])]; omega
  · have v : FF n col C a b = C a b := if_neg g
    have g2 : ¬ gi n col (FF n col C) a b := fun q => g ⟨q.1, q.2.1, fun z => q.2.2 ((kk a b q.1.1 q.1.2.1 q.1.2.2.1 q.1.2.2.2 q.2.1).1 z)⟩
    have w : FF n col (FF n col C) a b = FF n col C a b := if_neg g2
    rw [w, v]
theorem FF_congr {n col : Int} {C D : Int → Int → Int} (e : eqv n C D) : eqv n (FF n col C) (FF n col D) := by
  intro a b a1 a2 b1 b2
  unfold FF
  by_cases i : 1 ≤ a ∧ a < n ∧ 1 ≤ b ∧ b < n
  · have k : kd C a b = kd D a b := kd_congr (e _ _ (by omega) (by omega) (by omega) (by omega)) (e _ _ (by omega) (by omega) (by omega) (by omega)) (e _ _ (by omega) (by omega) (by omega) (by omega)) (e _ _ (by omega) (by omega) (by omega) (by omega)) (e _ _ (by omega) (by omega) (by omega) (by omega))
    unfold gi dl
    rw [k, e a b a1 a2 b1 b2]
  · rw [if_neg (fun q => i q.1), if_neg (fun q => i q.1)]
    exact e a b a1 a2 b1 b2
theorem GG_inj {n : Int} {C D : Int → Int → Int} (hC : CS n C) (hD : CS n D) (hC0 : CS n (FF n 0 C)) (hD0 : CS n (FF n 0 D)) (h : eqv n (GG n C) (GG n D)) : eqv n C D := by
  have a : eqv n (FF n 0 C) (FF n 0 D) := (FF_inv hC0).symm.trans ((FF_congr h).trans (FF_inv hD0))
  exact (FF_inv hC).symm.trans ((FF_congr a).trans (FF_inv hD))
