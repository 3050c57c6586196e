theorem shl1 : ∀ n : Fin 7, (1 : Int32) <<< (ii ((n : Nat) : Int) &&& 31) = ii (((2 ^ (n : Nat) : Nat)) : Int) := by decide +kernel
theorem shl {n : Nat} (h : n ≤ 6) : (1 : Int32) <<< (ii (n : Int) &&& 31) = ii ((2 ^ n : Nat) : Int) := shl1 ⟨n, by omega⟩
theorem p64 {n : Nat} (h : n ≤ 6) : 2 ^ n ≤ 64 := Nat.pow_le_pow_right (n := 2) (by omega) h
theorem p1 (n : Nat) : 1 ≤ 2 ^ n := Nat.one_le_two_pow
theorem snn_congr {n : Nat} {f g : Nat → Nat} (h : ∀ i, i < n → f i = g i) : snn n f = snn n g := by
  induction n with
  | zero => rfl
  | succ n ih => rw [snn, snn, ih (fun i hi => h i (by omega)), h n (by omega)]
theorem snn_0 {n : Nat} {f : Nat → Nat} (h : ∀ i, i < n → f i = 0) : snn n f = 0 := by
  induction n with
  | zero => rfl
  | succ n ih => rw [snn, ih (fun i hi => h i (by omega)), h n (by omega)]
theorem snn_le {n : Nat} {f : Nat → Nat} {B : Nat} (h : ∀ i, i < n → f i ≤ B) : snn n f ≤ n * B := by
  induction n with
  | zero => simp [snn]
  | succ n ih =>
    have a := ih (fun i hi => h i (by omega))
    have b := h n (by omega)
    rw [snn, Nat.succ_mul]; omega
def lsm (f : Nat → Nat) : List Nat → Nat
  | [] => 0
  | x :: l => f x + lsm f l
theorem lsm_app (f : Nat → Nat) (a b : List Nat) : lsm f (a ++ b) = lsm f a + lsm f b := by
  induction a with
  | nil => simp [lsm]
  | cons x a ih => simp only [List.cons_append, lsm, ih]; omega
theorem lsm_perm (f : Nat → Nat) {a b : List Nat} (h : a.Perm b) : lsm f a = lsm f b := by
  induction h with
  | nil => rfl
  | cons x _ ih => simp only [lsm, ih]
  | swap x y l => simp only [lsm]; omega
  | trans _ _ h1 h2 => exact h1.trans h2
theorem snn_lsm (f : Nat → Nat) (n : Nat) : snn n f = lsm f (List.range n) := by
  induction n with
  | zero => rfl
  | succ n ih => rw [List.range_succ, lsm_app, snn, ih]; rfl
theorem lsm_map (f g : Nat → Nat) (l : List Nat) : lsm f (l.map g) = lsm (fun x => f (g x)) l := by
  induction l with
  | nil => rfl
  | cons x l ih => simp only [List.map_cons, lsm, ih]
theorem snn_rv {n : Nat} (h1 : 1 ≤ n) (h6 : n ≤ 6) (f : Nat → Nat) : snn (2 ^ n) (fun s => f (rv n s)) = snn (2 ^ n) f := by
  have p := rv_perm ⟨n - 1, by omega⟩
  dsimp only at p
  rw [show n - 1 + 1 = n by omega] at p
  rw [snn_lsm, snn_lsm, ← lsm_perm f p, lsm_map]
theorem rvf {n s : Nat} (h1 : 1 ≤ n) (h6 : n ≤ 6) (hs : s < 2 ^ n) : rv n s < 2 ^ n ∧ rv n (rv n s) = s ∧ pc (rv n s) = pc s := by
  have := p64 h6
  have f := rv_fact ⟨n - 1, by omega⟩ ⟨s, by omega⟩ (by dsimp only; rw [show n - 1 + 1 = n by omega]; exact hs)
  dsimp only at f
  rw [show n - 1 + 1 = n by omega] at f
  exact ⟨f.1, f.2.1, f.2.2.1⟩
theorem eef {n m : Nat} (h1 : 1 ≤ n) (h6 : n ≤ 6) (hm : m < 2 ^ n) : (pc m = n ↔ m = 2 ^ n - 1) ∧ pc m ≤ n ∧ EE n m ≤ 7436 ∧ (m = 2 ^ n - 1 → EE n m = 1) ∧ (m ≠ 2 ^ n - 1 → EE n m = snn (2 ^ n) (fun x => if cf n m x = true then EE n x else 0)) := by
  have := p64 h6
  have f := EE_rec ⟨n - 1, by omega⟩ ⟨m, by omega⟩ (by dsimp only; rw [show n - 1 + 1 = n by omega]; exact hm)
  dsimp only at f
  rw [show n - 1 + 1 = n by omega] at f
  exact f
theorem cfp {n a b : Nat} (h1 : 1 ≤ n) (h6 : n ≤ 6) (ha : a < 2 ^ n) (hb : b < 2 ^ n) (h : cf n a b = true) : pc b = pc a + 1 := by
  have := p64 h6
  have f := cf_pc ⟨n - 1, by omega⟩ ⟨a, by omega⟩ ⟨b, by omega⟩ (by dsimp only; rw [show n - 1 + 1 = n by omega]; exact ha) (by dsimp only; rw [show n - 1 + 1 = n by omega]; exact hb)
  dsimp only at f
  rw [show n - 1 + 1 = n by omega] at f
  exact f h
theorem ahr {n s t : Nat} (h1 : 1 ≤ n) (h6 : n ≤ 6) (hs : s < 2 ^ n) (ht : t < 2 ^ n) : ah s t = decide (rv n t < rv n s) := by
  have := p64 h6
  have f := rv_ah ⟨n - 1, by omega⟩ ⟨s, by omega⟩ ⟨t, by omega⟩ (by dsimp only; rw [show n - 1 + 1 = n by omega]; exact hs) (by dsimp only; rw [show n - 1 + 1 = n by omega]; exact ht)
  dsimp only at f
  rw [show n - 1 + 1 = n by omega] at f
  exact f
/-! the class's counts -/
def AC (n a lo : Nat) : Nat := snn (2 ^ n) (fun x => if lo ≤ x ∧ cf n a x = true then EE n x else 0)
theorem x0_endingsFrom {n a lo : Nat} {en : Nat → Int32} {g : Nat → Nat} (h1 : 1 ≤ n) (h6 : n ≤ 6) (ha : a < 2 ^ n) (hlo : lo ≤ 2 ^ n) (he : ∀ x, x < 2 ^ n → cf n a x = true → en x = ii (g x)) : S_X0_endingsFrom (ii a) (ii lo) (ii n) (ii ((2 ^ n : Nat) : Int)) en = some (ii ((snn (2 ^ n) (fun x => if lo ≤ x ∧ cf n a x = true then g x else 0) : Nat) : Int)) := by
  have hp := p64 h6
  unfold S_X0_endingsFrom
  refine itr_up (fun k => (ii ((snn (lo + k) (fun x => if lo ≤ x ∧ cf n a x = true then g x else 0) : Nat) : Int), ii ((lo + k : Nat) : Int))) (2 ^ n - lo) ?_ (by omega) ?_ ?_
  · show ((0 : Int32), ii lo) = (ii ((snn (lo + 0) _ : Nat) : Int), ii ((lo + 0 : Nat) : Int))
    rw [Nat.add_zero, snn_0 (fun i hi => if_neg (by omega))]; rfl
  · intro k hk
    dsimp only
    rw [if_neg (by rw [ii_le (by omega) (by omega) (by omega) (by omega)]; omega), x0_canFollow h6 (by omega) (by omega), Option.bind_some]
    have e1 : ii ((lo + k : Nat) : Int) + 1 = ii ((lo + (k + 1) : Nat) : Int) := by rw [ii_a1]; exact congrArg ii (by omega)
    by_cases c : cf n a (lo + k) = true
    · rw [if_pos c, if_neg n10, ck_in (by omega) (by omega) (by omega), ii_clamp (by omega) (by omega), show (((lo + k : Nat) : Int)).toNat = lo + k by omega, he _ (by omega) c, ii_add, e1, show lo + (k + 1) = lo + k + 1 by omega, snn, if_pos ⟨by omega, c⟩]
      rfl
    · rw [if_neg c, if_pos rfl, e1, show lo + (k + 1) = lo + k + 1 by omega, snn, if_neg (fun q => c q.2)]
      rfl
  · dsimp only
    rw [show lo + (2 ^ n - lo) = 2 ^ n by omega, if_pos (by rw [ii_le (by omega) (by omega) (by omega) (by omega)]; omega)]
theorem x0_countEndings {n : Nat} {en : Nat → Int32} (h1 : 1 ≤ n) (h6 : n ≤ 6) : ∃ en', S_X0_countEndings (ii n) (ii ((2 ^ n : Nat) : Int)) 0 en = some (1, en') ∧ ∀ m, m < 2 ^ n → en' m = ii (EE n m) := by
  have hp := p64 h6
  have hp1 := p1 n
  unfold S_X0_countEndings
  rw [if_pos rfl, ii_s1, ck_in (by omega) (by omega) (by omega), ii_s1, ii_clamp (by omega) (by omega), show (((2 ^ n : Nat) : Int) - 1).toNat = 2 ^ n - 1 by omega]
  suffices g : ∃ r : Int32 × (Nat → Int32), _ = some r ∧ r.1 = 1 ∧ ∀ m, m < 2 ^ n → r.2 m = ii (EE n m) by
    obtain ⟨⟨r1, r2⟩, g1, g2, g3⟩ := g
    dsimp only at g2
    subst g2
    exact ⟨r2, g1, g3⟩
  refine itr_ex (fun (k : Nat) (s : Int32 × (Nat → Int32)) => s.1 = ii ((n : Int) - 1 - k) ∧ ∀ m, m < 2 ^ n → n - k ≤ pc m → s.2 m = ii (EE n m)) _ n ⟨by dsimp only; exact congrArg ii (by omega), fun m hm hpc => ?_⟩ (by omega) ?_ ?_
  · have f := eef h1 h6 hm
    have : m = 2 ^ n - 1 := f.1.mp (by omega)
    dsimp only
    rw [this, pk_us]
    subst this
    rw [f.2.2.2.1 rfl]; rfl
  · rintro k ⟨s1, s2⟩ hk ⟨q1, q2⟩
    dsimp only at q1 q2 ⊢
    subst q1
    left
    rw [if_neg (by rw [ii_0lt (by omega) (by omega)]; omega)]
    suffices g : ∃ o : (Int32 × (Nat → Int32)) ⊕ (Int32 × (Nat → Int32)), _ = some o ∧ ∃ s', o = .inl s' ∧ (s'.1 = ii ((n : Int) - 1 - ((k + 1 : Nat) : Int)) ∧ ∀ m, m < 2 ^ n → n - (k + 1) ≤ pc m → s'.2 m = ii (EE n m)) by
      obtain ⟨o, g1, s', rfl, g2⟩ := g
      exact ⟨s', g1, g2⟩
    refine itr_ex (fun (q : Nat) (s : Int32 × (Nat → Int32)) => s.1 = ii (q : Int) ∧ (∀ m, m < 2 ^ n → n - k ≤ pc m → s.2 m = ii (EE n m)) ∧ ∀ m, m < q → pc m = n - (k + 1) → s.2 m = ii (EE n m)) _ (2 ^ n) ⟨rfl, q2, fun m hm => absurd hm (by omega)⟩ (by omega) ?_ ?_
    · rintro q ⟨t1, t2⟩ hq ⟨r1, r2, r3⟩
      dsimp only at r1 r2 r3 ⊢
      subst r1
      left
      have f := eef h1 h6 hq
      rw [if_neg (by rw [ii_le (by omega) (by omega) (by omega) (by omega)]; omega), pc_bit ⟨q, by omega⟩, Option.bind_some]
      dsimp only
      simp (disch := omega) only [ii_eq]
      by_cases c : ((pc q : Nat) : Int) = (n : Int) - 1 - k
      · have hpq : pc q = n - (k + 1) := by omega
        rw [if_pos c, show (0 : Int32) = ii ((0 : Nat) : Int) from rfl, x0_endingsFrom (g := EE n) h1 h6 hq (by omega) (fun x hx hcf => r2 x hx (by have := cfp h1 h6 hq hx hcf; omega)), Option.bind_some, ck_in (by omega) (by omega) (by omega), ii_clamp (by omega) (by omega), show ((q : Nat) : Int).toNat = q by omega]
        have ev : snn (2 ^ n) (fun x => if 0 ≤ x ∧ cf n q x = true then EE n x else 0) = EE n q := by
          rw [f.2.2.2.2 (fun e => by have := f.1.mpr e; omega)]
          refine snn_congr (fun i _ => ?_)
          by_cases d : cf n q i = true
          · rw [if_pos d, if_pos ⟨Nat.zero_le _, d⟩]
          · rw [if_neg d, if_neg (fun z => d z.2)]
        rw [ev]
        refine ⟨_, rfl, ?_, fun m hm hpc => ?_, fun m hm hpc => ?_⟩
        · dsimp only; rw [ii_a1]; exact congrArg ii (by omega)
        · dsimp only
          by_cases e : m = q
          · subst e; rw [pk_us]
          · rw [pk_un e]; exact r2 m hm hpc
        · dsimp only
          by_cases e : m = q
          · subst e; rw [pk_us]
          · rw [pk_un e]; exact r3 m (by omega) hpc
      · rw [if_neg c]
        refine ⟨_, rfl, ?_, r2, fun m hm hpc => ?_⟩
        · dsimp only; rw [ii_a1]; exact congrArg ii (by omega)
        · dsimp only
          by_cases e : m = q
          · subst e; omega
          · exact r3 m (by omega) hpc
    · rintro ⟨t1, t2⟩ ⟨r1, r2, r3⟩
      dsimp only at r1 r2 r3 ⊢
      subst r1
      rw [if_pos (by rw [ii_le (by omega) (by omega) (by omega) (by omega)]; omega)]
      refine ⟨_, rfl, _, rfl, ?_, fun m hm hpc => ?_⟩
      · dsimp only; rw [ii_m1, ii_add]; exact congrArg ii (by omega)
      · dsimp only
        by_cases e : n - k ≤ pc m
        · exact r2 m hm e
        · exact r3 m hm (by omega)
  · rintro ⟨s1, s2⟩ ⟨q1, q2⟩
    dsimp only at q1 q2 ⊢
    subst q1
    rw [if_pos (by rw [ii_0lt (by omega) (by omega)]; omega)]
    exact ⟨_, rfl, rfl, fun m hm => q2 m hm (by omega)⟩
/-! the reference's counts -/
def WW (n r s : Nat) : Nat := if pc s = r then EE n (rv n s) else 0
theorem WW_rec {n r s : Nat} (h1 : 1 ≤ n) (h6 : n ≤ 6) (hr : r < n) (hs : s < 2 ^ n) : snn (2 ^ n) (fun t => if ld n s t = true then WW n (r + 1) t else 0) = WW n r s := by
  obtain ⟨v1, v2, v3⟩ := rvf h1 h6 hs
  by_cases c : pc s = r
  · have f := eef h1 h6 v1
    have e : snn (2 ^ n) (fun t => if ld n s t = true then WW n (r + 1) t else 0) = snn (2 ^ n) (fun t => (fun m => if cf n (rv n s) m = true then EE n m else 0) (rv n t)) := by
      refine snn_congr (fun t ht => ?_)
      obtain ⟨w1, w2, w3⟩ := rvf h1 h6 ht
      dsimp only
      rw [ld_cf h1 h6 hs ht]
      by_cases d : cf n (rv n s) (rv n t) = true
      · rw [if_pos d, if_pos d]
        unfold WW
        rw [if_pos (by have := cfp h1 h6 v1 w1 d; omega)]
      · rw [if_neg d, if_neg d]
    rw [e, snn_rv h1 h6 (fun m => if cf n (rv n s) m = true then EE n m else 0)]
    unfold WW
    rw [if_pos c, ← f.2.2.2.2 (fun z => by have := f.1.mpr z; omega)]
  · unfold WW
    rw [if_neg c]
    refine snn_0 (fun t ht => ?_)
    obtain ⟨w1, w2, w3⟩ := rvf h1 h6 ht
    rw [ld_cf h1 h6 hs ht]
    by_cases d : cf n (rv n s) (rv n t) = true
    · rw [if_pos d, if_neg (by have := cfp h1 h6 v1 w1 d; omega)]
    · rw [if_neg d]
theorem AM_AC {n s t : Nat} (h1 : 1 ≤ n) (h6 : n ≤ 6) (hs : s < 2 ^ n) (ht : t < 2 ^ n) : snn (2 ^ n) (fun x => if ld n s x = true ∧ ah x t = true then WW n (pc s + 1) x else 0) = AC n (rv n s) (rv n t + 1) := by
  obtain ⟨v1, v2, v3⟩ := rvf h1 h6 hs
  unfold AC
  refine Eq.trans ?_ (snn_rv h1 h6 (fun x => if rv n t + 1 ≤ x ∧ cf n (rv n s) x = true then EE n x else 0))
  refine snn_congr (fun x hx => ?_)
  obtain ⟨w1, w2, w3⟩ := rvf h1 h6 hx
  rw [ld_cf h1 h6 hs hx, ahr h1 h6 hx ht]
  simp only [decide_eq_true_eq]
  by_cases d : cf n (rv n s) (rv n x) = true
  · by_cases e : rv n t < rv n x
    · rw [if_pos ⟨d, e⟩, if_pos ⟨by omega, d⟩]
      unfold WW
      rw [if_pos (by have := cfp h1 h6 v1 w1 d; omega)]
    · rw [if_neg (fun z => e z.2), if_neg (fun z => e (by omega))]
  · rw [if_neg (fun z => d z.1), if_neg (fun z => d z.2)]
theorem ii_64 : (64 : Int32) = ii 64 := rfl
theorem x6_findWays {n : Nat} {w : Nat → Int32} (h1 : 1 ≤ n) (h6 : n ≤ 6) : ∃ w', S_X6_findWays (ii n) w = some (ii (WW n 0 0), w') ∧ ∀ r s, r ≤ n → s < 2 ^ n → w' (64 * r + s) = ii (WW n r s) := by
  have hp := p64 h6
  have hp1 := p1 n
  unfold S_X6_findWays
  rw [shl h6]
  suffices g : ∃ r : Int32 × (Nat → Int32), _ = some r ∧ r.1 = ii (WW n 0 0) ∧ ∀ q s, q ≤ n → s < 2 ^ n → r.2 (64 * q + s) = ii (WW n q s) by
    obtain ⟨⟨r1, r2⟩, g1, g2, g3⟩ := g
    dsimp only at g2
    subst g2
    exact ⟨r2, g1, g3⟩
  refine itr_ex (fun (k : Nat) (s : Int32 × (Nat → Int32)) => s.1 = ii (k : Int) ∧ ∀ m, m < k → m < 2 ^ n → s.2 (64 * n + m) = ii (WW n n m)) _ 64 ⟨rfl, fun m hm => absurd hm (by omega)⟩ (by omega) ?_ ?_
  · rintro k ⟨s1, s2⟩ hk ⟨q1, q2⟩
    dsimp only at q1 q2 ⊢
    subst q1
    left
    have up : ∀ v : Nat, (k < 2 ^ n → v = WW n n k) → ∀ m, m < k + 1 → m < 2 ^ n → upd s2 (64 * (n : Int) + k).toNat (ii v) (64 * n + m) = ii (WW n n m) := by
      intro v hv m hm hm2
      by_cases e : m = k
      · subst e; rw [show (64 * (n : Int) + m).toNat = 64 * n + m by omega, pk_us, hv hm2]
      · rw [pk_un (by omega)]; exact q2 m (by omega) hm2
    simp (disch := omega) only [ii_64, ii_le, if_neg, ii_s1, ii_eq, ii_mul, ii_add, ck_in, ii_clamp]
    by_cases c : (k : Int) = ((2 ^ n : Nat) : Int) - 1
    · rw [if_pos c, show (1 : Int32) = ii ((1 : Nat) : Int) from rfl]
      refine ⟨_, rfl, ?_, up 1 (fun hk2 => ?_)⟩
      · dsimp only; rw [ii_add]; exact congrArg ii (by omega)
      · obtain ⟨v1, v2, v3⟩ := rvf h1 h6 hk2
        have f := eef h1 h6 hk2
        have g := eef h1 h6 v1
        have hpk : pc k = n := f.1.mpr (by omega)
        unfold WW
        rw [if_pos hpk, g.2.2.2.1 (g.1.mp (by omega))]
    · rw [if_neg c, show (0 : Int32) = ii ((0 : Nat) : Int) from rfl, show (1 : Int32) = ii ((1 : Nat) : Int) from rfl]
      refine ⟨_, rfl, ?_, up 0 (fun hk2 => ?_)⟩
      · dsimp only; rw [ii_add]; exact congrArg ii (by omega)
      · have f := eef h1 h6 hk2
        unfold WW
        rw [if_neg (fun z => by have := f.1.mp z; omega)]
  · rintro ⟨s1, s2⟩ ⟨q1, q2⟩
    dsimp only at q1 q2 ⊢
    subst q1
    rw [if_pos (by rw [ii_64, ii_le (by omega) (by omega) (by omega) (by omega)]; omega), ii_s1]
    suffices g : ∃ o : (Int32 × (Nat → Int32)) ⊕ (Int32 × (Nat → Int32)), _ = some o ∧ ∃ r, o = .inr r ∧ (r.1 = ii (WW n 0 0) ∧ ∀ q s, q ≤ n → s < 2 ^ n → r.2 (64 * q + s) = ii (WW n q s)) by
      obtain ⟨o, g1, r, rfl, g2⟩ := g
      exact ⟨r, g1, g2⟩
    refine itr_ex (fun (k : Nat) (s : Int32 × (Nat → Int32)) => s.1 = ii ((n : Int) - 1 - k) ∧ ∀ r m, n - k ≤ r → r ≤ n → m < 2 ^ n → s.2 (64 * r + m) = ii (WW n r m)) _ n ⟨by dsimp only; exact congrArg ii (by omega), fun r m a b c => ?_⟩ (by omega) ?_ ?_
    · have : r = n := by omega
      subst this
      exact q2 m (by omega) c
    · rintro k ⟨s1, s3⟩ hk ⟨r1, r2⟩
      dsimp only at r1 r2 ⊢
      subst r1
      left
      rw [if_neg (by rw [ii_0lt (by omega) (by omega)]; omega)]
      obtain ⟨R, hR⟩ : ∃ R : Nat, R + 1 + k = n := ⟨n - 1 - k, by omega⟩
      have eR : (n : Int) - 1 - k = (R : Int) := by omega
      rw [eR]
      suffices g : ∃ o : (Int32 × (Nat → Int32)) ⊕ ((Int32 × (Nat → Int32)) ⊕ (Int32 × (Nat → Int32))), _ = some o ∧ ∃ s', o = .inl s' ∧ (s'.1 = ii ((n : Int) - 1 - ((k + 1 : Nat) : Int)) ∧ ∀ r m, n - (k + 1) ≤ r → r ≤ n → m < 2 ^ n → s'.2 (64 * r + m) = ii (WW n r m)) by
        obtain ⟨o, g1, s', rfl, g2⟩ := g
        exact ⟨s', g1, g2⟩
      refine itr_ex (fun (q : Nat) (s : Int32 × (Nat → Int32)) => s.1 = ii (q : Int) ∧ (∀ r m, n - k ≤ r → r ≤ n → m < 2 ^ n → s.2 (64 * r + m) = ii (WW n r m)) ∧ ∀ m, m < q → s.2 (64 * R + m) = ii (WW n R m)) _ (2 ^ n) ⟨rfl, r2, fun m hm => absurd hm (by omega)⟩ (by omega) ?_ ?_
      · rintro q ⟨t1, t2⟩ hq ⟨u1, u2, u3⟩
        dsimp only at u1 u2 u3 ⊢
        subst u1
        left
        simp (disch := omega) only [ii_le, if_neg, ii_64, ii_mul, ii_add, ck_in, ii_clamp]
        rw [show (64 * (R : Int) + (q : Int)).toNat = 64 * R + q by omega]
        suffices g : ∃ o : (Int32 × (Nat → Int32)) ⊕ ((Int32 × (Nat → Int32)) ⊕ ((Int32 × (Nat → Int32)) ⊕ (Int32 × (Nat → Int32)))), _ = some o ∧ ∃ s', o = .inl s' ∧ (s'.1 = ii ((q + 1 : Nat) : Int) ∧ (∀ r m, n - k ≤ r → r ≤ n → m < 2 ^ n → s'.2 (64 * r + m) = ii (WW n r m)) ∧ ∀ m, m < q + 1 → s'.2 (64 * R + m) = ii (WW n R m)) by
          obtain ⟨o, g1, s', rfl, g2⟩ := g
          exact ⟨s', g1, g2⟩
        refine itr_ex (fun (x : Nat) (s : Int32 × (Nat → Int32)) => s.1 = ii (x : Int) ∧ (∀ r m, n - k ≤ r → r ≤ n → m < 2 ^ n → s.2 (64 * r + m) = ii (WW n r m)) ∧ (∀ m, m < q → s.2 (64 * R + m) = ii (WW n R m)) ∧ s.2 (64 * R + q) = ii ((snn x (fun t => if ld n q t = true then WW n (R + 1) t else 0) : Nat) : Int)) _ (2 ^ n) ⟨rfl, fun r m a b c => ?_, fun m hm => ?_, ?_⟩ (by omega) ?_ ?_
        · dsimp only; rw [pk_un (by omega)]; exact u2 r m a b c
        · dsimp only; rw [pk_un (by omega)]; exact u3 m hm
        · dsimp only; rw [pk_us]; rfl
        · rintro x ⟨v1, v2⟩ hx ⟨w1, w2, w3, w4⟩
          dsimp only at w1 w2 w3 w4 ⊢
          subst w1
          left
          have hw : v2 (64 * (R + 1) + x) = ii (WW n (R + 1) x) := w2 (R + 1) x (by omega) (by omega) hx
          have bW : WW n (R + 1) x ≤ 7436 := by
            unfold WW
            split
            · exact (eef h1 h6 (rvf h1 h6 hx).1).2.2.1
            · omega
          simp (disch := omega) only [ii_le, if_neg, ii_64, ii_1, ii_mul, ii_add, ck_in, ii_clamp]
          rw [show (64 * ((R : Int) + 1) + (x : Int)).toNat = 64 * (R + 1) + x by omega, hw, w4, x6_leads h6 (by omega) (by omega)]
          have nx : ∀ v : Nat, v = snn (x + 1) (fun t => if ld n q t = true then WW n (R + 1) t else 0) → (∀ r m, n - k ≤ r → r ≤ n → m < 2 ^ n → upd v2 (64 * R + q) (ii (v : Int)) (64 * r + m) = ii (WW n r m)) ∧ (∀ m, m < q → upd v2 (64 * R + q) (ii (v : Int)) (64 * R + m) = ii (WW n R m)) ∧ upd v2 (64 * R + q) (ii (v : Int)) (64 * R + q) = ii ((snn (x + 1) (fun t => if ld n q t = true then WW n (R + 1) t else 0) : Nat) : Int) := by
            intro v hv
            refine ⟨fun r m a b c => ?_, fun m hm => ?_, ?_⟩
            · rw [pk_un (by omega)]; exact w2 r m a b c
            · rw [pk_un (by omega)]; exact w3 m hm
            · rw [pk_us, hv]
          simp (disch := omega) only [ii_0le]
          by_cases c : ((WW n (R + 1) x : Nat) : Int) ≤ 0
          · have z : WW n (R + 1) x = 0 := by omega
            rw [if_pos c, Option.bind_some, ii_0, ii_add]
            have nn := nx (snn x (fun t => if ld n q t = true then WW n (R + 1) t else 0)) (by rw [snn, z]; split <;> rfl)
            rw [show ((snn x (fun t => if ld n q t = true then WW n (R + 1) t else 0) : Nat) : Int) + 0 = ((snn x (fun t => if ld n q t = true then WW n (R + 1) t else 0) : Nat) : Int) by omega]
            exact ⟨_, rfl, by dsimp only; exact congrArg ii (by omega), nn.1, nn.2.1, nn.2.2⟩
          · rw [if_neg c, Option.bind_some]
            by_cases d : ld n q x = true
            · rw [if_pos d, if_neg n10, Option.bind_some, ii_add]
              have nn := nx (snn x (fun t => if ld n q t = true then WW n (R + 1) t else 0) + WW n (R + 1) x) (by rw [snn, if_pos d])
              rw [show ((snn x (fun t => if ld n q t = true then WW n (R + 1) t else 0) : Nat) : Int) + ((WW n (R + 1) x : Nat) : Int) = ((snn x (fun t => if ld n q t = true then WW n (R + 1) t else 0) + WW n (R + 1) x : Nat) : Int) by omega]
              exact ⟨_, rfl, by dsimp only; exact congrArg ii (by omega), nn.1, nn.2.1, nn.2.2⟩
            · rw [if_neg d, if_pos rfl, Option.bind_some, ii_0, ii_add]
              have nn := nx (snn x (fun t => if ld n q t = true then WW n (R + 1) t else 0)) (by rw [snn, if_neg d]; rfl)
              rw [show ((snn x (fun t => if ld n q t = true then WW n (R + 1) t else 0) : Nat) : Int) + 0 = ((snn x (fun t => if ld n q t = true then WW n (R + 1) t else 0) : Nat) : Int) by omega]
              exact ⟨_, rfl, by dsimp only; exact congrArg ii (by omega), nn.1, nn.2.1, nn.2.2⟩
        · rintro ⟨v1, v2⟩ ⟨w1, w2, w3, w4⟩
          dsimp only at w1 w2 w3 w4 ⊢
          subst w1
          rw [if_pos (by rw [ii_le (by omega) (by omega) (by omega) (by omega)]; omega), ii_a1]
          refine ⟨_, rfl, _, rfl, by dsimp only; exact congrArg ii (by omega), w2, fun m hm => ?_⟩
          dsimp only
          by_cases e : m = q
          · subst e; rw [w4, WW_rec h1 h6 (by omega) hq]
          · exact w3 m (by omega)
      · rintro ⟨t1, t2⟩ ⟨u1, u2, u3⟩
        dsimp only at u1 u2 u3 ⊢
        subst u1
        rw [if_pos (by rw [ii_le (by omega) (by omega) (by omega) (by omega)]; omega), ii_m1, ii_add]
        refine ⟨_, rfl, _, rfl, by dsimp only; exact congrArg ii (by omega), fun r m a b c => ?_⟩
        dsimp only
        by_cases e : r = R
        · subst e; exact u3 m c
        · exact u2 r m (by omega) b c
    · rintro ⟨s1, s3⟩ ⟨r1, r2⟩
      dsimp only at r1 r2 ⊢
      subst r1
      rw [if_pos (by rw [ii_0lt (by omega) (by omega)]; omega), show (0 : Int32) = ii 0 from rfl, ck_in (by omega) (by omega) (by omega), ii_clamp (by omega) (by omega)]
      exact ⟨_, rfl, _, rfl, r2 0 0 (by omega) (by omega) (by omega), fun q s a b => r2 q s (by omega) a b⟩
theorem x6_aheadOf {n r s t : Nat} {w : Nat → Int32} (h1 : 1 ≤ n) (h6 : n ≤ 6) (hw : ∀ r s, r ≤ n → s < 2 ^ n → w (64 * r + s) = ii (WW n r s)) (hr : r < n) (hs : s < 2 ^ n) (ht : t < 2 ^ n) (hps : pc s = r) : S_X6_aheadOf (ii n) (ii r) (ii s) (ii t) w = some (ii (AC n (rv n s) (rv n t + 1))) := by
  have hp := p64 h6
  rw [← AM_AC h1 h6 hs ht, hps]
  unfold S_X6_aheadOf
  rw [shl h6]
  refine itr_up (fun k => (ii ((snn k (fun x => if ld n s x = true ∧ ah x t = true then WW n (r + 1) x else 0) : Nat) : Int), ii (k : Int))) (2 ^ n) rfl (by omega) ?_ ?_
  · intro k hk
    dsimp only
    rw [if_neg (by rw [ii_le (by omega) (by omega) (by omega) (by omega)]; omega), x6_leads h6 (by omega) (by omega), Option.bind_some]
    have e1 : ii (k : Int) + 1 = ii ((k + 1 : Nat) : Int) := by rw [ii_a1]; exact congrArg ii (by omega)
    have e0 : ∀ v : Int, ii v + 0 = ii v := fun v => by rw [ii_0, ii_add, Int.add_zero]
    by_cases d : ld n s k = true
    · rw [if_pos d, if_neg n10, x6_isAhead (by omega) (by omega) (by omega), Option.bind_some]
      by_cases e : ah k t = true
      · rw [if_pos e, if_neg n10]
        simp (disch := omega) only [ii_64, ii_1, ii_mul, ii_add, ck_in, ii_clamp, Option.bind_some]
        rw [show (64 * ((r : Int) + 1) + (k : Int)).toNat = 64 * (r + 1) + k by omega, hw (r + 1) k (by omega) hk, ii_add, snn, if_pos ⟨d, e⟩]
        exact ii2 (by omega) (by omega)
      · rw [if_neg e, if_pos rfl, e0, e1, snn, if_neg (fun z => e z.2)]; rfl
    · rw [if_neg d, if_pos rfl, e0, e1, snn, if_neg (fun z => d z.1)]; rfl
  · dsimp only
    rw [if_pos (by rw [ii_le (by omega) (by omega) (by omega) (by omega)]; omega)]
