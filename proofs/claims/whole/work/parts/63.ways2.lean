/-! how ends are joined, as one number; both sides' -/
def jj (z : Nat) : Int64 := Int64.ofNat z
theorem jj_add (a b : Nat) : jj a + jj b = jj (a + b) := (Int64.ofNat_add a b).symm
theorem jj_mul (a b : Nat) : jj a * jj b = jj (a * b) := (Int64.ofNat_mul a b).symm
theorem jj_12 : (12 : Int64) = jj 12 := rfl
theorem jj_ii {z : Nat} (h : z ≤ 1000) : (ii (z : Int)).toInt64 = jj z := by
  unfold ii jj
  rw [Int32.toInt64_ofInt (Int.le_trans (by decide) (Int.natCast_nonneg z)) (Int.le_trans (show (z : Int) ≤ 1000 by omega) (by decide)), Int64.ofInt_eq_ofNat]
def CD (n : Nat) (C : Int → Int → Int) : Nat := cdn (fun e => (wki n C 40 (rm n (2 * e)) / 2).toNat) (2 * n)
theorem LE.cd {n : Nat} {C : Int → Int → Int} {O pa ln : Nat → Int32} (hC : CS n C) (h : LE n C O pa ln) {e : Nat} (he : e < 2 * n) : ∃ (i : Nat) (k' : Int), WK n C (2 * e) i k' ∧ i ≤ 36 ∧ pa e = ii (((wki n C 40 (rm n (2 * e)) / 2).toNat : Nat) : Int) ∧ k' / 2 = (((wki n C 40 (rm n (2 * e)) / 2).toNat : Nat) : Int) ∧ (wki n C 40 (rm n (2 * e)) / 2).toNat < 12 := by
  obtain ⟨i, k', w, a, b, d⟩ := h.end he
  have h6 := hC.n6
  obtain ⟨k0, k4, k2, y, p, e2⟩ := w
  have q := wki_of hC i 40 (rm n (2 * e)) y k' p (rm_va hC (by omega) (by omega) (by omega)) (by omega) k0 k4 e2
  rw [q]
  have z : ((((k' / 2).toNat : Nat)) : Int) = k' / 2 := by omega
  rw [z]
  exact ⟨i, k', ⟨k0, k4, k2, y, p, e2⟩, d, a, rfl, by omega⟩
theorem x1_partnersCode {n : Nat} {C : Int → Int → Int} {O pa ln : Nat → Int32} (hC : CS n C) (h : LE n C O pa ln) : S_X1_partnersCode (ii ((2 * n : Nat) : Int)) pa = some (jj (CD n C)) := by
  have h6 := hC.n6
  unfold S_X1_partnersCode
  refine itr_up (fun k => (jj (cdn (fun e => (wki n C 40 (rm n (2 * e)) / 2).toNat) k), ii (k : Int))) (2 * n) rfl (by omega) ?_ ?_
  · intro k hk
    dsimp only
    obtain ⟨i, k', w, d, a, b, z⟩ := h.cd hC hk
    rw [if_neg (by rw [ii_le (by omega) (by omega) (by omega) (by omega)]; omega), ck_in (by omega) (by omega) (by omega), ii_clamp (by omega) (by omega), Int.toNat_natCast, a, jj_ii (by omega), jj_12, jj_mul, jj_add, ii_a1, show ((k + 1 : Nat) : Int) = (k : Int) + 1 by omega]
    rfl
  · dsimp only
    rw [if_pos (Int32.le_refl _)]
    rfl
theorem x6_partners {n : Nat} {C : Int → Int → Int} {sn eR eC eS g : Nat → Int32} {la lb lc ld : Int32} (hC : CS n C) (hM : TM n C sn) : ∃ (b1 b2 b3 b4 : Int32) (d1 d2 d3 d4 : Nat → Int32), S_X6_partners (ii n) la lb lc ld eR eC eS g sn = some (jj (CD n C), b1, b2, b3, b4, d1, d2, d3, d4) := by
  have h6 := hC.n6
  obtain ⟨cs, hT, hZ⟩ := CS.some hC
  obtain ⟨O', pa', ln', em', row', col', sd', v, le, hv, tr⟩ := x1_trace (O := cs) (pa := cs) (ln := cs) (em := cs) (row := 0) (col := 0) (sd := 0) hC hT
  obtain ⟨eR', eC', eS', f1, f2⟩ := x6_findEnds (eR := eR) (eC := eC) (eS := eS) hC hM
  unfold S_X6_partners
  rw [f1, Option.bind_some]
  suffices gg : ∃ r : Int64 × Int32 × Int32 × Int32 × Int32 × (Nat → Int32) × (Nat → Int32) × (Nat → Int32) × (Nat → Int32), _ = some r ∧ r.1 = jj (CD n C) by
    obtain ⟨⟨r1, r2, r3, r4, r5, r6, r7, r8, r9⟩, g1, g2⟩ := gg
    dsimp only at g2
    subst g2
    exact ⟨_, _, _, _, _, _, _, _, g1⟩
  refine itr_ex (fun (k : Nat) (x : Int64 × Int32 × Int32 × Int32 × Int32 × Int32 × (Nat → Int32)) => x.1 = jj (cdn (fun e => (wki n C 40 (rm n (2 * e)) / 2).toNat) k) ∧ x.2.1 = ii (k : Int)) _ (2 * n) ⟨rfl, rfl⟩ (by omega) ?_ ?_
  · rintro k ⟨y0, y1, y2, y3, y4, y5, y6⟩ hk ⟨q1, q2⟩
    dsimp only at q1 q2 ⊢
    subst q1; subst q2
    left
    obtain ⟨i, k', w, d, a, b, z⟩ := le.cd hC hk
    obtain ⟨g', g1, g2⟩ := x6_goes (g := y6) hC hM f2 hk (by omega) w
    rw [if_neg (by rw [ii_2, ii_mul, ii_le (by omega) (by omega) (by omega) (by omega)]; omega), g1, Option.bind_some]
    refine ⟨_, rfl, ?_, ?_⟩
    · dsimp only
      rw [b, jj_ii (by omega), jj_12, jj_mul, jj_add, Nat.mul_comm 12]
      rfl
    · dsimp only
      rw [ii_a1]
      exact congrArg ii (by omega)
  · rintro ⟨y0, y1, y2, y3, y4, y5, y6⟩ ⟨q1, q2⟩
    dsimp only at q1 q2 ⊢
    subst q1; subst q2
    rw [if_pos (by rw [ii_2, ii_mul, ii_le (by omega) (by omega) (by omega) (by omega)]; omega)]
    exact ⟨_, rfl, rfl⟩
/-! unlike numbers in their order, how often each -/
def dsl (c : Nat → Int64) : Nat → List Int64
  | 0 => []
  | k + 1 => if c k ∈ dsl c k then dsl c k else dsl c k ++ [c k]
def tal (c : Nat → Int64) (v : Int64) : Nat → Nat
  | 0 => 0
  | k + 1 => tal c v k + if c k = v then 1 else 0
theorem dsl_y {c : Nat → Int64} {k : Nat} (h : c k ∈ dsl c k) : dsl c (k + 1) = dsl c k := by rw [dsl, if_pos h]
theorem dsl_n {c : Nat → Int64} {k : Nat} (h : ¬ c k ∈ dsl c k) : dsl c (k + 1) = dsl c k ++ [c k] := by rw [dsl, if_neg h]
theorem dsl_m {c : Nat → Int64} {k : Nat} {v : Int64} : v ∈ dsl c (k + 1) ↔ v ∈ dsl c k ∨ v = c k := by
  by_cases h : c k ∈ dsl c k
  · rw [dsl_y h]
    exact ⟨Or.inl, fun q => q.elim id (fun e => by rw [e]; exact h)⟩
  · rw [dsl_n h, List.mem_append, List.mem_singleton]
theorem dsl_nd (c : Nat → Int64) : ∀ k, (dsl c k).Nodup := by
  intro k
  induction k with
  | zero => exact List.nodup_nil
  | succ k ih =>
    by_cases h : c k ∈ dsl c k
    · rw [dsl_y h]; exact ih
    · rw [dsl_n h, List.nodup_append]
      refine ⟨ih, by simp, fun a ha b hb e => ?_⟩
      rw [List.mem_singleton] at hb
      rw [e, hb] at ha
      exact h ha
theorem dsl_of (c : Nat → Int64) : ∀ k v, v ∈ dsl c k → ∃ i, i < k ∧ c i = v := by
  intro k
  induction k with
  | zero => intro v h; exact absurd h List.not_mem_nil
  | succ k ih =>
    intro v h
    rcases dsl_m.mp h with h | h
    · obtain ⟨i, a, b⟩ := ih v h; exact ⟨i, by omega, b⟩
    · exact ⟨k, by omega, h.symm⟩
theorem tal_0 (c : Nat → Int64) (v : Int64) : ∀ k, ¬ v ∈ dsl c k → tal c v k = 0 := by
  intro k
  induction k with
  | zero => intro _; rfl
  | succ k ih =>
    intro h
    have a : ¬ v ∈ dsl c k := fun q => h (dsl_m.mpr (Or.inl q))
    have b : ¬ c k = v := fun q => h (dsl_m.mpr (Or.inr q.symm))
    rw [tal, ih a, if_neg b]
theorem tal_le (c : Nat → Int64) (v : Int64) : ∀ k, tal c v k ≤ k := by
  intro k
  induction k with
  | zero => exact Nat.le_refl 0
  | succ k ih => rw [tal]; split <;> omega
def WI (c : Nat → Int64) (k : Nat) (w : Int32) (cd : Nat → Int64) : Prop := w = ii ((dsl c k).length : Int) ∧ ∀ j, j < (dsl c k).length → (dsl c k)[j]? = some (cd j)
def WT (c : Nat → Int64) (k : Nat) (ty : Nat → Int32) : Prop := ∀ j v, (dsl c k)[j]? = some v → ty j = ii (tal c v k : Int)
def WZ (c : Nat → Int64) (k : Nat) (ty : Nat → Int32) : Prop := ∀ j, (dsl c k).length ≤ j → j < 42 → ty j = 0
theorem dsl_in {c : Nat → Int64} {k j : Nat} {v : Int64} (h : (dsl c k)[j]? = some v) : j < (dsl c k).length ∧ v ∈ dsl c k := by
  obtain ⟨a, b⟩ := List.getElem?_eq_some_iff.mp h
  exact ⟨a, by rw [← b]; exact List.getElem_mem a⟩
theorem dsl_ij {c : Nat → Int64} {k i j : Nat} {v : Int64} (h : (dsl c k)[i]? = some v) (h' : (dsl c k)[j]? = some v) : i = j := (List.getElem?_inj (dsl_in h).1 (dsl_nd c k)).mp (h.trans h'.symm)
theorem WI.y {c : Nat → Int64} {k : Nat} {w : Int32} {cd : Nat → Int64} (h : WI c k w cd) (m : c k ∈ dsl c k) : WI c (k + 1) w cd := by
  unfold WI at h ⊢
  rw [dsl_y m]; exact h
theorem WI.n {c : Nat → Int64} {k : Nat} {w : Int32} {cd : Nat → Int64} (h : WI c k w cd) (m : ¬ c k ∈ dsl c k) : WI c (k + 1) (w + 1) (vp_updL cd (dsl c k).length (c k)) := by
  obtain ⟨h1, h2⟩ := h
  unfold WI
  rw [dsl_n m, h1, ii_a1]
  refine ⟨congrArg ii (by rw [List.length_append, List.length_singleton]; omega), fun j hj => ?_⟩
  rw [List.length_append, List.length_singleton] at hj
  unfold vp_updL
  by_cases e : j = (dsl c k).length
  · rw [if_pos e, e, List.getElem?_append_right (Nat.le_refl _), Nat.sub_self]
    rfl
  · rw [if_neg e, List.getElem?_append_left (by omega)]
    exact h2 j (by omega)
theorem WI.sub {c : Nat → Int64} {k : Nat} {w : Int32} {cd : Nat → Int64} {x : Int64} (h : WI c k w cd) : WI c k w (vp_updL cd (dsl c k).length x) := by
  refine ⟨h.1, fun j hj => ?_⟩
  unfold vp_updL
  rw [if_neg (by omega)]
  exact h.2 j hj
theorem WT.y {c : Nat → Int64} {k j : Nat} {ty : Nat → Int32} (h : WT c k ty) (e : (dsl c k)[j]? = some (c k)) : WT c (k + 1) (upd ty j (ty j + 1)) := by
  intro j' v hv
  rw [dsl_y (dsl_in e).2] at hv
  rw [tal]
  by_cases q : j' = j
  · subst q
    have : c k = v := Option.some.inj (e.symm.trans hv)
    rw [pk_us, h j' v hv, ii_a1, if_pos this]
    exact congrArg ii (by omega)
  · have : ¬ c k = v := fun z => q (dsl_ij hv (by rw [← z]; exact e))
    rw [pk_un q, h j' v hv, if_neg this]
    rfl
theorem WT.n {c : Nat → Int64} {k : Nat} {ty : Nat → Int32} (h : WT c k ty) (m : ¬ c k ∈ dsl c k) : WT c (k + 1) (upd ty (dsl c k).length 1) := by
  intro j v hv
  rw [dsl_n m] at hv
  rw [tal]
  by_cases q : j = (dsl c k).length
  · rw [q, List.getElem?_append_right (Nat.le_refl _), Nat.sub_self] at hv
    have : c k = v := Option.some.inj hv
    rw [q, pk_us, if_pos this, tal_0 c v k (by rw [← this]; exact m)]
    rfl
  · have lt : j < (dsl c k).length := by
      have := (List.getElem?_eq_some_iff.mp hv).1
      rw [List.length_append, List.length_singleton] at this
      omega
    rw [List.getElem?_append_left lt] at hv
    have : ¬ c k = v := fun z => m (by rw [z]; exact (dsl_in hv).2)
    rw [pk_un q, h j v hv, if_neg this]
    rfl
theorem x0_wayOf {c : Nat → Int64} {k : Nat} {w : Int32} {cd : Nat → Int64} (hI : WI c k w cd) (hB : (dsl c k).length ≤ 42) (v : Int64) : (∃ j : Nat, (dsl c k)[j]? = some v ∧ S_X0_wayOf v w cd = some (ii (j : Int))) ∨ (¬ v ∈ dsl c k ∧ S_X0_wayOf v w cd = some w) := by
  obtain ⟨w0, hc⟩ := hI
  subst w0
  have key : ∃ r, S_X0_wayOf v (ii ((dsl c k).length : Int)) cd = some r ∧ ((∃ j : Nat, (dsl c k)[j]? = some v ∧ r = ii (j : Int)) ∨ (¬ v ∈ dsl c k ∧ r = ii ((dsl c k).length : Int))) := by
    unfold S_X0_wayOf
    refine itr_ex (fun (i : Nat) (s : Int32) => s = ii (i : Int) ∧ ∀ j, j < i → ¬ cd j = v) _ (dsl c k).length ⟨rfl, fun j hj => absurd hj (by omega)⟩ (by omega) ?_ ?_
    · rintro i s hi ⟨rfl, h2⟩
      rw [if_neg (by rw [ii_le (by omega) (by omega) (by omega) (by omega)]; omega), ck_in (by omega) (by omega) (by omega), ii_clamp (by omega) (by omega), Int.toNat_natCast]
      by_cases e : cd i = v
      · right
        rw [if_pos ((lg_cmp_eq _ _).mpr e)]
        exact ⟨_, rfl, Or.inl ⟨i, by rw [hc i hi, e], rfl⟩⟩
      · left
        rw [if_neg (fun q => e ((lg_cmp_eq _ _).mp q)), ii_a1]
        refine ⟨_, rfl, congrArg ii (by omega), fun j hj => ?_⟩
        by_cases q : j = i
        · subst q; exact e
        · exact h2 j (by omega)
    · rintro s ⟨rfl, h2⟩
      rw [if_pos (Int32.le_refl _)]
      refine ⟨_, rfl, Or.inr ⟨fun m => ?_, rfl⟩⟩
      obtain ⟨j, hj⟩ := List.getElem?_of_mem m
      have lj := (dsl_in hj).1
      rw [hc j lj] at hj
      exact h2 j lj (Option.some.inj hj)
  obtain ⟨r, h1, h2⟩ := key
  rcases h2 with ⟨j, a, rfl⟩ | ⟨a, rfl⟩
  · exact Or.inl ⟨j, a, h1⟩
  · exact Or.inr ⟨a, h1⟩
theorem x0_addToWay {c : Nat → Int64} {k : Nat} {w : Int32} {cd : Nat → Int64} {ty : Nat → Int32} (hI : WI c k w cd) (hT : WT c k ty) (hZ : WZ c k ty) (hB0 : (dsl c k).length ≤ 42) (hB : (dsl c (k + 1)).length ≤ 42) : ∃ w' cd' ty', S_X0_addToWay (c k) w cd ty = some (w', cd', ty') ∧ WI c (k + 1) w' cd' ∧ WT c (k + 1) ty' ∧ WZ c (k + 1) ty' := by
  have w0 := hI.1
  have e42 : (42 : Int32) = ii 42 := rfl
  unfold S_X0_addToWay
  rcases x0_wayOf hI hB0 (c k) with ⟨j, a, s⟩ | ⟨m, s⟩
  · have lj := (dsl_in a).1
    rw [s, Option.bind_some, e42, if_pos (by rw [ii_lt (by omega) (by omega) (by omega) (by omega)]; omega), if_neg (by rw [w0, ii_eq (by omega) (by omega) (by omega) (by omega)]; omega), ck_in (by omega) (by omega) (by omega), ck_in (by omega) (by omega) (by omega), ii_clamp (by omega) (by omega), Int.toNat_natCast]
    refine ⟨_, _, _, rfl, hI.y (dsl_in a).2, hT.y a, fun i h1 h2 => ?_⟩
    rw [dsl_y (dsl_in a).2] at h1
    rw [pk_un (by omega)]
    exact hZ i h1 h2
  · rw [dsl_n m, List.length_append, List.length_singleton] at hB
    have z := hZ (dsl c k).length (Nat.le_refl _) (by omega)
    have hw : w = ii ((dsl c k).length : Int) := w0
    rw [s, Option.bind_some, e42, if_pos (by rw [hw, ii_lt (by omega) (by omega) (by omega) (by omega)]; omega), if_pos rfl]
    have q : w.toNatClampNeg = (dsl c k).length := by rw [hw, ii_clamp (by omega) (by omega), Int.toNat_natCast]
    have b : inb w 42 = true := by rw [hw]; exact inb_t (by omega) (by omega) (by omega)
    rw [ck_b b, ck_b b, ck_b b, q, z, show (0 : Int32) + 1 = 1 by decide]
    refine ⟨_, _, _, rfl, hI.n m, hT.n m, fun i h1 h2 => ?_⟩
    rw [dsl_n m, List.length_append, List.length_singleton] at h1
    rw [pk_un (by omega)]
    exact hZ i (by omega) h2
