/-! THE TABLE on both sides -/
def RT (tS : Int32) (tC tn : Nat → Int32) : Prop := ∃ (N : Nat) (C : Int → Int → Int), tS = ii N ∧ CS N C ∧ TC N C tC ∧ Z7 tC ∧ TM N C tn
theorem upd_self {α : Type} (f : Nat → Int32) (k : Nat) : upd f k (f k) = f := by
  funext j
  by_cases e : j = k
  · subst e; exact pk_us
  · exact pk_un e
theorem ite_self {α : Type} (f : Nat → α) (e : Nat) : (fun k => if k = e then f e else f k) = f := by
  funext k
  by_cases c : k = e
  · subst c; exact if_pos rfl
  · exact if_neg c
theorem RP.keep {free held um : Int32} {pS : Nat → Int32} {pC : Nat → Nat → Int32} {bf : Nat → Int32} (h : RP free held pS pC um bf) (e : Nat) : RP free held (upd pS e (pS e)) (fun k => if k = e then pC e else pC k) um bf := by
  rw [upd_self (α := Int32), ite_self]; exact h
theorem p_flip {tS free held um : Int32} {tC tn pS bf : Nat → Int32} {pC : Nat → Nat → Int32} (hR : RT tS tC tn) (hP : RP free held pS pC um bf) (p1 p2 : Int32) :
    ∃ (r fr' hd' eS' um' : Int32) (tC' eC' tn' bf' : Nat → Int32), S_X5_flip p1 p2 tS tC free held (pS free.toNatClampNeg) (pC free.toNatClampNeg) = some (r, tC', fr', hd', eS', eC') ∧ S_X6_flip p1 p2 tS um tn bf = some (r, um', tn', bf') ∧ RT tS tC' tn' ∧ RP fr' hd' (upd pS free.toNatClampNeg eS') (fun k => if k = free.toNatClampNeg then eC' else pC k) um' bf' := by
  have hR0 := hR
  obtain ⟨N, C, rfl, hC, hT, hZ, hM⟩ := hR
  have hn := hC.n6
  unfold S_X5_flip S_X6_flip
  rcases p_inner hC p1 p2 with ⟨e1, e2⟩ | ⟨e1, e2, z1, z2, rfl, rfl, a1, a2, b1, b2⟩
  · rw [e1, e2]
    exact ⟨_, _, _, _, _, _, _, _, _, rfl, rfl, hR0, hP.keep _⟩
  · have kk := kd_r C z1 z2
    simp (disch := omega) only [e1, e2, Option.bind_some, if_neg n10, x3_flipKind hC hT, x6_mayBe hC hM, ii_eq0]
    by_cases k0 : kd C z1 z2 = 0
    · rw [if_pos k0, if_pos k0]
      exact ⟨_, _, _, _, _, _, _, _, _, rfl, rfl, hR0, hP.keep _⟩
    · obtain ⟨fr', hd', um', bf', c', n1, n2, n3⟩ := p_note hC hT hZ hM hP
      obtain ⟨sn', f1, f2⟩ := (x6_flips hC hM a1 a2 b1 b2).2 k0
      have hC' := hC.flp a1 a2 b1 b2 k0
      have hT' : TC N (fl C z1 z2) (upd tC (z1 * 7 + z2).toNat (ii (C z1 z2 + dl C z1 z2))) := hT.upd hn (by omega) (by omega) (by omega) (by omega)
      rw [if_neg k0, if_neg k0, n1, n2, x3_flipAt hC hT a1 a2 b1 b2, f1]
      simp (disch := omega) only [Option.bind_some, x3_heightAt hn hT', x6_heightOf hC' f2]
      exact ⟨_, _, _, _, _, _, _, _, _, rfl, rfl, ⟨N, _, rfl, hC', hT', hZ.upd _ (by omega) (by omega) (by omega) (by omega), f2⟩, n3⟩
theorem p_gyrate {tS free held um : Int32} {tC tn pS bf : Nat → Int32} {pC : Nat → Nat → Int32} (hR : RT tS tC tn) (hP : RP free held pS pC um bf) (p1 : Int32) :
    ∃ (r fr' hd' eS' um' : Int32) (tC' eC' tn' bf' : Nat → Int32), S_X5_gyrate p1 tS tC free held (pS free.toNatClampNeg) (pC free.toNatClampNeg) = some (r, tC', fr', hd', eS', eC') ∧ S_X6_gyrate p1 tS um tn bf = some (r, um', tn', bf') ∧ RT tS tC' tn' ∧ RP fr' hd' (upd pS free.toNatClampNeg eS') (fun k => if k = free.toNatClampNeg then eC' else pC k) um' bf' := by
  have hR0 := hR
  obtain ⟨N, C, rfl, hC, hT, hZ, hM⟩ := hR
  have hn := hC.n6
  unfold S_X5_gyrate S_X6_gyrate
  rw [x5_isBetween, l64_1, l64_100, x6_in, Option.bind_some, Option.bind_some]
  rcases bt_z1 p1 (b := 100) (by omega) (by omega) with h | ⟨h, z, rfl, a1, a2⟩
  · rw [show bt p1 1 100 = 0 from h, if_pos rfl, if_pos rfl]
    exact ⟨_, _, _, _, _, _, _, _, _, rfl, rfl, hR0, hP.keep _⟩
  · obtain ⟨fr', hd', um', bf', c', n1, n2, n3⟩ := p_note hC hT hZ hM hP
    rw [show bt (ii z) 1 100 = 1 from h, if_neg n10, if_neg n10, n1, n2, Option.bind_some, Option.bind_some]
    dsimp only
    suffices g : ∃ (r : Int32 × (Nat → Int32) × Int32 × Int32 × Int32 × (Nat → Int32)) (r' : Int32 × Int32 × (Nat → Int32) × (Nat → Int32)), _ = some r ∧ _ = some r' ∧ (∃ r0 tC' tn', r = (r0, tC', fr', hd', ii N, c') ∧ r' = (r0, um', tn', bf') ∧ RT (ii N) tC' tn') by
      obtain ⟨r, r', g1, g2, r0, tC', tn', rfl, rfl, g3⟩ := g
      exact ⟨_, _, _, _, _, _, _, _, _, g1, g2, g3, n3⟩
    refine itr_sim (fun (k : Nat) (s t : Int32 × Int32 × (Nat → Int32)) => s.1 = t.1 ∧ s.2.1 = ii k ∧ t.2.1 = ii k ∧ ∃ D, CS N D ∧ TC N D s.2.2 ∧ Z7 s.2.2 ∧ TM N D t.2.2) _ z.toNat ⟨rfl, rfl, rfl, C, hC, hT, hZ, hM⟩ (by omega) (by omega) ?_ ?_
    · rintro k ⟨s1, s2, s3⟩ ⟨t1, t2, t3⟩ hk ⟨q1, q2, q3, D, d1, d2, d3, d4⟩
      dsimp only at q1 q2 q3 d2 d3 d4 ⊢
      subst q1; subst q2; subst q3
      left
      obtain ⟨c2, u1, u2, u3, u4⟩ := x3_gyrateOnce d1 d2 d3
      obtain ⟨m2, v1, v2⟩ := x6_gyrates d1 d4
      simp (disch := omega) only [ii_le, if_neg, u1, v1, Option.bind_some, ii_a1]
      exact ⟨_, _, rfl, rfl, rfl, rfl, rfl, _, u4, u2, u3, v2⟩
    · rintro ⟨s1, s2, s3⟩ ⟨t1, t2, t3⟩ ⟨q1, q2, q3, D, d1, d2, d3, d4⟩
      dsimp only at q1 q2 q3 d2 d3 d4 ⊢
      subst q1; subst q2; subst q3
      simp (disch := omega) only [ii_le, if_pos]
      exact ⟨_, _, rfl, rfl, _, _, _, rfl, rfl, N, D, rfl, d1, d2, d3, d4⟩
/-! LOWER, UPPER -/
def bb (k : Int) (C C' : Int → Int → Int) : Int → Int → Int := fun i j => if wt C C' i j = k then C' i j else C i j
theorem wt_iff (C C' : Int → Int → Int) (i j : Int) : (wt C C' i j = 1 ↔ C' i j < C i j) ∧ (wt C C' i j = 2 ↔ C i j < C' i j) := by
  unfold wt hh
  by_cases a : i + j - 2 * C i j < i + j - 2 * C' i j
  · rw [if_pos a]; constructor <;> omega
  · rw [if_neg a]
    by_cases b : i + j - 2 * C' i j < i + j - 2 * C i j
    · rw [if_pos b]; constructor <;> omega
    · rw [if_neg b]; constructor <;> omega
theorem bb_mm (C C' : Int → Int → Int) (i j : Int) : (C i j ≤ bb 2 C C' i j ∧ C' i j ≤ bb 2 C C' i j ∧ (bb 2 C C' i j = C i j ∨ bb 2 C C' i j = C' i j)) ∧ (bb 1 C C' i j ≤ C i j ∧ bb 1 C C' i j ≤ C' i j ∧ (bb 1 C C' i j = C i j ∨ bb 1 C C' i j = C' i j)) := by
  have a := wt_iff C C' i j
  unfold bb
  constructor
  · by_cases c : wt C C' i j = 2
    · rw [if_pos c]; omega
    · rw [if_neg c]; omega
  · by_cases c : wt C C' i j = 1
    · rw [if_pos c]; omega
    · rw [if_neg c]; omega
theorem bb_eq (k : Int) (C C' : Int → Int → Int) {i j v : Int} (h : C i j = v) (h' : C' i j = v) : bb k C C' i j = v := by
  unfold bb
  split
  · exact h'
  · exact h
theorem CS.bb {n : Int} {C C' : Int → Int → Int} (hC : CS n C) (hC' : CS n C') {k : Int} (hk : k = 1 ∨ k = 2) : CS n (bb k C C') := by
  have q := bb_mm C C'
  refine ⟨hC.1, fun y y1 y2 => ?_, fun x x1 x2 => ?_, fun y y1 y2 => ?_, fun x x1 x2 => ?_, fun x y x1 x2 y1 y2 => ?_, fun x y x1 x2 y1 y2 => ?_⟩
  · exact bb_eq _ _ _ (hC.top y1 y2) (hC'.top y1 y2)
  · exact bb_eq _ _ _ (hC.left x1 x2) (hC'.left x1 x2)
  · exact bb_eq _ _ _ (hC.bot y1 y2) (hC'.bot y1 y2)
  · exact bb_eq _ _ _ (hC.right x1 x2) (hC'.right x1 x2)
  · have a := hC.2.2.2.2.2.1 x y x1 x2 y1 y2
    have b := hC'.2.2.2.2.2.1 x y x1 x2 y1 y2
    have c := q x y
    have d := q (x + 1) y
    rcases hk with rfl | rfl <;> omega
  · have a := hC.2.2.2.2.2.2 x y x1 x2 y1 y2
    have b := hC'.2.2.2.2.2.2 x y x1 x2 y1 y2
    have c := q x y
    have d := q x (y + 1)
    rcases hk with rfl | rfl <;> omega
theorem x3_corner0 {cs : Nat → Int32} {i j : Int} (h1 : 0 ≤ i) (h2 : i ≤ 6) (h3 : 0 ≤ j) (h4 : j ≤ 6) : S_X3_cornerAt (ii i) (ii j) cs = some (cs (i * 7 + j).toNat) := by
  simp (disch := omega) only [S_X3_cornerAt, ii_7, ii_mul, ii_add, ck_in, ii_clamp]
theorem x3_wayTo0 {C C' : Int → Int → Int} {cs cs' : Nat → Int32} {i j : Int} (h1 : 0 ≤ i) (h2 : i ≤ 6) (h3 : 0 ≤ j) (h4 : j ≤ 6) (e : cs (i * 7 + j).toNat = ii (C i j)) (e' : cs' (i * 7 + j).toNat = ii (C' i j)) (b1 : 0 ≤ C i j) (b2 : C i j ≤ 6) (b3 : 0 ≤ C' i j) (b4 : C' i j ≤ 6) : S_X3_wayTo (ii i) (ii j) cs cs' = some (ii (wt C C' i j)) := by
  simp (disch := omega) only [S_X3_wayTo, S_X3_heightAt, x3_corner0, Option.bind_some, e, e', ii_2, ii_mul, ii_add, ii_sub, ii_0le, ii_le0]
  unfold wt hh
  by_cases c : i + j - 2 * C i j < i + j - 2 * C' i j
  · rw [if_neg (by omega), if_pos c]; rfl
  · rw [if_pos (by omega), if_neg c]
    by_cases d : i + j - 2 * C' i j < i + j - 2 * C i j
    · rw [if_neg (by omega), if_pos d]
    · rw [if_pos (by omega), if_neg d]; rfl
/-- how many heights become others -/
def bc (N : Nat) (k : Int) (C C' : Int → Int → Int) : Int := sm (N - 1) (fun a => sm (N - 1) (fun b => if wt C C' (1 + a) (1 + b) = k then 1 else 0))
theorem x3_takeHeights {N : Nat} {C C' : Int → Int → Int} {cs oc : Nat → Int32} (hC : CS N C) (h : TC N C cs) (hz : Z7 cs) (hC' : CS N C') (h' : TC N C' oc) {k : Int} (hk : k = 1 ∨ k = 2) : ∃ cs', S_X3_takeHeights (ii k) (ii N) cs oc = some (ii (bc N k C C'), cs') ∧ TC N (bb k C C') cs' ∧ Z7 cs' := by
  have hn := hC.n6
  have h1 := hC.n1
  unfold S_X3_takeHeights
  suffices g : ∃ r : Int32 × (Nat → Int32), _ = some r ∧ r.1 = ii (bc N k C C') ∧ TC N (bb k C C') r.2 ∧ Z7 r.2 by
    obtain ⟨⟨r1, r2⟩, g1, g2, g3⟩ := g
    dsimp only at g2
    rw [g2] at g1
    exact ⟨r2, g1, g3⟩
  have fin : ∀ s : Nat → Int32, (∀ a b : Int, 0 ≤ a → a ≤ N → 0 ≤ b → b ≤ N → s (a * 7 + b).toNat = ii (if (1 ≤ a ∧ a < N ∧ 1 ≤ b ∧ b < N) ∧ a < N then bb k C C' a b else C a b)) → TC N (bb k C C') s := by
    intro s hs a b a1 a2 b1 b2
    rw [hs a b a1 a2 b1 b2]
    congr 1
    by_cases c : (1 ≤ a ∧ a < N ∧ 1 ≤ b ∧ b < N) ∧ a < N
    · rw [if_pos c]
    · rw [if_neg c]
      by_cases c1 : a = 0
      · subst c1; exact (bb_eq _ _ _ rfl (by rw [hC'.top b1 b2, hC.top b1 b2])).symm
      · by_cases c2 : a = N
        · subst c2; exact (bb_eq _ _ _ rfl (by rw [hC'.bot b1 b2, hC.bot b1 b2])).symm
        · by_cases c3 : b = 0
          · subst c3; exact (bb_eq _ _ _ rfl (by rw [hC'.left a1 a2, hC.left a1 a2])).symm
          · have c4 : b = N := by omega
            subst c4; exact (bb_eq _ _ _ rfl (by rw [hC'.right a1 a2, hC.right a1 a2])).symm
  refine itr_ex (fun (p : Nat) (s : Int32 × Int32 × (Nat → Int32)) => s.1 = ii (sm p (fun a => sm (N - 1) (fun b => if wt C C' (1 + a) (1 + b) = k then 1 else 0))) ∧ s.2.1 = ii (1 + p) ∧ (∀ a b : Int, 0 ≤ a → a ≤ N → 0 ≤ b → b ≤ N → s.2.2 (a * 7 + b).toNat = ii (if (1 ≤ a ∧ a < N ∧ 1 ≤ b ∧ b < N) ∧ a < 1 + p then bb k C C' a b else C a b)) ∧ Z7 s.2.2) _ (N - 1) ⟨rfl, rfl, fun a b a1 a2 b1 b2 => ?_, hz⟩ (by omega) ?_ ?_
  · dsimp only; rw [if_neg (by omega)]; exact h a b a1 a2 b1 b2
  · rintro p ⟨s1, s2, s3⟩ hp ⟨q1, q2, q3, q4⟩
    dsimp only at q1 q2 q3 q4 ⊢
    subst q1; subst q2
    left
    simp (disch := omega) only [ii_le, if_neg]
    suffices g : ∃ o : (Int32 × Int32 × (Nat → Int32)) ⊕ (Int32 × (Nat → Int32)), _ = some o ∧ ∃ s', o = .inl s' ∧ (s'.1 = ii (sm (p + 1) (fun a => sm (N - 1) (fun b => if wt C C' (1 + a) (1 + b) = k then 1 else 0))) ∧ s'.2.1 = ii (1 + ((p + 1 : Nat) : Int)) ∧ (∀ a b : Int, 0 ≤ a → a ≤ N → 0 ≤ b → b ≤ N → s'.2.2 (a * 7 + b).toNat = ii (if (1 ≤ a ∧ a < N ∧ 1 ≤ b ∧ b < N) ∧ a < 1 + ((p + 1 : Nat) : Int) then bb k C C' a b else C a b)) ∧ Z7 s'.2.2) by
      obtain ⟨o, g1, s', rfl, g2⟩ := g
      exact ⟨s', g1, g2⟩
    refine itr_ex (fun (q : Nat) (s : Int32 × Int32 × (Nat → Int32)) => s.1 = ii (sm p (fun a => sm (N - 1) (fun b => if wt C C' (1 + a) (1 + b) = k then 1 else 0)) + sm q (fun b => if wt C C' (1 + p) (1 + b) = k then 1 else 0)) ∧ s.2.1 = ii (1 + q) ∧ (∀ a b : Int, 0 ≤ a → a ≤ N → 0 ≤ b → b ≤ N → s.2.2 (a * 7 + b).toNat = ii (if (1 ≤ a ∧ a < N ∧ 1 ≤ b ∧ b < N) ∧ (a < 1 + p ∨ (a = 1 + p ∧ b < 1 + q)) then bb k C C' a b else C a b)) ∧ Z7 s.2.2) _ (N - 1) ⟨?_, rfl, fun a b a1 a2 b1 b2 => ?_, q4⟩ (by omega) ?_ ?_
    · rw [sm, Int.add_zero]
    · dsimp only
      rw [q3 a b a1 a2 b1 b2]
      congr 1
      by_cases c : (1 ≤ a ∧ a < N ∧ 1 ≤ b ∧ b < N) ∧ a < 1 + p
      · rw [if_pos c, if_pos (by omega)]
      · rw [if_neg c, if_neg (by omega)]
    · rintro q ⟨t1, t2, t3⟩ hq ⟨r1, r2, r3, r4⟩
      dsimp only at r1 r2 r3 r4 ⊢
      subst r1; subst r2
      left
      have b1 := hC.bd (i := 1 + p) (j := 1 + q) (by omega) (by omega) (by omega) (by omega)
      have b2 := hC'.bd (i := 1 + p) (j := 1 + q) (by omega) (by omega) (by omega) (by omega)
      have wr := wt_r C C' (1 + p) (1 + q)
      have e0 : t3 ((1 + (p : Int)) * 7 + (1 + q)).toNat = ii (C (1 + p) (1 + q)) := by
        rw [r3 _ _ (by omega) (by omega) (by omega) (by omega), if_neg (by omega)]
      simp (disch := omega) only [ii_le, if_neg]
      rw [x3_wayTo0 (C := C) (C' := C') (by omega) (by omega) (by omega) (by omega) e0 (h' _ _ (by omega) (by omega) (by omega) (by omega)) (by omega) (by omega) (by omega) (by omega), Option.bind_some]
      simp (disch := omega) only [ii_eq]
      by_cases c : wt C C' (1 + p) (1 + q) = k
      · rw [if_pos c, x3_cornerAt hn h' (by omega) (by omega) (by omega) (by omega), Option.bind_some, x3_putCorner _ (by omega) (by omega) (by omega) (by omega), Option.bind_some, ii_a1, ii_a1]
        refine ⟨_, rfl, ?_, ?_, fun a b a1 a2 b1' b2' => ?_, r4.upd _ (by omega) (by omega) (by omega) (by omega)⟩
        · dsimp only; rw [sm, if_pos c]; first | (congr 1; done) | (congr 1; omega)
        · dsimp only; first | (congr 1; done) | (congr 1; omega)
        · dsimp only
          by_cases z : a = 1 + p ∧ b = 1 + q
          · obtain ⟨rfl, rfl⟩ := z
            rw [pk_us, if_pos (by omega)]
            unfold bb
            rw [if_pos c]
          · rw [pk_un (by omega), r3 a b a1 a2 b1' b2']
            congr 1
            by_cases w : (1 ≤ a ∧ a < N ∧ 1 ≤ b ∧ b < N) ∧ (a < 1 + p ∨ (a = 1 + p ∧ b < 1 + q))
            · rw [if_pos w, if_pos (by omega)]
            · rw [if_neg w, if_neg (by omega)]
      · rw [if_neg c, ii_a1]
        refine ⟨_, rfl, ?_, ?_, fun a b a1 a2 b1' b2' => ?_, r4⟩
        · dsimp only; rw [sm, if_neg c]; first | (congr 1; done) | (congr 1; omega)
        · dsimp only; first | (congr 1; done) | (congr 1; omega)
        · dsimp only
          rw [r3 a b a1 a2 b1' b2']
          congr 1
          by_cases z : a = 1 + p ∧ b = 1 + q
          · obtain ⟨rfl, rfl⟩ := z
            rw [if_neg (by omega), if_pos (by omega)]
            unfold bb
            rw [if_neg c]
          · by_cases w : (1 ≤ a ∧ a < N ∧ 1 ≤ b ∧ b < N) ∧ (a < 1 + p ∨ (a = 1 + p ∧ b < 1 + q))
            · rw [if_pos w, if_pos (by omega)]
            · rw [if_neg w, if_neg (by omega)]
    · rintro ⟨t1, t2, t3⟩ ⟨r1, r2, r3, r4⟩
      dsimp only at r1 r2 r3 r4 ⊢
      subst r1; subst r2
      simp (disch := omega) only [ii_le, if_pos, ii_a1]
      refine ⟨_, rfl, _, rfl, rfl, ?_, fun a b a1 a2 b1 b2 => ?_, r4⟩
      · dsimp only; first | (congr 1; done) | (congr 1; omega)
      · dsimp only
        rw [r3 a b a1 a2 b1 b2]
        congr 1
        by_cases w : (1 ≤ a ∧ a < N ∧ 1 ≤ b ∧ b < N) ∧ a < 1 + ((p + 1 : Nat) : Int)
        · rw [if_pos w, if_pos (by omega)]
        · rw [if_neg w, if_neg (by omega)]
  · rintro ⟨s1, s2, s3⟩ ⟨q1, q2, q3, q4⟩
    dsimp only at q1 q2 q3 q4 ⊢
    subst q1; subst q2
    simp (disch := omega) only [ii_le, if_pos]
    refine ⟨_, rfl, rfl, fin _ (fun a b a1 a2 b1 b2 => ?_), q4⟩
    dsimp only
    rw [q3 a b a1 a2 b1 b2]
    congr 1
    by_cases w : (1 ≤ a ∧ a < N ∧ 1 ≤ b ∧ b < N) ∧ a < N
    · rw [if_pos w, if_pos (by omega)]
    · rw [if_neg w, if_neg (by omega)]
