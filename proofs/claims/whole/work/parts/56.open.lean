/-! the class's places: a bit for each drawn side -/
def mkb (b0 b1 b2 b3 : Bool) : Int := (if b0 = true then 1 else 0) + (if b1 = true then 2 else 0) + (if b2 = true then 4 else 0) + (if b3 = true then 8 else 0)
def mk (C : Int → Int → Int) (r c : Int) : Int := mkb (dr C r c 0) (dr C r c 1) (dr C r c 2) (dr C r c 3)
def otb (b0 b1 b2 b3 : Bool) (s : Int) : Int := if ¬ s = 0 ∧ b0 = true then 0 else if ¬ s = 1 ∧ b1 = true then 1 else if ¬ s = 2 ∧ b2 = true then 2 else 3
def dsb (b0 b1 b2 b3 : Bool) (s : Int) : Bool := if s = 0 then b0 else if s = 1 then b1 else if s = 2 then b2 else b3
def pw (o : Int) : Int := if o = 0 then 1 else if o = 1 then 2 else if o = 2 then 4 else 8
def twb (b0 b1 b2 b3 : Bool) : Bool := (if b0 = true then 1 else 0) + (if b1 = true then 1 else 0) + (if b2 = true then 1 else 0) + (if b3 = true then 1 else 0) == (2 : Nat)
theorem go_z : ∀ b0 b1 b2 b3 : Bool, ∀ s : Fin 4, twb b0 b1 b2 b3 = true → dsb b0 b1 b2 b3 ((s : Nat) : Int) = true → ii (mkb b0 b1 b2 b3) &&& (((1 : Int32) <<< (ii ((s : Nat) : Int) &&& 31)) ^^^ (-1 : Int32)) = ii (pw (otb b0 b1 b2 b3 ((s : Nat) : Int))) := by decide
theorem op_z : ∀ b0 b1 b2 b3 : Bool, ∀ s : Fin 4, (ii (mkb b0 b1 b2 b3) >>> (ii ((s : Nat) : Int) &&& 31)) &&& (1 : Int32) = (if dsb b0 b1 b2 b3 ((s : Nat) : Int) = true then 1 else 0) := by decide
theorem op_0 : ∀ s : Fin 4, ¬ ((0 : Int32) >>> (ii ((s : Nat) : Int) &&& 31)) &&& (1 : Int32) = 1 := by decide
theorem or_z : ∀ b0 b1 b2 b3 : Bool, ((((0 : Int32) ||| (if b0 = true then 1 else 0)) ||| (if b1 = true then 2 else 0)) ||| (if b2 = true then 4 else 0)) ||| (if b3 = true then 8 else 0) = ii (mkb b0 b1 b2 b3) := by decide
theorem mkb_ne : ∀ b0 b1 b2 b3 : Bool, twb b0 b1 b2 b3 = true → ¬ ii (mkb b0 b1 b2 b3) = 0 := by decide
theorem dr_ds (C : Int → Int → Int) (r c : Int) {s : Int} (h0 : 0 ≤ s) (h3 : s ≤ 3) : dsb (dr C r c 0) (dr C r c 1) (dr C r c 2) (dr C r c 3) s = dr C r c s := by
  rcases s4 h0 h3 with rfl | rfl | rfl | rfl <;> rfl
theorem dr_tw {n : Int} {C : Int → Int → Int} (hC : CS n C) {r c : Int} (h : IN n r c) : twb (dr C r c 0) (dr C r c 1) (dr C r c 2) (dr C r c 3) = true := by
  rcases dr_two hC h with ⟨a, b, d, e⟩ | ⟨a, b, d, e⟩ | ⟨a, b, d, e⟩ | ⟨a, b, d, e⟩ | ⟨a, b, d, e⟩ | ⟨a, b, d, e⟩ <;> rw [a, b, d, e] <;> decide
theorem mk_ne {n : Int} {C : Int → Int → Int} (hC : CS n C) {r c : Int} (h : IN n r c) : ¬ ii (mk C r c) = 0 := mkb_ne _ _ _ _ (dr_tw hC h)
def oc (O : Nat → Int32) (r c : Int) : Int32 := O (r * 7 + c).toNat
theorem oc_u {O : Nat → Int32} {n r c r' c' : Int} (hn : n ≤ 6) (h : IN n r c) (h' : IN n r' c') (v : Int32) : oc (upd O (r * 7 + c).toNat v) r' c' = if r' = r ∧ c' = c then v else oc O r' c' := by
  obtain ⟨a1, a2, a3, a4⟩ := h
  obtain ⟨b1, b2, b3, b4⟩ := h'
  unfold oc
  by_cases e : r' = r ∧ c' = c
  · obtain ⟨rfl, rfl⟩ := e
    rw [if_pos ⟨rfl, rfl⟩, pk_us]
  · rw [if_neg e, pk_un (by omega)]
theorem x1_goOn {n : Int} {C : Int → Int → Int} (hC : CS n C) {r c s : Int} (v : VA n C (r, c, s)) {O : Nat → Int32} (hO : oc O r c = ii (mk C r c)) : S_X1_goOn (ii r) (ii c) (ii s) O = some (ii (nro r (ot C r c s)), ii (nco c (ot C r c s)), ii (opp (ot C r c s)), upd O (r * 7 + c).toNat 0) := by
  have h6 := hC.n6
  obtain ⟨⟨a1, a2, a3, a4⟩, s0, s3, d⟩ := v
  dsimp only at a1 a2 a3 a4 s0 s3 d
  have o := ot_f hC ⟨a1, a2, a3, a4⟩ s0 s3 d
  have z := go_z (dr C r c 0) (dr C r c 1) (dr C r c 2) (dr C r c 3) ⟨s.toNat, by omega⟩ (dr_tw hC ⟨a1, a2, a3, a4⟩) (by dsimp only; rw [show ((s.toNat : Nat) : Int) = s by omega, dr_ds C r c s0 s3]; exact d)
  dsimp only at z
  rw [show ((s.toNat : Nat) : Int) = s by omega] at z
  unfold oc at hO
  unfold S_X1_goOn
  simp (disch := omega) only [ii_7, ii_mul, ii_add, ck_in, ii_clamp]
  rw [hO]
  unfold mk
  rw [z, Option.bind_some]
  have e : otb (dr C r c 0) (dr C r c 1) (dr C r c 2) (dr C r c 3) s = ot C r c s := rfl
  rw [e]
  rcases s4 o.1 o.2.1 with q | q | q | q
  · rw [q, if_pos (by decide), ii_s1]; rfl
  · rw [q, if_neg (by decide), if_pos (by decide), ii_a1]; rfl
  · rw [q, if_neg (by decide), if_neg (by decide), if_pos (by decide), ii_a1]; rfl
  · rw [q, if_neg (by decide), if_neg (by decide), if_neg (by decide), ii_s1]; rfl
theorem x1_isOpen {n : Int} {C : Int → Int → Int} (hn : n ≤ 6) {r c s : Int} (h : IN n r c) (s0 : 0 ≤ s) (s3 : s ≤ 3) {O : Nat → Int32} : (oc O r c = ii (mk C r c) → S_X1_isOpen (ii s) (ii r) (ii c) O = some (if dr C r c s = true then 1 else 0)) ∧ (oc O r c = 0 → S_X1_isOpen (ii s) (ii r) (ii c) O = some 0) := by
  obtain ⟨a1, a2, a3, a4⟩ := h
  unfold oc
  unfold S_X1_isOpen
  simp (disch := omega) only [ii_7, ii_mul, ii_add, ck_in, ii_clamp]
  refine ⟨fun e => ?_, fun e => ?_⟩
  · rw [e]
    have z := op_z (dr C r c 0) (dr C r c 1) (dr C r c 2) (dr C r c 3) ⟨s.toNat, by omega⟩
    dsimp only at z
    rw [show ((s.toNat : Nat) : Int) = s by omega, dr_ds C r c s0 s3] at z
    unfold mk
    rw [z]
    by_cases d : dr C r c s = true
    · rw [if_pos d, if_pos rfl]
    · rw [if_neg d, if_neg (by decide)]
  · rw [e]
    have z := op_0 ⟨s.toNat, by omega⟩
    dsimp only at z
    rw [show ((s.toNat : Nat) : Int) = s by omega] at z
    rw [if_neg z]
theorem x1_isInside {n r c : Int} (hn : n ≤ 6) (r0 : 0 ≤ r) (r7 : r ≤ 7) (c0 : 0 ≤ c) (c7 : c ≤ 7) (h1 : 1 ≤ n) : (IN n r c → S_X1_isInside (ii n) (ii r) (ii c) = some 1) ∧ (¬ IN n r c → S_X1_isInside (ii n) (ii r) (ii c) = some 0) := by
  unfold S_X1_isInside
  rw [x5_isBetween, x5_isBetween, Option.bind_some, Option.bind_some, bt_in1 (by omega) (by omega) (by omega) (by omega), bt_in1 (by omega) (by omega) (by omega) (by omega)]
  refine ⟨fun h => ?_, fun h => ?_⟩
  · obtain ⟨a1, a2, a3, a4⟩ := h
    rw [if_pos (show 1 ≤ r ∧ r ≤ n from ⟨a1, a2⟩), if_pos (show 1 ≤ c ∧ c ≤ n from ⟨a3, a4⟩), if_neg n10, if_neg n10]
  · by_cases a : 1 ≤ r ∧ r ≤ n
    · rw [if_pos a, if_neg n10, if_neg (fun q : 1 ≤ c ∧ c ≤ n => h ⟨a.1, a.2, q.1, q.2⟩), if_pos rfl]
    · rw [if_neg a, if_pos rfl]
theorem f4 {f : Nat} (h : f < 4) : f = 0 ∨ f = 1 ∨ f = 2 ∨ f = 3 := by omega
theorem x1_stand {n f o : Nat} (h6 : n ≤ 6) (hf : f < 4) (ho : o < n) : S_X1_standAtRim (ii f) (ii o) (ii n) = some (ii (rm n ((f * n + o : Nat) : Int)).1, ii (rm n ((f * n + o : Nat) : Int)).2.1, ii (rm n ((f * n + o : Nat) : Int)).2.2) ∧ (rm n ((f * n + o : Nat) : Int)).2.2 = f ∧ f * n + o < 4 * n := by
  have go : ∀ (x : TR), rm n ((f * n + o : Nat) : Int) = x → (S_X1_standAtRim (ii f) (ii o) (ii n) = some (ii x.1, ii x.2.1, ii x.2.2) ∧ x.2.2 = f) → f * n + o < 4 * n → S_X1_standAtRim (ii f) (ii o) (ii n) = some (ii (rm n ((f * n + o : Nat) : Int)).1, ii (rm n ((f * n + o : Nat) : Int)).2.1, ii (rm n ((f * n + o : Nat) : Int)).2.2) ∧ (rm n ((f * n + o : Nat) : Int)).2.2 = f ∧ f * n + o < 4 * n := by
    intro x e h l
    rw [e]
    exact ⟨h.1, h.2, l⟩
  rcases f4 hf with rfl | rfl | rfl | rfl
  · refine go (1, (o : Int) + 1, 0) ?_ ⟨?_, rfl⟩ (by omega)
    · unfold rm
      rw [if_pos (by omega), show ((0 * n + o : Nat) : Int) + 1 = (o : Int) + 1 by omega]
    · unfold S_X1_standAtRim
      rw [show ii ((0 : Nat) : Int) = 0 from rfl, if_pos rfl, jn_l, if_pos rfl, jn_l, ii_a1]
      rfl
  · refine go ((o : Int) + 1, n, 1) ?_ ⟨?_, rfl⟩ (by omega)
    · unfold rm
      rw [if_neg (by omega), if_pos (by omega), show ((1 * n + o : Nat) : Int) - n + 1 = (o : Int) + 1 by omega]
    · unfold S_X1_standAtRim
      rw [show ii ((1 : Nat) : Int) = 1 from rfl, if_neg n10, if_pos rfl, jn_l, if_neg n10, if_pos rfl, jn_l, ii_a1]
      rfl
  · refine go (n, (n : Int) - o, 2) ?_ ⟨?_, rfl⟩ (by omega)
    · unfold rm
      rw [if_neg (by omega), if_neg (by omega), if_pos (by omega), show 3 * (n : Int) - ((2 * n + o : Nat) : Int) = (n : Int) - o by omega]
    · unfold S_X1_standAtRim
      rw [show ii ((2 : Nat) : Int) = 2 from rfl, if_neg (by decide), if_neg (by decide), if_pos rfl, jn_l, if_neg (by decide), if_neg (by decide), if_pos rfl, jn_l, ii_sub]
      rfl
  · refine go ((n : Int) - o, 1, 3) ?_ ⟨?_, rfl⟩ (by omega)
    · unfold rm
      rw [if_neg (by omega), if_neg (by omega), if_neg (by omega), show 4 * (n : Int) - ((3 * n + o : Nat) : Int) = (n : Int) - o by omega]
    · unfold S_X1_standAtRim
      rw [show ii ((3 : Nat) : Int) = 3 from rfl, if_neg (by decide), if_neg (by decide), if_neg (by decide), jn_l, if_neg (by decide), if_neg (by decide), if_neg (by decide), jn_l, ii_sub]
      rfl
theorem jn_if {ρ : Type} (b : Bool) (v : Int32) (K : Int32 → Option ρ) : jn (if (if b = true then (1 : Int32) else 0) = 0 then some (.inl (0 : Int32)) else some (.inl v)) K = K (if b = true then v else 0) := by
  cases b
  · rfl
  · rfl
theorem x1_openPlaces {n : Nat} {C : Int → Int → Int} {cs O : Nat → Int32} (hC : CS n C) (h : TC n C cs) : ∃ O', S_X1_openPlaces (ii n) O cs = some O' ∧ ∀ r c, IN n r c → oc O' r c = ii (mk C r c) := by
  have h6 := hC.n6
  unfold S_X1_openPlaces
  refine itr_ex (fun (k : Nat) (x : Int32 × (Nat → Int32)) => x.1 = ii (1 + (k : Int)) ∧ ∀ r c, IN n r c → r ≤ k → oc x.2 r c = ii (mk C r c)) _ n ⟨rfl, fun r c hi hr => absurd hi.1 (by omega)⟩ (by omega) ?_ ?_
  · rintro k ⟨x1, x2⟩ hk ⟨q1, q2⟩
    dsimp only at q1 q2 ⊢
    subst q1
    left
    rw [if_neg (by rw [ii_lt (by omega) (by omega) (by omega) (by omega)]; omega)]
    suffices g : ∃ o : (Int32 × (Nat → Int32)) ⊕ (Nat → Int32), _ = some o ∧ ∃ s', o = .inl s' ∧ s'.1 = ii (1 + ((k + 1 : Nat) : Int)) ∧ ∀ r c, IN n r c → r ≤ ((k + 1 : Nat) : Int) → oc s'.2 r c = ii (mk C r c) by
      obtain ⟨o, g1, s', rfl, g2⟩ := g
      exact ⟨s', g1, g2⟩
    refine itr_ex (fun (m : Nat) (x : Int32 × (Nat → Int32)) => x.1 = ii (1 + (m : Int)) ∧ (∀ r c, IN n r c → r ≤ k → oc x.2 r c = ii (mk C r c)) ∧ ∀ c : Int, 1 ≤ c → c ≤ m → c ≤ n → oc x.2 (1 + k) c = ii (mk C (1 + k) c)) _ n ⟨rfl, q2, fun c h1 h2 => absurd h1 (by omega)⟩ (by omega) ?_ ?_
    · rintro m ⟨y1, y2⟩ hm ⟨r1, r2, r3⟩
      dsimp only at r1 r2 r3 ⊢
      subst r1
      left
      have hin : IN n (1 + (k : Int)) (1 + (m : Int)) := ⟨by omega, by omega, by omega, by omega⟩
      have z := or_z (dr C (1 + (k : Int)) (1 + (m : Int)) 0) (dr C (1 + (k : Int)) (1 + (m : Int)) 1) (dr C (1 + (k : Int)) (1 + (m : Int)) 2) (dr C (1 + (k : Int)) (1 + (m : Int)) 3)
      rw [if_neg (by rw [ii_lt (by omega) (by omega) (by omega) (by omega)]; omega), ii_s1, ii_s1, x3_isDrawnDown hC h (by omega) (by omega) (by omega) (by omega), Option.bind_some, ← dr_0, jn_if, x3_isDrawnAcross hC h (by omega) (by omega) (by omega) (by omega), Option.bind_some, ← dr_1, jn_if, x3_isDrawnDown hC h (by omega) (by omega) (by omega) (by omega), Option.bind_some, ← dr_2, jn_if, x3_isDrawnAcross hC h (by omega) (by omega) (by omega) (by omega), Option.bind_some, ← dr_3, jn_if, z, ii_7, ii_mul, ii_add, ck_in (by omega) (by omega) (by omega), ii_clamp (by omega) (by omega), Option.bind_some, ii_a1]
      refine ⟨_, rfl, congrArg ii (by omega), fun r c hi hr => ?_, fun c c1 c2 c3 => ?_⟩
      · dsimp only
        rw [oc_u h6 hin hi, if_neg (by omega)]; exact r2 r c hi hr
      · dsimp only
        rw [oc_u h6 hin ⟨by omega, by omega, by omega, by omega⟩]
        by_cases e : c = 1 + (m : Int)
        · subst e; rw [if_pos ⟨rfl, rfl⟩]; rfl
        · rw [if_neg (fun q => e q.2)]; exact r3 c c1 (by omega) c3
    · rintro ⟨y1, y2⟩ ⟨r1, r2, r3⟩
      dsimp only at r1 r2 r3 ⊢
      subst r1
      rw [if_pos (by rw [ii_lt (by omega) (by omega) (by omega) (by omega)]; omega), ii_a1]
      refine ⟨_, rfl, _, rfl, congrArg ii (by omega), fun r c hi hr => ?_⟩
      by_cases e : r = 1 + (k : Int)
      · subst e; exact r3 c hi.2.2.1 hi.2.2.2 hi.2.2.2
      · exact r2 r c hi (by omega)
  · rintro ⟨x1, x2⟩ ⟨q1, q2⟩
    dsimp only at q1 q2 ⊢
    subst q1
    rw [if_pos (by rw [ii_lt (by omega) (by omega) (by omega) (by omega)]; omega)]
    exact ⟨_, rfl, fun r c hi => q2 r c hi hi.2.1⟩
theorem x1_numberEnds {n : Nat} {C : Int → Int → Int} {O em : Nat → Int32} {row col sd : Int32} (hC : CS n C) (hO : ∀ r c, IN n r c → oc O r c = ii (mk C r c)) : ∃ row' col' sd' em', S_X1_numberEnds (ii n) row col sd O em = some (ii ((2 * n : Nat) : Int), row', col', sd', em') ∧ ∀ k : Nat, k < 4 * n → em' k = if k % 2 = 0 then ii ((k / 2 : Nat) : Int) else -4 := by
  have h6 := hC.n6
  have h1 := hC.n1
  unfold S_X1_numberEnds
  suffices g : ∃ r : Int32 × Int32 × Int32 × Int32 × (Nat → Int32), _ = some r ∧ r.1 = ii ((2 * n : Nat) : Int) ∧ ∀ k : Nat, k < 4 * n → r.2.2.2.2 k = if k % 2 = 0 then ii ((k / 2 : Nat) : Int) else -4 by
    obtain ⟨⟨r1, r2, r3, r4, r5⟩, g1, g2, g3⟩ := g
    dsimp only at g2 g3
    subst g2
    exact ⟨_, _, _, _, g1, g3⟩
  refine itr_ex (fun (f : Nat) (x : Int32 × Int32 × Int32 × Int32 × Int32 × (Nat → Int32)) => x.1 = ii (f : Int) ∧ x.2.1 = ii (((f * n + 1) / 2 : Nat) : Int) ∧ ∀ k : Nat, k < f * n → x.2.2.2.2.2 k = if k % 2 = 0 then ii ((k / 2 : Nat) : Int) else -4) _ 4 ⟨rfl, by dsimp only; rw [Nat.zero_mul]; rfl, fun k hk => absurd hk (by omega)⟩ (by omega) ?_ ?_
  · rintro f ⟨x1, x2, x3, x4, x5, x6⟩ hf ⟨q1, q2, q3⟩
    dsimp only at q1 q2 q3 ⊢
    subst q1; subst q2
    left
    have hfn : f * n + n ≤ 4 * n := by rcases f4 hf with rfl | rfl | rfl | rfl <;> omega
    have hf1 : (f + 1) * n = f * n + n := by rw [Nat.add_mul, Nat.one_mul]
    rw [if_neg (by rw [ii_4, ii_le (by omega) (by omega) (by omega) (by omega)]; omega)]
    suffices g : ∃ o : (Int32 × Int32 × Int32 × Int32 × Int32 × (Nat → Int32)) ⊕ (Int32 × Int32 × Int32 × Int32 × (Nat → Int32)), _ = some o ∧ ∃ s', o = .inl s' ∧ s'.1 = ii ((f + 1 : Nat) : Int) ∧ s'.2.1 = ii ((((f + 1) * n + 1) / 2 : Nat) : Int) ∧ ∀ k : Nat, k < (f + 1) * n → s'.2.2.2.2.2 k = if k % 2 = 0 then ii ((k / 2 : Nat) : Int) else -4 by
      obtain ⟨o, g1, s', rfl, g2⟩ := g
      exact ⟨s', g1, g2⟩
    refine itr_ex (fun (o : Nat) (x : Int32 × Int32 × Int32 × Int32 × Int32 × (Nat → Int32)) => x.1 = ii (o : Int) ∧ x.2.1 = ii (((f * n + o + 1) / 2 : Nat) : Int) ∧ ∀ k : Nat, k < f * n + o → x.2.2.2.2.2 k = if k % 2 = 0 then ii ((k / 2 : Nat) : Int) else -4) _ n ⟨rfl, rfl, q3⟩ (by omega) ?_ ?_
    · rintro o ⟨y1, y2, y3, y4, y5, y6⟩ ho ⟨r1, r2, r3⟩
      dsimp only at r1 r2 r3 ⊢
      subst r1; subst r2
      left
      obtain ⟨st, e3, lt⟩ := x1_stand (n := n) (by omega) hf ho
      have fm := rm_f (n := n) (k := ((f * n + o : Nat) : Int)) (by omega) (by omega) (by omega)
      have dd := rm_dr hC (k := ((f * n + o : Nat) : Int)) (by omega) (by omega)
      have io := (x1_isOpen (C := C) (O := O) h6 fm.1 fm.2.1 fm.2.2.1).1 (hO _ _ fm.1)
      rw [dd, e3] at io
      rw [if_neg (by rw [ii_le (by omega) (by omega) (by omega) (by omega)]; omega), st, Option.bind_some]
      dsimp only
      rw [io, Option.bind_some, ii_mul, ii_add, show (f : Int) * (n : Int) + (o : Int) = ((f * n + o : Nat) : Int) by push_cast; rfl]
      have upk : ∀ v : Int32, v = (if (f * n + o) % 2 = 0 then ii (((f * n + o) / 2 : Nat) : Int) else -4) → ∀ k : Nat, k < f * n + (o + 1) → upd y6 (f * n + o) v k = if k % 2 = 0 then ii ((k / 2 : Nat) : Int) else -4 := by
        intro v hv k hk
        by_cases e : k = f * n + o
        · subst e; rw [pk_us, hv]
        · rw [pk_un e]; exact r3 k (by omega)
      by_cases c : ((f * n + o : Nat) : Int) % 2 = 0
      · have c' : (f * n + o) % 2 = 0 := by omega
        rw [if_pos (decide_eq_true c), if_neg n10, if_neg (by rw [ii_12, ii_le (by omega) (by omega) (by omega) (by omega)]; omega), jn_l, if_neg n10, jn_l, ck_in (by omega) (by omega) (by omega), ii_clamp (by omega) (by omega), Int.toNat_natCast, if_neg n10, ii_a1, ii_a1]
        refine ⟨_, rfl, congrArg ii (by omega), congrArg ii (by omega), upk _ ?_⟩
        rw [if_pos c']; exact congrArg ii (by omega)
      · have c' : ¬ (f * n + o) % 2 = 0 := by omega
        rw [show decide (((f * n + o : Nat) : Int) % 2 = 0) = false from decide_eq_false c, if_neg (show ¬ (false = true) by decide), if_pos rfl, jn_l, if_pos rfl, jn_l, ck_in (by omega) (by omega) (by omega), ii_clamp (by omega) (by omega), Int.toNat_natCast, if_pos rfl, ii_a1]
        refine ⟨_, rfl, congrArg ii (by omega), congrArg ii (by omega), upk _ ?_⟩
        rw [if_neg c']
    · rintro ⟨y1, y2, y3, y4, y5, y6⟩ ⟨r1, r2, r3⟩
      dsimp only at r1 r2 r3 ⊢
      subst r1; subst r2
      rw [if_pos (by rw [ii_le (by omega) (by omega) (by omega) (by omega)]; omega), ii_a1, hf1]
      exact ⟨_, rfl, _, rfl, congrArg ii (by omega), rfl, r3⟩
  · rintro ⟨x1, x2, x3, x4, x5, x6⟩ ⟨q1, q2, q3⟩
    dsimp only at q1 q2 q3 ⊢
    subst q1; subst q2
    rw [if_pos (by decide)]
    exact ⟨_, rfl, congrArg ii (by omega), q3⟩
