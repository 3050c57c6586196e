theorem ii_200 : (200 : Int32) = ii 200 := rfl
theorem ckb0 {ρ : Type} {k : Option ρ} : ck ((0 : Int32) &&& 1 == 0) k = k := ck_b (by decide)
theorem ckb1 {ρ : Type} {k : Option ρ} : ck ((1 : Int32) &&& 1 == 1) k = k := ck_b (by decide)
theorem jn_nn {σ ρ : Type} (k : σ → Option ρ) : jn none k = none := rfl
/-- the class puts a sign -/
theorem x4_canPut {R L S Z v : Int} {m : Nat} {D : Int → Int → Int} {dcs rd : Nat → Int32} (h : RF R L S Z m D dcs rd) (hRw : R < wd Z) (hv : -1 ≤ v ∧ v ≤ 1) :
    (L = wd Z → S_X4_canPut (ii v) (ii R) (ii L) (ii S) (ii Z) dcs = some (0, ii L, ii S, dcs)) ∧
    (L < wd Z → (0 ≤ S + v ∧ S + v ≤ 1) → (0 ≤ (bv m L.toNat : Int) + v ∧ (bv m L.toNat : Int) + v ≤ 1) → S_X4_canPut (ii v) (ii R) (ii L) (ii S) (ii Z) dcs = some (1, ii (L + 1), ii (S + v), upd dcs ((R + 1) * 7 + (L + 1)).toNat (ii (D R (L + 1) + (S + v))))) ∧
    (L < wd Z → ¬ ((0 ≤ S + v ∧ S + v ≤ 1) ∧ (0 ≤ (bv m L.toNat : Int) + v ∧ (bv m L.toNat : Int) + v ≤ 1)) → ∃ rl rs d', S_X4_canPut (ii v) (ii R) (ii L) (ii S) (ii Z) dcs = some (0, rl, rs, d') ∧ Z7 d') := by
  obtain ⟨⟨z0, r0, zr, rz, l0, lw, s0, m6, hz⟩, f1, f2, ⟨f3, f4⟩, f5, f6, f7, f8, f9, f10, f11, f12, f13⟩ := h
  have hW : wd Z ≤ 6 := by unfold wd; split <;> omega
  have jw : ∀ {ρ : Type} (K : Int32 → Option ρ), jn (if ii Z ≤ 0 then some (.inl (6 : Int32)) else some (.inl (ii Z))) K = K (ii (wd Z)) := by
    intro ρ K
    unfold wd
    by_cases c : Z = 0
    · subst c; rfl
    · rw [if_neg (by rw [ii_0le (by omega) (by omega)]; omega), if_neg c, jn_l]
  have g10 := f10 hRw
  have g2 := f2 hRw L l0 (by omega)
  unfold S_X4_canPut
  rw [jw]
  refine ⟨fun e => ?_, ?_⟩
  · rw [if_neg (by rw [ii_lt (by omega) (by omega) (by omega) (by omega)]; omega)]
  · by_cases hL : L < wd Z
    case neg => exact ⟨fun h => absurd h hL, fun h => absurd h hL⟩
    have bL := f11 hRw L.toNat (by omega)
    rw [if_neg (by omega), show ((L.toNat : Nat) : Int) = L by omega] at bL
    have e1 : D R (L + 1) + (S + v) - D (R + 1) L = (bv m L.toNat : Int) + v := by omega
    have hb2 : bv m L.toNat < 2 := Nat.mod_lt _ (by omega)
    have cA : S_X3_cornerAt (ii R + 1 - 1) (ii L + 1) dcs = some (ii (D R (L + 1))) := by
      rw [ii_a1, ii_s1, ii_a1, show R + 1 - 1 = R by omega, x3_corner0 (by omega) (by omega) (by omega) (by omega), f1 R (L + 1) r0 (by omega) (by omega) (by omega)]
    have cS : S_X3_columnSum (ii R + 1) (ii L + 1) (upd dcs ((R + 1) * 7 + (L + 1)).toNat (ii (D R (L + 1) + (S + v)))) = some (ii ((bv m L.toNat : Int) + v)) := by
      unfold S_X3_columnSum
      rw [ii_a1, ii_a1, ii_s1, show L + 1 - 1 = L by omega, x3_corner0 (by omega) (by omega) (by omega) (by omega), Option.bind_some, x3_corner0 (by omega) (by omega) (by omega) (by omega), Option.bind_some, pk_us, pk_un (by omega), g2, ii_sub, e1]
    rw [if_pos (by rw [ii_lt (by omega) (by omega) (by omega) (by omega)]; omega), cA, Option.bind_some, ii_add, ii_add, ii_a1, ii_a1, x3_putCorner _ (by omega) (by omega) (by omega) (by omega), Option.bind_some, ← ii_a1 R, ← ii_a1 L, cS, Option.bind_some, x5_isBetween, x5_isBetween, Option.bind_some, Option.bind_some, show (1 : Int32) = ii 1 from rfl, bt_in0 (by omega) (by omega) (by omega) (by omega), bt_in0 (by omega) (by omega) (by omega) (by omega)]
    refine ⟨fun _ c1 c2 => ?_, fun _ c => ?_⟩
    · rw [if_pos c1, if_neg n10, if_pos c2, if_neg n10]
    · by_cases c1 : 0 ≤ S + v ∧ S + v ≤ 1
      · rw [if_pos c1, if_neg n10, if_neg (fun c2 => c ⟨c1, c2⟩), if_pos rfl]
        exact ⟨_, _, _, rfl, hz.upd _ (by omega) (by omega) (by omega) (by omega)⟩
      · rw [if_neg c1, if_pos rfl]
        exact ⟨_, _, _, rfl, hz.upd _ (by omega) (by omega) (by omega) (by omega)⟩
/-- the class meets a letter that is a sign: as if it were put -/
theorem x4_sign {R L S Z : Int} {dcs : Nat → Int32} {ch : Int32} {v : Int} (hch : (ch = 43 ∧ v = 1) ∨ (ch = 45 ∧ v = -1) ∨ (ch = 48 ∧ v = 0)) (hw : S_X4_isWhole (ii R) (ii Z) = some 0) {b rl rs : Int32} {d' : Nat → Int32} (hb : b = 0 ∨ b = 1) (h : S_X4_canPut (ii v) (ii R) (ii L) (ii S) (ii Z) dcs = some (b, rl, rs, d')) :
    ∃ rl' rs' d2, S_X4_canStand ch (ii R) (ii L) (ii S) (ii Z) dcs = some (b, ii R, rl', rs', ii Z, d2) ∧ rl' = rl ∧ rs' = rs ∧ d2 = d' := by
  unfold S_X4_canStand
  rw [hw, Option.bind_some, if_pos rfl]
  rcases hch with ⟨rfl, rfl⟩ | ⟨rfl, rfl⟩ | ⟨rfl, rfl⟩
  · rw [if_neg (by decide), if_neg (by decide), if_pos rfl, show (1 : Int32) = ii 1 from rfl, h, Option.bind_some]
    rcases hb with rfl | rfl
    · rw [if_pos rfl, jn_l, if_neg (by decide)]; exact ⟨_, _, _, rfl, rfl, rfl, rfl⟩
    · rw [if_neg n10, jn_r]; exact ⟨_, _, _, rfl, rfl, rfl, rfl⟩
  · rw [if_neg (by decide), if_neg (by decide), if_neg (by decide), jn_l, if_pos rfl, show (-1 : Int32) = ii (-1) from rfl]
    dsimp only
    rw [h, Option.bind_some]
    rcases hb with rfl | rfl
    · rw [if_pos rfl]; exact ⟨_, _, _, rfl, rfl, rfl, rfl⟩
    · rw [if_neg n10]; exact ⟨_, _, _, rfl, rfl, rfl, rfl⟩
  · rw [if_neg (by decide), if_pos rfl, show (0 : Int32) = ii 0 from rfl, h, Option.bind_some]
    rcases hb with rfl | rfl
    · dsimp only; rw [ckb0]; exact ⟨_, _, _, rfl, rfl, rfl, rfl⟩
    · dsimp only; rw [ckb1]; exact ⟨_, _, _, rfl, rfl, rfl, rfl⟩
theorem x4_whole {R Z : Int} (hR : 0 ≤ R) (hR6 : R ≤ 1000) (hZ : 0 ≤ Z) (hZ6 : Z ≤ 1000) : S_X4_isWhole (ii R) (ii Z) = some (if ¬ Z = 0 ∧ R = Z then 1 else 0) := by
  unfold S_X4_isWhole
  simp (disch := omega) only [ii_0le, ii_eq]
  by_cases c : Z ≤ 0
  · rw [if_pos c, if_neg (by omega)]
  · rw [if_neg c]
    by_cases d : R = Z
    · rw [if_pos d, if_pos ⟨by omega, d⟩]
    · rw [if_neg d, if_neg (fun q => d q.2)]
def lt4 (ch : Int32) : Prop := ch = 59 ∨ ch = 43 ∨ ch = 45 ∨ ch = 48
theorem ii_n4 {k : Int} (h : 0 ≤ k) (h2 : k ≤ 1000) : ¬ ii k = (-4 : Int32) := by
  rw [ii_m4, ii_eq (by omega) (by omega) (by omega) (by omega)]; omega
/-- what both sides' first faults say of each other -/
def EF (r : Int32 × Int32 × Int32 × Int32 × Int32 × (Nat → Int32)) (r' : Int32 × Int32 × (Nat → Int32)) : Prop := r.1 = r'.1 ∧ Z7 r.2.2.2.2.2 ∧ (r.1 = -4 → ∃ (N : Nat) (D : Int → Int → Int), r.2.2.2.2.1 = ii N ∧ r'.2.1 = ii N ∧ CS N D ∧ TC N D r.2.2.2.2.2 ∧ TM N D r'.2.2)
set_option maxHeartbeats 8000000 in
theorem p_firstFault {T : Nat} (hT : T ≤ 200) {lt tx dcs rd : Nat → Int32} (hl : ∀ k, k < T → lt k = tx k) (hz : Z7 dcs) : ∃ r r', S_X4_firstFault (ii T) lt dcs = some r ∧ S_X6_fault (ii T) tx rd = some r' ∧ EF r r' := by
  unfold S_X4_firstFault S_X4_startRow S_X6_fault
  rw [Option.bind_some]
  refine itr_sim (fun (k : Nat) (s : Int32 × Int32 × Int32 × Int32 × Int32 × (Nat → Int32)) (t : Int32 × Int32 × Int32 × Int32 × Int32 × Int32 × (Nat → Int32)) => ∃ (R L S Z : Int) (m : Nat) (D : Int → Int → Int) (dc rr : Nat → Int32), s = (ii k, ii R, ii L, ii S, ii Z, dc) ∧ t = (ii R, ii L, ii S, ii (m : Int), ii k, ii Z, rr) ∧ RF R L S Z m D dc rr) _ T ⟨0, 0, 0, 0, 0, fun _ _ => 0, dcs, rd, rfl, rfl, RF_0 hz⟩ (by omega) (by omega) ?_ ?_
  · rintro k s t hk ⟨R, L, S, Z, m, D, dc, rr, rfl, rfl, hF⟩
    dsimp only
    have hF0 := hF
    obtain ⟨⟨z0, r0, zr, rz, l0, lw, s0, m6, hzd⟩, -⟩ := hF
    have hW : wd Z ≤ 6 := by unfold wd; split <;> omega
    have hR6 : R ≤ 6 := by
      by_cases c : Z = 0
      · have := zr c; omega
      · have := rz c; omega
    simp (disch := omega) only [ii_le, if_neg, ck_in, ii_clamp]
    rw [hl _ (by omega)]
    generalize tx (k : Int).toNat = ch
    -- the exits
    have ex : ∀ (re rl rs ds : Int32) (d' : Nat → Int32) (rz : Int32) (r2 : Nat → Int32), Z7 d' → EF (ii k, re, rl, rs, ds, d') (ii k, rz, r2) := by
      intro re rl rs ds d' rz r2 hz'
      exact ⟨rfl, hz', fun e => absurd e (ii_n4 (by omega) (by omega))⟩
    have hwh := x4_whole (R := R) (Z := Z) r0 (by omega) z0.1 (by omega)
    by_cases whole : ¬ Z = 0 ∧ R = Z
    · -- nothing may stand behind a whole text
      right
      rw [if_pos whole] at hwh
      have cs0 : S_X4_canStand ch (ii R) (ii L) (ii S) (ii Z) dc = some (0, ii R, ii L, ii S, ii Z, dc) := by
        unfold S_X4_canStand; rw [hwh, Option.bind_some, if_neg n10]
      rw [cs0, Option.bind_some, if_pos rfl]
      have j3 : ∀ {ρ : Type} (K : Unit → Option ρ) (x : ρ), jn (if ii Z ≤ 0 then some (.inl ()) else if ii R = ii Z then some (.inr x) else some (.inl ())) K = some x := by
        intro ρ K x
        rw [if_neg (by rw [ii_0le (by omega) (by omega)]; omega), if_pos (by rw [whole.2]), jn_r]
      by_cases c59 : ch = 59
      · rw [if_pos c59, jn_l, if_neg n10, jn_l, j3]
        exact ⟨_, _, rfl, rfl, ex _ _ _ _ _ _ _ hzd⟩
      · rw [if_neg c59, jn_l, if_pos rfl]
        by_cases c43 : ch = 43
        · rw [if_pos c43, jn_l, j3]; exact ⟨_, _, rfl, rfl, ex _ _ _ _ _ _ _ hzd⟩
        · rw [if_neg c43]
          by_cases c45 : ch = 45
          · rw [if_pos c45, jn_l, j3]; exact ⟨_, _, rfl, rfl, ex _ _ _ _ _ _ _ hzd⟩
          · rw [if_neg c45]
            by_cases c48 : ch = 48
            · rw [if_pos c48, jn_l, j3]; exact ⟨_, _, rfl, rfl, ex _ _ _ _ _ _ _ hzd⟩
            · rw [if_neg c48, jn_r]; exact ⟨_, _, rfl, rfl, ex _ _ _ _ _ _ _ hzd⟩
    · rw [if_neg whole] at hwh
      have hRw : R < wd Z := by
        unfold wd
        by_cases c : Z = 0
        · rw [if_pos c]; have := zr c; omega
        · rw [if_neg c]; have := rz c; omega
      have j3 : ∀ {ρ : Type} (K : Unit → Option ρ) (x : ρ), jn (if ii Z ≤ 0 then some (.inl ()) else if ii R = ii Z then some (.inr x) else some (.inl ())) K = K () := by
        intro ρ K x
        by_cases c : Z = 0
        · rw [if_pos (by rw [ii_0le (by omega) (by omega)]; omega), jn_l]
        · rw [if_neg (by rw [ii_0le (by omega) (by omega)]; omega), if_neg (by rw [ii_eq (by omega) (by omega) (by omega) (by omega)]; exact fun e => whole ⟨c, e⟩), jn_l]
      have jw : ∀ {ρ : Type} (K : Int32 → Option ρ), jn (if ii Z ≤ 0 then some (.inl (6 : Int32)) else some (.inl (ii Z))) K = K (ii (wd Z)) := by
        intro ρ K
        unfold wd
        by_cases c : Z = 0
        · subst c; rfl
        · rw [if_neg (by rw [ii_0le (by omega) (by omega)]; omega), if_neg c, jn_l]
      by_cases c59 : ch = 59
      · -- the end of a row
        rw [if_pos c59, jn_l, if_neg n10, jn_l, j3, jw, if_neg n10]
        have cs0 : S_X4_canStand ch (ii R) (ii L) (ii S) (ii Z) dc = (S_X4_canEndRow (ii R) (ii L) (ii S) (ii Z)).bind (fun (y16 : Int32 × Int32 × Int32 × Int32 × Int32) => ck (y16.1 &&& 1 == y16.1) (some (y16.1, y16.2.1, y16.2.2.1, y16.2.2.2.1, y16.2.2.2.2, dc))) := by
          unfold S_X4_canStand; rw [hwh, Option.bind_some, if_pos rfl, if_pos c59]
        rw [cs0]
        unfold S_X4_canEndRow S_X4_startRow
        simp (disch := omega) only [ii_eq0, ii_lt, ii_eq1, ii_0le]
        by_cases cL : L = 0
        · right
          rw [if_pos cL, if_pos cL, Option.bind_some]; dsimp only; rw [ckb0, Option.bind_some, if_pos rfl]
          exact ⟨_, _, rfl, rfl, ex _ _ _ _ _ _ _ hzd⟩
        · rw [if_neg cL, if_neg cL]
          by_cases cZ : L < Z
          · right
            rw [if_pos cZ, if_neg (show ¬ Z ≤ 0 by omega), if_pos cZ, jn_r, Option.bind_some]; dsimp only; rw [ckb0, Option.bind_some, if_pos rfl]
            exact ⟨_, _, rfl, rfl, ex _ _ _ _ _ _ _ hzd⟩
          · have j8 : ∀ {ρ : Type} (K : Unit → Option ρ) (x : ρ), jn (if Z ≤ 0 then some (.inl ()) else if L < Z then some (.inr x) else some (.inl ())) K = K () := by
              intro ρ K x
              by_cases c : Z ≤ 0
              · rw [if_pos c, jn_l]
              · rw [if_neg c, if_neg cZ, jn_l]
            rw [if_neg cZ, j8]
            by_cases cS : S = 1
            · left
              subst cS
              rw [if_pos rfl, if_pos rfl, Option.bind_some, Option.bind_some]; dsimp only; rw [ckb1, Option.bind_some, if_neg n10]
              refine ⟨_, _, rfl, rfl, R + 1, 0, 0, L, m, D, dc, rr, ?_, ?_, RF_row hF0 whole cL (by omega)⟩
              · rw [ii_a1, ii_a1]; rfl
              · rw [ii_a1, ii_a1]; rfl
            · right
              rw [if_neg cS, if_neg cS, Option.bind_some]; dsimp only; rw [ckb0, Option.bind_some, if_pos rfl]
              exact ⟨_, _, rfl, rfl, ex _ _ _ _ _ _ _ hzd⟩
      · rw [if_neg c59, jn_l, if_pos rfl]
        by_cases sg3 : ch = 43 ∨ ch = 45 ∨ ch = 48
        · -- a sign
          obtain ⟨v, hv, hch⟩ : ∃ v : Int, (-1 ≤ v ∧ v ≤ 1) ∧ ((ch = 43 ∧ v = 1) ∨ (ch = 45 ∧ v = -1) ∨ (ch = 48 ∧ v = 0)) := by
            rcases sg3 with h | h | h
            · exact ⟨1, by omega, Or.inl ⟨h, rfl⟩⟩
            · exact ⟨-1, by omega, Or.inr (Or.inl ⟨h, rfl⟩)⟩
            · exact ⟨0, by omega, Or.inr (Or.inr ⟨h, rfl⟩)⟩
          have j2 : ∀ {ρ : Type} (K : Unit → Option ρ) (x : ρ), jn (if ch = 43 then some (.inl ()) else if ch = 45 then some (.inl ()) else if ch = 48 then some (.inl ()) else some (.inr x)) K = K () := by
            intro ρ K x
            rcases sg3 with h | h | h
            · rw [if_pos h, jn_l]
            · subst h; rfl
            · subst h; rfl
          have j6 : ∀ {ρ : Type} (K : Int32 → Option ρ), jn (if ch = 43 then some (.inl (1 : Int32)) else if ch = 45 then some (.inl (-1 : Int32)) else some (.inl (0 : Int32))) K = K (ii v) := by
            intro ρ K
            rcases hch with ⟨rfl, rfl⟩ | ⟨rfl, rfl⟩ | ⟨rfl, rfl⟩ <;> rfl
          rw [j2, j3, jw, if_pos rfl, j6]
          obtain ⟨q1, q2, q3⟩ := x4_canPut hF0 hRw hv
          have hb2 : bv m L.toNat < 2 := Nat.mod_lt _ (by omega)
          simp (disch := omega) only [ii_eq]
          by_cases cL : L = wd Z
          · right
            obtain ⟨rl', rs', d2, w1, rfl, rfl, rfl⟩ := x4_sign hch hwh (Or.inl rfl) (q1 cL)
            rw [if_pos cL, w1, Option.bind_some, if_pos rfl]
            exact ⟨_, _, rfl, rfl, ex _ _ _ _ _ _ _ hzd⟩
          · have hLw : L < wd Z := by omega
            have rdm := bv_read ⟨m, m6⟩ ⟨L.toNat, by omega⟩
            dsimp only at rdm
            rw [show ((L.toNat : Nat) : Int) = L by omega] at rdm
            rw [if_neg cL, rdm, ii_add, ii_add, l64_0, l64_1, x6_in, x6_in, Option.bind_some, Option.bind_some, show (1 : Int32) = ii 1 from rfl, bt_in0 (by omega) (by omega) (by omega) (by omega), bt_in0 (by omega) (by omega) (by omega) (by omega)]
            by_cases ok : (0 ≤ S + v ∧ S + v ≤ 1) ∧ (0 ≤ (bv m L.toNat : Int) + v ∧ (bv m L.toNat : Int) + v ≤ 1)
            · left
              obtain ⟨rl', rs', d2, w1, rfl, rfl, rfl⟩ := x4_sign hch hwh (Or.inr rfl) (q2 hLw ok.1 ok.2)
              rw [if_pos ok.1, if_neg n10, if_pos ok.2, if_neg n10, w1, Option.bind_some, if_neg n10]
              have mk : ∃ m' : Nat, m' < 64 ∧ (bv m' L.toNat : Int) = (bv m L.toNat : Int) + v ∧ (∀ c : Nat, c < 6 → c ≠ L.toNat → bv m' c = bv m c) ∧ ∀ {ρ : Type} (K : Int32 → Option ρ), jn (if ii ((bv m L.toNat : Int) + v) = ii 1 then some (.inl (ii (m : Int) ||| (ii 1 <<< (ii L &&& 31)))) else some (.inl (ii (m : Int) &&& ((ii 1 <<< (ii L &&& 31)) ^^^ (- ii 1))))) K = K (ii (m' : Int)) := by
                by_cases c1 : (bv m L.toNat : Int) + v = 1
                · obtain ⟨u1, u2, u3, u4⟩ := bv_or ⟨m, m6⟩ ⟨L.toNat, by omega⟩
                  dsimp only at u1 u2 u3 u4
                  rw [show ((L.toNat : Nat) : Int) = L by omega] at u1
                  refine ⟨_, u2, by rw [u3, c1]; rfl, fun c hc hne => u4 ⟨c, hc⟩ (fun e => hne (by have := congrArg Fin.val e; exact this)), fun K => ?_⟩
                  rw [if_pos (by rw [c1]), jn_l, ← u1]; rfl
                · obtain ⟨u1, u2, u3, u4⟩ := bv_and ⟨m, m6⟩ ⟨L.toNat, by omega⟩
                  dsimp only at u1 u2 u3 u4
                  rw [show ((L.toNat : Nat) : Int) = L by omega] at u1
                  refine ⟨_, u2, by rw [u3]; omega, fun c hc hne => u4 ⟨c, hc⟩ (fun e => hne (by have := congrArg Fin.val e; exact this)), fun K => ?_⟩
                  rw [if_neg (by rw [ii_eq (by omega) (by omega) (by omega) (by omega)]; exact c1), jn_l, ← u1]; rfl
              obtain ⟨m', n1, n2, n3, n4⟩ := mk
              rw [n4]
              simp (disch := omega) only [ii_6, ii_mul, ii_add, ck_in, ii_clamp]
              refine ⟨_, _, rfl, rfl, R, L + 1, S + v, Z, m', _, _, _, ?_, ?_, RF_put hF0 hRw hLw hv ok.1 ok.2 n1 n2 n3⟩
              · rfl
              · rfl
            · right
              obtain ⟨rl, rs, d', v1, v2⟩ := q3 hLw ok
              obtain ⟨rl', rs', d2, w1, rfl, rfl, rfl⟩ := x4_sign hch hwh (Or.inl rfl) v1
              rw [w1, Option.bind_some, if_pos rfl]
              by_cases o1 : 0 ≤ S + v ∧ S + v ≤ 1
              · rw [if_pos o1, if_neg n10, if_neg (fun o2 => ok ⟨o1, o2⟩), if_pos rfl]
                exact ⟨_, _, rfl, rfl, ex _ _ _ _ _ _ _ v2⟩
              · rw [if_neg o1, if_pos rfl]
                exact ⟨_, _, rfl, rfl, ex _ _ _ _ _ _ _ v2⟩
        · -- another letter
          right
          have c43 : ¬ ch = 43 := fun e => sg3 (Or.inl e)
          have c45 : ¬ ch = 45 := fun e => sg3 (Or.inr (Or.inl e))
          have c48 : ¬ ch = 48 := fun e => sg3 (Or.inr (Or.inr e))
          have cs0 : S_X4_canStand ch (ii R) (ii L) (ii S) (ii Z) dc = some (0, ii R, ii L, ii S, ii Z, dc) := by
            unfold S_X4_canStand; rw [hwh, Option.bind_some, if_pos rfl, if_neg c59, if_neg c48, if_neg c43, jn_l, if_neg c45]
          rw [cs0, Option.bind_some, if_pos rfl, if_neg c43, if_neg c45, if_neg c48, jn_r]
          exact ⟨_, _, rfl, rfl, ex _ _ _ _ _ _ _ hzd⟩
  · rintro s t ⟨R, L, S, Z, m, D, dc, rr, rfl, rfl, hF⟩
    dsimp only
    have hF0 := hF
    obtain ⟨⟨z0, r0, zr, rz, l0, lw, s0, m6, hzd⟩, -⟩ := hF
    have hR6 : R ≤ 6 := by
      by_cases c : Z = 0
      · have := zr c; omega
      · have := rz c; omega
    have hwh := x4_whole (R := R) (Z := Z) r0 (by omega) z0.1 (by omega)
    simp (disch := omega) only [ii_le, if_pos, ii_0le, ii_eq]
    rw [hwh, Option.bind_some]
    by_cases whole : ¬ Z = 0 ∧ R = Z
    · rw [if_pos whole, if_neg n10, if_neg (show ¬ Z ≤ 0 by omega), if_pos whole.2]
      obtain ⟨a, b, c⟩ := RF_end hF0 whole.1 whole.2
      have e : ((Z.toNat : Nat) : Int) = Z := by omega
      refine ⟨_, _, rfl, rfl, rfl, hzd, fun _ => ⟨Z.toNat, D, ?_⟩⟩
      rw [e]
      exact ⟨rfl, rfl, a, b, c⟩
    · have nx : EF (ii T, ii R, ii L, ii S, ii Z, dc) (ii T, ii Z, rr) := ⟨rfl, hzd, fun e => absurd e (ii_n4 (by omega) (by omega))⟩
      rw [if_neg whole, if_pos rfl]
      by_cases c : Z ≤ 0
      · rw [if_pos c]; exact ⟨_, _, rfl, rfl, nx⟩
      · rw [if_neg c, if_neg (fun e => whole ⟨by omega, e⟩)]; exact ⟨_, _, rfl, rfl, nx⟩
