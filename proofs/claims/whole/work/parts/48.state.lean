/-! THE TEXT on both sides -/
def RX (len : Int32) (lt tx : Nat → Int32) : Prop := ∃ T : Nat, T ≤ 200 ∧ len = ii T ∧ ∀ k, k < T → lt k = tx k
theorem RP.none {free : Int32} {pS : Nat → Int32} {pC : Nat → Nat → Int32} {bf : Nat → Int32} {held um : Int32} (h : RP free held pS pC um bf) : RP free 0 pS pC 0 bf := by
  obtain ⟨f, h', hf, hh, rfl, -, -, -⟩ := h
  exact ⟨f, 0, hf, by omega, rfl, rfl, rfl, fun j hj => absurd hj (by omega)⟩
theorem p_fault {len : Int32} {lt tx dcs rd : Nat → Int32} (hX : RX len lt tx) (hz : Z7 dcs) : ∃ (r re rl rs ds rz : Int32) (d' rd' : Nat → Int32), S_X5_fault len lt dcs = some (r, re, rl, rs, ds, d') ∧ S_X6_fault len tx rd = some (r, rz, rd') ∧ Z7 d' := by
  obtain ⟨T, hT, rfl, hl⟩ := hX
  obtain ⟨⟨a1, a2, a3, a4, a5, a6⟩, ⟨b1, b2, b3⟩, h1, h2, h3, h4, -⟩ := p_firstFault (rd := rd) hT hl hz
  dsimp only at h3 h4
  subst h3
  unfold S_X5_fault
  rw [h1, Option.bind_some]
  exact ⟨_, _, _, _, _, _, _, _, rfl, h2, h4⟩
theorem p_lay {len tS um free held : Int32} {lt tx dcs rd tC tn pS bf : Nat → Int32} {pC : Nat → Nat → Int32} (hX : RX len lt tx) (hz : Z7 dcs) (hR : RT tS tC tn) (hP : RP free held pS pC um bf) :
    ∃ (r re rl rs ds rz tS' hd' um' : Int32) (d' rd' tC' tn' : Nat → Int32), S_X5_lay len lt dcs tS tC held = some (r, re, rl, rs, ds, d', tS', tC', hd') ∧ S_X6_lay len tS um tx tn rd = some (r, tS', um', rz, tn', rd') ∧ Z7 d' ∧ RT tS' tC' tn' ∧ RP free hd' pS pC um' bf := by
  obtain ⟨T, hT, rfl, hl⟩ := hX
  obtain ⟨⟨a1, a2, a3, a4, a5, a6⟩, ⟨b1, b2, b3⟩, h1, h2, h3, h4, h5⟩ := p_firstFault (rd := rd) hT hl hz
  dsimp only at h3 h4 h5
  subst h3
  unfold S_X5_lay S_X6_lay
  rw [h1, h2, Option.bind_some, Option.bind_some]
  dsimp only
  by_cases c : a1 = -4
  · obtain ⟨N, D, e1, e2, hD, t1, t2⟩ := h5 c
    subst e1; subst e2
    obtain ⟨cp, c1, c2⟩ := x6_copy b3 tn
    rw [if_pos c, if_pos c, c1, Option.bind_some]
    unfold S_X3_copy S_X2_forget
    rw [Option.bind_some, Option.bind_some]
    exact ⟨_, _, _, _, _, _, _, _, _, _, _, _, _, rfl, rfl, h4, ⟨N, D, rfl, hD, t1.cpy hD.n6, h4.cpy, t2.agree hD.n6 c2⟩, hP.none⟩
  · rw [if_neg c, if_neg c]
    exact ⟨_, _, _, _, _, _, _, _, _, _, _, _, _, rfl, rfl, h4, hR, hP⟩
theorem ch_id : ∀ z : Fin 127, ((((ii ((z : Nat) : Int)).toUInt32 % 65536).toInt32).toUInt32.toUInt16.toUInt32.toInt32) = ii ((z : Nat) : Int) := by decide +kernel
theorem p_write {len : Int32} {lt tx : Nat → Int32} (hX : RX len lt tx) (p1 : Int32) : ∃ (r l' : Int32) (lt' tx' : Nat → Int32), S_X5_write p1 len lt = some (r, l', lt') ∧ S_X6_write p1 len tx = some (r, l', tx') ∧ RX l' lt' tx' := by
  have hX0 := hX
  obtain ⟨T, hT, rfl, hl⟩ := hX
  unfold S_X5_write S_X6_write
  rw [l64_32, l64_126, x6_in, Option.bind_some]
  rcases bt_z p1 (a := 32) (b := 126) (by omega) (by omega) (by omega) (by omega) with h | ⟨h, z, rfl, a1, a2⟩
  · have h' : bt p1 32 126 = 0 := h
    rw [h', if_pos rfl]
    unfold bt at h'
    by_cases c1 : p1 < 32
    · rw [if_pos c1]; exact ⟨_, _, _, _, rfl, rfl, hX0⟩
    · rw [if_neg c1] at h' ⊢
      by_cases c2 : 126 < p1
      · rw [if_neg (Int32.not_le.mpr c2)]; exact ⟨_, _, _, _, rfl, rfl, hX0⟩
      · rw [if_neg c2] at h'; exact absurd h' n10
  · have h' : bt (ii z) 32 126 = 1 := h
    have c1 : ¬ ii z < 32 := by rw [show (32 : Int32) = ii 32 from rfl, ii_lt (by omega) (by omega) (by omega) (by omega)]; omega
    have c2 : ii z ≤ 126 := by rw [show (126 : Int32) = ii 126 from rfl, ii_le (by omega) (by omega) (by omega) (by omega)]; omega
    rw [h', if_neg n10, if_neg c1, if_pos c2]
    simp (disch := omega) only [ii_200, ii_lt, ii_le, ii_eq]
    by_cases c3 : (T : Int) = 200
    · rw [if_pos c3]
      first
        | rw [if_pos (show (200 : Int) ≤ T by omega)]
        | rw [if_neg (show ¬ (T : Int) < 200 by omega)]
      exact ⟨_, _, _, _, rfl, rfl, hX0⟩
    · rw [if_neg c3]
      first
        | rw [if_neg (show ¬ (200 : Int) ≤ T by omega)]
        | rw [if_pos (show (T : Int) < 200 by omega)]
      unfold S_X4_add
      simp (disch := omega) only [ii_200, ii_le, if_neg, ck_in, ii_clamp, Option.bind_some, ii_a1]
      have e := ch_id ⟨z.toNat, by omega⟩
      dsimp only at e
      rw [show ((z.toNat : Nat) : Int) = z by omega] at e
      refine ⟨_, _, _, _, rfl, rfl, T + 1, by omega, ?_, fun k hk => ?_⟩
      · exact congrArg ii (by omega)
      · by_cases c : k = T
        · subst c
          rw [show (k : Int).toNat = k by omega, pk_us, pk_us, vp_nar_char]
          exact e
        · rw [pk_un (by omega), pk_un (by omega)]; exact hl k (by omega)
theorem p_wipe {len : Int32} {lt tx : Nat → Int32} (hX : RX len lt tx) : ∃ (r l' : Int32), S_X5_wipe len = some (r, l') ∧ S_X6_wipe len = some (r, l') ∧ RX l' lt tx := by
  unfold S_X5_wipe S_X6_wipe
  exact ⟨_, _, rfl, rfl, 0, by omega, rfl, fun k hk => absurd hk (by omega)⟩
theorem p_keep {tS oS : Int32} {tC tn oC on : Nat → Int32} (hR : RT tS tC tn) : ∃ (r : Int32) (oC' on' : Nat → Int32), S_X5_keep tS tC oC = some (r, r, oC') ∧ S_X6_keep tS tn on = some (r, r, on') ∧ RO r oC' on' := by
  obtain ⟨N, C, rfl, hC, hT, hZ, hM⟩ := hR
  obtain ⟨cp, c1, c2⟩ := x6_copy tn on
  unfold S_X5_keep S_X6_keep S_X3_copy
  rw [c1, Option.bind_some, Option.bind_some]
  exact ⟨_, _, _, rfl, rfl, Or.inr ⟨N, C, rfl, hC, hT.cpy hC.n6, hM.agree hC.n6 c2⟩⟩
/-! count, but for lines -/
theorem p_neg {N : Nat} {C : Int → Int → Int} {cs sn : Nat → Int32} (hC : CS N C) (hT : TC N C cs) (hM : TM N C sn) : ∃ r, S_X3_negatives (ii N) cs = some r ∧ S_X6_sums 1 (ii N) sn = some r := ⟨_, x3_negatives hC hT, by rw [x6_sums1 hC hM, q_neg hC]⟩
theorem p_flpb {N : Nat} {C : Int → Int → Int} {cs sn : Nat → Int32} (hC : CS N C) (hT : TC N C cs) (hM : TM N C sn) : ∃ r, S_X3_flippable (ii N) cs = some r ∧ S_X6_sums 2 (ii N) sn = some r := by
  have h1 := hC.n1
  obtain ⟨M, rfl⟩ : ∃ M : Nat, N = M + 1 := ⟨N - 1, by omega⟩
  have e : ((M + 1 : Nat) : Int) = 1 + (M : Int) := by push_cast; omega
  have a := x6_sums2 hC hM
  rw [show M + 1 + 1 = M + 2 by omega, q_flp] at a
  refine ⟨_, ?_, a⟩
  rw [e] at hC hT ⊢
  exact x3_flippable hC hT
theorem p_hts {N : Nat} {C : Int → Int → Int} {cs sn : Nat → Int32} (hC : CS N C) (hT : TC N C cs) (hM : TM N C sn) : ∃ r, S_X3_heightsTogether (ii N) cs = some r ∧ S_X6_sums 4 (ii N) sn = some r := ⟨_, x3_heights hC hT, x6_sums4 hC hM⟩
theorem p_drw {N : Nat} {C : Int → Int → Int} {cs sn : Nat → Int32} (hC : CS N C) (hT : TC N C cs) (hM : TM N C sn) : ∃ r, S_X3_drawnEdges (ii N) cs = some r ∧ S_X6_drawn (ii N) sn = some r := ⟨_, x3_drawnEdges hC hT, by rw [x6_drawn hC hM, q_drw]⟩
theorem p_inv {N : Nat} {C : Int → Int → Int} {cs sn : Nat → Int32} (hC : CS N C) (hT : TC N C cs) (hM : TM N C sn) : ∃ r, S_X3_inversions (ii N) cs = some r ∧ S_X6_inversions (ii N) sn = some r := by
  have h1 := hC.n1
  have h6 := hC.n6
  have hM6 : N * N ≤ 36 := by
    have : N ≤ 6 := by omega
    exact Nat.mul_le_mul this this
  have a := x6_inv0 (M := N * N) hC hM (by push_cast; rfl) hM6
  rw [q_inv hC] at a
  exact ⟨_, x3_inversions hC hT, a⟩
