theorem x3_negatives {C : Int → Int → Int} {cs : Nat → Int32} {N : Nat} (hC : CS N C) (h : TC N C cs) : S_X3_negatives (ii N) cs = some (ii (sm N (fun i => sm N (fun j => if sg C i j < 0 then 1 else 0)))) := by
  have hn := hC.n6
  have h1 := hC.n1
  unfold S_X3_negatives
  refine itr_up (fun k => (ii (sm k (fun i => sm N (fun j => if sg C i j < 0 then 1 else 0))), ii ((k : Int)))) N ?_ (by omega) ?_ ?_
  · show ((0 : Int32), (0 : Int32)) = (ii 0, ii (((0 : Nat) : Int)))
    rfl
  · intro k hk
    dsimp only
    simp (disch := omega) only [ii_le, ii_lt, if_neg]
    refine itr_up (fun q => (ii (sm k (fun i => sm N (fun j => if sg C i j < 0 then 1 else 0)) + sm q (fun j => if sg C (k : Int) j < 0 then 1 else 0)), ii ((q : Int)))) N ?_ (by omega) ?_ ?_
    · show (ii _, (0 : Int32)) = (ii (_ + 0), ii (((0 : Nat) : Int)))
      rw [Int.add_zero]
      rfl
    · intro q hq
      dsimp only
      have e := hC.sgb (r := k) (c := q) (by omega) (by omega) (by omega) (by omega)
      simp (disch := omega) only [ii_le, if_neg, x3_signAt hn h, Option.bind_some, ii_0, ii_1, ii_add]
      by_cases c : 0 ≤ sg C k q
      · rw [if_pos c]
        exact ii2 (by rw [sm, if_neg (by omega)]; omega) (by push_cast; omega)
      · rw [if_neg c]
        exact ii2 (by rw [sm, if_pos (by omega)]; omega) (by push_cast; omega)
    · dsimp only
      simp (disch := omega) only [ii_le, ii_lt, if_pos, ii_1, ii_add]
      exact ii2r rfl (by push_cast; omega)
  · dsimp only
    simp (disch := omega) only [ii_le, ii_lt, if_pos]
theorem x3_inversions {C : Int → Int → Int} {cs : Nat → Int32} {N : Nat} (hC : CS N C) (h : TC N C cs) : S_X3_inversions (ii N) cs = some (ii (sm N (fun i => sm N (fun j => sg C i j * (j - C (i + 1) j))))) := by
  have hn := hC.n6
  have h1 := hC.n1
  unfold S_X3_inversions
  refine itr_up (fun k => (ii (sm k (fun i => sm N (fun j => sg C i j * (j - C (i + 1) j)))), ii ((k : Int)))) N ?_ (by omega) ?_ ?_
  · show ((0 : Int32), (0 : Int32)) = (ii 0, ii (((0 : Nat) : Int)))
    rfl
  · intro k hk
    dsimp only
    simp (disch := omega) only [ii_le, ii_lt, if_neg]
    refine itr_up (fun q => (ii (sm k (fun i => sm N (fun j => sg C i j * (j - C (i + 1) j))) + sm q (fun j => sg C (k : Int) j * (j - C ((k : Int) + 1) j))), ii ((q : Int)))) N ?_ (by omega) ?_ ?_
    · show (ii _, (0 : Int32)) = (ii (_ + 0), ii (((0 : Nat) : Int)))
      rw [Int.add_zero]
      rfl
    · intro q hq
      dsimp only
      simp (disch := omega) only [ii_le, if_neg, x3_signAt hn h, x3_cornerAt hn h, Option.bind_some, ii_1, ii_add, ii_sub, ii_mul]
      exact ii2 (by rw [sm]; omega) (by push_cast; omega)
    · dsimp only
      simp (disch := omega) only [ii_le, ii_lt, if_pos, ii_1, ii_add]
      exact ii2r rfl (by push_cast; omega)
  · dsimp only
    simp (disch := omega) only [ii_le, ii_lt, if_pos]
theorem x3_heights {C : Int → Int → Int} {cs : Nat → Int32} {N : Nat} (hC : CS N C) (h : TC N C cs) : S_X3_heightsTogether (ii N) cs = some (ii (sm (N + 1) (fun i => sm (N + 1) (fun j => hh C i j)))) := by
  have hn := hC.n6
  have h1 := hC.n1
  unfold S_X3_heightsTogether
  refine itr_up (fun k => (ii (sm k (fun i => sm (N + 1) (fun j => hh C i j))), ii ((k : Int)))) (N + 1) ?_ (by omega) ?_ ?_
  · show ((0 : Int32), (0 : Int32)) = (ii 0, ii (((0 : Nat) : Int)))
    rfl
  · intro k hk
    dsimp only
    simp (disch := omega) only [ii_le, ii_lt, if_neg]
    refine itr_up (fun q => (ii (sm k (fun i => sm (N + 1) (fun j => hh C i j)) + sm q (fun j => hh C (k : Int) j)), ii ((q : Int)))) (N + 1) ?_ (by omega) ?_ ?_
    · show (ii _, (0 : Int32)) = (ii (_ + 0), ii (((0 : Nat) : Int)))
      rw [Int.add_zero]
      rfl
    · intro q hq
      dsimp only
      simp (disch := omega) only [ii_lt, if_neg, x3_heightAt hn h, Option.bind_some, ii_1, ii_add]
      exact ii2 (by rw [sm]; omega) (by push_cast; omega)
    · dsimp only
      simp (disch := omega) only [ii_le, ii_lt, if_pos, ii_1, ii_add]
      exact ii2r rfl (by push_cast; omega)
  · dsimp only
    simp (disch := omega) only [ii_le, ii_lt, if_pos]
theorem x3_flippable {C : Int → Int → Int} {cs : Nat → Int32} {N : Nat} (hC : CS (1 + N) C) (h : TC (1 + N) C cs) : S_X3_flippable (ii (1 + N)) cs = some (ii (sm N (fun i => sm N (fun j => if kd C (1 + i) (1 + j) = 0 then 0 else 1)))) := by
  have hn := hC.n6
  have h1 := hC.n1
  unfold S_X3_flippable
  refine itr_up (fun k => (ii (sm k (fun i => sm N (fun j => if kd C (1 + i) (1 + j) = 0 then 0 else 1))), ii (1 + (k : Int)))) N ?_ (by omega) ?_ ?_
  · show ((0 : Int32), (1 : Int32)) = (ii 0, ii (1 + ((0 : Nat) : Int)))
    rfl
  · intro k hk
    dsimp only
    simp (disch := omega) only [ii_le, ii_lt, if_neg]
    refine itr_up (fun q => (ii (sm k (fun i => sm N (fun j => if kd C (1 + i) (1 + j) = 0 then 0 else 1)) + sm q (fun j => if kd C (1 + (k : Int)) (1 + j) = 0 then 0 else 1)), ii (1 + (q : Int)))) N ?_ (by omega) ?_ ?_
    · show (ii _, (1 : Int32)) = (ii (_ + 0), ii (1 + ((0 : Nat) : Int)))
      rw [Int.add_zero]
      rfl
    · intro q hq
      dsimp only
      have e := kd_r C (1 + k) (1 + q)
      simp (disch := omega) only [ii_le, if_neg, x3_flipKind hC h, Option.bind_some, ii_0, ii_1, ii_add, ii_eq]
      by_cases c : kd C (1 + k) (1 + q) = 0
      · rw [if_pos c]
        exact ii2 (by rw [sm, if_pos c]; omega) (by push_cast; omega)
      · rw [if_neg c]
        exact ii2 (by rw [sm, if_neg c]; omega) (by push_cast; omega)
    · dsimp only
      simp (disch := omega) only [ii_le, ii_lt, if_pos, ii_1, ii_add]
      exact ii2r rfl (by push_cast; omega)
  · dsimp only
    simp (disch := omega) only [ii_le, ii_lt, if_pos]
theorem x3_distance {C C' : Int → Int → Int} {cs cs' : Nat → Int32} {N : Nat} (hC : CS (1 + N) C) (h : TC (1 + N) C cs) (hC' : CS (1 + N) C') (h' : TC (1 + N) C' cs') : S_X3_distance (ii (1 + N)) cs cs' = some (ii (sm N (fun i => sm N (fun j => (if 0 ≤ C (1 + i) (1 + j) - C' (1 + i) (1 + j) then C (1 + i) (1 + j) - C' (1 + i) (1 + j) else 0 - (C (1 + i) (1 + j) - C' (1 + i) (1 + j))))))) := by
  have hn := hC.n6
  have h1 := hC.n1
  unfold S_X3_distance
  refine itr_up (fun k => (ii (sm k (fun i => sm N (fun j => (if 0 ≤ C (1 + i) (1 + j) - C' (1 + i) (1 + j) then C (1 + i) (1 + j) - C' (1 + i) (1 + j) else 0 - (C (1 + i) (1 + j) - C' (1 + i) (1 + j)))))), ii (1 + (k : Int)))) N ?_ (by omega) ?_ ?_
  · show ((0 : Int32), (1 : Int32)) = (ii 0, ii (1 + ((0 : Nat) : Int)))
    rfl
  · intro k hk
    dsimp only
    simp (disch := omega) only [ii_le, ii_lt, if_neg]
    refine itr_up (fun q => (ii (sm k (fun i => sm N (fun j => (if 0 ≤ C (1 + i) (1 + j) - C' (1 + i) (1 + j) then C (1 + i) (1 + j) - C' (1 + i) (1 + j) else 0 - (C (1 + i) (1 + j) - C' (1 + i) (1 + j))))) + sm q (fun j => (if 0 ≤ C (1 + (k : Int)) (1 + j) - C' (1 + (k : Int)) (1 + j) then C (1 + (k : Int)) (1 + j) - C' (1 + (k : Int)) (1 + j) else 0 - (C (1 + (k : Int)) (1 + j) - C' (1 + (k : Int)) (1 + j))))), ii (1 + (q : Int)))) N ?_ (by omega) ?_ ?_
    · show (ii _, (1 : Int32)) = (ii (_ + 0), ii (1 + ((0 : Nat) : Int)))
      rw [Int.add_zero]
      rfl
    · intro q hq
      dsimp only
      have e := hC.bd (i := 1 + k) (j := 1 + q) (by omega) (by omega) (by omega) (by omega)
      have e' := hC'.bd (i := 1 + k) (j := 1 + q) (by omega) (by omega) (by omega) (by omega)
      simp (disch := omega) only [ii_le, if_neg, x3_cornerAt hn h, x3_cornerAt hn h', Option.bind_some, ii_0, ii_1, ii_add, ii_sub]
      by_cases c : 0 ≤ C (1 + k) (1 + q) - C' (1 + k) (1 + q)
      · rw [if_pos c, ii_add]
        exact ii2 (by rw [sm, if_pos c]; omega) (by push_cast; omega)
      · rw [if_neg c, ii_add]
        exact ii2 (by rw [sm, if_neg c]; omega) (by push_cast; omega)
    · dsimp only
      simp (disch := omega) only [ii_le, ii_lt, if_pos, ii_1, ii_add]
      exact ii2r rfl (by push_cast; omega)
  · dsimp only
    simp (disch := omega) only [ii_le, ii_lt, if_pos]
theorem x3_unlikeSigns {C C' : Int → Int → Int} {cs cs' : Nat → Int32} {N : Nat} (hC : CS N C) (h : TC N C cs) (hC' : CS N C') (h' : TC N C' cs') : S_X3_unlikeSigns (ii N) cs cs' = some (ii (sm N (fun i => sm N (fun j => if sg C i j = sg C' i j then 0 else 1)))) := by
  have hn := hC.n6
  have h1 := hC.n1
  unfold S_X3_unlikeSigns
  refine itr_up (fun k => (ii (sm k (fun i => sm N (fun j => if sg C i j = sg C' i j then 0 else 1))), ii ((k : Int)))) N ?_ (by omega) ?_ ?_
  · show ((0 : Int32), (0 : Int32)) = (ii 0, ii (((0 : Nat) : Int)))
    rfl
  · intro k hk
    dsimp only
    simp (disch := omega) only [ii_le, ii_lt, if_neg]
    refine itr_up (fun q => (ii (sm k (fun i => sm N (fun j => if sg C i j = sg C' i j then 0 else 1)) + sm q (fun j => if sg C (k : Int) j = sg C' (k : Int) j then 0 else 1)), ii ((q : Int)))) N ?_ (by omega) ?_ ?_
    · show (ii _, (0 : Int32)) = (ii (_ + 0), ii (((0 : Nat) : Int)))
      rw [Int.add_zero]
      rfl
    · intro q hq
      dsimp only
      have e := hC.sgb (r := k) (c := q) (by omega) (by omega) (by omega) (by omega)
      have e' := hC'.sgb (r := k) (c := q) (by omega) (by omega) (by omega) (by omega)
      simp (disch := omega) only [ii_le, if_neg, x3_signAt hn h, x3_signAt hn h', Option.bind_some, ii_1, ii_add, ii_eq]
      by_cases c : sg C k q = sg C' k q
      · rw [if_pos c]
        exact ii2 (by rw [sm, if_pos c]; omega) (by push_cast; omega)
      · rw [if_neg c]
        exact ii2 (by rw [sm, if_neg c]; omega) (by push_cast; omega)
    · dsimp only
      simp (disch := omega) only [ii_le, ii_lt, if_pos, ii_1, ii_add]
      exact ii2r rfl (by push_cast; omega)
  · dsimp only
    simp (disch := omega) only [ii_le, ii_lt, if_pos]
theorem x3_drawnEdges {C : Int → Int → Int} {cs : Nat → Int32} {N : Nat} (hC : CS N C) (h : TC N C cs) : S_X3_drawnEdges (ii N) cs = some (ii (sm (N + 1) (fun i => sm N (fun j => ((if dA C (1 + j) i = true then 1 else 0) + (if dD C i (1 + j) = true then 1 else 0)))))) := by
  have hn := hC.n6
  have h1 := hC.n1
  unfold S_X3_drawnEdges
  refine itr_up (fun k => (ii (sm k (fun i => sm N (fun j => ((if dA C (1 + j) i = true then 1 else 0) + (if dD C i (1 + j) = true then 1 else 0))))), ii ((k : Int)))) (N + 1) ?_ (by omega) ?_ ?_
  · show ((0 : Int32), (0 : Int32)) = (ii 0, ii (((0 : Nat) : Int)))
    rfl
  · intro k hk
    dsimp only
    simp (disch := omega) only [ii_le, ii_lt, if_neg]
    refine itr_up (fun q => (ii (sm k (fun i => sm N (fun j => ((if dA C (1 + j) i = true then 1 else 0) + (if dD C i (1 + j) = true then 1 else 0)))) + sm q (fun j => ((if dA C (1 + j) (k : Int) = true then 1 else 0) + (if dD C (k : Int) (1 + j) = true then 1 else 0)))), ii (1 + (q : Int)))) N ?_ (by omega) ?_ ?_
    · show (ii _, (1 : Int32)) = (ii (_ + 0), ii (1 + ((0 : Nat) : Int)))
      rw [Int.add_zero]
      rfl
    · intro q hq
      dsimp only
      simp (disch := omega) only [ii_lt, if_neg, x3_isDrawnAcross hC h, x3_isDrawnDown hC h, Option.bind_some, ii_1, ii_add]
      by_cases c : dA C (1 + q) k = true
      · by_cases d : dD C k (1 + q) = true
        · simp only [if_pos c, if_pos d, ← ii_1, if_neg n10, jn_l, ii_a1]
          exact ii2 (by rw [sm, if_pos c, if_pos d]; omega) (by push_cast; omega)
        · simp only [if_pos c, if_neg d, ← ii_1, if_neg n10, jn_l, ii_a1, if_pos]
          exact ii2 (by rw [sm, if_pos c, if_neg d]; omega) (by push_cast; omega)
      · by_cases d : dD C k (1 + q) = true
        · simp only [if_neg c, if_pos d, ← ii_1, if_neg n10, jn_l, ii_a1, if_pos]
          exact ii2 (by rw [sm, if_neg c, if_pos d]; omega) (by push_cast; omega)
        · simp only [if_neg c, if_neg d, jn_l, ii_a1, if_pos]
          exact ii2 (by rw [sm, if_neg c, if_neg d]; omega) (by push_cast; omega)
    · dsimp only
      simp (disch := omega) only [ii_le, ii_lt, if_pos, ii_1, ii_add]
      exact ii2r rfl (by push_cast; omega)
  · dsimp only
    simp (disch := omega) only [ii_le, ii_lt, if_pos]
theorem x6_apartS {C C' : Int → Int → Int} {sn sn' : Nat → Int32} {N : Nat} (hC : CS N C) (h : TM N C sn) (hC' : CS N C') (h' : TM N C' sn') : S_X6_apart (ii N) (ii N) sn sn' = some (ii (sm (N + 1) (fun i => sm (N + 1) (fun j => (if 0 ≤ hh C i j - hh C' i j then hh C i j - hh C' i j else - (hh C i j - hh C' i j))))) / 2) := by
  have hn := hC.n6
  have h1 := hC.n1
  unfold S_X6_apart
  rw [if_pos rfl]
  refine itr_up (fun k => (ii (sm k (fun i => sm (N + 1) (fun j => (if 0 ≤ hh C i j - hh C' i j then hh C i j - hh C' i j else - (hh C i j - hh C' i j))))), ii ((k : Int)))) (N + 1) ?_ (by omega) ?_ ?_
  · show ((0 : Int32), (0 : Int32)) = (ii 0, ii (((0 : Nat) : Int)))
    rfl
  · intro k hk
    dsimp only
    simp (disch := omega) only [ii_le, ii_lt, if_neg]
    refine itr_up (fun q => (ii (sm k (fun i => sm (N + 1) (fun j => (if 0 ≤ hh C i j - hh C' i j then hh C i j - hh C' i j else - (hh C i j - hh C' i j)))) + sm q (fun j => (if 0 ≤ hh C (k : Int) j - hh C' (k : Int) j then hh C (k : Int) j - hh C' (k : Int) j else - (hh C (k : Int) j - hh C' (k : Int) j)))), ii ((q : Int)))) (N + 1) ?_ (by omega) ?_ ?_
    · show (ii _, (0 : Int32)) = (ii (_ + 0), ii (((0 : Nat) : Int)))
      rw [Int.add_zero]
      rfl
    · intro q hq
      dsimp only
      have e := hC.hhb (i := k) (j := q) (by omega) (by omega) (by omega) (by omega)
      have e' := hC'.hhb (i := k) (j := q) (by omega) (by omega) (by omega) (by omega)
      simp (disch := omega) only [ii_lt, ii_le, if_neg, x6_heightOf hC h, x6_heightOf hC' h', Option.bind_some, S_X6_far, ii_0, ii_1, ii_add, ii_sub, ii_neg]
      by_cases c : 0 ≤ hh C k q - hh C' k q
      · rw [if_pos c, Option.bind_some, ii_add]
        exact ii2 (by rw [sm, if_pos c]; omega) (by push_cast; omega)
      · rw [if_neg c, Option.bind_some, ii_add]
        exact ii2 (by rw [sm, if_neg c]; omega) (by push_cast; omega)
    · dsimp only
      simp (disch := omega) only [ii_le, ii_lt, if_pos, ii_1, ii_add]
      exact ii2r rfl (by push_cast; omega)
  · dsimp only
    simp (disch := omega) only [ii_le, ii_lt, if_pos]
