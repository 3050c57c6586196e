/-! rings: both sides go round -/
def RC (n : Int) (O : Nat → Int32) : Prop := ∀ j, 0 ≤ j → j < 4 * n → j % 2 = 0 → oc O (rm n j).1 (rm n j).2.1 = 0
def RG (n : Int) (O gone : Nat → Int32) : Prop := ∀ r c, IN n r c → (oc O r c = 0 ↔ ¬ gone (ix r c) = 0)
def cfr (N : Int32) : (Int32 × Int32 × Int32 × Int32 × Int32 × (Nat → Int32)) → Option ((Int32 × Int32 × Int32 × Int32 × Int32 × (Nat → Int32)) ⊕ (Int32 × Int32 × Int32 × Int32 × (Nat → Int32))) := fun (x3 : Int32 × Int32 × Int32 × Int32 × Int32 × (Nat → Int32)) => if (36 : Int32) ≤ x3.1 then some (.inr (x3.2.1, x3.2.2.1, x3.2.2.2.1, x3.2.2.2.2.1, x3.2.2.2.2.2)) else (S_X1_isInside N x3.2.2.1 x3.2.2.2.1).bind (fun (y48 : Int32) => if y48 = 0 then some (.inr (x3.2.1, x3.2.2.1, x3.2.2.2.1, x3.2.2.2.2.1, x3.2.2.2.2.2)) else ck (inb ((x3.2.2.1 * (7 : Int32)) + x3.2.2.2.1) 49) (if (x3.2.2.2.2.2 ((x3.2.2.1 * (7 : Int32)) + x3.2.2.2.1).toNatClampNeg) = 0 then some (.inr (x3.2.1, x3.2.2.1, x3.2.2.2.1, x3.2.2.2.2.1, x3.2.2.2.2.2)) else (S_X1_goOn x3.2.2.1 x3.2.2.2.1 x3.2.2.2.2.1 x3.2.2.2.2.2).bind (fun (y76 : Int32 × Int32 × Int32 × (Nat → Int32)) => some (.inl (x3.1 + (1 : Int32), x3.2.1 + (1 : Int32), y76.1, y76.2.1, y76.2.2.1, y76.2.2.2)))))
def rfr (N p1 p2 : Int32) (sn : Nat → Int32) : (Int32 × Int32 × Int32 × Int32 × Int32 × (Nat → Int32)) → Option ((Int32 × Int32 × Int32 × Int32 × Int32 × (Nat → Int32)) ⊕ (Int32 ⊕ (Int32 × Int32 × Int32 × Int32 × Int32 × (Nat → Int32)))) := fun (x2 : Int32 × Int32 × Int32 × Int32 × Int32 × (Nat → Int32)) => if x2.1 = 0 then some (.inr (.inr (x2.2.2.2.2.1, x2.2.1, x2.2.2.1, x2.2.2.2.1, x2.2.2.2.2.1, x2.2.2.2.2.2))) else (S_X6_goesOn N x2.2.1 x2.2.2.1 x2.2.2.2.1 x2.2.2.2.2.1 x2.2.2.2.2.2 sn).bind (fun (y64 : Int32 × Int32 × Int32 × Int32 × Int32 × (Nat → Int32)) => if y64.2.1 = p1 then if y64.2.2.1 = p2 then some (.inl ((0 : Int32), y64.2.1, y64.2.2.1, y64.2.2.2.1, y64.2.2.2.2.1, y64.2.2.2.2.2)) else some (.inl ((1 : Int32), y64.2.1, y64.2.2.1, y64.2.2.2.1, y64.2.2.2.2.1, y64.2.2.2.2.2)) else some (.inl ((1 : Int32), y64.2.1, y64.2.2.1, y64.2.2.2.1, y64.2.2.2.2.1, y64.2.2.2.2.2)))
theorem RG.clo {n : Int} (hn : n ≤ 6) {O gone : Nat → Int32} (h : RG n O gone) {x : TR} (hx : IN n x.1 x.2.1) : RG n (clo O x) (upd gone (ix x.1 x.2.1) 1) := by
  intro r c hi
  rw [ix_u hn hx hi, clo_o hn hx hi]
  by_cases e : r = x.1 ∧ c = x.2.1
  · rw [if_pos e]; exact ⟨fun _ => Or.inr e, fun _ => rfl⟩
  · rw [if_neg e, h r c hi]
    exact ⟨fun q => Or.inl q, fun q => q.resolve_right e⟩
theorem cfr_end {n : Nat} (h1 : 1 ≤ (n : Int)) (h6 : (n : Int) ≤ 6) {r c : Int} {s : Int32} (hi : IN n r c) {O : Nat → Int32} (z : oc O r c = 0) (i a : Int32) : cfr (ii n) (i, a, ii r, ii c, s, O) = some (.inr (a, ii r, ii c, s, O)) := by
  obtain ⟨a1, a2, a3, a4⟩ := hi
  unfold cfr
  dsimp only
  split
  · rfl
  · unfold oc at z
    rw [(x1_isInside h6 (by omega) (by omega) (by omega) (by omega) h1).1 ⟨a1, a2, a3, a4⟩, Option.bind_some, if_neg n10, ii_7, ii_mul, ii_add, ck_in (by omega) (by omega) (by omega), ii_clamp (by omega) (by omega), if_pos z]
theorem ring_walk {n : Nat} {C : Int → Int → Int} {sn : Nat → Int32} (hC : CS n C) (hM : TM n C sn) {x0 z : TR} (v0 : VA n C x0) (hz : z = (nro x0.1 x0.2.2, nco x0.2.1 x0.2.2, opp x0.2.2)) (A : Int) :
    ∀ (d i : Nat) (x : TR) (O gone : Nat → Int32) (F K : Nat), cnt n O ≤ d → cnt n O + i ≤ 36 → d + 1 < F → d + 1 < K → VA n C x → L1 n C O → ¬ oc O x.1 x.2.1 = 0 → L2 n C O (fun t => t = x ∨ t = z) → RC n O → (IN n (nro x.1 x.2.2) (nco x.2.1 x.2.2) → oc O (nro x.1 x.2.2) (nco x.2.1 x.2.2) = 0 ∨ (nro x.1 x.2.2, nco x.2.1 x.2.2, opp x.2.2) = z) → RG n O gone → (x = x0 ∨ oc O x0.1 x0.2.1 = 0) →
    ∃ (m : Nat) (row col sd r' c' s' : Int32) (O' gone' : Nat → Int32), itr (cfr (ii n)) F (ii (i : Int), ii (A + i), ii x.1, ii x.2.1, ii x.2.2, O) = some (ii (A + m), row, col, sd, O') ∧ itr (rfr (ii n) (ii x0.1) (ii x0.2.1) sn) K (1, ii x.1, ii x.2.1, ii x.2.2, ii (i : Int), gone) = some (.inr (ii (m : Int), r', c', s', ii (m : Int), gone')) ∧ L1 n C O' ∧ L2 n C O' (fun _ => False) ∧ RC n O' ∧ RG n O' gone' := by
  have hn := hC.n6
  have hn1 := hC.n1
  obtain ⟨z1, z2, z3, z4⟩ := v0.1
  intro d
  induction d with
  | zero =>
    intro i x O gone F K hc _ _ _ v _ z
    have := cnt_pos (by omega) v.1 z
    omega
  | succ d ih =>
    intro i x O gone F K hc hci hF hK v l1 zx l2 rc hb rg hx
    obtain ⟨F', rfl⟩ : ∃ F', F = F' + 1 := ⟨F - 1, by omega⟩
    obtain ⟨K', rfl⟩ : ∃ K', K = K' + 1 := ⟨K - 1, by omega⟩
    have cc := cnt_clo (by omega) v.1 zx
    have hmk : oc O x.1 x.2.1 = ii (mk C x.1 x.2.1) := by
      rcases l1 _ _ v.1 with q | q
      · exact absurd q zx
      · exact q
    obtain ⟨o1, o2, o3, o4, o5, o6⟩ := ot_f hC v.1 v.2.1 v.2.2.1 v.2.2.2
    have op := opp_f o1 o2 x.1 x.2.1
    obtain ⟨p1, p2, p3, p4⟩ := v.1
    have c : IN n (nx C x).1 (nx C x).2.1 := by
      refine Classical.byContradiction (fun q => ?_)
      obtain ⟨g1, g2, g3⟩ := rm_rk v.1 o1 o2 q
      have dd := rm_dr hC g1 g2
      rw [g3] at dd
      have par := of_decide_eq_true (dd.symm.trans o4)
      have r := rc _ g1 g2 par
      rw [g3] at r
      exact zx r
    have stc : cfr (ii n) (ii (i : Int), ii (A + i), ii x.1, ii x.2.1, ii x.2.2, O) = some (.inl (ii ((i + 1 : Nat) : Int), ii (A + ((i + 1 : Nat) : Int)), ii (nx C x).1, ii (nx C x).2.1, ii (nx C x).2.2, clo O x)) := by
      unfold cfr
      dsimp only
      have z' := zx
      unfold oc at z'
      rw [if_neg (by rw [ii_36, ii_le (by omega) (by omega) (by omega) (by omega)]; omega), (x1_isInside hn (by omega) (by omega) (by omega) (by omega) hn1).1 v.1, Option.bind_some, if_neg n10, x1_goOn hC v hmk, ii_7, ii_mul, ii_add, ck_in (by omega) (by omega) (by omega), ii_clamp (by omega) (by omega), if_neg z', Option.bind_some, ii_a1, ii_a1]
      rw [show ((i : Int) + 1) = ((i + 1 : Nat) : Int) by omega, show (A + (i : Int) + 1) = A + ((i + 1 : Nat) : Int) by omega]
      rfl
    have m1 := close1 hn v.1 l1
    have m2 : L2 n C (clo O x) (fun t => t = nx C x ∨ t = z) := close2 hC v l2 hb
    have mrc : RC n (clo O x) := fun j a b e => clo_0 hn v.1 (rm_f hn1 a b).1 (rc j a b e)
    have mrg := rg.clo hn v.1
    have x0c : oc (clo O x) x0.1 x0.2.1 = 0 := by
      rcases hx with q | q
      · rw [clo_o hn v.1 v0.1, if_pos (by rw [q]; exact ⟨rfl, rfl⟩)]
      · exact clo_0 hn v.1 v0.1 q
    have nb := nx_b hC v
    by_cases e : (nx C x).1 = x0.1 ∧ (nx C x).2.1 = x0.2.1
    · -- round
      have str : rfr (ii n) (ii x0.1) (ii x0.2.1) sn (1, ii x.1, ii x.2.1, ii x.2.2, ii (i : Int), gone) = some (.inl (0, ii (nx C x).1, ii (nx C x).2.1, ii (nx C x).2.2, ii ((i + 1 : Nat) : Int), upd gone (ix x.1 x.2.1) 1)) := by
        unfold rfr
        dsimp only
        rw [if_neg n10, (x6_goesOn hC hM v).1 c, Option.bind_some]
        dsimp only
        rw [if_pos (by rw [e.1]), if_pos (by rw [e.2]), ii_a1]
        rfl
      obtain ⟨F2, rfl⟩ : ∃ F2, F' = F2 + 1 := ⟨F' - 1, by omega⟩
      obtain ⟨K2, rfl⟩ : ∃ K2, K' = K2 + 1 := ⟨K' - 1, by omega⟩
      rw [itr_succ stc, itr_succ str, itr_end (cfr_end hn1 hn c (by rw [e.1, e.2]; exact x0c) _ _), itr_end (show rfr (ii n) (ii x0.1) (ii x0.2.1) sn (0, ii (nx C x).1, ii (nx C x).2.1, ii (nx C x).2.2, ii ((i + 1 : Nat) : Int), upd gone (ix x.1 x.2.1) 1) = some (.inr (.inr (ii ((i + 1 : Nat) : Int), ii (nx C x).1, ii (nx C x).2.1, ii (nx C x).2.2, ii ((i + 1 : Nat) : Int), upd gone (ix x.1 x.2.1) 1))) by unfold rfr; rw [if_pos rfl])]
      refine ⟨i + 1, _, _, _, _, _, _, _, _, rfl, rfl, m1, ?_, mrc, mrg⟩
      intro r c' s hi s0 s3 hne hd hb2
      rcases m2 r c' s hi s0 s3 hne hd hb2 with q | q | q
      · exact Or.inl q
      · exfalso
        have q1 : r = (nx C x).1 := congrArg (fun t : TR => t.1) q
        have q2 : c' = (nx C x).2.1 := congrArg (fun t : TR => t.2.1) q
        rw [q1, q2, e.1, e.2] at hne
        exact hne x0c
      · left
        -- the place before the first: its neighbour was the first, closed; so it is the last one, closed too
        have q1 : r = nro x0.1 x0.2.2 := by have := congrArg (fun t : TR => t.1) (q.trans hz); exact this
        have q2 : c' = nco x0.2.1 x0.2.2 := by have := congrArg (fun t : TR => t.2.1) (q.trans hz); exact this
        have q3 : s = opp x0.2.2 := by have := congrArg (fun t : TR => t.2.2) (q.trans hz); exact this
        exfalso
        have ox := opp_f v0.2.1 v0.2.2.1 x0.1 x0.2.1
        obtain ⟨ns, hne2⟩ := clo_n hn v.1 hi hne
        have old := l2 x.1 x.2.1 (ot C x.1 x.2.1 x.2.2) v.1 o1 o2 zx o4 c
        have nz : ¬ oc O (nro x.1 (ot C x.1 x.2.1 x.2.2)) (nco x.2.1 (ot C x.1 x.2.1 x.2.2)) = 0 → False := by
          intro w
          rcases hx with t | t
          · have := op.2.2.2.2.2
            rw [t] at this e
            exact this e
          · have e1 : nro x.1 (ot C x.1 x.2.1 x.2.2) = x0.1 := e.1
            have e2 : nco x.2.1 (ot C x.1 x.2.1 x.2.2) = x0.2.1 := e.2
            rw [e1, e2] at w
            exact w t
        rcases old with w | w | w
        · exact nz w
        · exact o3 (congrArg (fun t : TR => t.2.2) w)
        · have w1 : x.1 = r := by have := congrArg (fun t : TR => t.1) (w.trans q.symm); exact this
          have w2 : x.2.1 = c' := by have := congrArg (fun t : TR => t.2.1) (w.trans q.symm); exact this
          exact ns ⟨w1.symm, w2.symm⟩
    · have str : rfr (ii n) (ii x0.1) (ii x0.2.1) sn (1, ii x.1, ii x.2.1, ii x.2.2, ii (i : Int), gone) = some (.inl (1, ii (nx C x).1, ii (nx C x).2.1, ii (nx C x).2.2, ii ((i + 1 : Nat) : Int), upd gone (ix x.1 x.2.1) 1)) := by
        unfold rfr
        dsimp only
        rw [if_neg n10, (x6_goesOn hC hM v).1 c, Option.bind_some]
        dsimp only
        rw [ii_a1, show ((i : Int) + 1) = ((i + 1 : Nat) : Int) by omega]
        by_cases e1 : (nx C x).1 = x0.1
        · rw [if_pos (by rw [e1]), if_neg (by rw [ii_eq (by omega) (by omega) (by omega) (by omega)]; exact fun q => e ⟨e1, q⟩)]
        · rw [if_neg (by rw [ii_eq (by omega) (by omega) (by omega) (by omega)]; exact e1)]
      rw [itr_succ stc, itr_succ str]
      have z2 : ¬ oc (clo O x) (nx C x).1 (nx C x).2.1 = 0 := by
        rw [clo_o hn v.1 c, if_neg (show ¬ ((nx C x).1 = x.1 ∧ (nx C x).2.1 = x.2.1) from op.2.2.2.2.2)]
        rcases l2 x.1 x.2.1 (ot C x.1 x.2.1 x.2.2) v.1 o1 o2 zx o4 c with q | q | q
        · exact q
        · exact absurd (congrArg (fun t : TR => t.2.2) q) o3
        · exfalso
          have ox := opp_f v0.2.1 v0.2.2.1 x0.1 x0.2.1
          have q' := q.trans hz
          have q1 : x.1 = nro x0.1 x0.2.2 := by have := congrArg (fun t : TR => t.1) q'; exact this
          have q2 : x.2.1 = nco x0.2.1 x0.2.2 := by have := congrArg (fun t : TR => t.2.1) q'; exact this
          have q3 : ot C x.1 x.2.1 x.2.2 = opp x0.2.2 := by have := congrArg (fun t : TR => t.2.2) q'; exact this
          refine e ⟨?_, ?_⟩
          · show nro x.1 (ot C x.1 x.2.1 x.2.2) = x0.1
            rw [q3, q1]; exact ox.1
          · show nco x.2.1 (ot C x.1 x.2.1 x.2.2) = x0.2.1
            rw [q3, q2]; exact ox.2.1
      exact ih (i + 1) (nx C x) (clo O x) (upd gone (ix x.1 x.2.1) 1) F' K' (by omega) (by omega) (by omega) (by omega) (v.nx hC c) m1 z2 m2 mrc (fun _ => Or.inl (by
        have e1 : nro (nx C x).1 (nx C x).2.2 = x.1 := op.1
        have e2 : nco (nx C x).2.1 (nx C x).2.2 = x.2.1 := op.2.1
        rw [e1, e2, clo_o hn v.1 v.1, if_pos ⟨rfl, rfl⟩])) mrg (Or.inr x0c)
/-- the first drawn side -/
def fs (C : Int → Int → Int) (r c : Int) : Int := if dr C r c 0 = true then 0 else if dr C r c 1 = true then 1 else 2
theorem fs_f {n : Int} {C : Int → Int → Int} (hC : CS n C) {r c : Int} (h : IN n r c) : 0 ≤ fs C r c ∧ fs C r c ≤ 2 ∧ dr C r c (fs C r c) = true ∧ ∀ t, 0 ≤ t → t < fs C r c → ¬ dr C r c t = true := by
  unfold fs
  by_cases a : dr C r c 0 = true
  · rw [if_pos a]; exact ⟨by omega, by omega, a, fun t t0 t1 => absurd t1 (by omega)⟩
  · rw [if_neg a]
    by_cases b : dr C r c 1 = true
    · rw [if_pos b]; exact ⟨by omega, by omega, b, fun t t0 t1 => by rw [show t = 0 by omega]; exact a⟩
    · rw [if_neg b]
      refine ⟨by omega, by omega, ?_, fun t t0 t1 => ?_⟩
      · rcases dr_two hC h with ⟨x, y, w, u⟩ | ⟨x, y, w, u⟩ | ⟨x, y, w, u⟩ | ⟨x, y, w, u⟩ | ⟨x, y, w, u⟩ | ⟨x, y, w, u⟩ <;> simp_all
      · rcases (by omega : t = 0 ∨ t = 1) with rfl | rfl
        · exact a
        · exact b
theorem one_ring {n : Nat} {C : Int → Int → Int} {sn O gone : Nat → Int32} (hC : CS n C) (hM : TM n C sn) (l1 : L1 n C O) (l2 : L2 n C O (fun _ => False)) (rc : RC n O) (rg : RG n O gone) {r c : Int} (hi : IN n r c) (zx : ¬ oc O r c = 0) (A : Int) : ∃ (m : Nat) (row col sd r' c' s' : Int32) (O' gone' : Nat → Int32), S_X1_followRing (ii r) (ii c) (ii A) (ii n) O = some (ii (A + m), row, col, sd, O') ∧ S_X6_ring (ii r) (ii c) (ii n) sn gone = some (ii (m : Int), r', c', s', ii (m : Int), gone') ∧ L1 n C O' ∧ L2 n C O' (fun _ => False) ∧ RC n O' ∧ RG n O' gone' := by
  have hn := hC.n6
  have hn1 := hC.n1
  obtain ⟨f0, f2, fd, fl⟩ := fs_f hC hi
  have v : VA n C (r, c, fs C r c) := ⟨hi, f0, by show fs C r c ≤ 3; omega, fd⟩
  obtain ⟨m, row, col, sd, r', c', s', O', gone', a, b, rest⟩ := ring_walk hC hM (x0 := (r, c, fs C r c)) (z := (nro r (fs C r c), nco c (fs C r c), opp (fs C r c))) v rfl A 36 0 (r, c, fs C r c) O gone 10000 10000 (cnt_36 n O) (cnt_36 n O) (by omega) (by omega) v l1 zx (fun r c s x1 x2 x3 x4 x5 x6 => (l2 r c s x1 x2 x3 x4 x5 x6).imp id False.elim) rc (fun _ => Or.inr rfl) rg (Or.inl rfl)
  refine ⟨m, row, col, sd, r', c', s', O', gone', ?_, ?_, rest⟩
  · have hmk := (l1 _ _ hi).resolve_left zx
    have i0 := (x1_isOpen (C := C) (s := 0) (O := O) hn hi (by omega) (by omega)).1 hmk
    have i1 := (x1_isOpen (C := C) (s := 1) (O := O) hn hi (by omega) (by omega)).1 hmk
    rw [show ii 0 = (0 : Int32) from rfl] at i0
    rw [show ii 1 = (1 : Int32) from rfl] at i1
    unfold S_X1_followRing
    rw [i0, Option.bind_some, i1]
    rw [show ((0 : Nat) : Int) = 0 from rfl, show A + 0 = A by omega] at a
    unfold fs at a
    by_cases c0 : dr C r c 0 = true
    · rw [if_pos c0] at a
      rw [if_pos c0, if_neg n10]
      exact a
    · rw [if_neg c0] at a
      rw [if_neg c0, if_pos rfl, Option.bind_some]
      by_cases c1 : dr C r c 1 = true
      · rw [if_pos c1] at a
        rw [if_pos c1, if_neg n10]
        exact a
      · rw [if_neg c1] at a
        rw [if_neg c1, if_pos rfl]
        exact a
  · unfold S_X6_ring
    refine itr_up (fun t => ii (t : Int)) (fs C r c).toNat rfl (by omega) ?_ ?_
    · intro t ht
      rw [x6_isDrawn hC hM hi (by omega) (by omega), Option.bind_some, if_neg (fl t (by omega) (by omega)), if_pos rfl, ii_a1]
      rfl
    · rw [show (((fs C r c).toNat : Nat) : Int) = fs C r c by omega, x6_isDrawn hC hM hi f0 (by omega), Option.bind_some, if_pos fd, if_neg n10]
      exact b
def x3r (p1 N : Int32) (sn ya yb yc : Nat → Int32) : (Int32 × Int32 × Int32 × Int32 × Int32 × Int32 × Int32 × (Nat → Int32)) → Option ((Int32 × Int32 × Int32 × Int32 × Int32 × Int32 × Int32 × (Nat → Int32)) ⊕ ((Int32 × Int32 × Int32 × Int32 × Int32 × (Nat → Int32)) ⊕ ((Int32 × (Nat → Int32)) ⊕ (Int32 × Int32 × Int32 × Int32 × Int32 × (Nat → Int32) × (Nat → Int32) × (Nat → Int32) × (Nat → Int32))))) := fun (x3 : Int32 × Int32 × Int32 × Int32 × Int32 × Int32 × Int32 × (Nat → Int32)) => if N < x3.2.2.1 then if p1 = 0 then some (.inr (.inr (.inr (x3.1, x3.2.2.2.1, x3.2.2.2.2.1, x3.2.2.2.2.2.1, x3.2.2.2.2.2.2.1, ya, yb, yc, x3.2.2.2.2.2.2.2)))) else some (.inr (.inr (.inr (x3.2.1, x3.2.2.2.1, x3.2.2.2.2.1, x3.2.2.2.2.2.1, x3.2.2.2.2.2.2.1, ya, yb, yc, x3.2.2.2.2.2.2.2)))) else itr (fun (x4 : Int32 × Int32 × Int32 × Int32 × Int32 × Int32 × Int32 × (Nat → Int32)) => if N < x4.2.2.1 then some (.inr (.inl (x4.1, x4.2.1, x3.2.2.1 + (1 : Int32), x4.2.2.2.1, x4.2.2.2.2.1, x4.2.2.2.2.2.1, x4.2.2.2.2.2.2.1, x4.2.2.2.2.2.2.2))) else ck (inb ((((6 : Int32) * (x3.2.2.1 - (1 : Int32))) + x4.2.2.1) - (1 : Int32)) 36) (if (x4.2.2.2.2.2.2.2 ((((6 : Int32) * (x3.2.2.1 - (1 : Int32))) + x4.2.2.1) - (1 : Int32)).toNatClampNeg) = 0 then (S_X6_ring x3.2.2.1 x4.2.2.1 N sn x4.2.2.2.2.2.2.2).bind (fun (y119 : Int32 × Int32 × Int32 × Int32 × Int32 × (Nat → Int32)) => some (.inl (x4.1 + y119.1, x4.2.1 + (1 : Int32), x4.2.2.1 + (1 : Int32), y119.2.1, y119.2.2.1, y119.2.2.2.1, y119.2.2.2.2.1, y119.2.2.2.2.2))) else some (.inl (x4.1, x4.2.1, x4.2.2.1 + (1 : Int32), x4.2.2.2.1, x4.2.2.2.2.1, x4.2.2.2.2.2.1, x4.2.2.2.2.2.2.1, x4.2.2.2.2.2.2.2)))) 10000 (x3.1, x3.2.1, (1 : Int32), x3.2.2.2.1, x3.2.2.2.2.1, x3.2.2.2.2.2.1, x3.2.2.2.2.2.2.1, x3.2.2.2.2.2.2.2)
theorem rings_sim {n : Nat} {C : Int → Int → Int} {sn O gone ya yb yc : Nat → Int32} {row col sd lr lc ls lm w : Int32} (hC : CS n C) (hM : TM n C sn) (l1 : L1 n C O) (l2 : L2 n C O (fun _ => False)) (rc : RC n O) (rg : RG n O gone) : ∃ (A B row' col' sd' lr' lc' ls' lm' : Int32) (O' gone' : Nat → Int32), S_X1_followRings (ii n) row col sd O = some (A, B, row', col', sd', O') ∧ itr (x3r w (ii n) sn ya yb yc) 10000 (0, 0, 1, lr, lc, ls, lm, gone) = some (.inr (.inr (if w = 0 then A else B, lr', lc', ls', lm', ya, yb, yc, gone'))) := by
  have hn := hC.n6
  have hn1 := hC.n1
  unfold S_X1_followRings
  suffices g : ∃ (r : Int32 × Int32 × Int32 × Int32 × Int32 × (Nat → Int32)) (r' : (Int32 × Int32 × Int32 × Int32 × Int32 × (Nat → Int32)) ⊕ ((Int32 × (Nat → Int32)) ⊕ (Int32 × Int32 × Int32 × Int32 × Int32 × (Nat → Int32) × (Nat → Int32) × (Nat → Int32) × (Nat → Int32)))), _ = some r ∧ itr (x3r w (ii n) sn ya yb yc) 10000 (0, 0, 1, lr, lc, ls, lm, gone) = some r' ∧ ∃ (lr' lc' ls' lm' : Int32) (gone' : Nat → Int32), r' = .inr (.inr (if w = 0 then r.1 else r.2.1, lr', lc', ls', lm', ya, yb, yc, gone')) by
    obtain ⟨⟨r1, r2, r3, r4, r5, r6⟩, r', g1, g2, lr', lc', ls', lm', gone', rfl⟩ := g
    exact ⟨_, _, _, _, _, _, _, _, _, _, _, g1, g2⟩
  refine itr_sim (fun (k : Nat) (x : Int32 × Int32 × Int32 × Int32 × Int32 × Int32 × (Nat → Int32)) (y : Int32 × Int32 × Int32 × Int32 × Int32 × Int32 × Int32 × (Nat → Int32)) => x.1 = ii (1 + (k : Int)) ∧ y.2.2.1 = ii (1 + (k : Int)) ∧ (∃ A : Int, x.2.1 = ii A ∧ y.1 = ii A) ∧ x.2.2.1 = y.2.1 ∧ L1 n C x.2.2.2.2.2.2 ∧ L2 n C x.2.2.2.2.2.2 (fun _ => False) ∧ RC n x.2.2.2.2.2.2 ∧ RG n x.2.2.2.2.2.2 y.2.2.2.2.2.2.2) _ n ⟨rfl, rfl, ⟨0, rfl, rfl⟩, rfl, l1, l2, rc, rg⟩ (by omega) (by omega) ?_ ?_
  · rintro k ⟨x1, x2, x3, x4, x5, x6, x7⟩ ⟨y1, y2, y3, y4, y5, y6, y7, y8⟩ hk ⟨q1, q2, ⟨A, q3, q4⟩, q5, q6, q7, q8, q9⟩
    dsimp only at q1 q2 q3 q4 q5 q6 q7 q8 q9 ⊢
    subst q1; subst q2; subst q3; subst q4; subst q5
    left
    unfold x3r
    dsimp only
    rw [if_neg (by rw [ii_lt (by omega) (by omega) (by omega) (by omega)]; omega), if_neg (by rw [ii_lt (by omega) (by omega) (by omega) (by omega)]; omega)]
    suffices g : ∃ (o : (Int32 × Int32 × Int32 × Int32 × Int32 × Int32 × (Nat → Int32)) ⊕ (Int32 × Int32 × Int32 × Int32 × Int32 × (Nat → Int32))) (o' : (Int32 × Int32 × Int32 × Int32 × Int32 × Int32 × Int32 × (Nat → Int32)) ⊕ ((Int32 × Int32 × Int32 × Int32 × Int32 × (Nat → Int32)) ⊕ ((Int32 × (Nat → Int32)) ⊕ (Int32 × Int32 × Int32 × Int32 × Int32 × (Nat → Int32) × (Nat → Int32) × (Nat → Int32) × (Nat → Int32))))), _ = some o ∧ _ = some o' ∧ ∃ (x : Int32 × Int32 × Int32 × Int32 × Int32 × Int32 × (Nat → Int32)) (y : Int32 × Int32 × Int32 × Int32 × Int32 × Int32 × Int32 × (Nat → Int32)), o = .inl x ∧ o' = .inl y ∧ x.1 = ii (1 + ((k + 1 : Nat) : Int)) ∧ y.2.2.1 = ii (1 + ((k + 1 : Nat) : Int)) ∧ (∃ A : Int, x.2.1 = ii A ∧ y.1 = ii A) ∧ x.2.2.1 = y.2.1 ∧ L1 n C x.2.2.2.2.2.2 ∧ L2 n C x.2.2.2.2.2.2 (fun _ => False) ∧ RC n x.2.2.2.2.2.2 ∧ RG n x.2.2.2.2.2.2 y.2.2.2.2.2.2.2 by
      obtain ⟨o, o', g1, g2, x, y, rfl, rfl, g3⟩ := g
      exact ⟨x, y, g1, g2, g3⟩
    refine itr_sim (fun (m : Nat) (x : Int32 × Int32 × Int32 × Int32 × Int32 × Int32 × (Nat → Int32)) (y : Int32 × Int32 × Int32 × Int32 × Int32 × Int32 × Int32 × (Nat → Int32)) => x.1 = ii (1 + (m : Int)) ∧ y.2.2.1 = ii (1 + (m : Int)) ∧ (∃ A : Int, x.2.1 = ii A ∧ y.1 = ii A) ∧ x.2.2.1 = y.2.1 ∧ L1 n C x.2.2.2.2.2.2 ∧ L2 n C x.2.2.2.2.2.2 (fun _ => False) ∧ RC n x.2.2.2.2.2.2 ∧ RG n x.2.2.2.2.2.2 y.2.2.2.2.2.2.2) _ n ⟨rfl, rfl, ⟨A, rfl, rfl⟩, rfl, q6, q7, q8, q9⟩ (by omega) (by omega) ?_ ?_
    · rintro m ⟨u1, u2, u3, u4, u5, u6, u7⟩ ⟨t1, t2, t3, t4, t5, t6, t7, t8⟩ hm ⟨e1, e2, ⟨B, e3, e4⟩, e5, e6, e7, e8, e9⟩
      dsimp only at e1 e2 e3 e4 e5 e6 e7 e8 e9 ⊢
      subst e1; subst e2; subst e3; subst e4; subst e5
      left
      have hi : IN n (1 + (k : Int)) (1 + (m : Int)) := ⟨by omega, by omega, by omega, by omega⟩
      rw [if_neg (by rw [ii_lt (by omega) (by omega) (by omega) (by omega)]; omega), if_neg (show ¬ ii (n : Int) < ii (1 + (m : Int)) by rw [ii_lt (by omega) (by omega) (by omega) (by omega)]; omega)]
      rw [ii_7, ii_mul, ii_add, ck_in (by omega) (by omega) (by omega), ii_clamp (by omega) (by omega), ii_s1, ii_6, ii_mul, ii_add, ii_s1, ck_in (by omega) (by omega) (by omega), ii_clamp (by omega) (by omega)]
      by_cases zx : oc u7 (1 + (k : Int)) (1 + (m : Int)) = 0
      · rw [if_pos (show u7 ((1 + (k : Int)) * 7 + (1 + (m : Int))).toNat = 0 from zx), if_neg (show ¬ t8 (6 * (1 + (k : Int) - 1) + (1 + (m : Int)) - 1).toNat = 0 from (e9 _ _ hi).mp zx), ii_a1]
        exact ⟨_, _, rfl, rfl, congrArg ii (by omega), congrArg ii (by omega), ⟨B, rfl, rfl⟩, rfl, e6, e7, e8, e9⟩
      · obtain ⟨j, row, col, sd, r', c', s', O', gone', a, b, f1, f2, f3, f4⟩ := one_ring hC hM e6 e7 e8 e9 hi zx B
        have g0 : t8 (ix (1 + (k : Int)) (1 + (m : Int))) = 0 := Classical.byContradiction (fun q => zx ((e9 _ _ hi).mpr q))
        rw [if_neg (show ¬ u7 ((1 + (k : Int)) * 7 + (1 + (m : Int))).toNat = 0 from zx), if_pos (show t8 (6 * (1 + (k : Int) - 1) + (1 + (m : Int)) - 1).toNat = 0 from g0), a, b, Option.bind_some, Option.bind_some, ii_a1]
        dsimp only
        rw [ii_add]
        exact ⟨_, _, rfl, rfl, congrArg ii (by omega), congrArg ii (by omega), ⟨_, rfl, rfl⟩, rfl, f1, f2, f3, f4⟩
    · rintro ⟨u1, u2, u3, u4, u5, u6, u7⟩ ⟨t1, t2, t3, t4, t5, t6, t7, t8⟩ ⟨e1, e2, ⟨B, e3, e4⟩, e5, e6, e7, e8, e9⟩
      dsimp only at e1 e2 e3 e4 e5 e6 e7 e8 e9 ⊢
      subst e1; subst e2; subst e3; subst e4; subst e5
      rw [if_pos (by rw [ii_lt (by omega) (by omega) (by omega) (by omega)]; omega), if_pos (by rw [ii_lt (by omega) (by omega) (by omega) (by omega)]; omega), ii_a1]
      exact ⟨_, _, rfl, rfl, _, _, rfl, rfl, congrArg ii (by omega), congrArg ii (by omega), ⟨B, rfl, rfl⟩, rfl, e6, e7, e8, e9⟩
  · rintro ⟨x1, x2, x3, x4, x5, x6, x7⟩ ⟨y1, y2, y3, y4, y5, y6, y7, y8⟩ ⟨q1, q2, ⟨A, q3, q4⟩, q5, q6, q7, q8, q9⟩
    dsimp only at q1 q2 q3 q4 q5 q6 q7 q8 q9 ⊢
    subst q1; subst q2; subst q3; subst q4; subst q5
    unfold x3r
    dsimp only
    rw [if_pos (by rw [ii_lt (by omega) (by omega) (by omega) (by omega)]; omega), if_pos (by rw [ii_lt (by omega) (by omega) (by omega) (by omega)]; omega)]
    by_cases c : w = 0
    · rw [if_pos c]
      exact ⟨_, _, rfl, rfl, _, _, _, _, _, by rw [if_pos c]⟩
    · rw [if_neg c]
      exact ⟨_, _, rfl, rfl, _, _, _, _, _, by rw [if_neg c]⟩
