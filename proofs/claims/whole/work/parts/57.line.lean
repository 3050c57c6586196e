/-! what holds while walks close places -/
def DN (n : Int) (C : Int → Int → Int) (pa ln : Nat → Int32) (j : Int) : Prop := ∃ (i : Nat) (k' : Int), WK n C j i k' ∧ pa (j / 2).toNat = ii (k' / 2) ∧ ln (j / 2).toNat = ii ((i : Int) + 2) ∧ i ≤ 36
def L1 (n : Int) (C : Int → Int → Int) (O : Nat → Int32) : Prop := ∀ r c, IN n r c → oc O r c = 0 ∨ oc O r c = ii (mk C r c)
def L2 (n : Int) (C : Int → Int → Int) (O : Nat → Int32) (E : TR → Prop) : Prop := ∀ r c s, IN n r c → 0 ≤ s → s ≤ 3 → ¬ oc O r c = 0 → dr C r c s = true → IN n (nro r s) (nco c s) → ¬ oc O (nro r s) (nco c s) = 0 ∨ E (r, c, s)
def L3 (n : Int) (C : Int → Int → Int) (O pa ln : Nat → Int32) (E : Int → Prop) : Prop := ∀ j, 0 ≤ j → j < 4 * n → j % 2 = 0 → ¬ oc O (rm n j).1 (rm n j).2.1 = 0 ∨ DN n C pa ln j ∨ E j
def L4 (n : Int) (C : Int → Int → Int) (O : Nat → Int32) : Prop := ∀ r c, IN n r c → oc O r c = 0 → ∃ (j : Int) (i : Nat) (y : TR), 0 ≤ j ∧ j < 4 * n ∧ j % 2 = 0 ∧ PA n C i (rm n j) y ∧ y.1 = r ∧ y.2.1 = c
def clo (O : Nat → Int32) (x : TR) : Nat → Int32 := upd O (x.1 * 7 + x.2.1).toNat 0
theorem clo_o {O : Nat → Int32} {n : Int} (hn : n ≤ 6) {x : TR} (h : IN n x.1 x.2.1) {r c : Int} (h' : IN n r c) : oc (clo O x) r c = if r = x.1 ∧ c = x.2.1 then 0 else oc O r c := oc_u hn h h' 0
theorem clo_0 {O : Nat → Int32} {n : Int} (hn : n ≤ 6) {x : TR} (h : IN n x.1 x.2.1) {r c : Int} (h' : IN n r c) (z : oc O r c = 0) : oc (clo O x) r c = 0 := by
  rw [clo_o hn h h']; split
  · rfl
  · exact z
theorem clo_n {O : Nat → Int32} {n : Int} (hn : n ≤ 6) {x : TR} (h : IN n x.1 x.2.1) {r c : Int} (h' : IN n r c) (z : ¬ oc (clo O x) r c = 0) : ¬ (r = x.1 ∧ c = x.2.1) ∧ ¬ oc O r c = 0 := by
  rw [clo_o hn h h'] at z
  by_cases e : r = x.1 ∧ c = x.2.1
  · rw [if_pos e] at z; exact absurd rfl z
  · rw [if_neg e] at z; exact ⟨e, z⟩
theorem close1 {n : Int} {C : Int → Int → Int} {O : Nat → Int32} (hn : n ≤ 6) {x : TR} (hx : IN n x.1 x.2.1) (h : L1 n C O) : L1 n C (clo O x) := by
  intro r c hi
  rw [clo_o hn hx hi]
  split
  · exact Or.inl rfl
  · exact h r c hi
theorem close2 {n : Int} {C : Int → Int → Int} {O : Nat → Int32} {E : TR → Prop} (hC : CS n C) {x : TR} (v : VA n C x) (h : L2 n C O (fun t => t = x ∨ E t)) (hb : IN n (nro x.1 x.2.2) (nco x.2.1 x.2.2) → oc O (nro x.1 x.2.2) (nco x.2.1 x.2.2) = 0 ∨ E (nro x.1 x.2.2, nco x.2.1 x.2.2, opp x.2.2)) : L2 n C (clo O x) (fun t => t = nx C x ∨ E t) := by
  have hn := hC.n6
  intro r c s hi s0 s3 hne hd hb2
  obtain ⟨ns, hne2⟩ := clo_n hn v.1 hi hne
  rcases h r c s hi s0 s3 hne2 hd hb2 with a | a | a
  · by_cases e : nro r s = x.1 ∧ nco c s = x.2.1
    · right
      have o := opp_f s0 s3 r c
      have d2 := dr_adj C s0 s3 r c
      rw [hd, e.1, e.2] at d2
      have e1 := o.1
      have e2 := o.2.1
      rw [e.1] at e1
      rw [e.2] at e2
      rcases (ot_f hC v.1 v.2.1 v.2.2.1 v.2.2.2).2.2.2.2.1 (opp s) o.2.2.2.1 o.2.2.2.2.1 d2 with q | q
      · rw [← q, e1, e2, o.2.2.1] at hb
        rcases hb hi with z | z
        · exact absurd z hne2
        · exact Or.inr z
      · left
        show (r, c, s) = (nro x.1 (ot C x.1 x.2.1 x.2.2), nco x.2.1 (ot C x.1 x.2.1 x.2.2), opp (ot C x.1 x.2.1 x.2.2))
        rw [← q, e1, e2, o.2.2.1]
    · left
      rw [clo_o hn v.1 hb2, if_neg e]
      exact a
  · exact absurd (by rw [← a]; exact ⟨rfl, rfl⟩) ns
  · exact Or.inr (Or.inr a)
theorem close3 {n : Int} {C : Int → Int → Int} {O pa ln : Nat → Int32} {E : Int → Prop} (hC : CS n C) {x : TR} (v : VA n C x) (h : L3 n C O pa ln E) : L3 n C (clo O x) pa ln (fun j => E j ∨ rm n j = x ∨ rm n j = bk C x) := by
  have hn := hC.n6
  intro j j0 j4 j2
  have f := rm_f hC.n1 j0 j4
  have u := rm_va hC j0 j4 j2
  by_cases e : (rm n j).1 = x.1 ∧ (rm n j).2.1 = x.2.1
  · right; right; right
    have d := u.2.2.2
    rw [e.1, e.2] at d
    rcases (ot_f hC v.1 v.2.1 v.2.2.1 v.2.2.2).2.2.2.2.1 _ u.2.1 u.2.2.1 d with q | q
    · left
      exact Prod.ext e.1 (Prod.ext e.2 q)
    · right
      exact Prod.ext e.1 (Prod.ext e.2 q)
  · rcases h j j0 j4 j2 with a | a | a
    · left
      rw [clo_o hn v.1 f.1, if_neg e]; exact a
    · exact Or.inr (Or.inl a)
    · exact Or.inr (Or.inr (Or.inl a))
theorem close4 {n : Int} {C : Int → Int → Int} {O : Nat → Int32} (hC : CS n C) {x : TR} (v : VA n C x) {k : Int} {i : Nat} (k0 : 0 ≤ k) (k4 : k < 4 * n) (k2 : k % 2 = 0) (p : PA n C i (rm n k) x) (h : L4 n C O) : L4 n C (clo O x) := by
  have hn := hC.n6
  intro r c hi z
  by_cases e : r = x.1 ∧ c = x.2.1
  · exact ⟨k, i, x, k0, k4, k2, p, e.1.symm, e.2.symm⟩
  · rw [clo_o hn v.1 hi, if_neg e] at z
    exact h r c hi z
/-! how many places are open -/
def cnt (n : Nat) (O : Nat → Int32) : Nat := snn 36 (fun q => if q / 6 + 1 ≤ n ∧ q % 6 + 1 ≤ n ∧ ¬ O ((q / 6 + 1) * 7 + (q % 6 + 1)) = 0 then 1 else 0)
theorem cnt_36 (n : Nat) (O : Nat → Int32) : cnt n O ≤ 36 := by
  have := snn_le (n := 36) (f := fun q => if q / 6 + 1 ≤ n ∧ q % 6 + 1 ≤ n ∧ ¬ O ((q / 6 + 1) * 7 + (q % 6 + 1)) = 0 then 1 else 0) (B := 1) (fun i _ => by (try dsimp only); split <;> omega)
  unfold cnt
  omega
theorem snn_one {f g : Nat → Nat} : ∀ N q, q < N → g q + 1 = f q → (∀ i, i < N → i ≠ q → g i = f i) → snn N g + 1 = snn N f := by
  intro N
  induction N with
  | zero => intro q h; omega
  | succ N ih =>
    intro q hq e h
    rw [snn, snn]
    by_cases d : q = N
    · subst d
      rw [snn_congr (fun i hi => h i (by omega) (by omega))]
      omega
    · have := ih q (by omega) e (fun i hi ne => h i (by omega) ne)
      have := h N (by omega) (by omega)
      omega
theorem cnt_clo {n : Nat} {O : Nat → Int32} (hn : n ≤ 6) {x : TR} (h : IN n x.1 x.2.1) (z : ¬ oc O x.1 x.2.1 = 0) : cnt n (clo O x) + 1 = cnt n O := by
  obtain ⟨a1, a2, a3, a4⟩ := h
  unfold cnt
  have e1 : ((x.1 - 1) * 6 + (x.2.1 - 1)).toNat / 6 + 1 = x.1.toNat := by omega
  have e2 : ((x.1 - 1) * 6 + (x.2.1 - 1)).toNat % 6 + 1 = x.2.1.toNat := by omega
  refine snn_one 36 ((x.1 - 1) * 6 + (x.2.1 - 1)).toNat (by omega) ?_ (fun i hi ne => ?_)
  · rw [e1, e2]
    have ex : x.1.toNat * 7 + x.2.1.toNat = (x.1 * 7 + x.2.1).toNat := by omega
    rw [ex, if_neg (fun q => q.2.2 pk_us), if_pos ⟨by omega, by omega, z⟩]
  · have : clo O x ((i / 6 + 1) * 7 + (i % 6 + 1)) = O ((i / 6 + 1) * 7 + (i % 6 + 1)) := by
      unfold clo
      rw [pk_un (by omega)]
    rw [this]
theorem cnt_pos {n : Nat} {O : Nat → Int32} (hn : n ≤ 6) {x : TR} (h : IN n x.1 x.2.1) (z : ¬ oc O x.1 x.2.1 = 0) : 1 ≤ cnt n O := by
  have := cnt_clo hn h z
  omega
/-! the class follows a line -/
theorem x1_rimPassed {n r c : Int} (hn : n ≤ 6) (h1 : 1 ≤ n) (r0 : 0 ≤ r) (r7 : r ≤ 7) (c0 : 0 ≤ c) (c7 : c ≤ 7) : S_X1_rimPassed (ii n) (ii r) (ii c) = some (ii (rk n r c)) := by
  unfold S_X1_rimPassed rk
  rw [show (0 : Int32) = ii 0 from rfl, show (1 : Int32) = ii 1 from rfl, ii_2, ii_3]
  simp (disch := omega) only [ii_mul, ii_add, ii_sub, ii_le]
  by_cases a : r < 1
  · rw [if_neg (by omega), if_pos a]; exact congrArg some (congrArg ii (by omega))
  · rw [if_pos (by omega), if_neg a]
    by_cases b : n < c
    · rw [if_neg (by omega), if_pos b]; exact congrArg some (congrArg ii (by omega))
    · rw [if_pos (by omega), if_neg b]
      by_cases d : n < r
      · rw [if_neg (by omega), if_pos d]; exact congrArg some (congrArg ii (by omega))
      · rw [if_pos (by omega), if_neg d]; exact congrArg some (congrArg ii (by omega))
theorem x1_join {a b : Int} {v : Int32} {pa ln : Nat → Int32} (a0 : 0 ≤ a) (a1 : a < 12) (b0 : 0 ≤ b) (b1 : b < 12) : S_X1_join (ii a) (ii b) v pa ln = some (upd (upd pa a.toNat (ii b)) b.toNat (ii a), upd (upd ln a.toNat v) b.toNat v) := by
  unfold S_X1_join
  simp (disch := omega) only [ck_in, ii_clamp]
theorem nx_b {n : Int} {C : Int → Int → Int} (hC : CS n C) {x : TR} (v : VA n C x) : 0 ≤ (nx C x).1 ∧ (nx C x).1 ≤ 7 ∧ 0 ≤ (nx C x).2.1 ∧ (nx C x).2.1 ≤ 7 := by
  have hn := hC.n6
  obtain ⟨a1, a2, a3, a4⟩ := v.1
  show 0 ≤ nro x.1 (ot C x.1 x.2.1 x.2.2) ∧ nro x.1 (ot C x.1 x.2.1 x.2.2) ≤ 7 ∧ 0 ≤ nco x.2.1 (ot C x.1 x.2.1 x.2.2) ∧ nco x.2.1 (ot C x.1 x.2.1 x.2.2) ≤ 7
  unfold nro nco
  repeat' split
  all_goals omega
def flw (w N : Int32) (pa ln em : Nat → Int32) : (Int32 × Int32 × Int32 × Int32 × Int32 × (Nat → Int32)) → Option ((Int32 × Int32 × Int32 × Int32 × Int32 × (Nat → Int32)) ⊕ (Int32 × Int32 × Int32 × (Nat → Int32) × (Nat → Int32) × (Nat → Int32))) := fun (x1 : Int32 × Int32 × Int32 × Int32 × Int32 × (Nat → Int32)) => jn (if (36 : Int32) ≤ x1.2.1 then some (.inl (x1.1, x1.2.2.1, x1.2.2.2.1, x1.2.2.2.2.1, x1.2.2.2.2.2)) else (S_X1_isInside N x1.2.2.1 x1.2.2.2.1).bind (fun (y47 : Int32) => if y47 = 0 then some (.inl (x1.1, x1.2.2.1, x1.2.2.2.1, x1.2.2.2.2.1, x1.2.2.2.2.2)) else (S_X1_goOn x1.2.2.1 x1.2.2.2.1 x1.2.2.2.2.1 x1.2.2.2.2.2).bind (fun (y54 : Int32 × Int32 × Int32 × (Nat → Int32)) => some (.inr (.inl (x1.1 + (1 : Int32), x1.2.1 + (1 : Int32), y54.1, y54.2.1, y54.2.2.1, y54.2.2.2)))))) (fun (x2 : Int32 × Int32 × Int32 × Int32 × (Nat → Int32)) => (S_X1_rimPassed N x2.2.1 x2.2.2.1).bind (fun (y71 : Int32) => ck (inb y71 24) (if (em y71.toNatClampNeg) < 0 then some (.inr (x2.2.1, x2.2.2.1, x2.2.2.2.1, pa, ln, x2.2.2.2.2)) else (S_X1_join w (em y71.toNatClampNeg) x2.1 pa ln).bind (fun (y88 : (Nat → Int32) × (Nat → Int32)) => some (.inr (x2.2.1, x2.2.2.1, x2.2.2.2.1, y88.1, y88.2, x2.2.2.2.2))))))
theorem flw_in {n : Nat} {C : Int → Int → Int} (hC : CS n C) {x : TR} (v : VA n C x) {O pa ln em : Nat → Int32} {w : Int32} (h1 : oc O x.1 x.2.1 = ii (mk C x.1 x.2.1)) {i : Nat} (hi : i < 36) : flw w (ii n) pa ln em (ii (1 + (i : Int)), ii (i : Int), ii x.1, ii x.2.1, ii x.2.2, O) = some (.inl (ii (1 + ((i + 1 : Nat) : Int)), ii ((i + 1 : Nat) : Int), ii (nx C x).1, ii (nx C x).2.1, ii (nx C x).2.2, clo O x)) := by
  have hn := hC.n6
  have hn1 := hC.n1
  obtain ⟨a1, a2, a3, a4⟩ := v.1
  unfold flw
  dsimp only
  rw [if_neg (by rw [ii_36, ii_le (by omega) (by omega) (by omega) (by omega)]; omega), (x1_isInside hn (by omega) (by omega) (by omega) (by omega) hn1).1 v.1, Option.bind_some, if_neg n10, x1_goOn hC v h1, Option.bind_some, jn_r, ii_a1, ii_a1]
  rw [show (1 + (i : Int) + 1) = 1 + ((i + 1 : Nat) : Int) by omega, show ((i : Int) + 1) = ((i + 1 : Nat) : Int) by omega]
  rfl
theorem flw_out {n : Nat} {C : Int → Int → Int} (hC : CS n C) {x : TR} (v : VA n C x) (ho : ¬ IN n (nx C x).1 (nx C x).2.1) {O pa ln em : Nat → Int32} {k k' : Int} (k0 : 0 ≤ k) (k4 : k < 4 * n) (q0 : 0 ≤ k') (q4 : k' < 4 * n) (q2 : k' % 2 = 0) (e : rk n (nx C x).1 (nx C x).2.1 = k') (hem : ∀ k : Nat, k < 4 * n → em k = if k % 2 = 0 then ii ((k / 2 : Nat) : Int) else -4) {i : Nat} (hi : i ≤ 36) : flw (ii (k / 2)) (ii n) pa ln em (ii (1 + (i : Int)), ii (i : Int), ii (nx C x).1, ii (nx C x).2.1, ii (nx C x).2.2, O) = some (.inr (ii (nx C x).1, ii (nx C x).2.1, ii (nx C x).2.2, upd (upd pa (k / 2).toNat (ii (k' / 2))) (k' / 2).toNat (ii (k / 2)), upd (upd ln (k / 2).toNat (ii (1 + (i : Int)))) (k' / 2).toNat (ii (1 + (i : Int))), O)) := by
  have hn := hC.n6
  have hn1 := hC.n1
  obtain ⟨b1, b2, b3, b4⟩ := nx_b hC v
  unfold flw
  dsimp only
  have st : ∀ {ρ : Type} (X : ρ), (if (36 : Int32) ≤ ii (i : Int) then some X else (S_X1_isInside (ii n) (ii (nx C x).1) (ii (nx C x).2.1)).bind (fun (y47 : Int32) => if y47 = 0 then some X else none)) = some X := by
    intro ρ X
    split
    · rfl
    · rw [(x1_isInside hn b1 b2 b3 b4 hn1).2 ho, Option.bind_some, if_pos rfl]
  have em2 : em k'.toNat = ii (k' / 2) := by
    rw [hem k'.toNat (by omega), if_pos (by omega)]; exact congrArg ii (by omega)
  have rp := x1_rimPassed hn hn1 b1 b2 b3 b4
  rw [e] at rp
  by_cases c : (36 : Int32) ≤ ii (i : Int)
  · rw [if_pos c, jn_l]
    dsimp only
    rw [rp, Option.bind_some, ck_in (by omega) (by omega) (by omega), ii_clamp (by omega) (by omega), em2, if_neg (by rw [ii_0lt (by omega) (by omega)]; omega), x1_join (by omega) (by omega) (by omega) (by omega), Option.bind_some]
  · rw [if_neg c, (x1_isInside hn b1 b2 b3 b4 hn1).2 ho, Option.bind_some, if_pos rfl, jn_l]
    dsimp only
    rw [rp, Option.bind_some, ck_in (by omega) (by omega) (by omega), ii_clamp (by omega) (by omega), em2, if_neg (by rw [ii_0lt (by omega) (by omega)]; omega), x1_join (by omega) (by omega) (by omega) (by omega), Option.bind_some]
theorem line_walk {n : Nat} {C : Int → Int → Int} (hC : CS n C) {pa ln em : Nat → Int32} {k : Int} (k0 : 0 ≤ k) (k4 : k < 4 * n) (k2 : k % 2 = 0) (hem : ∀ k : Nat, k < 4 * n → em k = if k % 2 = 0 then ii ((k / 2 : Nat) : Int) else -4) :
    ∀ (d i : Nat) (x : TR) (O : Nat → Int32) (F : Nat), cnt n O ≤ d → cnt n O + i ≤ 36 → d + 1 < F → PA n C i (rm n k) x → VA n C x → L1 n C O → ¬ oc O x.1 x.2.1 = 0 → L2 n C O (fun t => t = x ∨ False) → (x = rm n k ∨ (oc O (rm n k).1 (rm n k).2.1 = 0 ∧ IN n (nro x.1 x.2.2) (nco x.2.1 x.2.2) ∧ oc O (nro x.1 x.2.2) (nco x.2.1 x.2.2) = 0)) → L3 n C O pa ln (fun j => j = k) → L4 n C O →
    ∃ (row col sd : Int32) (O' : Nat → Int32) (i' : Nat) (k' : Int), itr (flw (ii (k / 2)) (ii n) pa ln em) F (ii (1 + (i : Int)), ii (i : Int), ii x.1, ii x.2.1, ii x.2.2, O) = some (row, col, sd, upd (upd pa (k / 2).toNat (ii (k' / 2))) (k' / 2).toNat (ii (k / 2)), upd (upd ln (k / 2).toNat (ii ((i' : Int) + 2))) (k' / 2).toNat (ii ((i' : Int) + 2)), O') ∧ (WK n C k i' k' ∧ i' ≤ 36) ∧ L1 n C O' ∧ L2 n C O' (fun _ => False) ∧ L3 n C O' pa ln (fun j => j = k ∨ j = k') ∧ L4 n C O' ∧ oc O' (rm n k).1 (rm n k).2.1 = 0 ∧ ∀ r c, IN n r c → oc O r c = 0 → oc O' r c = 0 := by
  have hn := hC.n6
  have hn1 := hC.n1
  have fk := rm_f hn1 k0 k4
  intro d
  induction d with
  | zero =>
    intro i x O F hc _ _ _ v _ z
    have := cnt_pos (by omega) v.1 z
    omega
  | succ d ih =>
    intro i x O F hc hci hF p v l1 z l2 hb l3 l4
    obtain ⟨F', rfl⟩ : ∃ F', F = F' + 1 := ⟨F - 1, by omega⟩
    have cc := cnt_clo (by omega) v.1 z
    have hmk : oc O x.1 x.2.1 = ii (mk C x.1 x.2.1) := by
      rcases l1 _ _ v.1 with q | q
      · exact absurd q z
      · exact q
    obtain ⟨o1, o2, o3, o4, o5, o6⟩ := ot_f hC v.1 v.2.1 v.2.2.1 v.2.2.2
    rw [itr_succ (flw_in hC v hmk (by omega))]
    have m1 := close1 hn v.1 l1
    have m2 : L2 n C (clo O x) (fun t => t = nx C x ∨ False) := close2 hC v l2 (fun hi => by
      rcases hb with q | ⟨_, _, q⟩
      · rw [q] at hi; exact absurd hi fk.2.2.2.1
      · exact Or.inl q)
    have m3 := close3 hC v l3
    have m4 := close4 hC v k0 k4 k2 p l4
    have zk : oc (clo O x) (rm n k).1 (rm n k).2.1 = 0 := by
      rcases hb with q | ⟨q, _, _⟩
      · rw [clo_o hn v.1 fk.1, if_pos (by rw [q]; exact ⟨rfl, rfl⟩)]
      · exact clo_0 hn v.1 fk.1 q
    have xk : ∀ j : Int, 0 ≤ j → j < 4 * n → rm n j = x → j = k := by
      intro j j0 j4 e
      rcases hb with q | ⟨_, q, _⟩
      · exact rm_inj hn1 k0 k4 j0 j4 (by rw [e, q])
      · have f := (rm_f hn1 j0 j4).2.2.2.1
        rw [e] at f
        exact absurd q f
    by_cases c : IN n (nx C x).1 (nx C x).2.1
    · have op := opp_f o1 o2 x.1 x.2.1
      have z2 : ¬ oc (clo O x) (nx C x).1 (nx C x).2.1 = 0 := by
        rw [clo_o hn v.1 c, if_neg (show ¬ ((nx C x).1 = x.1 ∧ (nx C x).2.1 = x.2.1) from op.2.2.2.2.2)]
        rcases l2 x.1 x.2.1 (ot C x.1 x.2.1 x.2.2) v.1 o1 o2 z o4 c with q | q | q
        · exact q
        · exact absurd (congrArg (fun t : TR => t.2.2) q) o3
        · exact q.elim
      have zb : oc (clo O x) (nro (nx C x).1 (nx C x).2.2) (nco (nx C x).2.1 (nx C x).2.2) = 0 ∧ IN n (nro (nx C x).1 (nx C x).2.2) (nco (nx C x).2.1 (nx C x).2.2) := by
        have e1 : nro (nx C x).1 (nx C x).2.2 = x.1 := op.1
        have e2 : nco (nx C x).2.1 (nx C x).2.2 = x.2.1 := op.2.1
        rw [e1, e2]
        exact ⟨by rw [clo_o hn v.1 v.1, if_pos ⟨rfl, rfl⟩], v.1⟩
      obtain ⟨row, col, sd, O', i', k', r1, r2, r3, r4, r5, r6, r7, r8⟩ := ih (i + 1) (nx C x) (clo O x) F' (by omega) (by omega) (by omega) (p.snoc c) (v.nx hC c) m1 z2 m2 (Or.inr ⟨zk, zb.2, zb.1⟩) (fun j j0 j4 j2 => by
        rcases m3 j j0 j4 j2 with q | q | q | q | q
        · exact Or.inl q
        · exact Or.inr (Or.inl q)
        · exact Or.inr (Or.inr q)
        · exact Or.inr (Or.inr (xk j j0 j4 q))
        · have f := (rm_f hn1 j0 j4).2.2.2.1
          rw [q] at f
          exact absurd c f) m4
      exact ⟨row, col, sd, O', i', k', r1, r2, r3, r4, r5, r6, r7, fun r c hi q => r8 r c hi (clo_0 hn v.1 hi q)⟩
    · obtain ⟨F2, rfl⟩ : ∃ F2, F' = F2 + 1 := ⟨F' - 1, by omega⟩
      obtain ⟨g1, g2, g3⟩ := rm_rk v.1 o1 o2 c
      have ek : bk C x = rm n (rk n (nx C x).1 (nx C x).2.1) := g3.symm
      have par : rk n (nx C x).1 (nx C x).2.1 % 2 = 0 := by
        have dd := rm_dr hC g1 g2
        rw [g3] at dd
        have : decide (rk n (nro x.1 (ot C x.1 x.2.1 x.2.2)) (nco x.2.1 (ot C x.1 x.2.1 x.2.2)) % 2 = 0) = true := by rw [← dd]; exact o4
        exact of_decide_eq_true this
      obtain ⟨K, hK⟩ : ∃ K, K = rk n (nx C x).1 (nx C x).2.1 := ⟨_, rfl⟩
      have g1' : 0 ≤ K := by rw [hK]; exact g1
      have g2' : K < 4 * n := by rw [hK]; exact g2
      rw [← hK] at ek par
      rw [itr_end (flw_out hC v c k0 k4 g1' g2' par hK.symm hem (by omega))]
      refine ⟨ii (nx C x).1, ii (nx C x).2.1, ii (nx C x).2.2, clo O x, i, K, ?_, ⟨⟨g1', g2', par, x, p, ek⟩, by omega⟩, m1, ?_, ?_, m4, zk, fun r c hi q => clo_0 hn v.1 hi q⟩
      · rw [show (1 + ((i + 1 : Nat) : Int)) = (i : Int) + 2 by omega]
      · intro r c' s hi s0 s3 hne hd hb2
        rcases m2 r c' s hi s0 s3 hne hd hb2 with q | q | q
        · exact Or.inl q
        · exfalso
          rw [← q] at c
          exact c hi
        · exact q.elim
      · intro j j0 j4 j2
        rcases m3 j j0 j4 j2 with q | q | q | q | q
        · exact Or.inl q
        · exact Or.inr (Or.inl q)
        · exact Or.inr (Or.inr (Or.inl q))
        · exact Or.inr (Or.inr (Or.inl (xk j j0 j4 q)))
        · exact Or.inr (Or.inr (Or.inr (rm_inj hn1 g1' g2' j0 j4 (by rw [q, ek]))))
