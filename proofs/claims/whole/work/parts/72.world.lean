/-! the law's world: seventy places; what each holds is told by a value -/
abbrev cv : Type := (Nat → Int32) × (Nat → Int32) × (Nat → Int64)
abbrev kA : Type := (Nat → Nat) × (Nat → Nat → Option Nat)
def oI (l : List Int32) : cv := (fun j => l.getD j 0, fun _ => 0, fun _ => 0)
def oF (f : Nat → Int32) : cv := (fun _ => 0, f, fun _ => 0)
def oJ (f : Nat → Int64) : cv := (fun _ => 0, fun _ => 0, f)
def cel0 (G : kG) (a : kA) (v : cv) : List va_E := [.inr (5, [.ref (a.1 1), .ref (a.1 5), .ref (a.1 7), .ref (a.1 9), .ref (a.1 11), .ref (a.1 25), .ref (a.1 30)]), .inr (4, [.ref (a.1 2), .int (v.1 0), .ref (a.1 3), .int (v.1 1), .int (v.1 2), .int (v.1 3)]), .inl (G.2 0, 200, .inl v.2.1), .inr (3, [.int (v.1 0), .ref (a.1 4)]), .inl (G.2 1, 49, .inl v.2.1), .inr (3, [.int (v.1 0), .ref (a.1 6)]), .inl (G.2 1, 49, .inl v.2.1), .inr (3, [.int (v.1 0), .ref (a.1 8)]), .inl (G.2 1, 49, .inl v.2.1), .inr (3, [.int (v.1 0), .ref (a.1 10)])]
def cel1 (G : kG) (a : kA) (v : cv) : List va_E := [.inl (G.2 1, 49, .inl v.2.1), .inr (2, [.ref (a.1 12), .int (v.1 0), .int (v.1 1)]), .inl (G.2 5, 6, .inr (.inr (.inr (.inr (a.2 0))))), .inr (3, [.int (v.1 0), .ref (a.1 14)]), .inl (G.2 1, 49, .inl v.2.1), .inr (3, [.int (v.1 0), .ref (a.1 16)]), .inl (G.2 1, 49, .inl v.2.1), .inr (3, [.int (v.1 0), .ref (a.1 18)]), .inl (G.2 1, 49, .inl v.2.1), .inr (3, [.int (v.1 0), .ref (a.1 20)])]
def cel2 (G : kG) (a : kA) (v : cv) : List va_E := [.inl (G.2 1, 49, .inl v.2.1), .inr (3, [.int (v.1 0), .ref (a.1 22)]), .inl (G.2 1, 49, .inl v.2.1), .inr (3, [.int (v.1 0), .ref (a.1 24)]), .inl (G.2 1, 49, .inl v.2.1), .inr (1, [.ref (a.1 26), .ref (a.1 27), .int (v.1 0), .int (v.1 1), .int (v.1 2), .int (v.1 3), .ref (a.1 28), .ref (a.1 29), .int (v.1 4), .int (v.1 5), .int (v.1 6)]), .inl (G.2 1, 12, .inl v.2.1), .inl (G.2 1, 12, .inl v.2.1), .inl (G.2 1, 49, .inl v.2.1), .inl (G.2 1, 24, .inl v.2.1)]
def cel3 (G : kG) (a : kA) (v : cv) : List va_E := [.inl (G.2 4, 6, .inr (.inr (.inr (.inr (a.2 1))))), .inr (0, [.int (v.1 0), .int (v.1 1), .ref (a.1 32), .int (v.1 2), .ref (a.1 33), .ref (a.1 34), .int (v.1 3)]), .inl (G.2 1, 64, .inl v.2.1), .inl (G.2 2, 42, .inr (.inl v.2.2)), .inl (G.2 1, 42, .inl v.2.1), .inr (0, [.int (v.1 0), .int (v.1 1), .ref (a.1 36), .int (v.1 2), .ref (a.1 37), .ref (a.1 38), .int (v.1 3)]), .inl (G.2 1, 64, .inl v.2.1), .inl (G.2 2, 42, .inr (.inl v.2.2)), .inl (G.2 1, 42, .inl v.2.1), .inr (0, [.int (v.1 0), .int (v.1 1), .ref (a.1 40), .int (v.1 2), .ref (a.1 41), .ref (a.1 42), .int (v.1 3)])]
def cel4 (G : kG) (a : kA) (v : cv) : List va_E := [.inl (G.2 1, 64, .inl v.2.1), .inl (G.2 2, 42, .inr (.inl v.2.2)), .inl (G.2 1, 42, .inl v.2.1), .inr (0, [.int (v.1 0), .int (v.1 1), .ref (a.1 44), .int (v.1 2), .ref (a.1 45), .ref (a.1 46), .int (v.1 3)]), .inl (G.2 1, 64, .inl v.2.1), .inl (G.2 2, 42, .inr (.inl v.2.2)), .inl (G.2 1, 42, .inl v.2.1), .inr (0, [.int (v.1 0), .int (v.1 1), .ref (a.1 48), .int (v.1 2), .ref (a.1 49), .ref (a.1 50), .int (v.1 3)]), .inl (G.2 1, 64, .inl v.2.1), .inl (G.2 2, 42, .inr (.inl v.2.2))]
def cel5 (G : kG) (a : kA) (v : cv) : List va_E := [.inl (G.2 1, 42, .inl v.2.1), .inr (0, [.int (v.1 0), .int (v.1 1), .ref (a.1 52), .int (v.1 2), .ref (a.1 53), .ref (a.1 54), .int (v.1 3)]), .inl (G.2 1, 64, .inl v.2.1), .inl (G.2 2, 42, .inr (.inl v.2.2)), .inl (G.2 1, 42, .inl v.2.1), .inr (6, [.int (v.1 0), .ref (a.1 56), .int (v.1 1), .ref (a.1 57), .int (v.1 2), .ref (a.1 58), .ref (a.1 59), .int (v.1 3), .int (v.1 4), .ref (a.1 60), .ref (a.1 61), .ref (a.1 62), .ref (a.1 63), .ref (a.1 64), .ref (a.1 65), .ref (a.1 66), .int (v.1 5), .int (v.1 6), .int (v.1 7), .int (v.1 8), .ref (a.1 67), .ref (a.1 68), .ref (a.1 69)]), .inl (G.2 1, 200, .inl v.2.1), .inl (G.2 1, 36, .inl v.2.1), .inl (G.2 1, 36, .inl v.2.1), .inl (G.2 1, 222, .inl v.2.1)]
def cel6 (G : kG) (a : kA) (v : cv) : List va_E := [.inl (G.2 1, 36, .inl v.2.1), .inl (G.2 1, 36, .inl v.2.1), .inl (G.2 1, 49, .inl v.2.1), .inl (G.2 1, 12, .inl v.2.1), .inl (G.2 1, 12, .inl v.2.1), .inl (G.2 1, 12, .inl v.2.1), .inl (G.2 3, 36, .inl v.2.1), .inl (G.2 1, 448, .inl v.2.1), .inl (G.2 2, 429, .inr (.inl v.2.2)), .inl (G.2 1, 429, .inl v.2.1)]
def cel (G : kG) (a : kA) (i : Nat) (v : cv) : va_E := (match i / 10 with | 0 => cel0 G a v | 1 => cel1 G a v | 2 => cel2 G a v | 3 => cel3 G a v | 4 => cel4 G a v | 5 => cel5 G a v | _ => cel6 G a v).getD (i % 10) (.inr (0, []))
theorem cel_p {G : kG} {a : kA} {k : Nat} {v : cv} (hk : k < 6) : cel G a (13 + 2 * k) v = .inr (3, [.int (v.1 0), .ref (a.1 (14 + 2 * k))]) := by
  rcases (show k = 0 ∨ k = 1 ∨ k = 2 ∨ k = 3 ∨ k = 4 ∨ k = 5 by omega) with rfl | rfl | rfl | rfl | rfl | rfl <;> rfl
theorem cel_pc {G : kG} {a : kA} {k : Nat} {v : cv} (hk : k < 6) : cel G a (14 + 2 * k) v = .inl (G.2 1, 49, .inl v.2.1) := by
  rcases (show k = 0 ∨ k = 1 ∨ k = 2 ∨ k = 3 ∨ k = 4 ∨ k = 5 by omega) with rfl | rfl | rfl | rfl | rfl | rfl <;> rfl
theorem cel_z {G : kG} {a : kA} {k : Nat} {v : cv} (hk : k < 6) : cel G a (31 + 4 * k) v = .inr (0, [.int (v.1 0), .int (v.1 1), .ref (a.1 (32 + 4 * k)), .int (v.1 2), .ref (a.1 (33 + 4 * k)), .ref (a.1 (34 + 4 * k)), .int (v.1 3)]) := by
  rcases (show k = 0 ∨ k = 1 ∨ k = 2 ∨ k = 3 ∨ k = 4 ∨ k = 5 by omega) with rfl | rfl | rfl | rfl | rfl | rfl <;> rfl
theorem cel_ze {G : kG} {a : kA} {k : Nat} {v : cv} (hk : k < 6) : cel G a (32 + 4 * k) v = .inl (G.2 1, 64, .inl v.2.1) := by
  rcases (show k = 0 ∨ k = 1 ∨ k = 2 ∨ k = 3 ∨ k = 4 ∨ k = 5 by omega) with rfl | rfl | rfl | rfl | rfl | rfl <;> rfl
theorem cel_zc {G : kG} {a : kA} {k : Nat} {v : cv} (hk : k < 6) : cel G a (33 + 4 * k) v = .inl (G.2 2, 42, .inr (.inl v.2.2)) := by
  rcases (show k = 0 ∨ k = 1 ∨ k = 2 ∨ k = 3 ∨ k = 4 ∨ k = 5 by omega) with rfl | rfl | rfl | rfl | rfl | rfl <;> rfl
theorem cel_zt {G : kG} {a : kA} {k : Nat} {v : cv} (hk : k < 6) : cel G a (34 + 4 * k) v = .inl (G.2 1, 42, .inl v.2.1) := by
  rcases (show k = 0 ∨ k = 1 ∨ k = 2 ∨ k = 3 ∨ k = 4 ∨ k = 5 by omega) with rfl | rfl | rfl | rfl | rfl | rfl <;> rfl
def PW (G : kG) (a : kA) (σ : Nat → cv) (H : Heap) : Prop := ∀ i, i < 70 → va_at G.1 vwCl (a.1 i, cel G a i (σ i)) H
def DW (A : Nat → Prop) (a : kA) : Prop := (∀ i j, i < 70 → j < 70 → a.1 i = a.1 j → i = j) ∧ ∀ i, i < 70 → A (a.1 i)
def AQw (a : kA) : Prop := (∀ k, k < 6 → a.2 0 k = some (a.1 (13 + 2 * k))) ∧ ∀ k, k < 6 → a.2 1 k = some (a.1 (31 + 4 * k))
theorem wl_at {is : List Nat} {f : Nat → Nat × va_E} {wc : va_W} (h : is.map f = wc) {k : Nat} {q : Nat × va_E} (hk : wc[k]? = some q) : ∃ i, is[k]? = some i ∧ q = f i := by
  subst h
  rw [List.getElem?_map] at hk
  cases hi : is[k]? with
  | none => rw [hi] at hk; cases hk
  | some i => rw [hi] at hk; exact ⟨i, rfl, (Option.some.inj hk).symm⟩
theorem PW.sub {G : kG} {a : kA} {σ : Nat → cv} {H : Heap} {wc : va_W} (hP : PW G a σ H) (is : List Nat) (hi : ∀ i ∈ is, i < 70) (h : is.map (fun i => (a.1 i, cel G a i (σ i))) = wc) : va_P G.1 vwCl wc H := by
  intro k q hk
  obtain ⟨i, h1, rfl⟩ := wl_at h hk
  exact hP i (hi i (List.mem_of_getElem? h1))
theorem DW.sub {A : Nat → Prop} {a : kA} {wc : va_W} {f : Nat → va_E} (hD : DW A a) (is : List Nat) (hi : ∀ i ∈ is, i < 70) (hn : va_nd is = true) (h : is.map (fun i => (a.1 i, f i)) = wc) : va_D A wc := by
  refine ⟨fun x y p q hx hy e => ?_, fun k q hk => ?_⟩
  · obtain ⟨i, h1, rfl⟩ := wl_at h hx
    obtain ⟨j, h2, rfl⟩ := wl_at h hy
    have hij := hD.1 i j (hi i (List.mem_of_getElem? h1)) (hi j (List.mem_of_getElem? h2)) e
    subst hij
    exact va_nd_inj is hn x y i h1 h2
  · obtain ⟨i, h1, rfl⟩ := wl_at h hk
    exact hD.2 i (hi i (List.mem_of_getElem? h1))
theorem DW.free {A0 : Nat → Prop} {a : kA} {wc : va_W} {f : Nat → va_E} {H0 H : Heap} {locs : List Loc} (hD : DW A0 a) (hS : va_S A0 H0 H locs) (hA : ∀ q, H0.size ≤ q → A0 q) (is : List Nat) (hi : ∀ i ∈ is, i < 70) (h : is.map (fun i => (a.1 i, f i)) = wc) : ∀ q, va_A wc H.size q → A0 q := by
  intro q hq
  rcases hq with ⟨k, e, hk⟩ | hq
  · obtain ⟨i, h1, h2⟩ := wl_at h hk
    have : q = a.1 i := congrArg Prod.fst h2
    rw [this]
    exact hD.2 i (hi i (List.mem_of_getElem? h1))
  · exact hA q (Nat.le_trans hS.1 hq)
theorem PW.over {G : kG} {A0 : Nat → Prop} {a : kA} {σ σ' : Nat → cv} {wc w1 : va_W} {H H1 : Heap} (hP : PW G a σ H) (hD : DW A0 a) (is : List Nat) (hi : ∀ i ∈ is, i < 70) (h : is.map (fun i => (a.1 i, cel G a i (σ i))) = wc) (h' : is.map (fun i => (a.1 i, cel G a i (σ' i))) = w1)
    (hn : ∀ i, i ∉ is → σ' i = σ i) (hk : ∀ q : Nat, q < H.size → ¬ va_A wc H.size q → H1[q]? = H[q]?) (hP1 : va_P G.1 vwCl w1 H1) : PW G a σ' H1 := by
  intro i hi70
  by_cases hm : i ∈ is
  · obtain ⟨k, hk1⟩ := List.getElem?_of_mem hm
    refine hP1 k _ ?_
    rw [← h', List.getElem?_map, hk1]
    rfl
  · rw [hn i hm]
    have hv := hP i hi70
    refine hv.kept (hk _ hv.lt ?_)
    rintro (⟨k, e, hq⟩ | hq)
    · obtain ⟨j, h1, h2⟩ := wl_at h hq
      have e1 : a.1 i = a.1 j := congrArg Prod.fst h2
      have := hD.1 i j hi70 (hi j (List.mem_of_getElem? h1)) e1
      subst this
      exact hm (List.mem_of_getElem? h1)
    · exact absurd hv.lt (Nat.not_lt.mpr hq)
def up (σ : Nat → cv) (i : Nat) (v : cv) : Nat → cv := fun j => if j = i then v else σ j
theorem up_s {σ : Nat → cv} {i : Nat} {v : cv} : up σ i v i = v := if_pos rfl
theorem up_n {σ : Nat → cv} {i j : Nat} {v : cv} (h : j ≠ i) : up σ i v j = σ j := if_neg h
/-! what holds between two calls -/
def IP (σ : Nat → cv) : Prop := ∃ (pS : Nat → Int32) (pC : Nat → Nat → Int32), (∀ j, j < 6 → (σ (13 + 2 * j)).1 0 = pS j ∧ (σ (14 + 2 * j)).2.1 = pC j) ∧ RP ((σ 11).1 0) ((σ 11).1 1) pS pC ((σ 55).1 3) (σ 59).2.1
def IZ (σ : Nat → cv) : Prop := ∀ k, k < 6 → RZ (k + 1) ((σ (31 + 4 * k)).1 0) ((σ (31 + 4 * k)).1 1) ((σ (31 + 4 * k)).1 2) (σ (32 + 4 * k)).2.1 ∧ RW (k + 1) ((σ (31 + 4 * k)).1 3) (σ (33 + 4 * k)).2.2 (σ (34 + 4 * k)).2.1
def IV (σ : Nat → cv) : Prop := ((σ 55).1 0 = (σ 1).1 0 ∧ (σ 55).1 1 = (σ 5).1 0 ∧ (σ 55).1 2 = (σ 7).1 0) ∧ RX ((σ 1).1 0) (σ 2).2.1 (σ 56).2.1 ∧ Z7 (σ 4).2.1 ∧ RT ((σ 5).1 0) (σ 6).2.1 (σ 57).2.1 ∧ RO ((σ 7).1 0) (σ 8).2.1 (σ 58).2.1 ∧ Z7 (σ 10).2.1 ∧ IP σ ∧ IZ σ
/-! indices -/
theorem pz_1 (p1 : Int32) : ∃ k, k < 6 ∧ (inb (p1 - 1) 6 = true → (p1 - 1).toNatClampNeg = k) ∧ ∀ m : Nat, 1 ≤ m → m ≤ 6 → p1 = ii m → k + 1 = m := by
  by_cases h : inb (p1 - 1) 6 = true
  · have h0 := h
    unfold inb at h0
    simp only [Bool.and_eq_true, decide_eq_true_eq] at h0
    refine ⟨_, h0.2, fun _ => rfl, fun m h1 h2 e => ?_⟩
    rw [e, ii_1, ii_sub, ii_clamp (by omega) (by omega)]
    omega
  · refine ⟨0, by omega, fun h1 => absurd h1 h, fun m h1 h2 e => ?_⟩
    exact absurd (by rw [e, ii_1, ii_sub]; exact inb_t (by omega) (by omega) (by omega)) h
theorem rt_k {tS : Int32} {tC tn : Nat → Int32} (h : RT tS tC tn) : ∃ k, k < 6 ∧ (tS - 1).toNatClampNeg = k ∧ tS = ii ((k + 1 : Nat) : Int) := by
  obtain ⟨N, C, rfl, hC, -⟩ := h
  have := hC.n1
  have := hC.n6
  refine ⟨N - 1, by omega, ?_, ?_⟩
  · rw [ii_1, ii_sub, ii_clamp (by omega) (by omega)]; omega
  · congr 1; omega
theorem rp_k {free held um : Int32} {pS bf : Nat → Int32} {pC : Nat → Nat → Int32} (h : RP free held pS pC um bf) : ∃ k, k < 6 ∧ free.toNatClampNeg = k := by
  obtain ⟨f, h, hf, hh, rfl, -⟩ := h
  exact ⟨f, hf, by rw [ii_clamp (by omega) (by omega)]; omega⟩
theorem rp_u {free held um : Int32} {pS bf : Nat → Int32} {pC : Nat → Nat → Int32} (h : RP free held pS pC um bf) : ∃ k, k < 6 ∧ ((free + 6 - 1) - (free + 6 - 1) / 6 * 6).toNatClampNeg = k := by
  obtain ⟨f, h, hf, hh, rfl, -⟩ := h
  refine ⟨(f + 5) % 6, by omega, ?_⟩
  rw [ii_6, ii_1, ii_add, ii_sub, ii_rem (by omega) (by omega) (by omega) (by omega), ii_clamp (by omega) (by omega)]
  omega
/-! the pairs, by the table's relation -/
theorem q_sign {tS : Int32} {tC tn : Nat → Int32} (h : RT tS tC tn) (p1 p2 : Int32) : ∃ r, S_X5_sign p1 p2 tS tC = some r ∧ S_X6_sign p1 p2 tS tn = some r := by
  obtain ⟨N, C, rfl, hC, hT, hZ, hM⟩ := h
  exact p_sign hC hT hM p1 p2
theorem q_corner {tS : Int32} {tC tn : Nat → Int32} (h : RT tS tC tn) (p1 p2 : Int32) : ∃ r, S_X5_corner p1 p2 tS tC = some r ∧ S_X6_corner p1 p2 tS tn = some r := by
  obtain ⟨N, C, rfl, hC, hT, hZ, hM⟩ := h
  exact p_corner hC hT hM p1 p2
theorem q_height {tS : Int32} {tC tn : Nat → Int32} (h : RT tS tC tn) (p1 p2 : Int32) : ∃ r, S_X5_height p1 p2 tS tC = some r ∧ S_X6_height p1 p2 tS tn = some r := by
  obtain ⟨N, C, rfl, hC, hT, hZ, hM⟩ := h
  exact p_height hC hT hM p1 p2
theorem q_may {tS : Int32} {tC tn : Nat → Int32} (h : RT tS tC tn) (p1 p2 : Int32) : ∃ r, S_X5_may p1 p2 tS tC = some r ∧ S_X6_may p1 p2 tS tn = some r := by
  obtain ⟨N, C, rfl, hC, hT, hZ, hM⟩ := h
  exact p_may hC hT hM p1 p2
theorem q_across {tS : Int32} {tC tn : Nat → Int32} (h : RT tS tC tn) (p1 p2 : Int32) : ∃ r, S_X5_across p1 p2 tS tC = some r ∧ S_X6_across p1 p2 tS tn = some r := by
  obtain ⟨N, C, rfl, hC, hT, hZ, hM⟩ := h
  exact p_across hC hT hM p1 p2
theorem q_down {tS : Int32} {tC tn : Nat → Int32} (h : RT tS tC tn) (p1 p2 : Int32) : ∃ r, S_X5_down p1 p2 tS tC = some r ∧ S_X6_down p1 p2 tS tn = some r := by
  obtain ⟨N, C, rfl, hC, hT, hZ, hM⟩ := h
  exact p_down hC hT hM p1 p2
theorem q_apart {tS oS : Int32} {tC tn oC on : Nat → Int32} (h : RT tS tC tn) (hO : RO oS oC on) : ∃ r, S_X5_apart tS tC oS oC = some r ∧ S_X6_apart tS oS tn on = some r := by
  obtain ⟨N, C, rfl, hC, hT, hZ, hM⟩ := h
  exact p_apart hC hT hM hO
theorem q_next {tS oS : Int32} {tC tn oC on : Nat → Int32} (h : RT tS tC tn) (hO : RO oS oC on) : ∃ r, S_X5_next tS tC oS oC = some r ∧ S_X6_next tS oS tn on = some r := by
  obtain ⟨N, C, rfl, hC, hT, hZ, hM⟩ := h
  exact p_next hC hT hM hO
theorem RT.mkI {n : Int} {C : Int → Int → Int} {cs sn : Nat → Int32} (hC : CS n C) (hT : TC n C cs) (hZ : Z7 cs) (hM : TM n C sn) : RT (ii n) cs sn := by
  have h1 := hC.n1
  obtain ⟨N, rfl⟩ := Int.eq_ofNat_of_zero_le (show 0 ≤ n by omega)
  exact ⟨N, C, rfl, hC, hT, hZ, hM⟩
theorem q_undo {tS free held um : Int32} {tC tn pS bf : Nat → Int32} {pC : Nat → Nat → Int32} (h : RT tS tC tn) (hP : RP free held pS pC um bf) {e : Nat} (he : ((free + 6 - 1) - (free + 6 - 1) / 6 * 6).toNatClampNeg = e) : ∃ (r fr' hd' tS' : Int32) (tC' tn' : Nat → Int32), S_X5_undo tS tC free held (pS e) (pC e) = some (r, tS', tC', fr', hd') ∧ S_X6_undo tS um tn bf = some (r, tS', hd', tn') ∧ RT tS' tC' tn' ∧ RP fr' hd' pS pC hd' bf := by
  obtain ⟨N, C, rfl, hC, hT, hZ, hM⟩ := h
  obtain ⟨r, fr', hd', n', C', cs', sn', h1, h2, h3, h4, h5, h6, h7⟩ := p_undo hC hT hZ hM hP
  exact ⟨r, fr', hd', _, cs', sn', h1 e he.symm, h2, RT.mkI h3 h4 h5 h6, h7⟩
theorem q_rank {k : Nat} {tS : Int32} {tC tn w : Nat → Int32} {zS zM zK : Int32} {zE : Nat → Int32} (h : RT tS tC tn) (e : tS = ii ((k + 1 : Nat) : Int)) (hk : k < 6) (hZ : RZ (k + 1) zS zM zK zE) : ∃ (r zK' : Int32) (zE' w' : Nat → Int32), S_X5_rank tS tC zS zM zK zE = some (r, zK', zE') ∧ S_X6_rank tS tn w = some (r, w') ∧ RZ (k + 1) zS zM zK' zE' := by
  obtain ⟨N, C, rfl, hC, hT, hZ', hM⟩ := h
  have := hC.n1
  have := hC.n6
  have hN : (N : Int) = ((k + 1 : Nat) : Int) := (ii_eq (by omega) (by omega) (by omega) (by omega)).mp e
  obtain rfl : N = k + 1 := by omega
  exact p_rank hC hT hM hZ
theorem q_alike {k : Nat} {tS : Int32} {tC tn sd eR eC eS g w : Nat → Int32} {la lb lc ld : Int32} (h : RT tS tC tn) (e : tS = ii ((k + 1 : Nat) : Int)) (hk : k < 6) {zS zM zK zW : Int32} {zE zT : Nat → Int32} {zC : Nat → Int64} (hZ : RZ (k + 1) zS zM zK zE) (hW : RW (k + 1) zW zC zT) {qa qb qc qd qe qf qg sS : Int32} {pa ln O em sC : Nat → Int32} (z7 : Z7 sC) :
    ∃ (r sS' : Int32) (sC' : Nat → Int32) (a1 a2 a3 a4 a5 a6 a7 : Int32) (c1 c2 c3 c4 : Nat → Int32) (zK' zW' : Int32) (zE' : Nat → Int32) (zC' : Nat → Int64) (zT' : Nat → Int32) (b1 b2 b3 b4 : Int32) (d0 d1 d2 d3 d4 d5 : Nat → Int32),
      S_X5_alike tS tC sS sC qa qb qc qd qe qf qg pa ln O em zS zM zK zW zE zC zT = some (r, sS', sC', a1, a2, a3, a4, a5, a6, a7, c1, c2, c3, c4, zK', zW', zE', zC', zT') ∧ S_X6_alike tS la lb lc ld tn sd eR eC eS g w = some (r, b1, b2, b3, b4, d0, d1, d2, d3, d4, d5) ∧ Z7 sC' ∧ RZ (k + 1) zS zM zK' zE' ∧ RW (k + 1) zW' zC' zT' := by
  obtain ⟨N, C, rfl, hC, hT, hZ', hM⟩ := h
  have := hC.n1
  have := hC.n6
  have hN : (N : Int) = ((k + 1 : Nat) : Int) := (ii_eq (by omega) (by omega) (by omega) (by omega)).mp e
  obtain rfl : N = k + 1 := by omega
  exact p_alike hC hT hM hZ hW z7
