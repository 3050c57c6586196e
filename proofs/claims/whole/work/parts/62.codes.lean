/-! how ends are joined: a number for each way; all ways of tables up to 5 -/
def wki (n : Int) (C : Int → Int → Int) : Nat → TR → Int
  | 0, _ => -1
  | f + 1, x => if 1 ≤ (nx C x).1 ∧ (nx C x).1 ≤ n ∧ 1 ≤ (nx C x).2.1 ∧ (nx C x).2.1 ≤ n then wki n C f (nx C x) else rk n (nx C x).1 (nx C x).2.1
def cdn (pt : Nat → Nat) : Nat → Nat
  | 0 => 0
  | e + 1 => cdn pt e * 12 + pt e
def ALL (n : Nat) : List Nat := match n with
  | 1 => [12]
  | 2 => [5484, 1766]
  | 3 => [1332588, 1287972, 254368, 258086, 789760]
  | 4 => [270071148, 269535756, 257132508, 257177124, 263557212, 37164474, 36629082, 37662686, 37707302, 36632800, 185468058, 113725530, 191892762, 113729248]
  | _ => [50147947884, 50141523180, 49992684204, 49993219596, 50069780652, 47353067796, 47346643092, 47359046340, 47359581732, 47346687708, 49132710804, 48271800468, 49209807252, 48271845084, 5429851604, 5423426900, 5274587924, 5275123316, 5351684372, 5501516054, 5495091350, 5507494598, 5508029990, 5495135966, 5274591642, 5275621528, 5351688090, 5275666144, 37033505972, 37027081268, 16376476436, 16377011828, 26707400468, 38813148980, 37952238644, 38890245428, 27632557844, 16376480154, 16377510040, 26707404186, 16377554656, 27632561562]
def lT (l : List Nat) : Nat → Nat := fun i => l.getD i 0
def cdl (n : Nat) (l : List Nat) : Nat := cdn (fun e => (wki n (TB (lT l)) 40 (rm n (2 * e)) / 2).toNat) (2 * n)
def chk (n : Nat) : Nat → Nat → List Nat → Bool
  | 0, _, l => (ALL n).contains (cdl n l)
  | d + 1, a, l => (List.range (2 ^ n)).all (fun t => !(ld n a t) || chk n d t (l ++ [t]))
theorem chk_1 : chk 1 1 0 [0] = true := by decide +kernel
theorem chk_2 : chk 2 2 0 [0] = true := by decide +kernel
theorem chk_3 : chk 3 3 0 [0] = true := by decide +kernel
theorem chk_4 : chk 4 4 0 [0] = true := by decide +kernel
theorem ck5_1_3 : chk 5 3 3 [0, 1, 3] = true := by decide +kernel
theorem ck5_1_5 : chk 5 3 5 [0, 1, 5] = true := by decide +kernel
theorem ck5_1_9 : chk 5 3 9 [0, 1, 9] = true := by decide +kernel
theorem ck5_1_17 : chk 5 3 17 [0, 1, 17] = true := by decide +kernel
theorem ck5_2_3 : chk 5 3 3 [0, 2, 3] = true := by decide +kernel
theorem ck5_2_5 : chk 5 3 5 [0, 2, 5] = true := by decide +kernel
theorem ck5_2_6 : chk 5 3 6 [0, 2, 6] = true := by decide +kernel
theorem ck5_2_9 : chk 5 3 9 [0, 2, 9] = true := by decide +kernel
theorem ck5_2_10 : chk 5 3 10 [0, 2, 10] = true := by decide +kernel
theorem ck5_2_17 : chk 5 3 17 [0, 2, 17] = true := by decide +kernel
theorem ck5_2_18 : chk 5 3 18 [0, 2, 18] = true := by decide +kernel
theorem ck5_4_5 : chk 5 3 5 [0, 4, 5] = true := by decide +kernel
theorem ck5_4_6 : chk 5 3 6 [0, 4, 6] = true := by decide +kernel
theorem ck5_4_9 : chk 5 3 9 [0, 4, 9] = true := by decide +kernel
theorem ck5_4_10 : chk 5 3 10 [0, 4, 10] = true := by decide +kernel
theorem ck5_4_12 : chk 5 3 12 [0, 4, 12] = true := by decide +kernel
theorem ck5_4_17 : chk 5 3 17 [0, 4, 17] = true := by decide +kernel
theorem ck5_4_18 : chk 5 3 18 [0, 4, 18] = true := by decide +kernel
theorem ck5_4_20 : chk 5 3 20 [0, 4, 20] = true := by decide +kernel
theorem ck5_8_9 : chk 5 3 9 [0, 8, 9] = true := by decide +kernel
theorem ck5_8_10 : chk 5 3 10 [0, 8, 10] = true := by decide +kernel
theorem ck5_8_12 : chk 5 3 12 [0, 8, 12] = true := by decide +kernel
theorem ck5_8_17 : chk 5 3 17 [0, 8, 17] = true := by decide +kernel
theorem ck5_8_18 : chk 5 3 18 [0, 8, 18] = true := by decide +kernel
theorem ck5_8_20 : chk 5 3 20 [0, 8, 20] = true := by decide +kernel
theorem ck5_8_24 : chk 5 3 24 [0, 8, 24] = true := by decide +kernel
theorem ck5_16_17 : chk 5 3 17 [0, 16, 17] = true := by decide +kernel
theorem ck5_16_18 : chk 5 3 18 [0, 16, 18] = true := by decide +kernel
theorem ck5_16_20 : chk 5 3 20 [0, 16, 20] = true := by decide +kernel
theorem ck5_16_24 : chk 5 3 24 [0, 16, 24] = true := by decide +kernel
def P5 : List (Nat × Nat) := [(1, 3), (1, 5), (1, 9), (1, 17), (2, 3), (2, 5), (2, 6), (2, 9), (2, 10), (2, 17), (2, 18), (4, 5), (4, 6), (4, 9), (4, 10), (4, 12), (4, 17), (4, 18), (4, 20), (8, 9), (8, 10), (8, 12), (8, 17), (8, 18), (8, 20), (8, 24), (16, 17), (16, 18), (16, 20), (16, 24)]
theorem pr5 : ∀ a b : Fin 32, ld 5 0 a = true → ld 5 a b = true → P5.contains ((a : Nat), (b : Nat)) = true := by decide +kernel
theorem ck5 : ∀ p ∈ P5, chk 5 3 p.2 [0, p.1, p.2] = true := by
  intro p hp
  simp only [P5, List.mem_cons, List.not_mem_nil, or_false] at hp
  rcases hp with rfl | rfl | rfl | rfl | rfl | rfl | rfl | rfl | rfl | rfl | rfl | rfl | rfl | rfl | rfl | rfl | rfl | rfl | rfl | rfl | rfl | rfl | rfl | rfl | rfl | rfl | rfl | rfl | rfl | rfl
  · exact ck5_1_3
  · exact ck5_1_5
  · exact ck5_1_9
  · exact ck5_1_17
  · exact ck5_2_3
  · exact ck5_2_5
  · exact ck5_2_6
  · exact ck5_2_9
  · exact ck5_2_10
  · exact ck5_2_17
  · exact ck5_2_18
  · exact ck5_4_5
  · exact ck5_4_6
  · exact ck5_4_9
  · exact ck5_4_10
  · exact ck5_4_12
  · exact ck5_4_17
  · exact ck5_4_18
  · exact ck5_4_20
  · exact ck5_8_9
  · exact ck5_8_10
  · exact ck5_8_12
  · exact ck5_8_17
  · exact ck5_8_18
  · exact ck5_8_20
  · exact ck5_8_24
  · exact ck5_16_17
  · exact ck5_16_18
  · exact ck5_16_20
  · exact ck5_16_24
/-! every chain has been looked at -/
theorem wki_of {n : Int} {C : Int → Int → Int} (hC : CS n C) : ∀ (i f : Nat) (x y : TR) (k' : Int), PA n C i x y → VA n C x → i < f → 0 ≤ k' → k' < 4 * n → bk C y = rm n k' → wki n C f x = k' := by
  intro i
  induction i with
  | zero =>
    intro f x y k' p v hf k0 k4 e
    cases p
    obtain ⟨f', rfl⟩ : ∃ f', f = f' + 1 := ⟨f - 1, by omega⟩
    have o := WK.out hC (k := 0) v k0 k4 e
    unfold wki
    rw [if_neg (show ¬ (1 ≤ (nx C x).1 ∧ (nx C x).1 ≤ n ∧ 1 ≤ (nx C x).2.1 ∧ (nx C x).2.1 ≤ n) from o)]
    have g := (rm_f hC.n1 k0 k4).2.2.2.2
    rw [← e] at g
    exact g
  | succ i ih =>
    intro f x y k' p v hf k0 k4 e
    obtain ⟨f', rfl⟩ : ∃ f', f = f' + 1 := ⟨f - 1, by omega⟩
    unfold wki
    rw [if_pos (show 1 ≤ (nx C x).1 ∧ (nx C x).1 ≤ n ∧ 1 ≤ (nx C x).2.1 ∧ (nx C x).2.1 ≤ n from p.1)]
    exact ih f' _ y k' p.2 (v.nx hC p.1) (by omega) k0 k4 e
theorem chk_sound {n : Nat} {T : Nat → Nat} (hl : ∀ k, k < n → T (k + 1) < 2 ^ n ∧ ld n (T k) (T (k + 1)) = true) : ∀ d k, k + d = n → chk n d (T k) ((List.range (k + 1)).map T) = true → (ALL n).contains (cdl n ((List.range (n + 1)).map T)) = true := by
  intro d
  induction d with
  | zero =>
    intro k e h
    have : k = n := by omega
    subst this
    exact h
  | succ d ih =>
    intro k e h
    unfold chk at h
    rw [List.all_eq_true] at h
    obtain ⟨a, b⟩ := hl k (by omega)
    have g := h (T (k + 1)) (List.mem_range.mpr a)
    rw [b] at g
    refine ih (k + 1) (by omega) ?_
    rw [List.range_succ, List.map_append]
    simpa using g
theorem lT_map {n : Nat} {T : Nat → Nat} (hz : ∀ i, n < i → T i = 0) : lT ((List.range (n + 1)).map T) = T := by
  funext i
  unfold lT
  by_cases h : i < n + 1
  · rw [List.getD_eq_getElem?_getD, List.getElem?_map, List.getElem?_range h]
    rfl
  · rw [List.getD_eq_getElem?_getD, List.getElem?_eq_none (by rw [List.length_map, List.length_range]; omega), hz i (by omega)]
    rfl
theorem all_codes {n : Nat} {T : Nat → Nat} (h1 : 1 ≤ n) (h5 : n ≤ 5) (T0 : T 0 = 0) (hz : ∀ i, n < i → T i = 0) (hl : ∀ k, k < n → T (k + 1) < 2 ^ n ∧ ld n (T k) (T (k + 1)) = true) : (ALL n).contains (cdn (fun e => (wki n (TB T) 40 (rm n (2 * e)) / 2).toNat) (2 * n)) = true := by
  have key : (ALL n).contains (cdl n ((List.range (n + 1)).map T)) = true := by
    have s0 : (List.range (0 + 1)).map T = [0] := by simp [T0]
    have st := chk_sound hl n 0 (by omega)
    rw [s0, T0] at st
    rcases (by omega : n = 1 ∨ n = 2 ∨ n = 3 ∨ n = 4 ∨ n = 5) with rfl | rfl | rfl | rfl | rfl
    · exact st chk_1
    · exact st chk_2
    · exact st chk_3
    · exact st chk_4
    · have s2 : (List.range (2 + 1)).map T = [0, T 1, T 2] := by simp [List.range_succ, T0]
      have st2 := chk_sound hl 3 2 (by omega)
      rw [s2] at st2
      refine st2 ?_
      obtain ⟨a1, b1⟩ := hl 0 (by omega)
      obtain ⟨a2, b2⟩ := hl 1 (by omega)
      rw [T0] at b1
      have m := pr5 ⟨T 1, a1⟩ ⟨T 2, a2⟩ b1 b2
      exact ck5 (T 1, T 2) (by simpa using m)
  unfold cdl at key
  rw [lT_map hz] at key
  exact key
