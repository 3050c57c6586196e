/-! how ends are joined: a number for each way; all ways of tables up to 5 -/
def wki (n : Int) (C : Int → Int → Int) : Nat → TR → Int
  | 0, _ => -1
  | f + 1, x => if 1 ≤ (nx C x).1 ∧ (nx C x).1 ≤ n ∧ 1 ≤ (nx C x).2.1 ∧ (nx C x).2.1 ≤ n then wki n C f (nx C x) else rk n (nx C x).1 (nx C x).2.1
def cdn (pt : Nat → Nat) : Nat → Nat
  | 0 => 0
  | e + 1 => cdn pt e * 12 + pt e
def ALL (n : Nat) : List Nat := match n with
  | 1 => [12]
  | 2 => [5484, 1766]
  | 3 => [1332588, 1287972, 254368, 258086, 789760]
  | 4 => [270071148, 269535756, 257132508, 257177124, 263557212, 37164474, 36629082, 37662686, 37707302, 36632800, 185468058, 113725530, 191892762, 113729248]
  | _ => [50147947884, 50141523180, 49992684204, 49993219596, 50069780652, 47353067796, 47346643092, 47359046340, 47359581732, 47346687708, 49132710804, 48271800468, 49209807252, 48271845084, 5429851604, 5423426900, 5274587924, 5275123316, 5351684372, 5501516054, 5495091350, 5507494598, 5508029990, 5495135966, 5274591642, 5275621528, 5351688090, 5275666144, 37033505972, 37027081268, 16376476436, 16377011828, 26707400468, 38813148980, 37952238644, 38890245428, 27632557844, 16376480154, 16377510040, 26707404186, 16377554656, 27632561562]
def lT (l : List Nat) : Nat → Nat := fun i => l.getD i 0
def cdl (n : Nat) (l : List Nat) : Nat := cdn (fun e => (wki n (TB (lT l)) 40 (rm n (2 * e)) / 2).toNat) (2 * n)
def chk (n : Nat) : Nat → Nat → List Nat → Bool
  | 0, _, l => (ALL n).contains (cdl n l)
  | d + 1, a, l => (List.range (2 ^ n)).all (fun t => !(ld n a t) || chk n d t (l ++ [t]))
theorem chk_1 : chk 1 1 0 [0] = true := by decide +kernel
theorem chk_2 : chk 2 2 0 [0] = true := by decide +kernel
theorem chk_3 : chk 3 3 0 [0] = true := by decide +kernel
theorem chk_4 : chk 4 4 0 [0] = true := by decide +kernel
theorem chk_5 : chk 5 5 0 [0] = true := by decide +kernel
