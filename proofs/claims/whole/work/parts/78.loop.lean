/-! THE CLAIM OUT OF ONE WALK OF THE LAW'S BODY. Your part is whole_start (and what it stands on); all else here is the same for every law, but numbers. -/
def R_law : String := "AlternateSignsLaw"
def lw_P (b : Addr) (xs : List Int32) (args : Array Value) (s : State) : Prop := args = #[.ref b] ∧ s.IntsAt b xs ∧ xs.length ≤ 1536 ∧ (Jvm.Cond.and given_1 narrow_1).before args s = true
def lw_Q (_ : Array Value) (s : State) (o : Outcome) (t : State) : Prop := o = .returned (some (.int 1)) ∧ Framed s o t [] 600000 7302250
def lw_Z (below : List Frame) (a : Array Value) (s : State) : State → Prop := fun t => ∃ o, t.status = .running ∧ Ended t below o ∧ lw_Q a s o t
/-- the law's own end, with 1 on the stack, nothing written that was there before, its room as the claim has it -/
theorem lw_ret {p : Program} {l : Launch} {e : Env} {s : State} {m : MethodId} {below : List Frame} {meth : Method} {c : Code} {b : Nat} (hx : p.tables.exec = Jvm.exec) (hb : c.code = code) (hr : meth.sig.returnType = ret) (hlocks : meth.locks = false) {pc : Nat} {H : Heap} {ls : Array Slot} (hdg : decode code pc = .ok (.ireturn, 1)) : W p l e room_1 s m #[Value.ref b] below meth c H [] 600000 7302250 (lw_Z below #[Value.ref b] s) (F0 m pc ls [.int 1]) := by
  intro T hT X
  obtain ⟨fs, hret, hrun, hended, hW, hframe⟩ := X.leave (v := some (.int 1)) (hlocks := hlocks) (fun h => by rw [hr] at h; cases h)
  have hmeth' : T.vm.method? m = some meth := X.method'
  refine ⟨T.setFrames fs, ?_, .returned (some (.int 1)), hrun, hended, rfl, ⟨_, rfl⟩, hW, hframe⟩
  jvm_step X.here [X.here.top, hx, hb, hdg, hmeth', hr, ret, narrow_b1]
  (try refine ⟨rfl, ?_⟩); (try refine ⟨rfl, ?_⟩)
  first | (intro acts; rw [hret _ acts rfl rfl rfl]) | rw [hret _ _ rfl rfl rfl]
  exact Steps.refl _
/-- what holds at the law's entry: the machine, the code, the tables' words (any of lw_tbl by 'hts w (by decide +kernel)'), the script of L ints xs at the cell b, what the Statement gives of the start (any of its parts by flat_of_before) -/
def lw_At (p : Program) (s : State) (m : MethodId) (meth : Method) (c : Code) (b L : Nat) (xs : Nat → Int32) : Prop :=
  p.tables.exec = Jvm.exec ∧ c.code = code ∧ meth.sig.returnType = ret ∧ c.maxLocals = 4 ∧ s.vm.findClass R_law = some m.cls ∧ (∀ w ∈ lw_tbl, w.before #[Value.ref b] s = true) ∧ va_X b L xs s s.heap ∧ b < s.heap.size ∧ meth.locks = false ∧ (Jvm.Cond.and given_1 narrow_1).before #[Value.ref b] s = true
set_option maxHeartbeats 4000000 in
set_option maxRecDepth 100000 in
theorem law_loop {p : Program} {l : Launch} {e : Env} {s : State} {m : MethodId} {below : List Frame} {meth : Method} {c : Code} {b L : Nat} {xs : Nat → Int32} {G : kG} {a : kA} (C0 : LW p s m c b L xs G a) (hr : meth.sig.returnType = ret) (hlocks : meth.locks = false) (hL : L ≤ 1536) : ∀ (n t : Nat), L < 3 * (n + t) + 3 → 3 * t ≤ L + 3 → ∀ (σ : Nat → cv) (H : Heap) (locs : List Loc) (ls : Array Slot), IV σ → PW G a σ H → va_S (fun q : Nat => s.heap.size ≤ q) s.heap H locs → lv_has ls 4 [(0, .ref b), (1, .ref (a.1 0)), (2, .ref (a.1 55)), (3, .int (ii (3 * (t : Int))))] → W p l e room_1 s m #[Value.ref b] below meth c H locs 600000 7302250 (lw_Z below #[Value.ref b] s) (F0 m 18 ls []) := by
  intro n
  induction n with
  | zero =>
    intro t h1 h2 σ H locs ls hI hP hS hl
    obtain ⟨hx, hb, hml, hown, hts, hX, hbl, hKW, hAW, hDW⟩ := id C0
    have hbA : ¬ (fun q : Nat => s.heap.size ≤ q) b := Nat.not_le.mpr hbl
    refine lv_iload_n hx hb dL_law_18 rfl (lv_at hl 3 rfl) ?_
    refine lv_aload_n hx hb dL_law_19 rfl (lv_at hl 0 rfl) ?_
    refine va_slen hx hb hX hbl hbA hS dL_law_20 ?_
    refine lv_iconst (v := 3) hx hb dL_law_21 (by decide) ?_
    refine lv_isub hx hb dL_law_22 ?_
    refine lv_icmp_gt (tgt := 783) hx hb dL_law_23 (by decide) (fun c9 => ?_) (fun c9 => ?_)
    · refine va_forget (fun q h => hS.2.2 q h) ?_
      refine lv_iconst (v := 1) hx hb dL_law_783 (by decide) ?_
      exact lw_ret hx hb hr hlocks dL_law_784
    · refine absurd ?_ c9
      rw [show Int32.ofNat L = ii (L : Int) from (ii_nat L).symm, ii_3, ii_sub]
      exact (ii_lt (by omega) (by omega) (by omega) (by omega)).mpr (by omega)
  | succ n ih =>
    intro t h1 h2 σ H locs ls hI hP hS hl
    obtain ⟨hx, hb, hml, hown, hts, hX, hbl, hKW, hAW, hDW⟩ := id C0
    have hbA : ¬ (fun q : Nat => s.heap.size ≤ q) b := Nat.not_le.mpr hbl
    refine lv_iload_n hx hb dL_law_18 rfl (lv_at hl 3 rfl) ?_
    refine lv_aload_n hx hb dL_law_19 rfl (lv_at hl 0 rfl) ?_
    refine va_slen hx hb hX hbl hbA hS dL_law_20 ?_
    refine lv_iconst (v := 3) hx hb dL_law_21 (by decide) ?_
    refine lv_isub hx hb dL_law_22 ?_
    refine lv_icmp_gt (tgt := 783) hx hb dL_law_23 (by decide) (fun c9 => ?_) (fun c9 => ?_)
    · refine va_forget (fun q h => hS.2.2 q h) ?_
      refine lv_iconst (v := 1) hx hb dL_law_783 (by decide) ?_
      exact lw_ret hx hb hr hlocks dL_law_784
    · have hlt : 3 * t + 3 ≤ L := by
        rw [show Int32.ofNat L = ii (L : Int) from (ii_nat L).symm, ii_3, ii_sub] at c9
        have := mt (ii_lt (a := (L : Int) - 3) (b := 3 * (t : Int)) (by omega) (by omega) (by omega) (by omega)).mpr c9
        omega
      have g0 : vp_in (ii (3 * (t : Int))) L := inb_in (inb_t (by omega) (by omega) (by omega))
      have g1 : vp_in (ii (3 * (t : Int)) + 1) L := by
        rw [ii_1, ii_add]; exact inb_in (inb_t (by omega) (by omega) (by omega))
      have g2 : vp_in (ii (3 * (t : Int)) + 2) L := by
        rw [ii_2, ii_add]; exact inb_in (inb_t (by omega) (by omega) (by omega))
      have kk : ∀ (σ' : Nat → cv) (H : Heap) (locs : List Loc), IV σ' → PW G a σ' H → va_S (fun q : Nat => s.heap.size ≤ q) s.heap H locs → W p l e room_1 s m #[Value.ref b] below meth c H locs 600000 7302250 (lw_Z below #[Value.ref b] s) (F0 m 777 ls []) := by
        intro σ' H locs hI hP hS
        refine lv_iinc (v := ii (3 * ((t + 1 : Nat) : Int))) (lv' := [(3, .int (ii (3 * ((t + 1 : Nat) : Int)))), (0, .ref b), (1, .ref (a.1 0)), (2, .ref (a.1 55))]) hx hb dL_law_777 hl (k := 3) rfl (by rw [show Int32.ofInt 3 = ii 3 from rfl, ii_add]; congr 1 <;> omega) (by decide) rfl (fun ls hl => ?_)
        refine lv_goto (tgt := 18) hx hb dL_law_780 (by decide) ?_
        exact ih (t + 1) (by omega) (by omega) σ' H locs ls hI hP hS (lv_sub hl [1, 2, 3, 0] rfl)
      refine lv_aload_n hx hb dL_law_26 rfl (lv_at hl 0 rfl) ?_
      refine lv_iload_n hx hb dL_law_27 rfl (lv_at hl 3 rfl) ?_
      refine va_sld hx hb hX hbl hbA hS g0 dL_law_28 ?_
      refine lv_bipush (v := 31) hx hb dL_law_29 (by decide) ?_
      refine lv_iand hx hb dL_law_31 ?_
      generalize xs (ii (3 * (t : Int))).toNatClampNeg &&& 31 = y
      by_cases y0 : y = (0 : Int32)
      · exact lv_tableIn (tgt := 156) hx hb dL_law_32 (by rw [y0]; decide) (by rw [y0]; decide) (by rw [y0]; rfl) (by decide) (ca_write C0 hI hP hS g1 hl kk)
      by_cases y1 : y = (1 : Int32)
      · exact lv_tableIn (tgt := 179) hx hb dL_law_32 (by rw [y1]; decide) (by rw [y1]; decide) (by rw [y1]; rfl) (by decide) (ca_wipe C0 hI hP hS hl kk)
      by_cases y2 : y = (2 : Int32)
      · exact lv_tableIn (tgt := 192) hx hb dL_law_32 (by rw [y2]; decide) (by rw [y2]; decide) (by rw [y2]; rfl) (by decide) (ca_fault C0 hI hP hS hl kk)
      by_cases y3 : y = (3 : Int32)
      · exact lv_tableIn (tgt := 205) hx hb dL_law_32 (by rw [y3]; decide) (by rw [y3]; decide) (by rw [y3]; rfl) (by decide) (ca_lay C0 hI hP hS hl kk)
      by_cases y4 : y = (4 : Int32)
      · exact lv_tableIn (tgt := 218) hx hb dL_law_32 (by rw [y4]; decide) (by rw [y4]; decide) (by rw [y4]; rfl) (by decide) (ca_take C0 hI hP hS g1 g2 hl kk)
      by_cases y5 : y = (5 : Int32)
      · exact lv_tableIn (tgt := 251) hx hb dL_law_32 (by rw [y5]; decide) (by rw [y5]; decide) (by rw [y5]; rfl) (by decide) (ca_undo C0 hI hP hS hl kk)
      by_cases y6 : y = (6 : Int32)
      · exact lv_tableIn (tgt := 264) hx hb dL_law_32 (by rw [y6]; decide) (by rw [y6]; decide) (by rw [y6]; rfl) (by decide) (ca_keep C0 hI hP hS hl kk)
      by_cases y7 : y = (7 : Int32)
      · exact lv_tableIn (tgt := 277) hx hb dL_law_32 (by rw [y7]; decide) (by rw [y7]; decide) (by rw [y7]; rfl) (by decide) (ca_sign C0 hI hP hS g1 g2 hl kk)
      by_cases y8 : y = (8 : Int32)
      · exact lv_tableIn (tgt := 310) hx hb dL_law_32 (by rw [y8]; decide) (by rw [y8]; decide) (by rw [y8]; rfl) (by decide) (ca_corner C0 hI hP hS g1 g2 hl kk)
      by_cases y9 : y = (9 : Int32)
      · exact lv_tableIn (tgt := 343) hx hb dL_law_32 (by rw [y9]; decide) (by rw [y9]; decide) (by rw [y9]; rfl) (by decide) (ca_height C0 hI hP hS g1 g2 hl kk)
      by_cases y10 : y = (10 : Int32)
      · exact lv_tableIn (tgt := 376) hx hb dL_law_32 (by rw [y10]; decide) (by rw [y10]; decide) (by rw [y10]; rfl) (by decide) (ca_may C0 hI hP hS g1 g2 hl kk)
      by_cases y11 : y = (11 : Int32)
      · exact lv_tableIn (tgt := 409) hx hb dL_law_32 (by rw [y11]; decide) (by rw [y11]; decide) (by rw [y11]; rfl) (by decide) (ca_count C0 hI hP hS g1 hl kk)
      by_cases y12 : y = (12 : Int32)
      · exact lv_tableIn (tgt := 432) hx hb dL_law_32 (by rw [y12]; decide) (by rw [y12]; decide) (by rw [y12]; rfl) (by decide) (ca_flip C0 hI hP hS g1 g2 hl kk)
      by_cases y13 : y = (13 : Int32)
      · exact lv_tableIn (tgt := 465) hx hb dL_law_32 (by rw [y13]; decide) (by rw [y13]; decide) (by rw [y13]; rfl) (by decide) (ca_gyrate C0 hI hP hS g1 hl kk)
      by_cases y14 : y = (14 : Int32)
      · exact lv_tableIn (tgt := 488) hx hb dL_law_32 (by rw [y14]; decide) (by rw [y14]; decide) (by rw [y14]; rfl) (by decide) (ca_orbit C0 hI hP hS hl kk)
      by_cases y15 : y = (15 : Int32)
      · exact lv_tableIn (tgt := 501) hx hb dL_law_32 (by rw [y15]; decide) (by rw [y15]; decide) (by rw [y15]; rfl) (by decide) (ca_apart C0 hI hP hS hl kk)
      by_cases y16 : y = (16 : Int32)
      · exact lv_tableIn (tgt := 514) hx hb dL_law_32 (by rw [y16]; decide) (by rw [y16]; decide) (by rw [y16]; rfl) (by decide) (ca_next C0 hI hP hS hl kk)
      by_cases y17 : y = (17 : Int32)
      · exact lv_tableIn (tgt := 527) hx hb dL_law_32 (by rw [y17]; decide) (by rw [y17]; decide) (by rw [y17]; rfl) (by decide) (ca_both C0 hI hP hS g1 hl kk)
      by_cases y18 : y = (18 : Int32)
      · exact lv_tableIn (tgt := 550) hx hb dL_law_32 (by rw [y18]; decide) (by rw [y18]; decide) (by rw [y18]; rfl) (by decide) (ca_turn C0 hI hP hS g1 hl kk)
      by_cases y19 : y = (19 : Int32)
      · exact lv_tableIn (tgt := 573) hx hb dL_law_32 (by rw [y19]; decide) (by rw [y19]; decide) (by rw [y19]; rfl) (by decide) (ca_across C0 hI hP hS g1 g2 hl kk)
      by_cases y20 : y = (20 : Int32)
      · exact lv_tableIn (tgt := 606) hx hb dL_law_32 (by rw [y20]; decide) (by rw [y20]; decide) (by rw [y20]; rfl) (by decide) (ca_down C0 hI hP hS g1 g2 hl kk)
      by_cases y21 : y = (21 : Int32)
      · exact lv_tableIn (tgt := 639) hx hb dL_law_32 (by rw [y21]; decide) (by rw [y21]; decide) (by rw [y21]; rfl) (by decide) (ca_partner C0 hI hP hS g1 hl kk)
      by_cases y22 : y = (22 : Int32)
      · exact lv_tableIn (tgt := 662) hx hb dL_law_32 (by rw [y22]; decide) (by rw [y22]; decide) (by rw [y22]; rfl) (by decide) (ca_line C0 hI hP hS g1 hl kk)
      by_cases y23 : y = (23 : Int32)
      · exact lv_tableIn (tgt := 685) hx hb dL_law_32 (by rw [y23]; decide) (by rw [y23]; decide) (by rw [y23]; rfl) (by decide) (ca_rank C0 hI hP hS hl kk)
      by_cases y24 : y = (24 : Int32)
      · exact lv_tableIn (tgt := 698) hx hb dL_law_32 (by rw [y24]; decide) (by rw [y24]; decide) (by rw [y24]; rfl) (by decide) (ca_many C0 hI hP hS g1 g2 hl kk)
      by_cases y25 : y = (25 : Int32)
      · exact lv_tableIn (tgt := 731) hx hb dL_law_32 (by rw [y25]; decide) (by rw [y25]; decide) (by rw [y25]; rfl) (by decide) (ca_alike C0 hI hP hS hl kk)
      by_cases y26 : y = (26 : Int32)
      · exact lv_tableIn (tgt := 744) hx hb dL_law_32 (by rw [y26]; decide) (by rw [y26]; decide) (by rw [y26]; rfl) (by decide) (ca_ways C0 hI hP hS g1 g2 hl kk)
      exact lv_tableOut (tgt := 777) hx hb dL_law_32 (by have n_0 := lv_neT y0 (a := 0) (by decide); have n_1 := lv_neT y1 (a := 1) (by decide); have n_2 := lv_neT y2 (a := 2) (by decide); have n_3 := lv_neT y3 (a := 3) (by decide); have n_4 := lv_neT y4 (a := 4) (by decide); have n_5 := lv_neT y5 (a := 5) (by decide); have n_6 := lv_neT y6 (a := 6) (by decide); have n_7 := lv_neT y7 (a := 7) (by decide); have n_8 := lv_neT y8 (a := 8) (by decide); have n_9 := lv_neT y9 (a := 9) (by decide); have n_10 := lv_neT y10 (a := 10) (by decide); have n_11 := lv_neT y11 (a := 11) (by decide); have n_12 := lv_neT y12 (a := 12) (by decide); have n_13 := lv_neT y13 (a := 13) (by decide); have n_14 := lv_neT y14 (a := 14) (by decide); have n_15 := lv_neT y15 (a := 15) (by decide); have n_16 := lv_neT y16 (a := 16) (by decide); have n_17 := lv_neT y17 (a := 17) (by decide); have n_18 := lv_neT y18 (a := 18) (by decide); have n_19 := lv_neT y19 (a := 19) (by decide); have n_20 := lv_neT y20 (a := 20) (by decide); have n_21 := lv_neT y21 (a := 21) (by decide); have n_22 := lv_neT y22 (a := 22) (by decide); have n_23 := lv_neT y23 (a := 23) (by decide); have n_24 := lv_neT y24 (a := 24) (by decide); have n_25 := lv_neT y25 (a := 25) (by decide); have n_26 := lv_neT y26 (a := 26) (by decide); omega) (by decide) (kk σ H locs hI hP hS)
