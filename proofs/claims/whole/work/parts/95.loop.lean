/-! THE CLAIM OUT OF ONE WALK OF THE LAW'S BODY. Your part is whole_start (and what it stands on); all else here is the same for every law, but numbers. -/
def R_law : String := "MeetingRanksLaw"
def lw_P (b : Addr) (xs : List Int32) (args : Array Value) (s : State) : Prop := args = #[.ref b] ∧ s.IntsAt b xs ∧ xs.length ≤ 3072 ∧ (Jvm.Cond.and given_1 narrow_1).before args s = true
def lw_Q (_ : Array Value) (s : State) (o : Outcome) (t : State) : Prop := o = .returned (some (.int 1)) ∧ Framed s o t [] 600000 7302250
def lw_Z (below : List Frame) (a : Array Value) (s : State) : State → Prop := fun t => ∃ o, t.status = .running ∧ Ended t below o ∧ lw_Q a s o t
/-- the law's own end, with 1 on the stack, nothing written that was there before, its room as the claim has it -/
theorem lw_ret {p : Program} {l : Launch} {e : Env} {s : State} {m : MethodId} {below : List Frame} {meth : Method} {c : Code} {b : Nat} (hx : p.tables.exec = Jvm.exec) (hb : c.code = code) (hr : meth.sig.returnType = ret) (hlocks : meth.locks = false) {pc : Nat} {H : Heap} {ls : Array Slot} (hdg : decode code pc = .ok (.ireturn, 1)) : W p l e room_1 s m #[Value.ref b] below meth c H [] 600000 7302250 (lw_Z below #[Value.ref b] s) (F0 m pc ls [.int 1]) := by
  intro T hT X
  obtain ⟨fs, hret, hrun, hended, hW, hframe⟩ := X.leave (v := some (.int 1)) (hlocks := hlocks) (fun h => by rw [hr] at h; cases h)
  have hmeth' : T.vm.method? m = some meth := X.method'
  refine ⟨T.setFrames fs, ?_, .returned (some (.int 1)), hrun, hended, rfl, ⟨_, rfl⟩, hW, hframe⟩
  jvm_step X.here [X.here.top, hx, hb, hdg, hmeth', hr, ret, narrow_b1]
  (try refine ⟨rfl, ?_⟩); (try refine ⟨rfl, ?_⟩)
  first | (intro acts; rw [hret _ acts rfl rfl rfl]) | rw [hret _ _ rfl rfl rfl]
  exact Steps.refl _
/-- what holds at the law's entry: the machine, the code, the tables' words (any of lw_tbl by 'hts w (by decide +kernel)'), the script of L ints xs at the cell b, what the Statement gives of the start (any of its parts by flat_of_before) -/
def lw_At (p : Program) (s : State) (m : MethodId) (meth : Method) (c : Code) (b L : Nat) (xs : Nat → Int32) : Prop :=
  p.tables.exec = Jvm.exec ∧ c.code = code ∧ meth.sig.returnType = ret ∧ c.maxLocals = 4 ∧ s.vm.findClass R_law = some m.cls ∧ (∀ w ∈ lw_tbl, w.before #[Value.ref b] s = true) ∧ va_X b L xs s s.heap ∧ b < s.heap.size ∧ meth.locks = false ∧ (Jvm.Cond.and given_1 narrow_1).before #[Value.ref b] s = true
theorem k_gt6 {L i : Nat} (hL : L ≤ 3072) (hi : i ≤ 3072) (c : ¬ Int32.ofNat L - nI 6 < nI i) : i + 6 ≤ L := by
  have e : (Int32.ofNat L - nI 6).toInt = (L : Int) - 6 := by
    have h1 : (Int32.ofNat L).toInt = (L : Int) := nI_toInt (by omega)
    rw [Int32.toInt_sub, h1, nI_toInt (by omega)]
    show ((L : Int) - 6).bmod 4294967296 = _
    rw [Int.bmod_def]
    split <;> omega
  have h : ¬ ((L : Int) - 6 < (i : Int)) := fun z => c (Int32.lt_iff_toInt_lt.mpr (by rw [e, nI_toInt (by omega)]; exact z))
  omega
theorem sw_split (x : Int32) : x = 0 ∨ x = 1 ∨ x = 2 ∨ x = 3 ∨ x = 4 ∨ x = 5 ∨ x = 6 ∨ x = 7 ∨ x = 8 ∨ x = 9 ∨ x = 10 ∨ x = 11 ∨ x = 12 ∨ x = 13 ∨ x = 14 ∨ x = 15 ∨ x = 16 ∨ x = 17 ∨ x = 18 ∨ x = 19 ∨ x = 20 ∨ x = 21 ∨ x = 22 ∨ x = 23 ∨ x = 24 ∨ x = 25 ∨ x = 26 ∨ x = 27 ∨ x = 28 ∨ x = 29 ∨ (x.toInt < 0 ∨ 29 < x.toInt) := by
  by_cases h : x.toInt < 0 ∨ 29 < x.toInt
  · simp only [h, or_true]
  · obtain ⟨j, hj, rfl⟩ := kIn_nat (x := x) (n := 30) ⟨by omega, by omega⟩
    have : ∀ j, j < 30 → nI j = 0 ∨ nI j = 1 ∨ nI j = 2 ∨ nI j = 3 ∨ nI j = 4 ∨ nI j = 5 ∨ nI j = 6 ∨ nI j = 7 ∨ nI j = 8 ∨ nI j = 9 ∨ nI j = 10 ∨ nI j = 11 ∨ nI j = 12 ∨ nI j = 13 ∨ nI j = 14 ∨ nI j = 15 ∨ nI j = 16 ∨ nI j = 17 ∨ nI j = 18 ∨ nI j = 19 ∨ nI j = 20 ∨ nI j = 21 ∨ nI j = 22 ∨ nI j = 23 ∨ nI j = 24 ∨ nI j = 25 ∨ nI j = 26 ∨ nI j = 27 ∨ nI j = 28 ∨ nI j = 29 ∨ ((nI j).toInt < 0 ∨ 29 < (nI j).toInt) := by decide +kernel
    exact this j hj
set_option maxHeartbeats 4000000 in
set_option maxRecDepth 100000 in
theorem law_loop {p : Program} {l : Launch} {e : Env} {s : State} {m : MethodId} {below : List Frame} {meth : Method} {c : Code} {b L : Nat} {xs : Nat → Int32} {D : va_G} {cI cJ cB : ClassId} {q9 q4 q7 q8 q0 q6 q3 q2 q5 q10 : Nat → Nat} (hr : meth.sig.returnType = ret) (hlocks : meth.locks = false) (C1 : LA p s m c b L xs D cI cJ cB (fun q : Nat => s.heap.size ≤ q)) : ∀ (fu i : Nat) (q1 : Nat → Nat) (cc sc : Nat) (n : Nat) (ml : List Mt) (nx : List (Nat × Nat)) (ks : List Nat) (rr : Int32 × Int32 × Int32) (hist : List Tt) (al : List Ac) (e2 : Nat) (w : Nat) (zt : Nat) (ch : Nat) (parts_4 : Nat → Int32) (wins_4 : Nat → Int32) (draws_4 : Nat → Int32) (points_4 : Nat → Int32) (bytes_7 : Nat → Int32) (games_8 : Nat → Int32) (excess_8 : Nat → Int32) (parts_0 : Nat → Int32) (kinds_6 : Nat → Int32) (keys_6 : Nat → Int32) (places_6 : Nat → Int32) (reached_3 : Nat → Int32) (heapNumbers_3 : Nat → Int32) (cells_2 : Nat → Int64) (determinant_2 : Int64) (least_5 : Nat → Int32) (many_5 : Nat → Int32) (seenChanges_5 : Int32) (seenPlayers_5 : Int32) (beaten_1 : Nat → Int32) (unused_1 : Nat → Int32) (ways_1 : Nat → Int32) (lw_1 : Nat) (st_10 : Nat → Int32) (kept_10 : Nat → Int32) (tape_10 : Nat → Int32) (marks_10 : Nat → Int32) (order_10 : Nat → Int32) (reach_10 : Nat → Int32) (heapOf_10 : Nat → Int32) (rows_10 : Nat → Int64) (x_10 : Nat → Int64) (overs_10 : Nat → Int32) (costs_10 : Nat → Int32) (ways_10 : Nat → Int32) (digits_10 : Nat → Int32) (beaten_10 : Nat → Int32) (walks_10 : Nat → Int32), i ≤ L → L - i < fu → RmS lw_1 cc sc → INV i n ml nx ks rr hist al e2 w zt ch parts_4 wins_4 draws_4 points_4 bytes_7 games_8 parts_0 kinds_6 least_5 many_5 seenChanges_5 seenPlayers_5 st_10 kept_10 tape_10 → ∀ (H : Heap) (locs : List Loc), va_P D vwCl (wX9 q9 q4 q7 q8 q0 q6 q3 q2 q5 q1 cI cJ cB (nI n) ++ wX4 q4 cI cJ cB parts_4 wins_4 draws_4 points_4 (nI ml.length) (nI ch) ++ wX7 q7 cI cJ cB bytes_7 (nI zt) ++ wX8 q8 cI cJ cB games_8 excess_8 (nI nx.length) ++ wX0 q0 cI cJ cB parts_0 (nI e2) (nI hist.length) ++ wX6 q6 cI cJ cB kinds_6 keys_6 places_6 (nI ks.length) rr.1 rr.2.1 rr.2.2 ++ wX3 q3 cI cJ cB reached_3 heapNumbers_3 ++ wX2 q2 cI cJ cB cells_2 determinant_2 ++ wX5 q5 cI cJ cB least_5 many_5 seenChanges_5 seenPlayers_5 ++ wX1 q1 cI cJ cB beaten_1 unused_1 ways_1 lw_1 ++ wX10 q10 cI cJ cB st_10 kept_10 (nI hist.length) (nI w) tape_10 (nI zt) marks_10 order_10 reach_10 heapOf_10 rows_10 x_10 overs_10 costs_10 ways_10 digits_10 beaten_10 walks_10) H → va_D (fun q : Nat => s.heap.size ≤ q) (wX9 q9 q4 q7 q8 q0 q6 q3 q2 q5 q1 cI cJ cB (nI n) ++ wX4 q4 cI cJ cB parts_4 wins_4 draws_4 points_4 (nI ml.length) (nI ch) ++ wX7 q7 cI cJ cB bytes_7 (nI zt) ++ wX8 q8 cI cJ cB games_8 excess_8 (nI nx.length) ++ wX0 q0 cI cJ cB parts_0 (nI e2) (nI hist.length) ++ wX6 q6 cI cJ cB kinds_6 keys_6 places_6 (nI ks.length) rr.1 rr.2.1 rr.2.2 ++ wX3 q3 cI cJ cB reached_3 heapNumbers_3 ++ wX2 q2 cI cJ cB cells_2 determinant_2 ++ wX5 q5 cI cJ cB least_5 many_5 seenChanges_5 seenPlayers_5 ++ wX1 q1 cI cJ cB beaten_1 unused_1 ways_1 lw_1 ++ wX10 q10 cI cJ cB st_10 kept_10 (nI hist.length) (nI w) tape_10 (nI zt) marks_10 order_10 reach_10 heapOf_10 rows_10 x_10 overs_10 costs_10 ways_10 digits_10 beaten_10 walks_10) → va_S (fun q : Nat => s.heap.size ≤ q) s.heap H locs → ∀ (ls : Array Slot), lv_has ls 4 [(0, .ref b), (1, .ref (q9 0)), (2, .ref (q10 0)), (3, .int (nI i))] → W p l e room_1 s m #[.ref b] below meth c H locs cc sc (lw_Z below #[.ref b] s) (F0 m 18 ls []) := by
  obtain ⟨hx, hb, hml, hown, hts, hKW, hA, hX, hbl, hbA, hL0⟩ := id C1
  intro fu
  induction fu with
  | zero => intro i q1 cc sc n ml nx ks rr hist al e2 w zt ch parts_4 wins_4 draws_4 points_4 bytes_7 games_8 excess_8 parts_0 kinds_6 keys_6 places_6 reached_3 heapNumbers_3 cells_2 determinant_2 least_5 many_5 seenChanges_5 seenPlayers_5 beaten_1 unused_1 ways_1 lw_1 st_10 kept_10 tape_10 marks_10 order_10 reach_10 heapOf_10 rows_10 x_10 overs_10 costs_10 ways_10 digits_10 beaten_10 walks_10 h1 h2; exact absurd h2 (Nat.not_lt_zero _)
  | succ fu ih =>
    intro i q1 cc sc n ml nx ks rr hist al e2 w zt ch parts_4 wins_4 draws_4 points_4 bytes_7 games_8 excess_8 parts_0 kinds_6 keys_6 places_6 reached_3 heapNumbers_3 cells_2 determinant_2 least_5 many_5 seenChanges_5 seenPlayers_5 beaten_1 unused_1 ways_1 lw_1 st_10 kept_10 tape_10 marks_10 order_10 reach_10 heapOf_10 rows_10 x_10 overs_10 costs_10 ways_10 digits_10 beaten_10 walks_10 hiL hfu hcs hI H locs hP hD hS ls hl
    refine lv_iload_n hx hb dL_law_18 rfl (lv_at hl 3 rfl) ?_
    refine lv_aload_n hx hb dL_law_19 rfl (lv_at hl 0 rfl) ?_
    refine va_slen hx hb hX hbl hbA hS dL_law_20 ?_
    refine lv_bipush (v := nI 6) hx hb dL_law_21 (by decide) ?_
    refine lv_isub hx hb dL_law_23 ?_
    refine lv_icmp_gt (tgt := 936) hx hb dL_law_24 (by decide) (fun c_24 => ?_) (fun c_24 => ?_)
    · refine lv_iconst (v := 1) hx hb dL_law_936 (by decide) ?_
      refine va_forget (fun q hq => hS.2.2 q hq) ?_
      refine W.widen (k := 600000) (n := 7302250) hcs.fit.1 hcs.fit.2 ?_
      exact lw_ret hx hb hr hlocks dL_law_937
    · have hi : i + 6 ≤ L := k_gt6 hL0 (by omega) c_24
      have hback : Back p l e s m below meth c b D cI cJ cB q9 q4 q7 q8 q0 q6 q3 q2 q5 q10 (fun q : Nat => s.heap.size ≤ q) (lw_Z below #[.ref b] s) i := by
        intro q1 cc sc n ml nx ks rr hist al e2 w zt ch parts_4 wins_4 draws_4 points_4 bytes_7 games_8 excess_8 parts_0 kinds_6 keys_6 places_6 reached_3 heapNumbers_3 cells_2 determinant_2 least_5 many_5 seenChanges_5 seenPlayers_5 beaten_1 unused_1 ways_1 lw_1 st_10 kept_10 tape_10 marks_10 order_10 reach_10 heapOf_10 rows_10 x_10 overs_10 costs_10 ways_10 digits_10 beaten_10 walks_10 hcs hI H locs hP hD hS ls hl
        refine lv_iinc (v := nI (i + 6)) (lv' := [(3, .int (nI (i + 6))), (0, .ref b), (1, .ref (q9 0)), (2, .ref (q10 0))]) hx hb dL_law_930 hl (k := 3) rfl (nI_add _ _) (by decide) rfl (fun ls hl => ?_)
        refine lv_goto (tgt := 18) hx hb dL_law_933 (by decide) ?_
        exact ih (i + 6) q1 cc sc n ml nx ks rr hist al e2 w zt ch parts_4 wins_4 draws_4 points_4 bytes_7 games_8 excess_8 parts_0 kinds_6 keys_6 places_6 reached_3 heapNumbers_3 cells_2 determinant_2 least_5 many_5 seenChanges_5 seenPlayers_5 beaten_1 unused_1 ways_1 lw_1 st_10 kept_10 tape_10 marks_10 order_10 reach_10 heapOf_10 rows_10 x_10 overs_10 costs_10 ways_10 digits_10 beaten_10 walks_10 hi (by omega) hcs hI H locs hP hD hS ls (lv_sub hl [1, 2, 3, 0] rfl)
      refine lv_aload_n hx hb dL_law_27 rfl (lv_at hl 0 rfl) ?_
      refine lv_iload_n hx hb dL_law_28 rfl (lv_at hl 3 rfl) ?_
      refine k_sld hx hb hX hbl hbA hS (by omega) (by omega) dL_law_29 ?_
      refine lv_bipush (v := nI 31) hx hb dL_law_30 (by decide) ?_
      refine lv_iand hx hb dL_law_32 ?_
      rcases sw_split (xs i &&& nI 31) with h9 | h9 | h9 | h9 | h9 | h9 | h9 | h9 | h9 | h9 | h9 | h9 | h9 | h9 | h9 | h9 | h9 | h9 | h9 | h9 | h9 | h9 | h9 | h9 | h9 | h9 | h9 | h9 | h9 | h9 | h9
      · refine k_top (y := (0 : Int32)) h9 ?_
        refine lv_tableIn (off := 135) (tgt := 168) hx hb dL_law_33 (by decide) (by decide) (by decide) (by decide) ?_
        exact law_0 C1 hi hcs hI hback hP hD hS hl
      · refine k_top (y := (1 : Int32)) h9 ?_
        refine lv_tableIn (off := 148) (tgt := 181) hx hb dL_law_33 (by decide) (by decide) (by decide) (by decide) ?_
        exact law_1 C1 hi hcs hI hback hP hD hS hl
      · refine k_top (y := (2 : Int32)) h9 ?_
        refine lv_tableIn (off := 201) (tgt := 234) hx hb dL_law_33 (by decide) (by decide) (by decide) (by decide) ?_
        exact law_2 C1 hi hcs hI hback hP hD hS hl
      · refine k_top (y := (3 : Int32)) h9 ?_
        refine lv_tableIn (off := 264) (tgt := 297) hx hb dL_law_33 (by decide) (by decide) (by decide) (by decide) ?_
        exact law_3 C1 hi hcs hI hback hP hD hS hl
      · refine k_top (y := (4 : Int32)) h9 ?_
        refine lv_tableIn (off := 287) (tgt := 320) hx hb dL_law_33 (by decide) (by decide) (by decide) (by decide) ?_
        exact law_4 C1 hi hcs hI hback hP hD hS hl
      · refine k_top (y := (5 : Int32)) h9 ?_
        refine lv_tableIn (off := 310) (tgt := 343) hx hb dL_law_33 (by decide) (by decide) (by decide) (by decide) ?_
        exact law_5 C1 hi hcs hI hback hP hD hS hl
      · refine k_top (y := (6 : Int32)) h9 ?_
        refine lv_tableIn (off := 343) (tgt := 376) hx hb dL_law_33 (by decide) (by decide) (by decide) (by decide) ?_
        exact law_6 C1 hi hcs hI hback hP hD hS hl
      · refine k_top (y := (7 : Int32)) h9 ?_
        refine lv_tableIn (off := 386) (tgt := 419) hx hb dL_law_33 (by decide) (by decide) (by decide) (by decide) ?_
        exact law_7 C1 hi hcs hI hback hP hD hS hl
      · refine k_top (y := (8 : Int32)) h9 ?_
        refine lv_tableIn (off := 409) (tgt := 442) hx hb dL_law_33 (by decide) (by decide) (by decide) (by decide) ?_
        exact law_8 C1 hi hcs hI hback hP hD hS hl
      · refine k_top (y := (9 : Int32)) h9 ?_
        refine lv_tableIn (off := 422) (tgt := 455) hx hb dL_law_33 (by decide) (by decide) (by decide) (by decide) ?_
        exact law_9 C1 hi hcs hI hback hP hD hS hl
      · refine k_top (y := (10 : Int32)) h9 ?_
        refine lv_tableIn (off := 455) (tgt := 488) hx hb dL_law_33 (by decide) (by decide) (by decide) (by decide) ?_
        exact law_10 C1 hi hcs hI hback hP hD hS hl
      · refine k_top (y := (11 : Int32)) h9 ?_
        refine lv_tableIn (off := 488) (tgt := 521) hx hb dL_law_33 (by decide) (by decide) (by decide) (by decide) ?_
        exact law_11 C1 hi hcs hI hback hP hD hS hl
      · refine k_top (y := (12 : Int32)) h9 ?_
        refine lv_tableIn (off := 511) (tgt := 544) hx hb dL_law_33 (by decide) (by decide) (by decide) (by decide) ?_
        exact law_12 C1 hi hcs hI hback hP hD hS hl
      · refine k_top (y := (13 : Int32)) h9 ?_
        refine lv_tableIn (off := 544) (tgt := 577) hx hb dL_law_33 (by decide) (by decide) (by decide) (by decide) ?_
        exact law_13 C1 hi hcs hI hback hP hD hS hl
      · refine k_top (y := (14 : Int32)) h9 ?_
        refine lv_tableIn (off := 567) (tgt := 600) hx hb dL_law_33 (by decide) (by decide) (by decide) (by decide) ?_
        exact law_14 C1 hi hcs hI hback hP hD hS hl
      · refine k_top (y := (15 : Int32)) h9 ?_
        refine lv_tableIn (off := 590) (tgt := 623) hx hb dL_law_33 (by decide) (by decide) (by decide) (by decide) ?_
        exact law_15 C1 hi hcs hI hback hP hD hS hl
      · refine k_top (y := (16 : Int32)) h9 ?_
        refine lv_tableIn (off := 603) (tgt := 636) hx hb dL_law_33 (by decide) (by decide) (by decide) (by decide) ?_
        exact law_16 C1 hi hcs hI hback hP hD hS hl
      · refine k_top (y := (17 : Int32)) h9 ?_
        refine lv_tableIn (off := 626) (tgt := 659) hx hb dL_law_33 (by decide) (by decide) (by decide) (by decide) ?_
        exact law_17 C1 hi hcs hI hback hP hD hS hl
      · refine k_top (y := (18 : Int32)) h9 ?_
        refine lv_tableIn (off := 660) (tgt := 693) hx hb dL_law_33 (by decide) (by decide) (by decide) (by decide) ?_
        exact law_18 C1 hi hcs hI hback hP hD hS hl
      · refine k_top (y := (19 : Int32)) h9 ?_
        refine lv_tableIn (off := 713) (tgt := 746) hx hb dL_law_33 (by decide) (by decide) (by decide) (by decide) ?_
        exact law_19 C1 hi hcs hI hback hP hD hS hl
      · refine k_top (y := (20 : Int32)) h9 ?_
        refine lv_tableIn (off := 726) (tgt := 759) hx hb dL_law_33 (by decide) (by decide) (by decide) (by decide) ?_
        exact law_20 C1 hi hcs hI hback hP hD hS hl
      · refine k_top (y := (21 : Int32)) h9 ?_
        refine lv_tableIn (off := 739) (tgt := 772) hx hb dL_law_33 (by decide) (by decide) (by decide) (by decide) ?_
        exact law_21 C1 hi hcs hI hback hP hD hS hl
      · refine k_top (y := (22 : Int32)) h9 ?_
        refine lv_tableIn (off := 753) (tgt := 786) hx hb dL_law_33 (by decide) (by decide) (by decide) (by decide) ?_
        exact law_22 C1 hi hcs hI hback hP hD hS hl
      · refine k_top (y := (23 : Int32)) h9 ?_
        refine lv_tableIn (off := 766) (tgt := 799) hx hb dL_law_33 (by decide) (by decide) (by decide) (by decide) ?_
        exact law_23 C1 hi hcs hI hback hP hD hS hl
      · refine k_top (y := (24 : Int32)) h9 ?_
        refine lv_tableIn (off := 779) (tgt := 812) hx hb dL_law_33 (by decide) (by decide) (by decide) (by decide) ?_
        exact law_24 C1 hi hcs hI hback hP hD hS hl
      · refine k_top (y := (25 : Int32)) h9 ?_
        refine lv_tableIn (off := 792) (tgt := 825) hx hb dL_law_33 (by decide) (by decide) (by decide) (by decide) ?_
        exact law_25 C1 hi hcs hI hback hP hD hS hl
      · refine k_top (y := (26 : Int32)) h9 ?_
        refine lv_tableIn (off := 805) (tgt := 838) hx hb dL_law_33 (by decide) (by decide) (by decide) (by decide) ?_
        exact law_26 C1 hi hcs hI hback hP hD hS hl
      · refine k_top (y := (27 : Int32)) h9 ?_
        refine lv_tableIn (off := 828) (tgt := 861) hx hb dL_law_33 (by decide) (by decide) (by decide) (by decide) ?_
        exact law_27 C1 hi hcs hI hback hP hD hS hl
      · refine k_top (y := (28 : Int32)) h9 ?_
        refine lv_tableIn (off := 851) (tgt := 884) hx hb dL_law_33 (by decide) (by decide) (by decide) (by decide) ?_
        exact law_28 C1 hi hcs hI hback hP hD hS hl
      · refine k_top (y := (29 : Int32)) h9 ?_
        refine lv_tableIn (off := 874) (tgt := 907) hx hb dL_law_33 (by decide) (by decide) (by decide) (by decide) ?_
        exact law_29 C1 hi hcs hI hback hP hD hS hl
      · refine lv_tableOut (tgt := 930) hx hb dL_law_33 h9 (by decide) ?_
        exact hback hcs (INV_q hI) _ _ hP hD hS ls hl
