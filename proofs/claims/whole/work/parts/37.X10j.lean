def rmX10_first : Room := { frames := 4, cells := 0, slots := 0, locals := 91 }
set_option maxHeartbeats 4000000 in
set_option maxRecDepth 100000 in
theorem c_X10_first (l : Launch) (D : va_G) (cI cJ cB : ClassId) (q10 : Nat → Nat) (st_10 : Nat → Int32) (kept_10 : Nat → Int32) (undoable_10 : Int32) (newest_10 : Int32) (tape_10 : Nat → Int32) (taped_10 : Int32) (marks_10 : Nat → Int32) (order_10 : Nat → Int32) (reach_10 : Nat → Int32) (heapOf_10 : Nat → Int32) (rows_10 : Nat → Int64) (x_10 : Nat → Int64) (overs_10 : Nat → Int32) (costs_10 : Nat → Int32) (ways_10 : Nat → Int32) (digits_10 : Nat → Int32) (beaten_10 : Nat → Int32) (walks_10 : Nat → Int32) (n : Nat) (ml : List Mt) (nx : List (Nat × Nat)) (ks : List Nat) (rr : Int32 × Int32 × Int32) (hR : RS st_10 n ml nx ks rr) (hV : VS n ml nx ks) : ∀ sz, Met l yX10_first wsX10_first rmX10_first (va_Pc [.ref (q10 0)] (PW D (kT cI cJ cB) sz (wX10 q10 cI cJ cB st_10 kept_10 undoable_10 newest_10 tape_10 taped_10 marks_10 order_10 reach_10 heapOf_10 rows_10 x_10 overs_10 costs_10 ways_10 digits_10 beaten_10 walks_10))) (va_Ql (S := (Nat → Int32) × (Nat → Int32) × (Nat → Int32)) (fun r uu => match uu with | (overs_10', costs_10', ways_10') => ∃ cs ws, FilOK ml n cs ws 0 ∧ r = (rwG (hdG ml n cs) n).1) (QW D sz (wX10 q10 cI cJ cB st_10 kept_10 undoable_10 newest_10 tape_10 taped_10 marks_10 order_10 reach_10 heapOf_10 rows_10 x_10 overs_10 costs_10 ways_10 digits_10 beaten_10 walks_10) (fun uu => match uu with | (overs_10', costs_10', ways_10') => (wX10 q10 cI cJ cB st_10 kept_10 undoable_10 newest_10 tape_10 taped_10 marks_10 order_10 reach_10 heapOf_10 rows_10 x_10 overs_10' costs_10' ways_10' digits_10 beaten_10 walks_10))) (va_A (wX10 q10 cI cJ cB st_10 kept_10 undoable_10 newest_10 tape_10 taped_10 marks_10 order_10 reach_10 heapOf_10 rows_10 x_10 overs_10 costs_10 ways_10 digits_10 beaten_10 walks_10) sz)) 0 0 (va_A (wX10 q10 cI cJ cB st_10 kept_10 undoable_10 newest_10 tape_10 taped_10 marks_10 order_10 reach_10 heapOf_10 rows_10 x_10 overs_10 costs_10 ways_10 digits_10 beaten_10 walks_10) sz) := by
  intro sz
  refine Met.ofW (cc := cX10_first) (maxL := 7) (ret := (some .long)) (by decide) rfl ?_
  intro p e s m args below meth c s₁ B hml hv
  obtain ⟨hav, hsz, hP, hKW, hD0⟩ := hv
  have hx := B.exec
  have hb := B.bytes
  have hr := B.returns
  have hts := atoms_spec (ws := wsX10_first) B.pre
  have hown : s.vm.findClass RX10 = some m.cls := findClass_of_methodNamed B.named
  have hlocks := B.notSynchronized
  subst hsz
  have hD := hD0.self (sz := s.heap.size)
  obtain ⟨A, hAe⟩ : ∃ A : Nat → Prop, A = va_A (wX10 q10 cI cJ cB st_10 kept_10 undoable_10 newest_10 tape_10 taped_10 marks_10 order_10 reach_10 heapOf_10 rows_10 x_10 overs_10 costs_10 ways_10 digits_10 beaten_10 walks_10) s.heap.size := ⟨_, rfl⟩
  rw [← hAe] at hD
  have hA : ∀ q : Nat, s.heap.size ≤ q → A q := fun q h => by rw [hAe]; exact Or.inr h
  have hS : va_S A s.heap s.heap [] := va_S.rf
  refine k_gen (fun Q hQ => ?_)
  have hl := lv_entry ([.ref (q10 0)]) (n := 7) (Nat.le_of_ble_eq_true rfl)
  refine k_entry hav (lg_entry_eq ..) ?_
  generalize (lg_sl ([.ref (q10 0)]) ++ List.replicate (7 - (lg_sl ([.ref (q10 0)])).length) Slot.unset).toArray = ls at hl ⊢
  have hl : lv_has ls 7 [(0, .ref (q10 0))] := hl
  have hu_10 : ∀ w ∈ u_ws RX10 TX10 18, w ∈ wsX10_first := by decide +kernel
  have hf_41 : Cond.fieldLink RX10 41 "MeetingRanksModel" "costs" "[I" ∈ wsX10_first := by decide +kernel
  have hn1 := hV.1
  have hn10 := hV.2.1
  have hm120 := hV.2.2.1
  have hx40 := hV.2.2.2.2.1
  have hk4 := hV.2.2.2.2.2.2.1
  have h2n := pow_le_1024 hn10
  have h2p := Nat.two_pow_pos n
  refine lv_aload_n hx hb dX10_first_0 rfl (lv_at hl 0 rfl) ?_
  have hs_1 : kSplit (wX10 q10 cI cJ cB st_10 kept_10 undoable_10 newest_10 tape_10 taped_10 marks_10 order_10 reach_10 heapOf_10 rows_10 x_10 overs_10 costs_10 ways_10 digits_10 beaten_10 walks_10) (wX10 q10 cI cJ cB st_10 kept_10 undoable_10 newest_10 tape_10 taped_10 marks_10 order_10 reach_10 heapOf_10 rows_10 x_10 overs_10 costs_10 ways_10 digits_10 beaten_10 walks_10) ([] : va_W) [0, 1, 2, 3, 4, 5, 6, 7, 8, 9, 10, 11, 12, 13, 14, 15] [] := ⟨rfl, rfl, rfl, rfl, rfl, by decide⟩
  refine kc_v hP hD hS hA hs_1 (kV (As := []) (rest := []) hx hb hml hown hts hKW hP hD hs_1 (c_X10_fill l D cI cJ cB q10 st_10 kept_10 undoable_10 newest_10 tape_10 taped_10 marks_10 order_10 reach_10 heapOf_10 rows_10 x_10 overs_10 costs_10 ways_10 digits_10 beaten_10 walks_10 n ml nx ks rr (by first | assumption | omega) (by first | assumption | omega)) (cwV 0 hts gX10_first_X10_fill rfl rfl rfl (by decide +kernel) ⟨Nat.le_of_ble_eq_true rfl, Nat.le_of_ble_eq_true rfl⟩) 0 10 rfl rfl rfl rfl hl.1 rfl (Nat.le_of_ble_eq_true rfl) dX10_first_1 ⟨Nat.zero_le _, Nat.zero_le _⟩) (fun u_1 H locs hw_1 hP hD hS => ?_)
  obtain ⟨overs_10_1, costs_10_1, ways_10_1⟩ := u_1
  have hP : va_P D vwCl (wX10 q10 cI cJ cB st_10 kept_10 undoable_10 newest_10 tape_10 taped_10 marks_10 order_10 reach_10 heapOf_10 rows_10 x_10 overs_10_1 costs_10_1 ways_10_1 digits_10 beaten_10 walks_10) H := hP.sub (ws' := (wX10 q10 cI cJ cB st_10 kept_10 undoable_10 newest_10 tape_10 taped_10 marks_10 order_10 reach_10 heapOf_10 rows_10 x_10 overs_10_1 costs_10_1 ways_10_1 digits_10 beaten_10 walks_10)) [0, 1, 2, 3, 4, 5, 6, 7, 8, 9, 10, 11, 12, 13, 14, 15] rfl
  have hD : va_D A (wX10 q10 cI cJ cB st_10 kept_10 undoable_10 newest_10 tape_10 taped_10 marks_10 order_10 reach_10 heapOf_10 rows_10 x_10 overs_10_1 costs_10_1 ways_10_1 digits_10 beaten_10 walks_10) := hD.sub (ws' := (wX10 q10 cI cJ cB st_10 kept_10 undoable_10 newest_10 tape_10 taped_10 marks_10 order_10 reach_10 heapOf_10 rows_10 x_10 overs_10_1 costs_10_1 ways_10_1 digits_10 beaten_10 walks_10)) [0, 1, 2, 3, 4, 5, 6, 7, 8, 9, 10, 11, 12, 13, 14, 15] (by decide) rfl
  refine lv_lconst (v := 0) hx hb dX10_first_4 (by decide) ?_
  refine lv_lstore_n (lv' := [(1, .long (0 : Int64)), (0, .ref (q10 0))]) hx hb dX10_first_5 rfl hl (by decide) rfl (fun ls hl => ?_)
  refine lv_iconst (v := nI 0) hx hb dX10_first_6 (by decide) ?_
  refine lv_istore_n (lv' := [(3, .int (nI 0)), (1, .long (0 : Int64)), (0, .ref (q10 0))]) hx hb dX10_first_7 rfl hl (by decide) rfl (fun ls hl => ?_)
  refine lv_iconst (v := nI 0) hx hb dX10_first_8 (by decide) ?_
  refine lv_istore (lv' := [(4, .int (nI 0)), (3, .int (nI 0)), (1, .long (0 : Int64)), (0, .ref (q10 0))]) hx hb dX10_first_9 hl (by decide) rfl (fun ls hl => ?_)
  have hL_11 : ∀ (fu : Nat) (k : Nat) (hk : k ≤ n), n - k < fu → ∀ (H : Heap) (locs : List Loc), va_P D vwCl (wX10 q10 cI cJ cB st_10 kept_10 undoable_10 newest_10 tape_10 taped_10 marks_10 order_10 reach_10 heapOf_10 rows_10 x_10 overs_10_1 costs_10_1 ways_10_1 digits_10 beaten_10 walks_10) H → va_D A (wX10 q10 cI cJ cB st_10 kept_10 undoable_10 newest_10 tape_10 taped_10 marks_10 order_10 reach_10 heapOf_10 rows_10 x_10 overs_10_1 costs_10_1 ways_10_1 digits_10 beaten_10 walks_10) → va_S A s.heap H locs → ∀ (ls : Array Slot), lv_has ls 7 [(0, .ref (q10 0)), (1, .long ((rwG (hdG ml n costs_10_1) k).1)), (3, .int (nI ((rwG (hdG ml n costs_10_1) k).2))), (4, .int (nI k))] → W p l e (headSpec wsX10_first rmX10_first).room s m args below meth c H locs 0 0 Q (F0 m 11 ls []) := by
    intro fu
    induction fu with
    | zero => intro k hk hfu; exact absurd hfu (Nat.not_lt_zero _)
    | succ fu ih_11 =>
      intro k hk hfu H locs hP hD hS ls hl
      have hst9 := (rwG_set hn10 hw_1.2 k hk).1
      have hpc9 := (rwG_set hn10 hw_1.2 k hk).2
      refine lv_iload hx hb dX10_first_11 (lv_at hl 3 rfl) ?_
      refine lv_aload_n hx hb dX10_first_13 rfl (lv_at hl 0 rfl) ?_
      have hs_14 : kSplit (wX10 q10 cI cJ cB st_10 kept_10 undoable_10 newest_10 tape_10 taped_10 marks_10 order_10 reach_10 heapOf_10 rows_10 x_10 overs_10_1 costs_10_1 ways_10_1 digits_10 beaten_10 walks_10) (wX10 q10 cI cJ cB st_10 kept_10 undoable_10 newest_10 tape_10 taped_10 marks_10 order_10 reach_10 heapOf_10 rows_10 x_10 overs_10_1 costs_10_1 ways_10_1 digits_10 beaten_10 walks_10) ([] : va_W) [0, 1, 2, 3, 4, 5, 6, 7, 8, 9, 10, 11, 12, 13, 14, 15] [] := ⟨rfl, rfl, rfl, rfl, rfl, by decide⟩
      refine kc_i hP hD hS hA hs_14 (kV (As := []) (rest := [.int (nI k)]) hx hb hml hown hts hKW hP hD hs_14 (c_X10_n l D cI cJ cB q10 st_10 kept_10 undoable_10 newest_10 tape_10 taped_10 marks_10 order_10 reach_10 heapOf_10 rows_10 x_10 overs_10_1 costs_10_1 ways_10_1 digits_10 beaten_10 walks_10 n ml nx ks rr (by first | assumption | omega) (by first | assumption | omega)) (cwV 0 hts gX10_first_X10_n rfl rfl rfl (by decide +kernel) ⟨Nat.le_of_ble_eq_true rfl, Nat.le_of_ble_eq_true rfl⟩) 0 10 rfl rfl rfl rfl hl.1 rfl (Nat.le_of_ble_eq_true rfl) dX10_first_14 ⟨Nat.zero_le _, Nat.zero_le _⟩) (fun r_14 u_14 H locs hw_14 hP hD hS => ?_)
      have er_14 := hw_14
      have er_14 := er_14.symm
      subst er_14
      have hP : va_P D vwCl (wX10 q10 cI cJ cB st_10 kept_10 undoable_10 newest_10 tape_10 taped_10 marks_10 order_10 reach_10 heapOf_10 rows_10 x_10 overs_10_1 costs_10_1 ways_10_1 digits_10 beaten_10 walks_10) H := hP.sub (ws' := (wX10 q10 cI cJ cB st_10 kept_10 undoable_10 newest_10 tape_10 taped_10 marks_10 order_10 reach_10 heapOf_10 rows_10 x_10 overs_10_1 costs_10_1 ways_10_1 digits_10 beaten_10 walks_10)) [0, 1, 2, 3, 4, 5, 6, 7, 8, 9, 10, 11, 12, 13, 14, 15] rfl
      have hD : va_D A (wX10 q10 cI cJ cB st_10 kept_10 undoable_10 newest_10 tape_10 taped_10 marks_10 order_10 reach_10 heapOf_10 rows_10 x_10 overs_10_1 costs_10_1 ways_10_1 digits_10 beaten_10 walks_10) := hD.sub (ws' := (wX10 q10 cI cJ cB st_10 kept_10 undoable_10 newest_10 tape_10 taped_10 marks_10 order_10 reach_10 heapOf_10 rows_10 x_10 overs_10_1 costs_10_1 ways_10_1 digits_10 beaten_10 walks_10)) [0, 1, 2, 3, 4, 5, 6, 7, 8, 9, 10, 11, 12, 13, 14, 15] (by decide) rfl
      refine lv_icmp_ge (tgt := 110) hx hb dX10_first_17 (by decide) (fun c_17 => ?_) (fun c_17 => ?_)
      · skip
        have c_17 := k_ge (by omega) (by omega) c_17
        obtain rfl : n = k := by omega
        refine lv_lload_n hx hb dX10_first_110 rfl (lv_at hl 1 rfl) ?_
        subst hQ; subst hAe
        exact W.lret (v := (rwG (hdG ml n costs_10_1) n).1) hx hb hr (fun tt9 ht9 _ => ⟨⟨(rwG (hdG ml n costs_10_1) n).1, (overs_10_1, costs_10_1, ways_10_1), rfl, ⟨_, _, hw_1.2, rfl⟩, by rw [ht9]; exact hP, hD⟩, hS.F ht9⟩) hS.2.2 dX10_first_111
      · skip
        have c_17 := k_ge_n (by omega) (by omega) c_17
        obtain ⟨q9, hq9⟩ := hd_some hw_1.2 (s := (rwG (hdG ml n costs_10_1) k).2) (by have : (rwG (hdG ml n costs_10_1) k).2 ≠ 2 ^ n - 1 := fun z => (by rw [z, pcF_all n (by omega)] at hpc9; omega); omega)
        have hJ_87 : ∀ (j : Nat) (hj : srch (hdP ml n costs_10_1 (rwG (hdG ml n costs_10_1) k).2) 0 n = some j), ∀ (H : Heap) (locs : List Loc), va_P D vwCl (wX10 q10 cI cJ cB st_10 kept_10 undoable_10 newest_10 tape_10 taped_10 marks_10 order_10 reach_10 heapOf_10 rows_10 x_10 overs_10_1 costs_10_1 ways_10_1 digits_10 beaten_10 walks_10) H → va_D A (wX10 q10 cI cJ cB st_10 kept_10 undoable_10 newest_10 tape_10 taped_10 marks_10 order_10 reach_10 heapOf_10 rows_10 x_10 overs_10_1 costs_10_1 ways_10_1 digits_10 beaten_10 walks_10) → va_S A s.heap H locs → ∀ (ls : Array Slot), lv_has ls 7 [(0, .ref (q10 0)), (1, .long ((rwG (hdG ml n costs_10_1) k).1)), (3, .int (nI ((rwG (hdG ml n costs_10_1) k).2))), (4, .int (nI k)), (5, .int (nI j))] → W p l e (headSpec wsX10_first rmX10_first).room s m args below meth c H locs 0 0 Q (F0 m 87 ls []) := by
          intro j hj H locs hP hD hS ls hl
          have hjn9 := (srch_some hj).2.1
          have hdj : hdG ml n costs_10_1 (rwG (hdG ml n costs_10_1) k).2 = j := hdG_eq hj
          refine lv_ldc2 (v := (10 : Int64)) hx hb hown (hts (.constantLong RX10 156 (10)) (by decide +kernel)) dX10_first_87 ?_
          refine lv_lload_n hx hb dX10_first_90 rfl (lv_at hl 1 rfl) ?_
          refine lv_lmul hx hb dX10_first_91 ?_
          refine lv_iload hx hb dX10_first_92 (lv_at hl 4 rfl) ?_
          refine lv_i2l (v := (nI j).toInt64) hx hb dX10_first_94 rfl ?_
          refine lv_ladd hx hb dX10_first_95 ?_
          refine lv_lstore_n (lv' := [(1, .long (((10 : Int64) * ((rwG (hdG ml n costs_10_1) k).1)) + ((nI j).toInt64))), (0, .ref (q10 0)), (3, .int (nI ((rwG (hdG ml n costs_10_1) k).2))), (4, .int (nI k)), (5, .int (nI j))]) hx hb dX10_first_96 rfl hl (by decide) rfl (fun ls hl => ?_)
          refine lv_iload_n hx hb dX10_first_97 rfl (lv_at hl 2 rfl) ?_
          refine lv_iconst (v := nI 1) hx hb dX10_first_98 (by decide) ?_
          refine lv_iload hx hb dX10_first_99 (lv_at hl 4 rfl) ?_
          refine lv_ishl hx hb dX10_first_101 ?_
          refine k_top (y := nI (2 ^ j)) (k_shl1 (by omega)) ?_
          refine lv_ior hx hb dX10_first_102 ?_
          refine k_top (y := nI ((rwG (hdG ml n costs_10_1) k).2 ||| 2 ^ j)) (k_or _ _) ?_
          refine lv_istore_n (lv' := [(3, .int (nI ((rwG (hdG ml n costs_10_1) k).2 ||| 2 ^ j))), (1, .long (((10 : Int64) * ((rwG (hdG ml n costs_10_1) k).1)) + ((nI j).toInt64))), (0, .ref (q10 0)), (4, .int (nI k)), (5, .int (nI j))]) hx hb dX10_first_103 rfl hl (by decide) rfl (fun ls hl => ?_)
          refine lv_iinc (v := nI (k + 1)) (lv' := [(4, .int (nI (k + 1))), (3, .int (nI ((rwG (hdG ml n costs_10_1) k).2 ||| 2 ^ j))), (1, .long (((10 : Int64) * ((rwG (hdG ml n costs_10_1) k).1)) + ((nI j).toInt64))), (0, .ref (q10 0)), (5, .int (nI j))]) hx hb dX10_first_104 hl (k := 3) rfl (nI_add _ _) (by decide) rfl (fun ls hl => ?_)
          refine lv_goto (tgt := 11) hx hb dX10_first_107 (by decide) ?_
          rw [← hdj] at hl
          exact ih_11 (k + 1) (by omega) (by omega) _ _ hP hD hS ls (lv_sub hl [3, 2, 1, 0] rfl)
        refine lv_iconst (v := (-1)) hx hb dX10_first_20 (by decide) ?_
        refine lv_istore (lv' := [(5, .int (-1)), (0, .ref (q10 0)), (1, .long ((rwG (hdG ml n costs_10_1) k).1)), (3, .int (nI ((rwG (hdG ml n costs_10_1) k).2))), (4, .int (nI k))]) hx hb dX10_first_21 hl (by decide) rfl (fun ls hl => ?_)
        refine lv_iconst (v := nI 0) hx hb dX10_first_23 (by decide) ?_
        refine lv_istore (lv' := [(6, .int (nI 0)), (5, .int (-1)), (0, .ref (q10 0)), (1, .long ((rwG (hdG ml n costs_10_1) k).1)), (3, .int (nI ((rwG (hdG ml n costs_10_1) k).2))), (4, .int (nI k))]) hx hb dX10_first_24 hl (by decide) rfl (fun ls hl => ?_)
        have hL_26 : ∀ (fu : Nat) (p1 : Nat) (v : Int32) (hp1 : p1 ≤ n) (hv : (v = -1 ∧ srch (hdP ml n costs_10_1 (rwG (hdG ml n costs_10_1) k).2) 0 n = srch (hdP ml n costs_10_1 (rwG (hdG ml n costs_10_1) k).2) p1 (n - p1)) ∨ ∃ j, v = nI j ∧ srch (hdP ml n costs_10_1 (rwG (hdG ml n costs_10_1) k).2) 0 n = some j), n - p1 < fu → ∀ (H : Heap) (locs : List Loc), va_P D vwCl (wX10 q10 cI cJ cB st_10 kept_10 undoable_10 newest_10 tape_10 taped_10 marks_10 order_10 reach_10 heapOf_10 rows_10 x_10 overs_10_1 costs_10_1 ways_10_1 digits_10 beaten_10 walks_10) H → va_D A (wX10 q10 cI cJ cB st_10 kept_10 undoable_10 newest_10 tape_10 taped_10 marks_10 order_10 reach_10 heapOf_10 rows_10 x_10 overs_10_1 costs_10_1 ways_10_1 digits_10 beaten_10 walks_10) → va_S A s.heap H locs → ∀ (ls : Array Slot), lv_has ls 7 [(0, .ref (q10 0)), (1, .long ((rwG (hdG ml n costs_10_1) k).1)), (3, .int (nI ((rwG (hdG ml n costs_10_1) k).2))), (4, .int (nI k)), (5, .int v), (6, .int (nI p1))] → W p l e (headSpec wsX10_first rmX10_first).room s m args below meth c H locs 0 0 Q (F0 m 26 ls []) := by
          intro fu
          induction fu with
          | zero => intro p1 v hp1 hv hfu; exact absurd hfu (Nat.not_lt_zero _)
          | succ fu ih_26 =>
            intro p1 v hp1 hv hfu H locs hP hD hS ls hl
            refine lv_iload hx hb dX10_first_26 (lv_at hl 5 rfl) ?_
            refine lv_aload_n hx hb dX10_first_28 rfl (lv_at hl 0 rfl) ?_
            have hs_29 : kSplit (wX10 q10 cI cJ cB st_10 kept_10 undoable_10 newest_10 tape_10 taped_10 marks_10 order_10 reach_10 heapOf_10 rows_10 x_10 overs_10_1 costs_10_1 ways_10_1 digits_10 beaten_10 walks_10) (wX10 q10 cI cJ cB st_10 kept_10 undoable_10 newest_10 tape_10 taped_10 marks_10 order_10 reach_10 heapOf_10 rows_10 x_10 overs_10_1 costs_10_1 ways_10_1 digits_10 beaten_10 walks_10) ([] : va_W) [0, 1, 2, 3, 4, 5, 6, 7, 8, 9, 10, 11, 12, 13, 14, 15] [] := ⟨rfl, rfl, rfl, rfl, rfl, by decide⟩
            refine kc_i hP hD hS hA hs_29 (kV (As := []) (rest := [.int (nI p1)]) hx hb hml hown hts hKW hP hD hs_29 (c_X10_n l D cI cJ cB q10 st_10 kept_10 undoable_10 newest_10 tape_10 taped_10 marks_10 order_10 reach_10 heapOf_10 rows_10 x_10 overs_10_1 costs_10_1 ways_10_1 digits_10 beaten_10 walks_10 n ml nx ks rr (by first | assumption | omega) (by first | assumption | omega)) (cwV 0 hts gX10_first_X10_n rfl rfl rfl (by decide +kernel) ⟨Nat.le_of_ble_eq_true rfl, Nat.le_of_ble_eq_true rfl⟩) 0 10 rfl rfl rfl rfl hl.1 rfl (Nat.le_of_ble_eq_true rfl) dX10_first_29 ⟨Nat.zero_le _, Nat.zero_le _⟩) (fun r_29 u_29 H locs hw_29 hP hD hS => ?_)
            have er_29 := hw_29
            have er_29 := er_29.symm
            subst er_29
            have hP : va_P D vwCl (wX10 q10 cI cJ cB st_10 kept_10 undoable_10 newest_10 tape_10 taped_10 marks_10 order_10 reach_10 heapOf_10 rows_10 x_10 overs_10_1 costs_10_1 ways_10_1 digits_10 beaten_10 walks_10) H := hP.sub (ws' := (wX10 q10 cI cJ cB st_10 kept_10 undoable_10 newest_10 tape_10 taped_10 marks_10 order_10 reach_10 heapOf_10 rows_10 x_10 overs_10_1 costs_10_1 ways_10_1 digits_10 beaten_10 walks_10)) [0, 1, 2, 3, 4, 5, 6, 7, 8, 9, 10, 11, 12, 13, 14, 15] rfl
            have hD : va_D A (wX10 q10 cI cJ cB st_10 kept_10 undoable_10 newest_10 tape_10 taped_10 marks_10 order_10 reach_10 heapOf_10 rows_10 x_10 overs_10_1 costs_10_1 ways_10_1 digits_10 beaten_10 walks_10) := hD.sub (ws' := (wX10 q10 cI cJ cB st_10 kept_10 undoable_10 newest_10 tape_10 taped_10 marks_10 order_10 reach_10 heapOf_10 rows_10 x_10 overs_10_1 costs_10_1 ways_10_1 digits_10 beaten_10 walks_10)) [0, 1, 2, 3, 4, 5, 6, 7, 8, 9, 10, 11, 12, 13, 14, 15] (by decide) rfl
            refine lv_icmp_ge (tgt := 87) hx hb dX10_first_32 (by decide) (fun c_32 => ?_) (fun c_32 => ?_)
            · skip
              have c_32 := k_ge (by omega) (by omega) c_32
              obtain ⟨j9, ej9, hj9⟩ : ∃ j, v = nI j ∧ srch (hdP ml n costs_10_1 (rwG (hdG ml n costs_10_1) k).2) 0 n = some j := by
                rcases hv with ⟨h1, h2⟩ | h
                · rw [show n - p1 = 0 by omega] at h2; rw [h2] at hq9; cases hq9
                · exact h
              subst ej9
              exact hJ_87 j9 hj9 _ _ hP hD hS ls (lv_sub hl [0, 1, 2, 3, 4] rfl)
            · skip
              have c_32 := k_ge_n (by omega) (by omega) c_32
              refine lv_iload hx hb dX10_first_35 (lv_at hl 4 rfl) ?_
              refine lv_if_ge (tgt := 87) hx hb dX10_first_37 (by decide) (fun c_37 => ?_) (fun c_37 => ?_)
              · skip
                obtain ⟨j9, ej9, hj9⟩ : ∃ j, v = nI j ∧ srch (hdP ml n costs_10_1 (rwG (hdG ml n costs_10_1) k).2) 0 n = some j := by
                  rcases hv with ⟨h1, h2⟩ | h
                  · rw [h1] at c_37; exact absurd c_37 (by decide)
                  · exact h
                subst ej9
                exact hJ_87 j9 hj9 _ _ hP hD hS ls (lv_sub hl [0, 1, 2, 3, 4] rfl)
              · skip
                have hv37 : v = -1 ∧ srch (hdP ml n costs_10_1 (rwG (hdG ml n costs_10_1) k).2) 0 n = srch (hdP ml n costs_10_1 (rwG (hdG ml n costs_10_1) k).2) p1 (n - p1) := by
                  rcases hv with h | ⟨j, h1, h2⟩
                  · exact h
                  · rw [h1] at c_37; exact absurd (nI_pos' (by have := (srch_some h2).2.1; omega)) c_37
                have hor9 : ((rwG (hdG ml n costs_10_1) k).2 ||| 2 ^ p1) < 1024 := Nat.or_lt_two_pow (n := 10) (by omega) (Nat.lt_of_le_of_lt (pow_lt_1024 (by omega)) (by decide))
                refine lv_iload_n hx hb dX10_first_40 rfl (lv_at hl 2 rfl) ?_
                refine lv_iload hx hb dX10_first_41 (lv_at hl 5 rfl) ?_
                refine lv_ishr hx hb dX10_first_43 ?_
                refine k_top (y := nI ((rwG (hdG ml n costs_10_1) k).2 / 2 ^ p1)) (k_shr (by omega) (by omega)) ?_
                refine lv_iconst (v := nI 1) hx hb dX10_first_44 (by decide) ?_
                refine lv_iand hx hb dX10_first_45 ?_
                refine k_top (y := nI ((rwG (hdG ml n costs_10_1) k).2 / 2 ^ p1 % 2)) (k_and1 _ (k_shr_lt (by omega))) ?_
                refine lv_if_ne (tgt := 81) hx hb dX10_first_46 (by decide) (fun c_46 => ?_) (fun c_46 => ?_)
                · skip
                  have c_46 := k0_ne (by omega) c_46
                  refine lv_iinc (v := nI (p1 + 1)) (lv' := [(6, .int (nI (p1 + 1))), (0, .ref (q10 0)), (1, .long ((rwG (hdG ml n costs_10_1) k).1)), (3, .int (nI ((rwG (hdG ml n costs_10_1) k).2))), (4, .int (nI k)), (5, .int v)]) hx hb dX10_first_81 hl (k := 5) rfl (nI_add _ _) (by decide) rfl (fun ls hl => ?_)
                  refine lv_goto (tgt := 26) hx hb dX10_first_84 (by decide) ?_
                  exact ih_26 _ _ (by omega) (Or.inl ⟨hv37.1, by rw [hv37.2, show n - p1 = (n - (p1 + 1)) + 1 by omega]; exact srch_no (wb_f (tb_mod.mpr (by omega)))⟩) (by omega) _ _ hP hD hS ls (lv_sub hl [1, 2, 3, 4, 5, 0] rfl)
                · skip
                  have c_46 := k0_ne_n (by omega) c_46
                  refine lv_aload_n hx hb dX10_first_49 rfl (lv_at hl 0 rfl) ?_
                  refine lv_iload hx hb dX10_first_50 (lv_at hl 5 rfl) ?_
                  refine lv_iload_n hx hb dX10_first_52 rfl (lv_at hl 2 rfl) ?_
                  have hs_53 : kSplit (wX10 q10 cI cJ cB st_10 kept_10 undoable_10 newest_10 tape_10 taped_10 marks_10 order_10 reach_10 heapOf_10 rows_10 x_10 overs_10_1 costs_10_1 ways_10_1 digits_10 beaten_10 walks_10) (wX10 q10 cI cJ cB st_10 kept_10 undoable_10 newest_10 tape_10 taped_10 marks_10 order_10 reach_10 heapOf_10 rows_10 x_10 overs_10_1 costs_10_1 ways_10_1 digits_10 beaten_10 walks_10) ([] : va_W) [0, 1, 2, 3, 4, 5, 6, 7, 8, 9, 10, 11, 12, 13, 14, 15] [] := ⟨rfl, rfl, rfl, rfl, rfl, by decide⟩
                  refine kc_i hP hD hS hA hs_53 (kV (As := [.int (nI p1), .int (nI ((rwG (hdG ml n costs_10_1) k).2))]) (rest := []) hx hb hml hown hts hKW hP hD hs_53 (c_X10_behind l D cI cJ cB q10 st_10 kept_10 undoable_10 newest_10 tape_10 taped_10 marks_10 order_10 reach_10 heapOf_10 rows_10 x_10 overs_10_1 costs_10_1 ways_10_1 digits_10 beaten_10 walks_10 n ml nx ks rr p1 ((rwG (hdG ml n costs_10_1) k).2) (by first | assumption | omega) (by first | assumption | omega) hw_1.1 (by first | assumption | omega) (by omega)) (cwV 2 hts gX10_first_X10_behind rfl rfl rfl (by decide +kernel) ⟨Nat.le_of_ble_eq_true rfl, Nat.le_of_ble_eq_true rfl⟩) 0 10 rfl rfl rfl rfl hl.1 rfl (Nat.le_of_ble_eq_true rfl) dX10_first_53 ⟨Nat.zero_le _, Nat.zero_le _⟩) (fun r_53 u_53 H locs hw_53 hP hD hS => ?_)
                  have er_53 := hw_53
                  have er_53 := er_53.symm
                  subst er_53
                  have hP : va_P D vwCl (wX10 q10 cI cJ cB st_10 kept_10 undoable_10 newest_10 tape_10 taped_10 marks_10 order_10 reach_10 heapOf_10 rows_10 x_10 overs_10_1 costs_10_1 ways_10_1 digits_10 beaten_10 walks_10) H := hP.sub (ws' := (wX10 q10 cI cJ cB st_10 kept_10 undoable_10 newest_10 tape_10 taped_10 marks_10 order_10 reach_10 heapOf_10 rows_10 x_10 overs_10_1 costs_10_1 ways_10_1 digits_10 beaten_10 walks_10)) [0, 1, 2, 3, 4, 5, 6, 7, 8, 9, 10, 11, 12, 13, 14, 15] rfl
                  have hD : va_D A (wX10 q10 cI cJ cB st_10 kept_10 undoable_10 newest_10 tape_10 taped_10 marks_10 order_10 reach_10 heapOf_10 rows_10 x_10 overs_10_1 costs_10_1 ways_10_1 digits_10 beaten_10 walks_10) := hD.sub (ws' := (wX10 q10 cI cJ cB st_10 kept_10 undoable_10 newest_10 tape_10 taped_10 marks_10 order_10 reach_10 heapOf_10 rows_10 x_10 overs_10_1 costs_10_1 ways_10_1 digits_10 beaten_10 walks_10)) [0, 1, 2, 3, 4, 5, 6, 7, 8, 9, 10, 11, 12, 13, 14, 15] (by decide) rfl
                  refine lv_aload_n hx hb dX10_first_56 rfl (lv_at hl 0 rfl) ?_
                  refine k_get (ci := 10) (v := .ref (q10 11)) (C := RX10) (Tb := TX10) (N := 18) hx hb hts hu_10 hown hKW hP 0 rfl rfl 13 (by decide) hf_41 rfl rfl dX10_first_57 ?_
                  refine lv_iload_n hx hb dX10_first_60 rfl (lv_at hl 2 rfl) ?_
                  refine lv_iconst (v := nI 1) hx hb dX10_first_61 (by decide) ?_
                  refine lv_iload hx hb dX10_first_62 (lv_at hl 5 rfl) ?_
                  refine lv_ishl hx hb dX10_first_64 ?_
                  refine k_top (y := nI (2 ^ p1)) (k_shl1 (by omega)) ?_
                  refine lv_ior hx hb dX10_first_65 ?_
                  refine k_top (y := nI ((rwG (hdG ml n costs_10_1) k).2 ||| 2 ^ p1)) (k_or _ _) ?_
                  refine k_iald (n := 1024) (i := (rwG (hdG ml n costs_10_1) k).2 ||| 2 ^ p1) hx hb hKW hP 11 0 rfl rfl (by omega) (by omega) dX10_first_66 ?_
                  refine lv_iadd hx hb dX10_first_67 ?_
                  refine lv_aload_n hx hb dX10_first_68 rfl (lv_at hl 0 rfl) ?_
                  refine k_get (ci := 10) (v := .ref (q10 11)) (C := RX10) (Tb := TX10) (N := 18) hx hb hts hu_10 hown hKW hP 0 rfl rfl 13 (by decide) hf_41 rfl rfl dX10_first_69 ?_
                  refine lv_iload_n hx hb dX10_first_72 rfl (lv_at hl 2 rfl) ?_
                  refine k_iald (n := 1024) (i := (rwG (hdG ml n costs_10_1) k).2) hx hb hKW hP 11 0 rfl rfl (by omega) (by omega) dX10_first_73 ?_
                  refine lv_icmp_ne (tgt := 81) hx hb dX10_first_74 (by decide) (fun c_74 => ?_) (fun c_74 => ?_)
                  · skip
                    refine lv_iinc (v := nI (p1 + 1)) (lv' := [(6, .int (nI (p1 + 1))), (0, .ref (q10 0)), (1, .long ((rwG (hdG ml n costs_10_1) k).1)), (3, .int (nI ((rwG (hdG ml n costs_10_1) k).2))), (4, .int (nI k)), (5, .int v)]) hx hb dX10_first_81 hl (k := 5) rfl (nI_add _ _) (by decide) rfl (fun ls hl => ?_)
                    refine lv_goto (tgt := 26) hx hb dX10_first_84 (by decide) ?_
                    exact ih_26 _ _ (by omega) (Or.inl ⟨hv37.1, by rw [hv37.2, show n - p1 = (n - (p1 + 1)) + 1 by omega]; exact srch_no (fun z => by rw [Bool.and_eq_true] at z; exact c_74 (of_decide_eq_true z.2))⟩) (by omega) _ _ hP hD hS ls (lv_sub hl [1, 2, 3, 4, 5, 0] rfl)
                  · skip
                    refine lv_iload hx hb dX10_first_77 (lv_at hl 5 rfl) ?_
                    refine lv_istore (lv' := [(5, .int (nI p1)), (0, .ref (q10 0)), (1, .long ((rwG (hdG ml n costs_10_1) k).1)), (3, .int (nI ((rwG (hdG ml n costs_10_1) k).2))), (4, .int (nI k)), (6, .int (nI p1))]) hx hb dX10_first_79 hl (by decide) rfl (fun ls hl => ?_)
                    refine lv_iinc (v := nI (p1 + 1)) (lv' := [(6, .int (nI (p1 + 1))), (5, .int (nI p1)), (0, .ref (q10 0)), (1, .long ((rwG (hdG ml n costs_10_1) k).1)), (3, .int (nI ((rwG (hdG ml n costs_10_1) k).2))), (4, .int (nI k))]) hx hb dX10_first_81 hl (k := 5) rfl (nI_add _ _) (by decide) rfl (fun ls hl => ?_)
                    refine lv_goto (tgt := 26) hx hb dX10_first_84 (by decide) ?_
                    exact ih_26 _ _ (by omega) (Or.inr ⟨p1, rfl, by rw [hv37.2, show n - p1 = (n - (p1 + 1)) + 1 by omega]; exact srch_yes (hdP_t (tb_mod0.mpr (by omega)) c_74)⟩) (by omega) _ _ hP hD hS ls (lv_sub hl [2, 3, 4, 5, 1, 0] rfl)
        exact hL_26 _ 0 _ (Nat.zero_le _) (Or.inl ⟨rfl, rfl⟩) (Nat.lt_succ_self _) _ _ hP hD hS ls (lv_sub hl [2, 3, 4, 5, 1, 0] rfl)
  exact hL_11 _ 0 (Nat.zero_le _) (Nat.lt_succ_self _) _ _ hP hD hS ls (lv_sub hl [3, 2, 1, 0] rfl)
def rmX10_cost : Room := { frames := 3, cells := 0, slots := 0, locals := 67 }
set_option maxHeartbeats 4000000 in
set_option maxRecDepth 100000 in
theorem c_X10_cost (l : Launch) (D : va_G) (cI cJ cB : ClassId) (q10 : Nat → Nat) (st_10 : Nat → Int32) (kept_10 : Nat → Int32) (undoable_10 : Int32) (newest_10 : Int32) (tape_10 : Nat → Int32) (taped_10 : Int32) (marks_10 : Nat → Int32) (order_10 : Nat → Int32) (reach_10 : Nat → Int32) (heapOf_10 : Nat → Int32) (rows_10 : Nat → Int64) (x_10 : Nat → Int64) (overs_10 : Nat → Int32) (costs_10 : Nat → Int32) (ways_10 : Nat → Int32) (digits_10 : Nat → Int32) (beaten_10 : Nat → Int32) (walks_10 : Nat → Int32) (n : Nat) (ml : List Mt) (nx : List (Nat × Nat)) (ks : List Nat) (rr : Int32 × Int32 × Int32) (x : Int64) (hR : RS st_10 n ml nx ks rr) (hV : VS n ml nx ks) : ∀ sz, Met l yX10_cost wsX10_cost rmX10_cost (va_Pc [.ref (q10 0), .long x] (PW D (kT cI cJ cB) sz (wX10 q10 cI cJ cB st_10 kept_10 undoable_10 newest_10 tape_10 taped_10 marks_10 order_10 reach_10 heapOf_10 rows_10 x_10 overs_10 costs_10 ways_10 digits_10 beaten_10 walks_10))) (va_Qi (S := (Nat → Int32) × (Nat → Int32)) (fun r uu => match uu with | (overs_10', digits_10') => r = if x < 0 then -1 else if coV n n x.toInt.toNat 0 = true then (coS (dgF x.toInt.toNat n) (bhI ml n) n).1 else -1) (QW D sz (wX10 q10 cI cJ cB st_10 kept_10 undoable_10 newest_10 tape_10 taped_10 marks_10 order_10 reach_10 heapOf_10 rows_10 x_10 overs_10 costs_10 ways_10 digits_10 beaten_10 walks_10) (fun uu => match uu with | (overs_10', digits_10') => (wX10 q10 cI cJ cB st_10 kept_10 undoable_10 newest_10 tape_10 taped_10 marks_10 order_10 reach_10 heapOf_10 rows_10 x_10 overs_10' costs_10 ways_10 digits_10' beaten_10 walks_10))) (va_A (wX10 q10 cI cJ cB st_10 kept_10 undoable_10 newest_10 tape_10 taped_10 marks_10 order_10 reach_10 heapOf_10 rows_10 x_10 overs_10 costs_10 ways_10 digits_10 beaten_10 walks_10) sz)) 0 0 (va_A (wX10 q10 cI cJ cB st_10 kept_10 undoable_10 newest_10 tape_10 taped_10 marks_10 order_10 reach_10 heapOf_10 rows_10 x_10 overs_10 costs_10 ways_10 digits_10 beaten_10 walks_10) sz) := by
  intro sz
  refine Met.ofW (cc := cX10_cost) (maxL := 8) (ret := (some .int)) (by decide) rfl ?_
  intro p e s m args below meth c s₁ B hml hv
  obtain ⟨hav, hsz, hP, hKW, hD0⟩ := hv
  have hx := B.exec
  have hb := B.bytes
  have hr := B.returns
  have hts := atoms_spec (ws := wsX10_cost) B.pre
  have hown : s.vm.findClass RX10 = some m.cls := findClass_of_methodNamed B.named
  have hlocks := B.notSynchronized
  subst hsz
  have hD := hD0.self (sz := s.heap.size)
  obtain ⟨A, hAe⟩ : ∃ A : Nat → Prop, A = va_A (wX10 q10 cI cJ cB st_10 kept_10 undoable_10 newest_10 tape_10 taped_10 marks_10 order_10 reach_10 heapOf_10 rows_10 x_10 overs_10 costs_10 ways_10 digits_10 beaten_10 walks_10) s.heap.size := ⟨_, rfl⟩
  rw [← hAe] at hD
  have hA : ∀ q : Nat, s.heap.size ≤ q → A q := fun q h => by rw [hAe]; exact Or.inr h
  have hS : va_S A s.heap s.heap [] := va_S.rf
  refine k_gen (fun Q hQ => ?_)
  have hl := lv_entry ([.ref (q10 0), .long x]) (n := 8) (Nat.le_of_ble_eq_true rfl)
  refine k_entry hav (lg_entry_eq ..) ?_
  generalize (lg_sl ([.ref (q10 0), .long x]) ++ List.replicate (8 - (lg_sl ([.ref (q10 0), .long x])).length) Slot.unset).toArray = ls at hl ⊢
  have hl : lv_has ls 8 [(0, .ref (q10 0)), (1, .long x)] := hl
  have hu_10 : ∀ w ∈ u_ws RX10 TX10 18, w ∈ wsX10_cost := by decide +kernel
  have hf_47 : Cond.fieldLink RX10 47 "MeetingRanksModel" "digits" "[I" ∈ wsX10_cost := by decide +kernel
  have hn1 := hV.1
  have hn10 := hV.2.1
  have hm120 := hV.2.2.1
  have hx40 := hV.2.2.2.2.1
  have hk4 := hV.2.2.2.2.2.2.1
  have h2n := pow_le_1024 hn10
  have h2p := Nat.two_pow_pos n
  refine lv_lload_n hx hb dX10_cost_0 rfl (lv_at hl 1 rfl) ?_
  refine lv_lconst (v := 0) hx hb dX10_cost_1 (by decide) ?_
  refine W.lcmp hx hb dX10_cost_2 ?_
  refine lv_if_ge (tgt := 8) hx hb dX10_cost_3 (by decide) (fun c_3 => ?_) (fun c_3 => ?_)
  · skip
    have c_3 := k_lc_ge c_3
    obtain ⟨R0, hR0, rfl⟩ := pk_lOf (x := x) (fun z => by rw [Int64.lt_iff_toInt_lt] at z; rw [Int64.le_iff_toInt_le] at c_3; omega)
    refine lv_lload_n hx hb dX10_cost_8 rfl (lv_at hl 1 rfl) ?_
    refine lv_lstore_n (lv' := [(3, .long (lN R0)), (0, .ref (q10 0)), (1, .long (lN R0))]) hx hb dX10_cost_9 rfl hl (by decide) rfl (fun ls hl => ?_)
    refine lv_iconst (v := nI 0) hx hb dX10_cost_10 (by decide) ?_
    refine lv_istore (lv' := [(5, .int (nI 0)), (3, .long (lN R0)), (0, .ref (q10 0)), (1, .long (lN R0))]) hx hb dX10_cost_11 hl (by decide) rfl (fun ls hl => ?_)
    refine lv_aload_n hx hb dX10_cost_13 rfl (lv_at hl 2 rfl) ?_
    have hs_14 : kSplit (wX10 q10 cI cJ cB st_10 kept_10 undoable_10 newest_10 tape_10 taped_10 marks_10 order_10 reach_10 heapOf_10 rows_10 x_10 overs_10 costs_10 ways_10 digits_10 beaten_10 walks_10) (wX10 q10 cI cJ cB st_10 kept_10 undoable_10 newest_10 tape_10 taped_10 marks_10 order_10 reach_10 heapOf_10 rows_10 x_10 overs_10 costs_10 ways_10 digits_10 beaten_10 walks_10) ([] : va_W) [0, 1, 2, 3, 4, 5, 6, 7, 8, 9, 10, 11, 12, 13, 14, 15] [] := ⟨rfl, rfl, rfl, rfl, rfl, by decide⟩
    refine kc_i hP hD hS hA hs_14 (kV (As := []) (rest := []) hx hb hml hown hts hKW hP hD hs_14 (c_X10_n l D cI cJ cB q10 st_10 kept_10 undoable_10 newest_10 tape_10 taped_10 marks_10 order_10 reach_10 heapOf_10 rows_10 x_10 overs_10 costs_10 ways_10 digits_10 beaten_10 walks_10 n ml nx ks rr (by first | assumption | omega) (by first | assumption | omega)) (cwV 0 hts gX10_cost_X10_n rfl rfl rfl (by decide +kernel) ⟨Nat.le_of_ble_eq_true rfl, Nat.le_of_ble_eq_true rfl⟩) 0 10 rfl rfl rfl rfl hl.1 rfl (Nat.le_of_ble_eq_true rfl) dX10_cost_14 ⟨Nat.zero_le _, Nat.zero_le _⟩) (fun r_14 u_14 H locs hw_14 hP hD hS => ?_)
    have er_14 := hw_14
    have er_14 := er_14.symm
    subst er_14
    have hP : va_P D vwCl (wX10 q10 cI cJ cB st_10 kept_10 undoable_10 newest_10 tape_10 taped_10 marks_10 order_10 reach_10 heapOf_10 rows_10 x_10 overs_10 costs_10 ways_10 digits_10 beaten_10 walks_10) H := hP.sub (ws' := (wX10 q10 cI cJ cB st_10 kept_10 undoable_10 newest_10 tape_10 taped_10 marks_10 order_10 reach_10 heapOf_10 rows_10 x_10 overs_10 costs_10 ways_10 digits_10 beaten_10 walks_10)) [0, 1, 2, 3, 4, 5, 6, 7, 8, 9, 10, 11, 12, 13, 14, 15] rfl
    have hD : va_D A (wX10 q10 cI cJ cB st_10 kept_10 undoable_10 newest_10 tape_10 taped_10 marks_10 order_10 reach_10 heapOf_10 rows_10 x_10 overs_10 costs_10 ways_10 digits_10 beaten_10 walks_10) := hD.sub (ws' := (wX10 q10 cI cJ cB st_10 kept_10 undoable_10 newest_10 tape_10 taped_10 marks_10 order_10 reach_10 heapOf_10 rows_10 x_10 overs_10 costs_10 ways_10 digits_10 beaten_10 walks_10)) [0, 1, 2, 3, 4, 5, 6, 7, 8, 9, 10, 11, 12, 13, 14, 15] (by decide) rfl
    refine lv_iconst (v := nI 1) hx hb dX10_cost_17 (by decide) ?_
    refine lv_isub hx hb dX10_cost_18 ?_
    refine lv_istore (lv' := [(6, .int ((nI n) - (nI 1))), (5, .int (nI 0)), (3, .long (lN R0)), (0, .ref (q10 0)), (1, .long (lN R0))]) hx hb dX10_cost_19 hl (by decide) rfl (fun ls hl => ?_)
    have hL_21 : ∀ (fu : Nat) (t : Nat) (R : Nat) (B2 : Nat) (f : Nat → Int32) (ht : t ≤ n) (hRe : R = R0 / 10 ^ (n - t)) (hR63 : R < 2 ^ 63) (hB2 : B2 < 1024) (hv : coV n n R0 0 = coV n t R B2) (hd : ∀ k, t ≤ k → k < n → f k = nI (dgF R0 n k)) (hdn : ∀ k, t ≤ k → k < n → dgF R0 n k < n), t < fu → ∀ (H : Heap) (locs : List Loc), va_P D vwCl (wX10 q10 cI cJ cB st_10 kept_10 undoable_10 newest_10 tape_10 taped_10 marks_10 order_10 reach_10 heapOf_10 rows_10 x_10 overs_10 costs_10 ways_10 f beaten_10 walks_10) H → va_D A (wX10 q10 cI cJ cB st_10 kept_10 undoable_10 newest_10 tape_10 taped_10 marks_10 order_10 reach_10 heapOf_10 rows_10 x_10 overs_10 costs_10 ways_10 f beaten_10 walks_10) → va_S A s.heap H locs → ∀ (ls : Array Slot), lv_has ls 8 [(0, .ref (q10 0)), (1, .long (lN R0)), (3, .long (lN R)), (5, .int (nI B2)), (6, .int (nI t - nI 1))] → W p l e (headSpec wsX10_cost rmX10_cost).room s m args below meth c H locs 0 0 Q (F0 m 21 ls []) := by
      intro fu
      induction fu with
      | zero => intro t R B2 f ht hRe hR63 hB2 hv hd hdn hfu; exact absurd hfu (Nat.not_lt_zero _)
      | succ fu ih_21 =>
        intro t R B2 f ht hRe hR63 hB2 hv hd hdn hfu H locs hP hD hS ls hl
        refine lv_iload hx hb dX10_cost_21 (lv_at hl 4 rfl) ?_
        refine lv_if_lt (tgt := 97) hx hb dX10_cost_23 (by decide) (fun c_23 => ?_) (fun c_23 => ?_)
        · skip
          have c_23 := mq_lt (by omega) (by omega) c_23
          obtain rfl : t = 0 := by omega
          refine lv_lload_n hx hb dX10_cost_97 rfl (lv_at hl 2 rfl) ?_
          refine lv_lconst (v := 0) hx hb dX10_cost_98 (by decide) ?_
          refine W.lcmp hx hb dX10_cost_99 ?_
          refine lv_if_eq (tgt := 105) hx hb dX10_cost_100 (by decide) (fun c_100 => ?_) (fun c_100 => ?_)
          · skip
            have c_100 := k_lc_eq c_100
            refine lv_aload_n hx hb dX10_cost_105 rfl (lv_at hl 0 rfl) ?_
            have hs_106 : kSplit (wX10 q10 cI cJ cB st_10 kept_10 undoable_10 newest_10 tape_10 taped_10 marks_10 order_10 reach_10 heapOf_10 rows_10 x_10 overs_10 costs_10 ways_10 f beaten_10 walks_10) (wX10 q10 cI cJ cB st_10 kept_10 undoable_10 newest_10 tape_10 taped_10 marks_10 order_10 reach_10 heapOf_10 rows_10 x_10 overs_10 costs_10 ways_10 f beaten_10 walks_10) ([] : va_W) [0, 1, 2, 3, 4, 5, 6, 7, 8, 9, 10, 11, 12, 13, 14, 15] [] := ⟨rfl, rfl, rfl, rfl, rfl, by decide⟩
            refine kc_v hP hD hS hA hs_106 (kV (As := []) (rest := []) hx hb hml hown hts hKW hP hD hs_106 (c_X10_gatherOvers l D cI cJ cB q10 st_10 kept_10 undoable_10 newest_10 tape_10 taped_10 marks_10 order_10 reach_10 heapOf_10 rows_10 x_10 overs_10 costs_10 ways_10 f beaten_10 walks_10 n ml nx ks rr (by first | assumption | omega) (by first | assumption | omega)) (cwV 0 hts gX10_cost_X10_gatherOvers rfl rfl rfl (by decide +kernel) ⟨Nat.le_of_ble_eq_true rfl, Nat.le_of_ble_eq_true rfl⟩) 0 10 rfl rfl rfl rfl hl.1 rfl (Nat.le_of_ble_eq_true rfl) dX10_cost_106 ⟨Nat.zero_le _, Nat.zero_le _⟩) (fun u_106 H locs hw_106 hP hD hS => ?_)
            obtain ⟨overs_10_106, rfl⟩ : ∃ z, z = u_106 := ⟨_, rfl⟩
            have hP : va_P D vwCl (wX10 q10 cI cJ cB st_10 kept_10 undoable_10 newest_10 tape_10 taped_10 marks_10 order_10 reach_10 heapOf_10 rows_10 x_10 overs_10_106 costs_10 ways_10 f beaten_10 walks_10) H := hP.sub (ws' := (wX10 q10 cI cJ cB st_10 kept_10 undoable_10 newest_10 tape_10 taped_10 marks_10 order_10 reach_10 heapOf_10 rows_10 x_10 overs_10_106 costs_10 ways_10 f beaten_10 walks_10)) [0, 1, 2, 3, 4, 5, 6, 7, 8, 9, 10, 11, 12, 13, 14, 15] rfl
            have hD : va_D A (wX10 q10 cI cJ cB st_10 kept_10 undoable_10 newest_10 tape_10 taped_10 marks_10 order_10 reach_10 heapOf_10 rows_10 x_10 overs_10_106 costs_10 ways_10 f beaten_10 walks_10) := hD.sub (ws' := (wX10 q10 cI cJ cB st_10 kept_10 undoable_10 newest_10 tape_10 taped_10 marks_10 order_10 reach_10 heapOf_10 rows_10 x_10 overs_10_106 costs_10 ways_10 f beaten_10 walks_10)) [0, 1, 2, 3, 4, 5, 6, 7, 8, 9, 10, 11, 12, 13, 14, 15] (by decide) rfl
            refine lv_iconst (v := nI 0) hx hb dX10_cost_109 (by decide) ?_
            refine lv_istore (lv' := [(6, .int (nI 0)), (0, .ref (q10 0)), (1, .long (lN R0)), (3, .long (lN R)), (5, .int (nI B2))]) hx hb dX10_cost_110 hl (by decide) rfl (fun ls hl => ?_)
            refine lv_iconst (v := nI 0) hx hb dX10_cost_112 (by decide) ?_
            refine lv_istore (lv' := [(5, .int (nI 0)), (6, .int (nI 0)), (0, .ref (q10 0)), (1, .long (lN R0)), (3, .long (lN R))]) hx hb dX10_cost_113 hl (by decide) rfl (fun ls hl => ?_)
            refine lv_iconst (v := nI 0) hx hb dX10_cost_115 (by decide) ?_
            refine lv_istore (lv' := [(7, .int (nI 0)), (5, .int (nI 0)), (6, .int (nI 0)), (0, .ref (q10 0)), (1, .long (lN R0)), (3, .long (lN R))]) hx hb dX10_cost_116 hl (by decide) rfl (fun ls hl => ?_)
            have hL_118 : ∀ (fu : Nat) (k : Nat) (hk : k ≤ n), n - k < fu → ∀ (H : Heap) (locs : List Loc), va_P D vwCl (wX10 q10 cI cJ cB st_10 kept_10 undoable_10 newest_10 tape_10 taped_10 marks_10 order_10 reach_10 heapOf_10 rows_10 x_10 overs_10_106 costs_10 ways_10 f beaten_10 walks_10) H → va_D A (wX10 q10 cI cJ cB st_10 kept_10 undoable_10 newest_10 tape_10 taped_10 marks_10 order_10 reach_10 heapOf_10 rows_10 x_10 overs_10_106 costs_10 ways_10 f beaten_10 walks_10) → va_S A s.heap H locs → ∀ (ls : Array Slot), lv_has ls 8 [(0, .ref (q10 0)), (1, .long (lN R0)), (3, .long (lN R)), (5, .int (nI ((coS (dgF R0 n) (bhI ml n) k).2))), (6, .int ((coS (dgF R0 n) (bhI ml n) k).1)), (7, .int (nI k))] → W p l e (headSpec wsX10_cost rmX10_cost).room s m args below meth c H locs 0 0 Q (F0 m 118 ls []) := by
              intro fu
              induction fu with
              | zero => intro k hk hfu; exact absurd hfu (Nat.not_lt_zero _)
              | succ fu ih_118 =>
                intro k hk hfu H locs hP hD hS ls hl
                have hcs9 := coS_lt (dg := dgF R0 n) (bh := bhI ml n) k (fun i hi => Nat.lt_of_lt_of_le (hdn i (Nat.zero_le _) (by omega)) hn10)
                refine lv_iload hx hb dX10_cost_118 (lv_at hl 5 rfl) ?_
                refine lv_aload_n hx hb dX10_cost_120 rfl (lv_at hl 0 rfl) ?_
                have hs_121 : kSplit (wX10 q10 cI cJ cB st_10 kept_10 undoable_10 newest_10 tape_10 taped_10 marks_10 order_10 reach_10 heapOf_10 rows_10 x_10 overs_10_106 costs_10 ways_10 f beaten_10 walks_10) (wX10 q10 cI cJ cB st_10 kept_10 undoable_10 newest_10 tape_10 taped_10 marks_10 order_10 reach_10 heapOf_10 rows_10 x_10 overs_10_106 costs_10 ways_10 f beaten_10 walks_10) ([] : va_W) [0, 1, 2, 3, 4, 5, 6, 7, 8, 9, 10, 11, 12, 13, 14, 15] [] := ⟨rfl, rfl, rfl, rfl, rfl, by decide⟩
                refine kc_i hP hD hS hA hs_121 (kV (As := []) (rest := [.int (nI k)]) hx hb hml hown hts hKW hP hD hs_121 (c_X10_n l D cI cJ cB q10 st_10 kept_10 undoable_10 newest_10 tape_10 taped_10 marks_10 order_10 reach_10 heapOf_10 rows_10 x_10 overs_10_106 costs_10 ways_10 f beaten_10 walks_10 n ml nx ks rr (by first | assumption | omega) (by first | assumption | omega)) (cwV 0 hts gX10_cost_X10_n rfl rfl rfl (by decide +kernel) ⟨Nat.le_of_ble_eq_true rfl, Nat.le_of_ble_eq_true rfl⟩) 0 10 rfl rfl rfl rfl hl.1 rfl (Nat.le_of_ble_eq_true rfl) dX10_cost_121 ⟨Nat.zero_le _, Nat.zero_le _⟩) (fun r_121 u_121 H locs hw_121 hP hD hS => ?_)
                have er_121 := hw_121
                have er_121 := er_121.symm
                subst er_121
                have hP : va_P D vwCl (wX10 q10 cI cJ cB st_10 kept_10 undoable_10 newest_10 tape_10 taped_10 marks_10 order_10 reach_10 heapOf_10 rows_10 x_10 overs_10_106 costs_10 ways_10 f beaten_10 walks_10) H := hP.sub (ws' := (wX10 q10 cI cJ cB st_10 kept_10 undoable_10 newest_10 tape_10 taped_10 marks_10 order_10 reach_10 heapOf_10 rows_10 x_10 overs_10_106 costs_10 ways_10 f beaten_10 walks_10)) [0, 1, 2, 3, 4, 5, 6, 7, 8, 9, 10, 11, 12, 13, 14, 15] rfl
                have hD : va_D A (wX10 q10 cI cJ cB st_10 kept_10 undoable_10 newest_10 tape_10 taped_10 marks_10 order_10 reach_10 heapOf_10 rows_10 x_10 overs_10_106 costs_10 ways_10 f beaten_10 walks_10) := hD.sub (ws' := (wX10 q10 cI cJ cB st_10 kept_10 undoable_10 newest_10 tape_10 taped_10 marks_10 order_10 reach_10 heapOf_10 rows_10 x_10 overs_10_106 costs_10 ways_10 f beaten_10 walks_10)) [0, 1, 2, 3, 4, 5, 6, 7, 8, 9, 10, 11, 12, 13, 14, 15] (by decide) rfl
                refine lv_icmp_ge (tgt := 165) hx hb dX10_cost_124 (by decide) (fun c_124 => ?_) (fun c_124 => ?_)
                · skip
                  have c_124 := k_ge (by omega) (by omega) c_124
                  obtain rfl : n = k := by omega
                  refine lv_iload hx hb dX10_cost_165 (lv_at hl 4 rfl) ?_
                  subst hQ; subst hAe
                  exact W.iret (v := (coS (dgF R0 n) (bhI ml n) n).1) hx hb hr (fun tt9 ht9 _ => ⟨⟨(coS (dgF R0 n) (bhI ml n) n).1, (overs_10_106, f), rfl, by rw [if_neg (k_lNn hR0), k_lNt hR0, hv, coV_0, if_pos (decide_eq_true (k_lN0 hR63 c_100))], by rw [ht9]; exact hP, hD⟩, hS.F ht9⟩) hS.2.2 dX10_cost_167
                · skip
                  have c_124 := k_ge_n (by omega) (by omega) c_124
                  have hdk9 := hdn k (Nat.zero_le _) c_124
                  refine lv_iload hx hb dX10_cost_127 (lv_at hl 4 rfl) ?_
                  refine lv_aload_n hx hb dX10_cost_129 rfl (lv_at hl 0 rfl) ?_
                  refine lv_aload_n hx hb dX10_cost_130 rfl (lv_at hl 0 rfl) ?_
                  refine k_get (ci := 10) (v := .ref (q10 13)) (C := RX10) (Tb := TX10) (N := 18) hx hb hts hu_10 hown hKW hP 0 rfl rfl 15 (by decide) hf_47 rfl rfl dX10_cost_131 ?_
                  refine lv_iload hx hb dX10_cost_134 (lv_at hl 5 rfl) ?_
                  refine k_iald (n := 10) (i := k) hx hb hKW hP 13 0 rfl rfl (by omega) (by omega) dX10_cost_136 ?_
                  refine k_top (y := nI (dgF R0 n k)) (hd k (Nat.zero_le _) c_124) ?_
                  refine lv_iload hx hb dX10_cost_137 (lv_at hl 3 rfl) ?_
                  have hs_139 : kSplit (wX10 q10 cI cJ cB st_10 kept_10 undoable_10 newest_10 tape_10 taped_10 marks_10 order_10 reach_10 heapOf_10 rows_10 x_10 overs_10_106 costs_10 ways_10 f beaten_10 walks_10) (wX10 q10 cI cJ cB st_10 kept_10 undoable_10 newest_10 tape_10 taped_10 marks_10 order_10 reach_10 heapOf_10 rows_10 x_10 overs_10_106 costs_10 ways_10 f beaten_10 walks_10) ([] : va_W) [0, 1, 2, 3, 4, 5, 6, 7, 8, 9, 10, 11, 12, 13, 14, 15] [] := ⟨rfl, rfl, rfl, rfl, rfl, by decide⟩
                  refine kc_i hP hD hS hA hs_139 (kV (As := [.int (nI (dgF R0 n k)), .int (nI ((coS (dgF R0 n) (bhI ml n) k).2))]) (rest := [.int ((coS (dgF R0 n) (bhI ml n) k).1)]) hx hb hml hown hts hKW hP hD hs_139 (c_X10_behind l D cI cJ cB q10 st_10 kept_10 undoable_10 newest_10 tape_10 taped_10 marks_10 order_10 reach_10 heapOf_10 rows_10 x_10 overs_10_106 costs_10 ways_10 f beaten_10 walks_10 n ml nx ks rr (dgF R0 n k) ((coS (dgF R0 n) (bhI ml n) k).2) (by first | assumption | omega) (by first | assumption | omega) hw_106 (hdn k (Nat.zero_le _) c_124) (by omega)) (cwV 2 hts gX10_cost_X10_behind rfl rfl rfl (by decide +kernel) ⟨Nat.le_of_ble_eq_true rfl, Nat.le_of_ble_eq_true rfl⟩) 0 10 rfl rfl rfl rfl hl.1 rfl (Nat.le_of_ble_eq_true rfl) dX10_cost_139 ⟨Nat.zero_le _, Nat.zero_le _⟩) (fun r_139 u_139 H locs hw_139 hP hD hS => ?_)
                  have er_139 := hw_139
                  have er_139 := er_139.symm
                  subst er_139
                  have hP : va_P D vwCl (wX10 q10 cI cJ cB st_10 kept_10 undoable_10 newest_10 tape_10 taped_10 marks_10 order_10 reach_10 heapOf_10 rows_10 x_10 overs_10_106 costs_10 ways_10 f beaten_10 walks_10) H := hP.sub (ws' := (wX10 q10 cI cJ cB st_10 kept_10 undoable_10 newest_10 tape_10 taped_10 marks_10 order_10 reach_10 heapOf_10 rows_10 x_10 overs_10_106 costs_10 ways_10 f beaten_10 walks_10)) [0, 1, 2, 3, 4, 5, 6, 7, 8, 9, 10, 11, 12, 13, 14, 15] rfl
                  have hD : va_D A (wX10 q10 cI cJ cB st_10 kept_10 undoable_10 newest_10 tape_10 taped_10 marks_10 order_10 reach_10 heapOf_10 rows_10 x_10 overs_10_106 costs_10 ways_10 f beaten_10 walks_10) := hD.sub (ws' := (wX10 q10 cI cJ cB st_10 kept_10 undoable_10 newest_10 tape_10 taped_10 marks_10 order_10 reach_10 heapOf_10 rows_10 x_10 overs_10_106 costs_10 ways_10 f beaten_10 walks_10)) [0, 1, 2, 3, 4, 5, 6, 7, 8, 9, 10, 11, 12, 13, 14, 15] (by decide) rfl
                  refine lv_iadd hx hb dX10_cost_142 ?_
                  refine lv_istore (lv' := [(6, .int (((coS (dgF R0 n) (bhI ml n) k).1) + (bhI ml n (dgF R0 n k) ((coS (dgF R0 n) (bhI ml n) k).2)))), (0, .ref (q10 0)), (1, .long (lN R0)), (3, .long (lN R)), (5, .int (nI ((coS (dgF R0 n) (bhI ml n) k).2))), (7, .int (nI k))]) hx hb dX10_cost_143 hl (by decide) rfl (fun ls hl => ?_)
                  refine lv_iload hx hb dX10_cost_145 (lv_at hl 4 rfl) ?_
                  refine lv_iconst (v := nI 1) hx hb dX10_cost_147 (by decide) ?_
                  refine lv_aload_n hx hb dX10_cost_148 rfl (lv_at hl 1 rfl) ?_
                  refine k_get (ci := 10) (v := .ref (q10 13)) (C := RX10) (Tb := TX10) (N := 18) hx hb hts hu_10 hown hKW hP 0 rfl rfl 15 (by decide) hf_47 rfl rfl dX10_cost_149 ?_
                  refine lv_iload hx hb dX10_cost_152 (lv_at hl 5 rfl) ?_
                  refine k_iald (n := 10) (i := k) hx hb hKW hP 13 0 rfl rfl (by omega) (by omega) dX10_cost_154 ?_
                  refine k_top (y := nI (dgF R0 n k)) (hd k (Nat.zero_le _) c_124) ?_
                  refine lv_ishl hx hb dX10_cost_155 ?_
                  refine k_top (y := nI (2 ^ dgF R0 n k)) (k_shl1 (by omega)) ?_
                  refine lv_ior hx hb dX10_cost_156 ?_
                  refine k_top (y := nI ((coS (dgF R0 n) (bhI ml n) k).2 ||| 2 ^ dgF R0 n k)) (k_or _ _) ?_
                  refine lv_istore (lv' := [(5, .int (nI ((coS (dgF R0 n) (bhI ml n) k).2 ||| 2 ^ dgF R0 n k))), (6, .int (((coS (dgF R0 n) (bhI ml n) k).1) + (bhI ml n (dgF R0 n k) ((coS (dgF R0 n) (bhI ml n) k).2)))), (0, .ref (q10 0)), (1, .long (lN R0)), (3, .long (lN R)), (7, .int (nI k))]) hx hb dX10_cost_157 hl (by decide) rfl (fun ls hl => ?_)
                  refine lv_iinc (v := nI (k + 1)) (lv' := [(7, .int (nI (k + 1))), (5, .int (nI ((coS (dgF R0 n) (bhI ml n) k).2 ||| 2 ^ dgF R0 n k))), (6, .int (((coS (dgF R0 n) (bhI ml n) k).1) + (bhI ml n (dgF R0 n k) ((coS (dgF R0 n) (bhI ml n) k).2)))), (0, .ref (q10 0)), (1, .long (lN R0)), (3, .long (lN R))]) hx hb dX10_cost_159 hl (k := 5) rfl (nI_add _ _) (by decide) rfl (fun ls hl => ?_)
                  refine lv_goto (tgt := 118) hx hb dX10_cost_162 (by decide) ?_
                  exact ih_118 (k + 1) (by omega) (by omega) _ _ hP hD hS ls (lv_sub hl [3, 4, 5, 1, 2, 0] rfl)
            exact hL_118 _ 0 (Nat.zero_le _) (Nat.lt_succ_self _) _ _ hP hD hS ls (lv_sub hl [3, 4, 5, 1, 2, 0] rfl)
          · skip
            have c_100 := k_lc_eq_n c_100
            refine lv_iconst (v := (-1)) hx hb dX10_cost_103 (by decide) ?_
            subst hQ; subst hAe
            exact W.iret (v := (-1)) hx hb hr (fun tt9 ht9 _ => ⟨⟨(-1), (overs_10, f), rfl, by rw [if_neg (k_lNn hR0), k_lNt hR0, hv, coV_0, if_neg (fun z => c_100 (by rw [of_decide_eq_true z]; rfl))], by rw [ht9]; exact hP, hD⟩, hS.F ht9⟩) hS.2.2 dX10_cost_104
        · skip
          have c_23 := mq_lt_n (by omega) (by omega) c_23
          rw [pk_sub (by omega)] at hl
          refine lv_aload_n hx hb dX10_cost_26 rfl (lv_at hl 0 rfl) ?_
          refine k_get (ci := 10) (v := .ref (q10 13)) (C := RX10) (Tb := TX10) (N := 18) hx hb hts hu_10 hown hKW hP 0 rfl rfl 15 (by decide) hf_47 rfl rfl dX10_cost_27 ?_
          refine lv_iload hx hb dX10_cost_30 (lv_at hl 4 rfl) ?_
          refine lv_lload_n hx hb dX10_cost_32 rfl (lv_at hl 2 rfl) ?_
          refine lv_ldc2 (v := (10 : Int64)) hx hb hown (hts (.constantLong RX10 156 (10)) (by decide +kernel)) dX10_cost_33 ?_
          refine lv_lrem hx hb dX10_cost_36 (by decide) ?_
          refine k_topl (y := lN (R % 10)) (pk_lRem hR63 (by decide) (by decide)) ?_
          refine lv_l2i (v := (lN (R % 10)).toInt32) hx hb dX10_cost_37 rfl ?_
          refine k_top (y := nI (R % 10)) (lN_i _) ?_
          refine k_iast (n := 10) (i := t - 1) (x := nI (R % 10)) (w' := (wX10 q10 cI cJ cB st_10 kept_10 undoable_10 newest_10 tape_10 taped_10 marks_10 order_10 reach_10 heapOf_10 rows_10 x_10 overs_10 costs_10 ways_10 (upd f (t - 1) (nI (R % 10))) beaten_10 walks_10)) hx hb hKW hP hD hS 13 0 rfl rfl (by omega) (by omega) dX10_cost_38 rfl (fun H locs hP hD hS => ?_)
          refine lv_lload_n hx hb dX10_cost_39 rfl (lv_at hl 2 rfl) ?_
          refine lv_ldc2 (v := (10 : Int64)) hx hb hown (hts (.constantLong RX10 156 (10)) (by decide +kernel)) dX10_cost_40 ?_
          refine lv_ldiv hx hb dX10_cost_43 (by decide) ?_
          refine k_topl (y := lN (R / 10)) (pk_lDiv hR63 (by decide) (by decide)) ?_
          refine lv_lstore_n (lv' := [(3, .long (lN (R / 10))), (0, .ref (q10 0)), (1, .long (lN R0)), (5, .int (nI B2)), (6, .int (nI (t - 1)))]) hx hb dX10_cost_44 rfl hl (by decide) rfl (fun ls hl => ?_)
          refine lv_aload_n hx hb dX10_cost_45 rfl (lv_at hl 1 rfl) ?_
          refine k_get (ci := 10) (v := .ref (q10 13)) (C := RX10) (Tb := TX10) (N := 18) hx hb hts hu_10 hown hKW hP 0 rfl rfl 15 (by decide) hf_47 rfl rfl dX10_cost_46 ?_
          refine lv_iload hx hb dX10_cost_49 (lv_at hl 4 rfl) ?_
          refine k_iald (n := 10) (i := t - 1) hx hb hKW hP 13 0 rfl rfl (by omega) (by omega) dX10_cost_51 ?_
          refine k_top (y := nI (R % 10)) (pk_us) ?_
          refine lv_aload_n hx hb dX10_cost_52 rfl (lv_at hl 1 rfl) ?_
          have hs_53 : kSplit (wX10 q10 cI cJ cB st_10 kept_10 undoable_10 newest_10 tape_10 taped_10 marks_10 order_10 reach_10 heapOf_10 rows_10 x_10 overs_10 costs_10 ways_10 (upd f (t - 1) (nI (R % 10))) beaten_10 walks_10) (wX10 q10 cI cJ cB st_10 kept_10 undoable_10 newest_10 tape_10 taped_10 marks_10 order_10 reach_10 heapOf_10 rows_10 x_10 overs_10 costs_10 ways_10 (upd f (t - 1) (nI (R % 10))) beaten_10 walks_10) ([] : va_W) [0, 1, 2, 3, 4, 5, 6, 7, 8, 9, 10, 11, 12, 13, 14, 15] [] := ⟨rfl, rfl, rfl, rfl, rfl, by decide⟩
          refine kc_i hP hD hS hA hs_53 (kV (As := []) (rest := [.int (nI (R % 10))]) hx hb hml hown hts hKW hP hD hs_53 (c_X10_n l D cI cJ cB q10 st_10 kept_10 undoable_10 newest_10 tape_10 taped_10 marks_10 order_10 reach_10 heapOf_10 rows_10 x_10 overs_10 costs_10 ways_10 (upd f (t - 1) (nI (R % 10))) beaten_10 walks_10 n ml nx ks rr (by first | assumption | omega) (by first | assumption | omega)) (cwV 0 hts gX10_cost_X10_n rfl rfl rfl (by decide +kernel) ⟨Nat.le_of_ble_eq_true rfl, Nat.le_of_ble_eq_true rfl⟩) 0 10 rfl rfl rfl rfl hl.1 rfl (Nat.le_of_ble_eq_true rfl) dX10_cost_53 ⟨Nat.zero_le _, Nat.zero_le _⟩) (fun r_53 u_53 H locs hw_53 hP hD hS => ?_)
          have er_53 := hw_53
          have er_53 := er_53.symm
          subst er_53
          have hP : va_P D vwCl (wX10 q10 cI cJ cB st_10 kept_10 undoable_10 newest_10 tape_10 taped_10 marks_10 order_10 reach_10 heapOf_10 rows_10 x_10 overs_10 costs_10 ways_10 (upd f (t - 1) (nI (R % 10))) beaten_10 walks_10) H := hP.sub (ws' := (wX10 q10 cI cJ cB st_10 kept_10 undoable_10 newest_10 tape_10 taped_10 marks_10 order_10 reach_10 heapOf_10 rows_10 x_10 overs_10 costs_10 ways_10 (upd f (t - 1) (nI (R % 10))) beaten_10 walks_10)) [0, 1, 2, 3, 4, 5, 6, 7, 8, 9, 10, 11, 12, 13, 14, 15] rfl
          have hD : va_D A (wX10 q10 cI cJ cB st_10 kept_10 undoable_10 newest_10 tape_10 taped_10 marks_10 order_10 reach_10 heapOf_10 rows_10 x_10 overs_10 costs_10 ways_10 (upd f (t - 1) (nI (R % 10))) beaten_10 walks_10) := hD.sub (ws' := (wX10 q10 cI cJ cB st_10 kept_10 undoable_10 newest_10 tape_10 taped_10 marks_10 order_10 reach_10 heapOf_10 rows_10 x_10 overs_10 costs_10 ways_10 (upd f (t - 1) (nI (R % 10))) beaten_10 walks_10)) [0, 1, 2, 3, 4, 5, 6, 7, 8, 9, 10, 11, 12, 13, 14, 15] (by decide) rfl
          refine lv_icmp_ge (tgt := 75) hx hb dX10_cost_56 (by decide) (fun c_56 => ?_) (fun c_56 => ?_)
          · skip
            have c_56 := k_ge (by omega) (by omega) c_56
            refine lv_iconst (v := (-1)) hx hb dX10_cost_75 (by decide) ?_
            subst hQ; subst hAe
            exact W.iret (v := (-1)) hx hb hr (fun tt9 ht9 _ => ⟨⟨(-1), (overs_10, upd f (t - 1) (nI (R % 10))), rfl, by rw [if_neg (k_lNn hR0), k_lNt hR0, hv, show t = (t - 1) + 1 by omega, coV_s, decide_eq_true c_56]; rfl, by rw [ht9]; exact hP, hD⟩, hS.F ht9⟩) hS.2.2 dX10_cost_76
          · skip
            have c_56 := k_ge_n (by omega) (by omega) c_56
            refine lv_iload hx hb dX10_cost_59 (lv_at hl 3 rfl) ?_
            refine lv_aload_n hx hb dX10_cost_61 rfl (lv_at hl 1 rfl) ?_
            refine k_get (ci := 10) (v := .ref (q10 13)) (C := RX10) (Tb := TX10) (N := 18) hx hb hts hu_10 hown hKW hP 0 rfl rfl 15 (by decide) hf_47 rfl rfl dX10_cost_62 ?_
            refine lv_iload hx hb dX10_cost_65 (lv_at hl 4 rfl) ?_
            refine k_iald (n := 10) (i := t - 1) hx hb hKW hP 13 0 rfl rfl (by omega) (by omega) dX10_cost_67 ?_
            refine k_top (y := nI (R % 10)) (pk_us) ?_
            refine lv_ishr hx hb dX10_cost_68 ?_
            refine k_top (y := nI (B2 / 2 ^ (R % 10))) (k_shr (by omega) (by omega)) ?_
            refine lv_iconst (v := nI 1) hx hb dX10_cost_69 (by decide) ?_
            refine lv_iand hx hb dX10_cost_70 ?_
            refine k_top (y := nI (B2 / 2 ^ (R % 10) % 2)) (k_and1 _ (k_shr_lt (by omega))) ?_
            refine lv_iconst (v := nI 1) hx hb dX10_cost_71 (by decide) ?_
            refine lv_icmp_ne (tgt := 77) hx hb dX10_cost_72 (by decide) (fun c_72 => ?_) (fun c_72 => ?_)
            · skip
              have c_72 := k_ne (by omega) (by omega) c_72
              refine lv_iload hx hb dX10_cost_77 (lv_at hl 3 rfl) ?_
              refine lv_iconst (v := nI 1) hx hb dX10_cost_79 (by decide) ?_
              refine lv_aload_n hx hb dX10_cost_80 rfl (lv_at hl 1 rfl) ?_
              refine k_get (ci := 10) (v := .ref (q10 13)) (C := RX10) (Tb := TX10) (N := 18) hx hb hts hu_10 hown hKW hP 0 rfl rfl 15 (by decide) hf_47 rfl rfl dX10_cost_81 ?_
              refine lv_iload hx hb dX10_cost_84 (lv_at hl 4 rfl) ?_
              refine k_iald (n := 10) (i := t - 1) hx hb hKW hP 13 0 rfl rfl (by omega) (by omega) dX10_cost_86 ?_
              refine k_top (y := nI (R % 10)) (pk_us) ?_
              refine lv_ishl hx hb dX10_cost_87 ?_
              refine k_top (y := nI (2 ^ (R % 10))) (k_shl1 (by omega)) ?_
              refine lv_ior hx hb dX10_cost_88 ?_
              refine k_top (y := nI (B2 ||| 2 ^ (R % 10))) (k_or _ _) ?_
              refine lv_istore (lv' := [(5, .int (nI (B2 ||| 2 ^ (R % 10)))), (3, .long (lN (R / 10))), (0, .ref (q10 0)), (1, .long (lN R0)), (6, .int (nI (t - 1)))]) hx hb dX10_cost_89 hl (by decide) rfl (fun ls hl => ?_)
              refine lv_iinc (v := nI (t - 1) - nI 1) (lv' := [(6, .int (nI (t - 1) - nI 1)), (5, .int (nI (B2 ||| 2 ^ (R % 10)))), (3, .long (lN (R / 10))), (0, .ref (q10 0)), (1, .long (lN R0))]) hx hb dX10_cost_91 hl (k := 4) rfl (k_dec _) (by decide) rfl (fun ls hl => ?_)
              refine lv_goto (tgt := 21) hx hb dX10_cost_94 (by decide) ?_
              exact ih_21 _ _ _ _ (by omega) (dg_next hRe (by omega) ht) (by omega) (Nat.or_lt_two_pow (n := 10) hB2 (Nat.lt_of_le_of_lt (pow_lt_1024 (by omega)) (by decide))) (by rw [hv, show t = (t - 1) + 1 by omega, coV_s, decide_eq_false (by omega), Bool.eq_false_iff.mpr (fun z => c_72 (tb_mod.mp z))]; rfl) (fun k h1 h2 => by by_cases e9 : k = t - 1; (rw [e9, pk_us, dg_step hRe (by omega) ht]); (rw [pk_un e9]; exact hd k (by omega) h2)) (fun k h1 h2 => by by_cases e9 : k = t - 1; (rw [e9, dg_step hRe (by omega) ht]; exact c_56); (exact hdn k (by omega) h2)) (by omega) _ _ hP hD hS ls (lv_sub hl [3, 4, 2, 1, 0] rfl)
            · skip
              have c_72 := k_ne_n (by omega) (by omega) c_72
              refine lv_iconst (v := (-1)) hx hb dX10_cost_75 (by decide) ?_
              subst hQ; subst hAe
              exact W.iret (v := (-1)) hx hb hr (fun tt9 ht9 _ => ⟨⟨(-1), (overs_10, upd f (t - 1) (nI (R % 10))), rfl, by rw [if_neg (k_lNn hR0), k_lNt hR0, hv, show t = (t - 1) + 1 by omega, coV_s, tb_mod.mpr c_72, Bool.or_true]; rfl, by rw [ht9]; exact hP, hD⟩, hS.F ht9⟩) hS.2.2 dX10_cost_76
    exact hL_21 _ _ R0 0 _ (Nat.le_refl _) (by rw [Nat.sub_self, Nat.pow_zero, Nat.div_one]) hR0 (by omega) rfl (fun k h1 h2 => absurd h1 (by omega)) (fun k h1 h2 => absurd h1 (by omega)) (Nat.lt_succ_self _) _ _ hP hD hS ls (lv_sub hl [3, 4, 2, 1, 0] rfl)
  · skip
    have c_3 := k_lc_ge_n c_3
    refine lv_iconst (v := (-1)) hx hb dX10_cost_6 (by decide) ?_
    subst hQ; subst hAe
    exact W.iret (v := (-1)) hx hb hr (fun tt9 ht9 _ => ⟨⟨(-1), (overs_10, digits_10), rfl, by rw [if_pos (by rw [Int64.lt_iff_toInt_lt]; rw [Int64.le_iff_toInt_le] at c_3; omega)], by rw [ht9]; exact hP, hD⟩, hS.F ht9⟩) hS.2.2 dX10_cost_7
