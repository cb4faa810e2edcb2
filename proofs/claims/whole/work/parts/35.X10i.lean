def rmX10_core : Room := { frames := 4, cells := 0, slots := 0, locals := 89 }
set_option maxHeartbeats 4000000 in
set_option maxRecDepth 100000 in
theorem c_X10_core (l : Launch) (D : va_G) (cI cJ cB : ClassId) (q10 : Nat → Nat) (st_10 : Nat → Int32) (kept_10 : Nat → Int32) (undoable_10 : Int32) (newest_10 : Int32) (tape_10 : Nat → Int32) (taped_10 : Int32) (marks_10 : Nat → Int32) (order_10 : Nat → Int32) (reach_10 : Nat → Int32) (heapOf_10 : Nat → Int32) (rows_10 : Nat → Int64) (x_10 : Nat → Int64) (overs_10 : Nat → Int32) (costs_10 : Nat → Int32) (ways_10 : Nat → Int32) (digits_10 : Nat → Int32) (beaten_10 : Nat → Int32) (walks_10 : Nat → Int32) (n : Nat) (ml : List Mt) (nx : List (Nat × Nat)) (ks : List Nat) (rr : Int32 × Int32 × Int32) (hR : RS st_10 n ml nx ks rr) (hV : VS n ml nx ks) : ∀ sz, Met l yX10_core wsX10_core rmX10_core (va_Pc [.ref (q10 0)] (PW D (kT cI cJ cB) sz (wX10 q10 cI cJ cB st_10 kept_10 undoable_10 newest_10 tape_10 taped_10 marks_10 order_10 reach_10 heapOf_10 rows_10 x_10 overs_10 costs_10 ways_10 digits_10 beaten_10 walks_10))) (va_Qi (S := (Nat → Int32)) (fun r beaten_10' => r = nI (coreF (fun a => btF ml n a) n (2 ^ n - 2))) (QW D sz (wX10 q10 cI cJ cB st_10 kept_10 undoable_10 newest_10 tape_10 taped_10 marks_10 order_10 reach_10 heapOf_10 rows_10 x_10 overs_10 costs_10 ways_10 digits_10 beaten_10 walks_10) (fun beaten_10' => (wX10 q10 cI cJ cB st_10 kept_10 undoable_10 newest_10 tape_10 taped_10 marks_10 order_10 reach_10 heapOf_10 rows_10 x_10 overs_10 costs_10 ways_10 digits_10 beaten_10' walks_10))) (va_A (wX10 q10 cI cJ cB st_10 kept_10 undoable_10 newest_10 tape_10 taped_10 marks_10 order_10 reach_10 heapOf_10 rows_10 x_10 overs_10 costs_10 ways_10 digits_10 beaten_10 walks_10) sz)) 0 0 (va_A (wX10 q10 cI cJ cB st_10 kept_10 undoable_10 newest_10 tape_10 taped_10 marks_10 order_10 reach_10 heapOf_10 rows_10 x_10 overs_10 costs_10 ways_10 digits_10 beaten_10 walks_10) sz) := by
  intro sz
  refine Met.ofW (cc := cX10_core) (maxL := 6) (ret := (some .int)) (by decide) rfl ?_
  intro p e s m args below meth c s₁ B hml hv
  obtain ⟨hav, hsz, hP, hKW, hD0⟩ := hv
  have hx := B.exec
  have hb := B.bytes
  have hr := B.returns
  have hts := atoms_spec (ws := wsX10_core) B.pre
  have hown : s.vm.findClass RX10 = some m.cls := findClass_of_methodNamed B.named
  have hlocks := B.notSynchronized
  subst hsz
  have hD := hD0.self (sz := s.heap.size)
  obtain ⟨A, hAe⟩ : ∃ A : Nat → Prop, A = va_A (wX10 q10 cI cJ cB st_10 kept_10 undoable_10 newest_10 tape_10 taped_10 marks_10 order_10 reach_10 heapOf_10 rows_10 x_10 overs_10 costs_10 ways_10 digits_10 beaten_10 walks_10) s.heap.size := ⟨_, rfl⟩
  rw [← hAe] at hD
  have hA : ∀ q : Nat, s.heap.size ≤ q → A q := fun q h => by rw [hAe]; exact Or.inr h
  have hS : va_S A s.heap s.heap [] := va_S.rf
  refine k_gen (fun Q hQ => ?_)
  have hl := lv_entry ([.ref (q10 0)]) (n := 6) (Nat.le_of_ble_eq_true rfl)
  refine k_entry hav (lg_entry_eq ..) ?_
  generalize (lg_sl ([.ref (q10 0)]) ++ List.replicate (6 - (lg_sl ([.ref (q10 0)])).length) Slot.unset).toArray = ls at hl ⊢
  have hl : lv_has ls 6 [(0, .ref (q10 0))] := hl
  have hu_10 : ∀ w ∈ u_ws RX10 TX10 18, w ∈ wsX10_core := by decide +kernel
  have hf_50 : Cond.fieldLink RX10 50 "MeetingRanksModel" "beaten" "[I" ∈ wsX10_core := by decide +kernel
  have hn1 := hV.1
  have hn10 := hV.2.1
  have hm120 := hV.2.2.1
  have hx40 := hV.2.2.2.2.1
  have hk4 := hV.2.2.2.2.2.2.1
  have h2n := pow_le_1024 hn10
  have h2p := Nat.two_pow_pos n
  refine lv_aload_n hx hb dX10_core_0 rfl (lv_at hl 0 rfl) ?_
  have hs_1 : kSplit (wX10 q10 cI cJ cB st_10 kept_10 undoable_10 newest_10 tape_10 taped_10 marks_10 order_10 reach_10 heapOf_10 rows_10 x_10 overs_10 costs_10 ways_10 digits_10 beaten_10 walks_10) (wX10 q10 cI cJ cB st_10 kept_10 undoable_10 newest_10 tape_10 taped_10 marks_10 order_10 reach_10 heapOf_10 rows_10 x_10 overs_10 costs_10 ways_10 digits_10 beaten_10 walks_10) ([] : va_W) [0, 1, 2, 3, 4, 5, 6, 7, 8, 9, 10, 11, 12, 13, 14, 15] [] := ⟨rfl, rfl, rfl, rfl, rfl, by decide⟩
  refine kc_v hP hD hS hA hs_1 (kV (As := []) (rest := []) hx hb hml hown hts hKW hP hD hs_1 (c_X10_gatherBeaten l D cI cJ cB q10 st_10 kept_10 undoable_10 newest_10 tape_10 taped_10 marks_10 order_10 reach_10 heapOf_10 rows_10 x_10 overs_10 costs_10 ways_10 digits_10 beaten_10 walks_10 n ml nx ks rr (by first | assumption | omega) (by first | assumption | omega)) (cwV 0 hts gX10_core_X10_gatherBeaten rfl rfl rfl (by decide +kernel) ⟨Nat.le_of_ble_eq_true rfl, Nat.le_of_ble_eq_true rfl⟩) 0 10 rfl rfl rfl rfl hl.1 rfl (Nat.le_of_ble_eq_true rfl) dX10_core_1 ⟨Nat.zero_le _, Nat.zero_le _⟩) (fun u_1 H locs hw_1 hP hD hS => ?_)
  obtain ⟨beaten_10_1, rfl⟩ : ∃ z, z = u_1 := ⟨_, rfl⟩
  have hP : va_P D vwCl (wX10 q10 cI cJ cB st_10 kept_10 undoable_10 newest_10 tape_10 taped_10 marks_10 order_10 reach_10 heapOf_10 rows_10 x_10 overs_10 costs_10 ways_10 digits_10 beaten_10_1 walks_10) H := hP.sub (ws' := (wX10 q10 cI cJ cB st_10 kept_10 undoable_10 newest_10 tape_10 taped_10 marks_10 order_10 reach_10 heapOf_10 rows_10 x_10 overs_10 costs_10 ways_10 digits_10 beaten_10_1 walks_10)) [0, 1, 2, 3, 4, 5, 6, 7, 8, 9, 10, 11, 12, 13, 14, 15] rfl
  have hD : va_D A (wX10 q10 cI cJ cB st_10 kept_10 undoable_10 newest_10 tape_10 taped_10 marks_10 order_10 reach_10 heapOf_10 rows_10 x_10 overs_10 costs_10 ways_10 digits_10 beaten_10_1 walks_10) := hD.sub (ws' := (wX10 q10 cI cJ cB st_10 kept_10 undoable_10 newest_10 tape_10 taped_10 marks_10 order_10 reach_10 heapOf_10 rows_10 x_10 overs_10 costs_10 ways_10 digits_10 beaten_10_1 walks_10)) [0, 1, 2, 3, 4, 5, 6, 7, 8, 9, 10, 11, 12, 13, 14, 15] (by decide) rfl
  refine lv_iconst (v := nI 1) hx hb dX10_core_4 (by decide) ?_
  refine lv_aload_n hx hb dX10_core_5 rfl (lv_at hl 0 rfl) ?_
  have hs_6 : kSplit (wX10 q10 cI cJ cB st_10 kept_10 undoable_10 newest_10 tape_10 taped_10 marks_10 order_10 reach_10 heapOf_10 rows_10 x_10 overs_10 costs_10 ways_10 digits_10 beaten_10_1 walks_10) (wX10 q10 cI cJ cB st_10 kept_10 undoable_10 newest_10 tape_10 taped_10 marks_10 order_10 reach_10 heapOf_10 rows_10 x_10 overs_10 costs_10 ways_10 digits_10 beaten_10_1 walks_10) ([] : va_W) [0, 1, 2, 3, 4, 5, 6, 7, 8, 9, 10, 11, 12, 13, 14, 15] [] := ⟨rfl, rfl, rfl, rfl, rfl, by decide⟩
  refine kc_i hP hD hS hA hs_6 (kV (As := []) (rest := [.int (nI 1)]) hx hb hml hown hts hKW hP hD hs_6 (c_X10_n l D cI cJ cB q10 st_10 kept_10 undoable_10 newest_10 tape_10 taped_10 marks_10 order_10 reach_10 heapOf_10 rows_10 x_10 overs_10 costs_10 ways_10 digits_10 beaten_10_1 walks_10 n ml nx ks rr (by first | assumption | omega) (by first | assumption | omega)) (cwV 0 hts gX10_core_X10_n rfl rfl rfl (by decide +kernel) ⟨Nat.le_of_ble_eq_true rfl, Nat.le_of_ble_eq_true rfl⟩) 0 10 rfl rfl rfl rfl hl.1 rfl (Nat.le_of_ble_eq_true rfl) dX10_core_6 ⟨Nat.zero_le _, Nat.zero_le _⟩) (fun r_6 u_6 H locs hw_6 hP hD hS => ?_)
  have er_6 := hw_6
  have er_6 := er_6.symm
  subst er_6
  have hP : va_P D vwCl (wX10 q10 cI cJ cB st_10 kept_10 undoable_10 newest_10 tape_10 taped_10 marks_10 order_10 reach_10 heapOf_10 rows_10 x_10 overs_10 costs_10 ways_10 digits_10 beaten_10_1 walks_10) H := hP.sub (ws' := (wX10 q10 cI cJ cB st_10 kept_10 undoable_10 newest_10 tape_10 taped_10 marks_10 order_10 reach_10 heapOf_10 rows_10 x_10 overs_10 costs_10 ways_10 digits_10 beaten_10_1 walks_10)) [0, 1, 2, 3, 4, 5, 6, 7, 8, 9, 10, 11, 12, 13, 14, 15] rfl
  have hD : va_D A (wX10 q10 cI cJ cB st_10 kept_10 undoable_10 newest_10 tape_10 taped_10 marks_10 order_10 reach_10 heapOf_10 rows_10 x_10 overs_10 costs_10 ways_10 digits_10 beaten_10_1 walks_10) := hD.sub (ws' := (wX10 q10 cI cJ cB st_10 kept_10 undoable_10 newest_10 tape_10 taped_10 marks_10 order_10 reach_10 heapOf_10 rows_10 x_10 overs_10 costs_10 ways_10 digits_10 beaten_10_1 walks_10)) [0, 1, 2, 3, 4, 5, 6, 7, 8, 9, 10, 11, 12, 13, 14, 15] (by decide) rfl
  refine lv_ishl hx hb dX10_core_9 ?_
  refine k_top (y := nI (2 ^ n)) (k_shl1 (by omega)) ?_
  refine lv_iconst (v := nI 1) hx hb dX10_core_10 (by decide) ?_
  refine k_isub hx hb (by omega) dX10_core_11 ?_
  refine lv_istore_n (lv' := [(1, .int (nI ((2 ^ n) - 1))), (0, .ref (q10 0))]) hx hb dX10_core_12 rfl hl (by decide) rfl (fun ls hl => ?_)
  refine lv_iload_n hx hb dX10_core_13 rfl (lv_at hl 0 rfl) ?_
  refine lv_istore_n (lv' := [(2, .int (nI ((2 ^ n) - 1))), (1, .int (nI ((2 ^ n) - 1))), (0, .ref (q10 0))]) hx hb dX10_core_14 rfl hl (by decide) rfl (fun ls hl => ?_)
  refine lv_iconst (v := nI 1) hx hb dX10_core_15 (by decide) ?_
  refine lv_istore_n (lv' := [(3, .int (nI 1)), (2, .int (nI ((2 ^ n) - 1))), (1, .int (nI ((2 ^ n) - 1))), (0, .ref (q10 0))]) hx hb dX10_core_16 rfl hl (by decide) rfl (fun ls hl => ?_)
  have hL_17 : ∀ (fu : Nat) (s2 : Nat) (hs1 : 1 ≤ s2) (hs2 : s2 ≤ 2 ^ n - 1), 2 ^ n - 1 - s2 < fu → ∀ (H : Heap) (locs : List Loc), va_P D vwCl (wX10 q10 cI cJ cB st_10 kept_10 undoable_10 newest_10 tape_10 taped_10 marks_10 order_10 reach_10 heapOf_10 rows_10 x_10 overs_10 costs_10 ways_10 digits_10 beaten_10_1 walks_10) H → va_D A (wX10 q10 cI cJ cB st_10 kept_10 undoable_10 newest_10 tape_10 taped_10 marks_10 order_10 reach_10 heapOf_10 rows_10 x_10 overs_10 costs_10 ways_10 digits_10 beaten_10_1 walks_10) → va_S A s.heap H locs → ∀ (ls : Array Slot), lv_has ls 6 [(0, .ref (q10 0)), (1, .int (nI ((2 ^ n) - 1))), (2, .int (nI (coreF (fun a => btF ml n a) n (s2 - 1)))), (3, .int (nI s2))] → W p l e (headSpec wsX10_core rmX10_core).room s m args below meth c H locs 0 0 Q (F0 m 17 ls []) := by
    intro fu
    induction fu with
    | zero => intro s2 hs1 hs2 hfu; exact absurd hfu (Nat.not_lt_zero _)
    | succ fu ih_17 =>
      intro s2 hs1 hs2 hfu H locs hP hD hS ls hl
      have hcl9 := coreF_lt (fun a => btF ml n a) n (s2 - 1) (by omega)
      refine lv_iload_n hx hb dX10_core_17 rfl (lv_at hl 3 rfl) ?_
      refine lv_iload_n hx hb dX10_core_18 rfl (lv_at hl 1 rfl) ?_
      refine lv_icmp_ge (tgt := 114) hx hb dX10_core_19 (by decide) (fun c_19 => ?_) (fun c_19 => ?_)
      · skip
        have c_19 := k_ge (by omega) (by omega) c_19
        obtain rfl : s2 = 2 ^ n - 1 := by omega
        refine lv_iload_n hx hb dX10_core_114 rfl (lv_at hl 2 rfl) ?_
        subst hQ; subst hAe
        exact W.iret (v := nI (coreF (fun a => btF ml n a) n ((2 ^ n - 1) - 1))) hx hb hr (fun t ht _ => ⟨⟨nI (coreF (fun a => btF ml n a) n ((2 ^ n - 1) - 1)), (beaten_10_1), rfl, rfl, by rw [ht]; exact hP, hD⟩, hS.F ht⟩) hS.2.2 dX10_core_115
      · skip
        have c_19 := k_ge_n (by omega) (by omega) c_19
        refine lv_iload_n hx hb dX10_core_22 rfl (lv_at hl 3 rfl) ?_
        have hs_23 : kSplit (wX10 q10 cI cJ cB st_10 kept_10 undoable_10 newest_10 tape_10 taped_10 marks_10 order_10 reach_10 heapOf_10 rows_10 x_10 overs_10 costs_10 ways_10 digits_10 beaten_10_1 walks_10) ([] : va_W) (wX10 q10 cI cJ cB st_10 kept_10 undoable_10 newest_10 tape_10 taped_10 marks_10 order_10 reach_10 heapOf_10 rows_10 x_10 overs_10 costs_10 ways_10 digits_10 beaten_10_1 walks_10) [] [0, 1, 2, 3, 4, 5, 6, 7, 8, 9, 10, 11, 12, 13, 14, 15] := ⟨rfl, rfl, rfl, rfl, rfl, by decide⟩
        refine kc_i hP hD hS hA hs_23 (kS (As := [.int (nI s2)]) (rest := []) hx hb hml hown hts hKW hP hD hs_23 (c_X10_many l D cI cJ cB s2 (by omega)) (va_cwS 1 hts gX10_core_X10_many rfl rfl rfl (by decide +kernel) ⟨Nat.le_of_ble_eq_true rfl, Nat.le_of_ble_eq_true rfl⟩) rfl hl.1 rfl (Nat.le_of_ble_eq_true rfl) dX10_core_23 ⟨Nat.zero_le _, Nat.zero_le _⟩) (fun r_23 u_23 H locs hw_23 hP hD hS => ?_)
        have er_23 := hw_23
        have er_23 := er_23.symm
        subst er_23
        have hP : va_P D vwCl (wX10 q10 cI cJ cB st_10 kept_10 undoable_10 newest_10 tape_10 taped_10 marks_10 order_10 reach_10 heapOf_10 rows_10 x_10 overs_10 costs_10 ways_10 digits_10 beaten_10_1 walks_10) H := hP.sub (ws' := (wX10 q10 cI cJ cB st_10 kept_10 undoable_10 newest_10 tape_10 taped_10 marks_10 order_10 reach_10 heapOf_10 rows_10 x_10 overs_10 costs_10 ways_10 digits_10 beaten_10_1 walks_10)) [0, 1, 2, 3, 4, 5, 6, 7, 8, 9, 10, 11, 12, 13, 14, 15] rfl
        have hD : va_D A (wX10 q10 cI cJ cB st_10 kept_10 undoable_10 newest_10 tape_10 taped_10 marks_10 order_10 reach_10 heapOf_10 rows_10 x_10 overs_10 costs_10 ways_10 digits_10 beaten_10_1 walks_10) := hD.sub (ws' := (wX10 q10 cI cJ cB st_10 kept_10 undoable_10 newest_10 tape_10 taped_10 marks_10 order_10 reach_10 heapOf_10 rows_10 x_10 overs_10 costs_10 ways_10 digits_10 beaten_10_1 walks_10)) [0, 1, 2, 3, 4, 5, 6, 7, 8, 9, 10, 11, 12, 13, 14, 15] (by decide) rfl
        have hpc8 := pcF_le s2 10
        refine lv_iload_n hx hb dX10_core_26 rfl (lv_at hl 2 rfl) ?_
        have hs_27 : kSplit (wX10 q10 cI cJ cB st_10 kept_10 undoable_10 newest_10 tape_10 taped_10 marks_10 order_10 reach_10 heapOf_10 rows_10 x_10 overs_10 costs_10 ways_10 digits_10 beaten_10_1 walks_10) ([] : va_W) (wX10 q10 cI cJ cB st_10 kept_10 undoable_10 newest_10 tape_10 taped_10 marks_10 order_10 reach_10 heapOf_10 rows_10 x_10 overs_10 costs_10 ways_10 digits_10 beaten_10_1 walks_10) [] [0, 1, 2, 3, 4, 5, 6, 7, 8, 9, 10, 11, 12, 13, 14, 15] := ⟨rfl, rfl, rfl, rfl, rfl, by decide⟩
        refine kc_i hP hD hS hA hs_27 (kS (As := [.int (nI (coreF (fun a => btF ml n a) n (s2 - 1)))]) (rest := [.int (nI (pcF s2 10))]) hx hb hml hown hts hKW hP hD hs_27 (c_X10_many l D cI cJ cB (coreF (fun a => btF ml n a) n (s2 - 1)) (by omega)) (va_cwS 1 hts gX10_core_X10_many rfl rfl rfl (by decide +kernel) ⟨Nat.le_of_ble_eq_true rfl, Nat.le_of_ble_eq_true rfl⟩) rfl hl.1 rfl (Nat.le_of_ble_eq_true rfl) dX10_core_27 ⟨Nat.zero_le _, Nat.zero_le _⟩) (fun r_27 u_27 H locs hw_27 hP hD hS => ?_)
        have er_27 := hw_27
        have er_27 := er_27.symm
        subst er_27
        have hP : va_P D vwCl (wX10 q10 cI cJ cB st_10 kept_10 undoable_10 newest_10 tape_10 taped_10 marks_10 order_10 reach_10 heapOf_10 rows_10 x_10 overs_10 costs_10 ways_10 digits_10 beaten_10_1 walks_10) H := hP.sub (ws' := (wX10 q10 cI cJ cB st_10 kept_10 undoable_10 newest_10 tape_10 taped_10 marks_10 order_10 reach_10 heapOf_10 rows_10 x_10 overs_10 costs_10 ways_10 digits_10 beaten_10_1 walks_10)) [0, 1, 2, 3, 4, 5, 6, 7, 8, 9, 10, 11, 12, 13, 14, 15] rfl
        have hD : va_D A (wX10 q10 cI cJ cB st_10 kept_10 undoable_10 newest_10 tape_10 taped_10 marks_10 order_10 reach_10 heapOf_10 rows_10 x_10 overs_10 costs_10 ways_10 digits_10 beaten_10_1 walks_10) := hD.sub (ws' := (wX10 q10 cI cJ cB st_10 kept_10 undoable_10 newest_10 tape_10 taped_10 marks_10 order_10 reach_10 heapOf_10 rows_10 x_10 overs_10 costs_10 ways_10 digits_10 beaten_10_1 walks_10)) [0, 1, 2, 3, 4, 5, 6, 7, 8, 9, 10, 11, 12, 13, 14, 15] (by decide) rfl
        have hpc9 := pcF_le (coreF (fun a => btF ml n a) n (s2 - 1)) 10
        have hJ_38 : ∀ (t : Nat) (ht : t = if pcF s2 10 < pcF (coreF (fun a => btF ml n a) n (s2 - 1)) 10 then 1 else 0), ∀ (H : Heap) (locs : List Loc), va_P D vwCl (wX10 q10 cI cJ cB st_10 kept_10 undoable_10 newest_10 tape_10 taped_10 marks_10 order_10 reach_10 heapOf_10 rows_10 x_10 overs_10 costs_10 ways_10 digits_10 beaten_10_1 walks_10) H → va_D A (wX10 q10 cI cJ cB st_10 kept_10 undoable_10 newest_10 tape_10 taped_10 marks_10 order_10 reach_10 heapOf_10 rows_10 x_10 overs_10 costs_10 ways_10 digits_10 beaten_10_1 walks_10) → va_S A s.heap H locs → ∀ (ls : Array Slot), lv_has ls 6 [(0, .ref (q10 0)), (1, .int (nI ((2 ^ n) - 1))), (2, .int (nI (coreF (fun a => btF ml n a) n (s2 - 1)))), (3, .int (nI s2))] → W p l e (headSpec wsX10_core rmX10_core).room s m args below meth c H locs 0 0 Q (F0 m 38 ls [.int (nI t)]) := by
          intro t ht H locs hP hD hS ls hl
          refine lv_istore (lv' := [(4, .int (nI t)), (0, .ref (q10 0)), (1, .int (nI ((2 ^ n) - 1))), (2, .int (nI (coreF (fun a => btF ml n a) n (s2 - 1)))), (3, .int (nI s2))]) hx hb dX10_core_38 hl (by decide) rfl (fun ls hl => ?_)
          have hJ_97 : ∀ (t : Nat) (ht : t = if pcF s2 10 < pcF (coreF (fun a => btF ml n a) n (s2 - 1)) 10 ∧ domB (fun a => btF ml n a) n s2 n = true then 1 else 0), ∀ (H : Heap) (locs : List Loc), va_P D vwCl (wX10 q10 cI cJ cB st_10 kept_10 undoable_10 newest_10 tape_10 taped_10 marks_10 order_10 reach_10 heapOf_10 rows_10 x_10 overs_10 costs_10 ways_10 digits_10 beaten_10_1 walks_10) H → va_D A (wX10 q10 cI cJ cB st_10 kept_10 undoable_10 newest_10 tape_10 taped_10 marks_10 order_10 reach_10 heapOf_10 rows_10 x_10 overs_10 costs_10 ways_10 digits_10 beaten_10_1 walks_10) → va_S A s.heap H locs → ∀ (ls : Array Slot), lv_has ls 6 [(0, .ref (q10 0)), (1, .int (nI ((2 ^ n) - 1))), (2, .int (nI (coreF (fun a => btF ml n a) n (s2 - 1)))), (3, .int (nI s2)), (4, .int (nI t))] → W p l e (headSpec wsX10_core rmX10_core).room s m args below meth c H locs 0 0 Q (F0 m 97 ls []) := by
            intro t ht H locs hP hD hS ls hl
            have ht1 : t ≤ 1 := by rw [ht]; split <;> omega
            have hJ_107 : ∀ (b2 : Nat) (hb9 : b2 = coreF (fun a => btF ml n a) n (s2 + 1 - 1)), ∀ (H : Heap) (locs : List Loc), va_P D vwCl (wX10 q10 cI cJ cB st_10 kept_10 undoable_10 newest_10 tape_10 taped_10 marks_10 order_10 reach_10 heapOf_10 rows_10 x_10 overs_10 costs_10 ways_10 digits_10 beaten_10_1 walks_10) H → va_D A (wX10 q10 cI cJ cB st_10 kept_10 undoable_10 newest_10 tape_10 taped_10 marks_10 order_10 reach_10 heapOf_10 rows_10 x_10 overs_10 costs_10 ways_10 digits_10 beaten_10_1 walks_10) → va_S A s.heap H locs → ∀ (ls : Array Slot), lv_has ls 6 [(0, .ref (q10 0)), (1, .int (nI ((2 ^ n) - 1))), (2, .int (nI (coreF (fun a => btF ml n a) n (s2 - 1)))), (3, .int (nI s2)), (4, .int (nI t))] → W p l e (headSpec wsX10_core rmX10_core).room s m args below meth c H locs 0 0 Q (F0 m 107 ls [.int (nI b2)]) := by
              intro b2 hb9 H locs hP hD hS ls hl
              refine lv_istore_n (lv' := [(2, .int (nI b2)), (0, .ref (q10 0)), (1, .int (nI ((2 ^ n) - 1))), (3, .int (nI s2)), (4, .int (nI t))]) hx hb dX10_core_107 rfl hl (by decide) rfl (fun ls hl => ?_)
              refine lv_iinc (v := nI (s2 + 1)) (lv' := [(3, .int (nI (s2 + 1))), (2, .int (nI b2)), (0, .ref (q10 0)), (1, .int (nI ((2 ^ n) - 1))), (4, .int (nI t))]) hx hb dX10_core_108 hl (k := 3) rfl (nI_add _ _) (by decide) rfl (fun ls hl => ?_)
              refine lv_goto (tgt := 17) hx hb dX10_core_111 (by decide) ?_
              subst hb9
              exact ih_17 (s2 + 1) (by omega) (by omega) (by omega) _ _ hP hD hS ls (lv_sub hl [2, 3, 1, 0] rfl)
            refine lv_iload hx hb dX10_core_97 (lv_at hl 4 rfl) ?_
            refine lv_if_eq (tgt := 106) hx hb dX10_core_99 (by decide) (fun c_99 => ?_) (fun c_99 => ?_)
            · skip
              have c_99 := k0_eq (by omega) c_99
              refine lv_iload_n hx hb dX10_core_106 rfl (lv_at hl 2 rfl) ?_
              exact hJ_107 _ (by rw [show s2 + 1 - 1 = s2 from rfl, core_s hs1, if_neg (fun z => by rw [if_pos z] at ht; omega)]) _ _ hP hD hS ls (lv_sub hl [0, 1, 2, 3, 4] rfl)
            · skip
              have c_99 := k0_eq_n (by omega) c_99
              refine lv_iload_n hx hb dX10_core_102 rfl (lv_at hl 3 rfl) ?_
              refine lv_goto (tgt := 107) hx hb dX10_core_103 (by decide) ?_
              exact hJ_107 _ (by rw [show s2 + 1 - 1 = s2 from rfl, core_s hs1, if_pos (core_t ht c_99)]) _ _ hP hD hS ls (lv_sub hl [0, 1, 2, 3, 4] rfl)
          refine lv_iconst (v := nI 0) hx hb dX10_core_40 (by decide) ?_
          refine lv_istore (lv' := [(5, .int (nI 0)), (4, .int (nI t)), (0, .ref (q10 0)), (1, .int (nI ((2 ^ n) - 1))), (2, .int (nI (coreF (fun a => btF ml n a) n (s2 - 1)))), (3, .int (nI s2))]) hx hb dX10_core_41 hl (by decide) rfl (fun ls hl => ?_)
          have hL_43 : ∀ (fu : Nat) (p1 : Nat) (t : Nat) (hp1 : p1 ≤ n) (ht : t = if pcF s2 10 < pcF (coreF (fun a => btF ml n a) n (s2 - 1)) 10 ∧ domB (fun a => btF ml n a) n s2 p1 = true then 1 else 0), n - p1 < fu → ∀ (H : Heap) (locs : List Loc), va_P D vwCl (wX10 q10 cI cJ cB st_10 kept_10 undoable_10 newest_10 tape_10 taped_10 marks_10 order_10 reach_10 heapOf_10 rows_10 x_10 overs_10 costs_10 ways_10 digits_10 beaten_10_1 walks_10) H → va_D A (wX10 q10 cI cJ cB st_10 kept_10 undoable_10 newest_10 tape_10 taped_10 marks_10 order_10 reach_10 heapOf_10 rows_10 x_10 overs_10 costs_10 ways_10 digits_10 beaten_10_1 walks_10) → va_S A s.heap H locs → ∀ (ls : Array Slot), lv_has ls 6 [(0, .ref (q10 0)), (1, .int (nI ((2 ^ n) - 1))), (2, .int (nI (coreF (fun a => btF ml n a) n (s2 - 1)))), (3, .int (nI s2)), (4, .int (nI t)), (5, .int (nI p1))] → W p l e (headSpec wsX10_core rmX10_core).room s m args below meth c H locs 0 0 Q (F0 m 43 ls []) := by
            intro fu
            induction fu with
            | zero => intro p1 t hp1 ht hfu; exact absurd hfu (Nat.not_lt_zero _)
            | succ fu ih_43 =>
              intro p1 t hp1 ht hfu H locs hP hD hS ls hl
              have ht1 : t ≤ 1 := by rw [ht]; split <;> omega
              refine lv_iload hx hb dX10_core_43 (lv_at hl 5 rfl) ?_
              refine lv_aload_n hx hb dX10_core_45 rfl (lv_at hl 0 rfl) ?_
              have hs_46 : kSplit (wX10 q10 cI cJ cB st_10 kept_10 undoable_10 newest_10 tape_10 taped_10 marks_10 order_10 reach_10 heapOf_10 rows_10 x_10 overs_10 costs_10 ways_10 digits_10 beaten_10_1 walks_10) (wX10 q10 cI cJ cB st_10 kept_10 undoable_10 newest_10 tape_10 taped_10 marks_10 order_10 reach_10 heapOf_10 rows_10 x_10 overs_10 costs_10 ways_10 digits_10 beaten_10_1 walks_10) ([] : va_W) [0, 1, 2, 3, 4, 5, 6, 7, 8, 9, 10, 11, 12, 13, 14, 15] [] := ⟨rfl, rfl, rfl, rfl, rfl, by decide⟩
              refine kc_i hP hD hS hA hs_46 (kV (As := []) (rest := [.int (nI p1)]) hx hb hml hown hts hKW hP hD hs_46 (c_X10_n l D cI cJ cB q10 st_10 kept_10 undoable_10 newest_10 tape_10 taped_10 marks_10 order_10 reach_10 heapOf_10 rows_10 x_10 overs_10 costs_10 ways_10 digits_10 beaten_10_1 walks_10 n ml nx ks rr (by first | assumption | omega) (by first | assumption | omega)) (cwV 0 hts gX10_core_X10_n rfl rfl rfl (by decide +kernel) ⟨Nat.le_of_ble_eq_true rfl, Nat.le_of_ble_eq_true rfl⟩) 0 10 rfl rfl rfl rfl hl.1 rfl (Nat.le_of_ble_eq_true rfl) dX10_core_46 ⟨Nat.zero_le _, Nat.zero_le _⟩) (fun r_46 u_46 H locs hw_46 hP hD hS => ?_)
              have er_46 := hw_46
              have er_46 := er_46.symm
              subst er_46
              have hP : va_P D vwCl (wX10 q10 cI cJ cB st_10 kept_10 undoable_10 newest_10 tape_10 taped_10 marks_10 order_10 reach_10 heapOf_10 rows_10 x_10 overs_10 costs_10 ways_10 digits_10 beaten_10_1 walks_10) H := hP.sub (ws' := (wX10 q10 cI cJ cB st_10 kept_10 undoable_10 newest_10 tape_10 taped_10 marks_10 order_10 reach_10 heapOf_10 rows_10 x_10 overs_10 costs_10 ways_10 digits_10 beaten_10_1 walks_10)) [0, 1, 2, 3, 4, 5, 6, 7, 8, 9, 10, 11, 12, 13, 14, 15] rfl
              have hD : va_D A (wX10 q10 cI cJ cB st_10 kept_10 undoable_10 newest_10 tape_10 taped_10 marks_10 order_10 reach_10 heapOf_10 rows_10 x_10 overs_10 costs_10 ways_10 digits_10 beaten_10_1 walks_10) := hD.sub (ws' := (wX10 q10 cI cJ cB st_10 kept_10 undoable_10 newest_10 tape_10 taped_10 marks_10 order_10 reach_10 heapOf_10 rows_10 x_10 overs_10 costs_10 ways_10 digits_10 beaten_10_1 walks_10)) [0, 1, 2, 3, 4, 5, 6, 7, 8, 9, 10, 11, 12, 13, 14, 15] (by decide) rfl
              refine lv_icmp_ge (tgt := 97) hx hb dX10_core_49 (by decide) (fun c_49 => ?_) (fun c_49 => ?_)
              · skip
                have c_49 := k_ge (by omega) (by omega) c_49
                exact hJ_97 _ (by have e9 : p1 = n := (by omega); subst e9; exact ht) _ _ hP hD hS ls (lv_sub hl [0, 1, 2, 3, 4] rfl)
              · skip
                have c_49 := k_ge_n (by omega) (by omega) c_49
                refine lv_iload hx hb dX10_core_52 (lv_at hl 4 rfl) ?_
                refine lv_if_eq (tgt := 97) hx hb dX10_core_54 (by decide) (fun c_54 => ?_) (fun c_54 => ?_)
                · skip
                  have c_54 := k0_eq (by omega) c_54
                  exact hJ_97 _ (by rw [c_54, if_neg (fun z => by rw [c_54, if_pos ⟨z.1, dom_le z.2 (by omega)⟩] at ht; omega)]) _ _ hP hD hS ls (lv_sub hl [0, 1, 2, 3, 4] rfl)
                · skip
                  have c_54 := k0_eq_n (by omega) c_54
                  have h54 := core_t ht c_54
                  refine lv_iload_n hx hb dX10_core_57 rfl (lv_at hl 3 rfl) ?_
                  refine lv_iload hx hb dX10_core_58 (lv_at hl 5 rfl) ?_
                  refine lv_ishr hx hb dX10_core_60 ?_
                  refine k_top (y := nI (s2 / 2 ^ p1)) (k_shr (by omega) (by omega)) ?_
                  refine lv_iconst (v := nI 1) hx hb dX10_core_61 (by decide) ?_
                  refine lv_iand hx hb dX10_core_62 ?_
                  refine k_top (y := nI (s2 / 2 ^ p1 % 2)) (k_and1 _ (k_shr_lt (by omega))) ?_
                  refine lv_if_eq (tgt := 84) hx hb dX10_core_63 (by decide) (fun c_63 => ?_) (fun c_63 => ?_)
                  · skip
                    have c_63 := k0_eq (by omega) c_63
                    refine lv_iconst (v := nI 1) hx hb dX10_core_84 (by decide) ?_
                    refine lv_goto (tgt := 89) hx hb dX10_core_85 (by decide) ?_
                    refine lv_istore (lv' := [(4, .int (nI 1)), (0, .ref (q10 0)), (1, .int (nI ((2 ^ n) - 1))), (2, .int (nI (coreF (fun a => btF ml n a) n (s2 - 1)))), (3, .int (nI s2)), (5, .int (nI p1))]) hx hb dX10_core_89 hl (by decide) rfl (fun ls hl => ?_)
                    refine lv_iinc (v := nI (p1 + 1)) (lv' := [(5, .int (nI (p1 + 1))), (4, .int (nI 1)), (0, .ref (q10 0)), (1, .int (nI ((2 ^ n) - 1))), (2, .int (nI (coreF (fun a => btF ml n a) n (s2 - 1)))), (3, .int (nI s2))]) hx hb dX10_core_91 hl (k := 5) rfl (nI_add _ _) (by decide) rfl (fun ls hl => ?_)
                    refine lv_goto (tgt := 43) hx hb dX10_core_94 (by decide) ?_
                    exact ih_43 _ _ (by omega) (by rw [if_pos ⟨h54.1, by unfold domB; rw [h54.2, Bool.eq_false_iff.mpr (tb_mod0.mpr c_63)]; rfl⟩]) (by omega) _ _ hP hD hS ls (lv_sub hl [2, 3, 4, 5, 1, 0] rfl)
                  · skip
                    have c_63 := k0_eq_n (by omega) c_63
                    refine lv_iload_n hx hb dX10_core_66 rfl (lv_at hl 1 rfl) ?_
                    refine lv_iload_n hx hb dX10_core_67 rfl (lv_at hl 3 rfl) ?_
                    refine lv_iconst (v := (-1)) hx hb dX10_core_68 (by decide) ?_
                    refine lv_ixor hx hb dX10_core_69 ?_
                    refine lv_iand hx hb dX10_core_70 ?_
                    refine lv_aload_n hx hb dX10_core_71 rfl (lv_at hl 0 rfl) ?_
                    refine k_get (ci := 10) (v := .ref (q10 14)) (C := RX10) (Tb := TX10) (N := 18) hx hb hts hu_10 hown hKW hP 0 rfl rfl 16 (by decide) hf_50 rfl rfl dX10_core_72 ?_
                    refine lv_iload hx hb dX10_core_75 (lv_at hl 5 rfl) ?_
                    refine k_iald (n := 10) (i := p1) hx hb hKW hP 14 0 rfl rfl (by omega) (by omega) dX10_core_77 ?_
                    refine k_top (y := nI (btF ml n p1)) (hw_1 p1 (by omega)) ?_
                    refine lv_iconst (v := (-1)) hx hb dX10_core_78 (by decide) ?_
                    refine lv_ixor hx hb dX10_core_79 ?_
                    refine lv_iand hx hb dX10_core_80 ?_
                    refine lv_if_ne (tgt := 88) hx hb dX10_core_81 (by decide) (fun c_81 => ?_) (fun c_81 => ?_)
                    · skip
                      refine lv_iconst (v := nI 0) hx hb dX10_core_88 (by decide) ?_
                      refine lv_istore (lv' := [(4, .int (nI 0)), (0, .ref (q10 0)), (1, .int (nI ((2 ^ n) - 1))), (2, .int (nI (coreF (fun a => btF ml n a) n (s2 - 1)))), (3, .int (nI s2)), (5, .int (nI p1))]) hx hb dX10_core_89 hl (by decide) rfl (fun ls hl => ?_)
                      refine lv_iinc (v := nI (p1 + 1)) (lv' := [(5, .int (nI (p1 + 1))), (4, .int (nI 0)), (0, .ref (q10 0)), (1, .int (nI ((2 ^ n) - 1))), (2, .int (nI (coreF (fun a => btF ml n a) n (s2 - 1)))), (3, .int (nI s2))]) hx hb dX10_core_91 hl (k := 5) rfl (nI_add _ _) (by decide) rfl (fun ls hl => ?_)
                      refine lv_goto (tgt := 43) hx hb dX10_core_94 (by decide) ?_
                      exact ih_43 _ _ (by omega) (by rw [if_neg (fun z => by have z2 := z.2; unfold domB at z2; rw [decide_eq_false c_81, tb_mod.mpr (show s2 / 2 ^ p1 % 2 = 1 by omega)] at z2; simp at z2)]) (by omega) _ _ hP hD hS ls (lv_sub hl [2, 3, 4, 5, 1, 0] rfl)
                    · skip
                      refine lv_iconst (v := nI 1) hx hb dX10_core_84 (by decide) ?_
                      refine lv_goto (tgt := 89) hx hb dX10_core_85 (by decide) ?_
                      refine lv_istore (lv' := [(4, .int (nI 1)), (0, .ref (q10 0)), (1, .int (nI ((2 ^ n) - 1))), (2, .int (nI (coreF (fun a => btF ml n a) n (s2 - 1)))), (3, .int (nI s2)), (5, .int (nI p1))]) hx hb dX10_core_89 hl (by decide) rfl (fun ls hl => ?_)
                      refine lv_iinc (v := nI (p1 + 1)) (lv' := [(5, .int (nI (p1 + 1))), (4, .int (nI 1)), (0, .ref (q10 0)), (1, .int (nI ((2 ^ n) - 1))), (2, .int (nI (coreF (fun a => btF ml n a) n (s2 - 1)))), (3, .int (nI s2))]) hx hb dX10_core_91 hl (k := 5) rfl (nI_add _ _) (by decide) rfl (fun ls hl => ?_)
                      refine lv_goto (tgt := 43) hx hb dX10_core_94 (by decide) ?_
                      exact ih_43 _ _ (by omega) (by rw [if_pos ⟨h54.1, by unfold domB; rw [h54.2, Bool.true_and, decide_eq_true c_81, Bool.or_true]⟩]) (by omega) _ _ hP hD hS ls (lv_sub hl [2, 3, 4, 5, 1, 0] rfl)
          exact hL_43 _ 0 _ (Nat.zero_le _) (by rw [ht]; by_cases h9 : pcF s2 10 < pcF (coreF (fun a => btF ml n a) n (s2 - 1)) 10; (rw [if_pos h9, if_pos ⟨h9, rfl⟩]); (rw [if_neg h9, if_neg (fun z => h9 z.1)])) (Nat.lt_succ_self _) _ _ hP hD hS ls (lv_sub hl [2, 3, 4, 5, 1, 0] rfl)
        refine lv_icmp_ge (tgt := 37) hx hb dX10_core_30 (by decide) (fun c_30 => ?_) (fun c_30 => ?_)
        · skip
          have c_30 := k_ge (by omega) (by omega) c_30
          refine lv_iconst (v := nI 0) hx hb dX10_core_37 (by decide) ?_
          exact hJ_38 _ (by rw [if_neg (by omega)]) _ _ hP hD hS ls (lv_sub hl [0, 1, 2, 3] rfl)
        · skip
          have c_30 := k_ge_n (by omega) (by omega) c_30
          refine lv_iconst (v := nI 1) hx hb dX10_core_33 (by decide) ?_
          refine lv_goto (tgt := 38) hx hb dX10_core_34 (by decide) ?_
          exact hJ_38 _ (by rw [if_pos c_30]) _ _ hP hD hS ls (lv_sub hl [0, 1, 2, 3] rfl)
  exact hL_17 _ 1 (Nat.le_refl _) (by have := Nat.pow_le_pow_right (show 0 < 2 by decide) hn1; omega) (Nat.lt_succ_self _) _ _ hP hD hS ls (lv_sub hl [3, 2, 1, 0] rfl)
def rmX10_sheet : Room := { frames := 3, cells := 0, slots := 0, locals := 65 }
set_option maxHeartbeats 4000000 in
set_option maxRecDepth 100000 in
theorem c_X10_sheet (l : Launch) (D : va_G) (cI cJ cB : ClassId) (q10 : Nat → Nat) (st_10 : Nat → Int32) (kept_10 : Nat → Int32) (tape_10 : Nat → Int32) (marks_10 : Nat → Int32) (order_10 : Nat → Int32) (reach_10 : Nat → Int32) (heapOf_10 : Nat → Int32) (rows_10 : Nat → Int64) (x_10 : Nat → Int64) (overs_10 : Nat → Int32) (costs_10 : Nat → Int32) (ways_10 : Nat → Int32) (digits_10 : Nat → Int32) (beaten_10 : Nat → Int32) (walks_10 : Nat → Int32) (n : Nat) (ml : List Mt) (nx : List (Nat × Nat)) (ks : List Nat) (rr : Int32 × Int32 × Int32) (w : Nat) (u : Nat) (z : Nat) (x : Int32) (hR : RS st_10 n ml nx ks rr) (hV : VS n ml nx ks) (hw40 : w < 40) (hu40 : u ≤ 40) (hz : z ≤ 480) : ∀ sz, Met l yX10_sheet wsX10_sheet rmX10_sheet (va_Pc [.ref (q10 0), .int x] (PW D (kT cI cJ cB) sz (wX10 q10 cI cJ cB st_10 kept_10 (nI u) (nI w) tape_10 (nI z) marks_10 order_10 reach_10 heapOf_10 rows_10 x_10 overs_10 costs_10 ways_10 digits_10 beaten_10 walks_10))) (va_Qi (S := (Nat → Int32) × (Nat → Int32) × Int32 × Int32 × Int32) (fun r uu => match uu with | (st_10', kept_10', undoable_10', newest_10', taped_10') => (kIn x (z + 1) → r = nI ((shL n tape_10 x.toInt.toNat 121 0 ml).length - ml.length) ∧ RS st_10' n (shL n tape_10 x.toInt.toNat 121 0 ml) nx ks rr ∧ taped_10' = nI 0 ∧ (ml.length < (shL n tape_10 x.toInt.toNat 121 0 ml).length → ActD st_10 kept_10 w u kept_10' newest_10' undoable_10') ∧ ((shL n tape_10 x.toInt.toNat 121 0 ml).length = ml.length → NoD st_10 kept_10 w u st_10' kept_10' newest_10' undoable_10')) ∧ (¬ kIn x (z + 1) → r = -1 ∧ taped_10' = nI z ∧ NoD st_10 kept_10 w u st_10' kept_10' newest_10' undoable_10')) (QW D sz (wX10 q10 cI cJ cB st_10 kept_10 (nI u) (nI w) tape_10 (nI z) marks_10 order_10 reach_10 heapOf_10 rows_10 x_10 overs_10 costs_10 ways_10 digits_10 beaten_10 walks_10) (fun uu => match uu with | (st_10', kept_10', undoable_10', newest_10', taped_10') => (wX10 q10 cI cJ cB st_10' kept_10' undoable_10' newest_10' tape_10 taped_10' marks_10 order_10 reach_10 heapOf_10 rows_10 x_10 overs_10 costs_10 ways_10 digits_10 beaten_10 walks_10))) (va_A (wX10 q10 cI cJ cB st_10 kept_10 (nI u) (nI w) tape_10 (nI z) marks_10 order_10 reach_10 heapOf_10 rows_10 x_10 overs_10 costs_10 ways_10 digits_10 beaten_10 walks_10) sz)) 0 0 (va_A (wX10 q10 cI cJ cB st_10 kept_10 (nI u) (nI w) tape_10 (nI z) marks_10 order_10 reach_10 heapOf_10 rows_10 x_10 overs_10 costs_10 ways_10 digits_10 beaten_10 walks_10) sz) := by
  intro sz
  refine Met.ofW (cc := cX10_sheet) (maxL := 5) (ret := (some .int)) (by decide) rfl ?_
  intro p e s m args below meth c s₁ B hml hv
  obtain ⟨hav, hsz, hP, hKW, hD0⟩ := hv
  have hx := B.exec
  have hb := B.bytes
  have hr := B.returns
  have hts := atoms_spec (ws := wsX10_sheet) B.pre
  have hown : s.vm.findClass RX10 = some m.cls := findClass_of_methodNamed B.named
  have hlocks := B.notSynchronized
  subst hsz
  have hD := hD0.self (sz := s.heap.size)
  obtain ⟨A, hAe⟩ : ∃ A : Nat → Prop, A = va_A (wX10 q10 cI cJ cB st_10 kept_10 (nI u) (nI w) tape_10 (nI z) marks_10 order_10 reach_10 heapOf_10 rows_10 x_10 overs_10 costs_10 ways_10 digits_10 beaten_10 walks_10) s.heap.size := ⟨_, rfl⟩
  rw [← hAe] at hD
  have hA : ∀ q : Nat, s.heap.size ≤ q → A q := fun q h => by rw [hAe]; exact Or.inr h
  have hS : va_S A s.heap s.heap [] := va_S.rf
  refine k_gen (fun Q hQ => ?_)
  have hl := lv_entry ([.ref (q10 0), .int x]) (n := 5) (Nat.le_of_ble_eq_true rfl)
  refine k_entry hav (lg_entry_eq ..) ?_
  generalize (lg_sl ([.ref (q10 0), .int x]) ++ List.replicate (5 - (lg_sl ([.ref (q10 0), .int x])).length) Slot.unset).toArray = ls at hl ⊢
  have hl : lv_has ls 5 [(0, .ref (q10 0)), (1, .int x)] := hl
  have hu_10 : ∀ w ∈ u_ws RX10 TX10 18, w ∈ wsX10_sheet := by decide +kernel
  have hf_16 : Cond.fieldLink RX10 16 "MeetingRanksModel" "tape" "[I" ∈ wsX10_sheet := by decide +kernel
  have hf_82 : Cond.fieldLink RX10 82 "MeetingRanksModel" "taped" "I" ∈ wsX10_sheet := by decide +kernel
  have hn1 := hV.1
  have hn10 := hV.2.1
  have hm120 := hV.2.2.1
  have hx40 := hV.2.2.2.2.1
  have hk4 := hV.2.2.2.2.2.2.1
  refine lv_iload_n hx hb dX10_sheet_0 rfl (lv_at hl 1 rfl) ?_
  refine lv_if_lt (tgt := 12) hx hb dX10_sheet_1 (by decide) (fun c_1 => ?_) (fun c_1 => ?_)
  · skip
    refine lv_iconst (v := (-1)) hx hb dX10_sheet_12 (by decide) ?_
    subst hQ; subst hAe
    exact W.iret (v := (-1)) hx hb hr (fun t ht _ => ⟨⟨(-1), (st_10, kept_10, nI u, nI w, nI z), rfl, ⟨fun h => absurd h (by first | exact kIn_lo c_1 | exact kIn_nle (by omega) c_9), fun _ => ⟨rfl, rfl, rfl, rfl, rfl, rfl⟩⟩, by rw [ht]; exact hP, hD⟩, hS.F ht⟩) hS.2.2 dX10_sheet_13
  · skip
    refine lv_iload_n hx hb dX10_sheet_4 rfl (lv_at hl 1 rfl) ?_
    refine lv_aload_n hx hb dX10_sheet_5 rfl (lv_at hl 0 rfl) ?_
    refine k_get (ci := 10) (v := .int (nI z)) (C := RX10) (Tb := TX10) (N := 18) hx hb hts hu_10 hown hKW hP 0 rfl rfl 5 (by decide) hf_82 rfl rfl dX10_sheet_6 ?_
    refine lv_icmp_le (tgt := 14) hx hb dX10_sheet_9 (by decide) (fun c_9 => ?_) (fun c_9 => ?_)
    · skip
      obtain ⟨N2, hN2, rfl⟩ := kIn_nat (kIn_le' (by omega) c_1 c_9)
      refine lv_aload_n hx hb dX10_sheet_14 rfl (lv_at hl 0 rfl) ?_
      refine lv_iconst (v := nI 0) hx hb dX10_sheet_15 (by decide) ?_
      refine k_put (ci := 10) (ty := .int) (v := .int (nI 0)) (C := RX10) (Tb := TX10) (N := 18) (w' := (wX10 q10 cI cJ cB st_10 kept_10 (nI u) (nI w) tape_10 (nI 0) marks_10 order_10 reach_10 heapOf_10 rows_10 x_10 overs_10 costs_10 ways_10 digits_10 beaten_10 walks_10)) hx hb hts hu_10 tyX10 tyX10_ok nmX10 hown hKW hP hD hS 0 rfl rfl 5 (by decide) hf_82 rfl rfl (by decide +kernel) rfl rfl (Nat.le_of_ble_eq_true rfl) dX10_sheet_16 rfl (fun H locs hP hD hS => ?_)
      refine lv_iconst (v := nI 0) hx hb dX10_sheet_19 (by decide) ?_
      refine lv_istore_n (lv' := [(2, .int (nI 0)), (0, .ref (q10 0)), (1, .int (nI N2))]) hx hb dX10_sheet_20 rfl hl (by decide) rfl (fun ls hl => ?_)
      refine lv_iconst (v := nI 1) hx hb dX10_sheet_21 (by decide) ?_
      refine lv_istore_n (lv' := [(3, .int (nI 1)), (2, .int (nI 0)), (0, .ref (q10 0)), (1, .int (nI N2))]) hx hb dX10_sheet_22 rfl hl (by decide) rfl (fun ls hl => ?_)
      refine lv_iconst (v := nI 0) hx hb dX10_sheet_23 (by decide) ?_
      refine lv_istore (lv' := [(4, .int (nI 0)), (3, .int (nI 1)), (2, .int (nI 0)), (0, .ref (q10 0)), (1, .int (nI N2))]) hx hb dX10_sheet_24 hl (by decide) rfl (fun ls hl => ?_)
      have hL_26 : ∀ (fu : Nat) (k : Nat) (g : Nat) (fl : Nat) (mlc : List Mt) (stc : Nat → Int32) (kc : Nat → Int32) (wc : Nat) (uc : Nat) (hk : k ≤ 484) (hg1 : g ≤ 1) (hfl : 484 ≤ k + 4 * fl) (hRc : RS stc n mlc nx ks rr) (hVc : VS n mlc nx ks) (hle : ml.length ≤ mlc.length) (hSh : ShI n ml st_10 kept_10 w u mlc stc kc wc uc) (hgo : shL n tape_10 N2 121 0 ml = if g = 1 then shL n tape_10 N2 fl k mlc else mlc) (hw9 : wc < 40) (hu9 : uc ≤ 40), 484 - k < fu → ∀ (H : Heap) (locs : List Loc), va_P D vwCl (wX10 q10 cI cJ cB stc kc (nI uc) (nI wc) tape_10 (nI 0) marks_10 order_10 reach_10 heapOf_10 rows_10 x_10 overs_10 costs_10 ways_10 digits_10 beaten_10 walks_10) H → va_D A (wX10 q10 cI cJ cB stc kc (nI uc) (nI wc) tape_10 (nI 0) marks_10 order_10 reach_10 heapOf_10 rows_10 x_10 overs_10 costs_10 ways_10 digits_10 beaten_10 walks_10) → va_S A s.heap H locs → ∀ (ls : Array Slot), lv_has ls 5 [(0, .ref (q10 0)), (1, .int (nI N2)), (2, .int (nI (mlc.length - ml.length))), (3, .int (nI g)), (4, .int (nI k))] → W p l e (headSpec wsX10_sheet rmX10_sheet).room s m args below meth c H locs 0 0 Q (F0 m 26 ls []) := by
        intro fu
        induction fu with
        | zero => intro k g fl mlc stc kc wc uc hk hg1 hfl hRc hVc hle hSh hgo hw9 hu9 hfu; exact absurd hfu (Nat.not_lt_zero _)
        | succ fu ih_26 =>
          intro k g fl mlc stc kc wc uc hk hg1 hfl hRc hVc hle hSh hgo hw9 hu9 hfu H locs hP hD hS ls hl
          refine lv_iload hx hb dX10_sheet_26 (lv_at hl 4 rfl) ?_
          refine lv_iconst (v := nI 4) hx hb dX10_sheet_28 (by decide) ?_
          refine k_iadd hx hb dX10_sheet_29 ?_
          refine lv_iload_n hx hb dX10_sheet_30 rfl (lv_at hl 1 rfl) ?_
          refine lv_icmp_gt (tgt := 139) hx hb dX10_sheet_31 (by decide) (fun c_31 => ?_) (fun c_31 => ?_)
          · skip
            have c_31 := k_gt (by omega) (by omega) c_31
            refine lv_iload_n hx hb dX10_sheet_139 rfl (lv_at hl 2 rfl) ?_
            subst hQ; subst hAe
            exact W.iret (v := nI (mlc.length - ml.length)) hx hb hr (fun t ht _ => ⟨⟨nI (mlc.length - ml.length), (stc, kc, nI uc, nI wc, nI 0), rfl, ⟨fun _ => by rw [k_tt (by omega)]; have hE9 := sh_end hgo (Or.inl (by omega)); rw [hE9]; exact ⟨rfl, hRc, rfl, ShI_act hSh, ShI_no hSh⟩, fun h => absurd ((kIn_nI (by omega)).mpr (by omega)) h⟩, by rw [ht]; exact hP, hD⟩, hS.F ht⟩) hS.2.2 dX10_sheet_140
          · skip
            have c_31 := k_gt_n (by omega) (by omega) c_31
            refine lv_iload_n hx hb dX10_sheet_34 rfl (lv_at hl 3 rfl) ?_
            refine lv_if_eq (tgt := 139) hx hb dX10_sheet_35 (by decide) (fun c_35 => ?_) (fun c_35 => ?_)
            · skip
              have c_35 := k0_eq (by omega) c_35
              refine lv_iload_n hx hb dX10_sheet_139 rfl (lv_at hl 2 rfl) ?_
              subst hQ; subst hAe
              exact W.iret (v := nI (mlc.length - ml.length)) hx hb hr (fun t ht _ => ⟨⟨nI (mlc.length - ml.length), (stc, kc, nI uc, nI wc, nI 0), rfl, ⟨fun _ => by rw [k_tt (by omega)]; have hE9 := sh_end hgo (Or.inr c_35); rw [hE9]; exact ⟨rfl, hRc, rfl, ShI_act hSh, ShI_no hSh⟩, fun h => absurd ((kIn_nI (by omega)).mpr (by omega)) h⟩, by rw [ht]; exact hP, hD⟩, hS.F ht⟩) hS.2.2 dX10_sheet_140
            · skip
              have c_35 := k0_eq_n (by omega) c_35
              refine lv_aload_n hx hb dX10_sheet_38 rfl (lv_at hl 0 rfl) ?_
              refine lv_aload_n hx hb dX10_sheet_39 rfl (lv_at hl 0 rfl) ?_
              refine k_get (ci := 10) (v := .ref (q10 3)) (C := RX10) (Tb := TX10) (N := 18) hx hb hts hu_10 hown hKW hP 0 rfl rfl 4 (by decide) hf_16 rfl rfl dX10_sheet_40 ?_
              refine lv_iload hx hb dX10_sheet_43 (lv_at hl 4 rfl) ?_
              refine k_iald (n := 480) (i := k) hx hb hKW hP 3 0 rfl rfl (by omega) (by omega) dX10_sheet_45 ?_
              refine lv_aload_n hx hb dX10_sheet_46 rfl (lv_at hl 0 rfl) ?_
              refine k_get (ci := 10) (v := .ref (q10 3)) (C := RX10) (Tb := TX10) (N := 18) hx hb hts hu_10 hown hKW hP 0 rfl rfl 4 (by decide) hf_16 rfl rfl dX10_sheet_47 ?_
              refine lv_iload hx hb dX10_sheet_50 (lv_at hl 4 rfl) ?_
              refine lv_iconst (v := nI 1) hx hb dX10_sheet_52 (by decide) ?_
              refine k_iadd hx hb dX10_sheet_53 ?_
              refine k_iald (n := 480) (i := k + 1) hx hb hKW hP 3 0 rfl rfl (by omega) (by omega) dX10_sheet_54 ?_
              refine lv_aload_n hx hb dX10_sheet_55 rfl (lv_at hl 0 rfl) ?_
              refine k_get (ci := 10) (v := .ref (q10 3)) (C := RX10) (Tb := TX10) (N := 18) hx hb hts hu_10 hown hKW hP 0 rfl rfl 4 (by decide) hf_16 rfl rfl dX10_sheet_56 ?_
              refine lv_iload hx hb dX10_sheet_59 (lv_at hl 4 rfl) ?_
              refine lv_iconst (v := nI 2) hx hb dX10_sheet_61 (by decide) ?_
              refine k_iadd hx hb dX10_sheet_62 ?_
              refine k_iald (n := 480) (i := k + 2) hx hb hKW hP 3 0 rfl rfl (by omega) (by omega) dX10_sheet_63 ?_
              refine lv_aload_n hx hb dX10_sheet_64 rfl (lv_at hl 0 rfl) ?_
              refine k_get (ci := 10) (v := .ref (q10 3)) (C := RX10) (Tb := TX10) (N := 18) hx hb hts hu_10 hown hKW hP 0 rfl rfl 4 (by decide) hf_16 rfl rfl dX10_sheet_65 ?_
              refine lv_iload hx hb dX10_sheet_68 (lv_at hl 4 rfl) ?_
              refine lv_iconst (v := nI 3) hx hb dX10_sheet_70 (by decide) ?_
              refine k_iadd hx hb dX10_sheet_71 ?_
              refine k_iald (n := 480) (i := k + 3) hx hb hKW hP 3 0 rfl rfl (by omega) (by omega) dX10_sheet_72 ?_
              have hs_73 : kSplit (wX10 q10 cI cJ cB stc kc (nI uc) (nI wc) tape_10 (nI 0) marks_10 order_10 reach_10 heapOf_10 rows_10 x_10 overs_10 costs_10 ways_10 digits_10 beaten_10 walks_10) (wX10 q10 cI cJ cB stc kc (nI uc) (nI wc) tape_10 (nI 0) marks_10 order_10 reach_10 heapOf_10 rows_10 x_10 overs_10 costs_10 ways_10 digits_10 beaten_10 walks_10) ([] : va_W) [0, 1, 2, 3, 4, 5, 6, 7, 8, 9, 10, 11, 12, 13, 14, 15] [] := ⟨rfl, rfl, rfl, rfl, rfl, by decide⟩
              refine kc_i hP hD hS hA hs_73 (kV (As := [.int (tape_10 k), .int (tape_10 (k + 1)), .int (tape_10 (k + 2)), .int (tape_10 (k + 3))]) (rest := []) hx hb hml hown hts hKW hP hD hs_73 (c_X10_canMeet l D cI cJ cB q10 stc kc (nI uc) (nI wc) tape_10 (nI 0) marks_10 order_10 reach_10 heapOf_10 rows_10 x_10 overs_10 costs_10 ways_10 digits_10 beaten_10 walks_10 n mlc nx ks rr (tape_10 k) (tape_10 (k + 1)) (tape_10 (k + 2)) (tape_10 (k + 3)) hRc hVc) (cwV 4 hts gX10_sheet_X10_canMeet rfl rfl rfl (by decide +kernel) ⟨Nat.le_of_ble_eq_true rfl, Nat.le_of_ble_eq_true rfl⟩) 0 10 rfl rfl rfl rfl hl.1 rfl (Nat.le_of_ble_eq_true rfl) dX10_sheet_73 ⟨Nat.zero_le _, Nat.zero_le _⟩) (fun r_73 u_73 H locs hw_73 hP hD hS => ?_)
              have er_73 := hw_73
              have er_73 := er_73.symm
              subst er_73
              have hP : va_P D vwCl (wX10 q10 cI cJ cB stc kc (nI uc) (nI wc) tape_10 (nI 0) marks_10 order_10 reach_10 heapOf_10 rows_10 x_10 overs_10 costs_10 ways_10 digits_10 beaten_10 walks_10) H := hP.sub (ws' := (wX10 q10 cI cJ cB stc kc (nI uc) (nI wc) tape_10 (nI 0) marks_10 order_10 reach_10 heapOf_10 rows_10 x_10 overs_10 costs_10 ways_10 digits_10 beaten_10 walks_10)) [0, 1, 2, 3, 4, 5, 6, 7, 8, 9, 10, 11, 12, 13, 14, 15] rfl
              have hD : va_D A (wX10 q10 cI cJ cB stc kc (nI uc) (nI wc) tape_10 (nI 0) marks_10 order_10 reach_10 heapOf_10 rows_10 x_10 overs_10 costs_10 ways_10 digits_10 beaten_10 walks_10) := hD.sub (ws' := (wX10 q10 cI cJ cB stc kc (nI uc) (nI wc) tape_10 (nI 0) marks_10 order_10 reach_10 heapOf_10 rows_10 x_10 overs_10 costs_10 ways_10 digits_10 beaten_10 walks_10)) [0, 1, 2, 3, 4, 5, 6, 7, 8, 9, 10, 11, 12, 13, 14, 15] (by decide) rfl
              refine lv_istore_n (lv' := [(3, .int (if mlc.length < 120 ∧ kIn (tape_10 k) n ∧ kIn (tape_10 (k + 1)) n ∧ ¬ (tape_10 k) = (tape_10 (k + 1)) ∧ kIn (tape_10 (k + 2)) 100 ∧ kIn (tape_10 (k + 3)) 100 then 1 else 0)), (0, .ref (q10 0)), (1, .int (nI N2)), (2, .int (nI (mlc.length - ml.length))), (4, .int (nI k))]) hx hb dX10_sheet_76 rfl hl (by decide) rfl (fun ls hl => ?_)
              refine lv_iload_n hx hb dX10_sheet_77 rfl (lv_at hl 0 rfl) ?_
              refine lv_if_ne (tgt := 84) hx hb dX10_sheet_78 (by decide) (fun c_78 => ?_) (fun c_78 => ?_)
              · skip
                have c_78 := k_b1 c_78
                rw [if_pos c_78] at hl
                refine lv_iload_n hx hb dX10_sheet_84 rfl (lv_at hl 3 rfl) ?_
                refine lv_if_ne (tgt := 92) hx hb dX10_sheet_85 (by decide) (fun c_85 => ?_) (fun c_85 => ?_)
                · skip
                  have c_85 := k0_ne (by omega) c_85
                  refine lv_aload_n hx hb dX10_sheet_92 rfl (lv_at hl 1 rfl) ?_
                  refine lv_aload_n hx hb dX10_sheet_93 rfl (lv_at hl 1 rfl) ?_
                  refine k_get (ci := 10) (v := .ref (q10 3)) (C := RX10) (Tb := TX10) (N := 18) hx hb hts hu_10 hown hKW hP 0 rfl rfl 4 (by decide) hf_16 rfl rfl dX10_sheet_94 ?_
                  refine lv_iload hx hb dX10_sheet_97 (lv_at hl 4 rfl) ?_
                  refine k_iald (n := 480) (i := k) hx hb hKW hP 3 0 rfl rfl (by omega) (by omega) dX10_sheet_99 ?_
                  refine lv_aload_n hx hb dX10_sheet_100 rfl (lv_at hl 1 rfl) ?_
                  refine k_get (ci := 10) (v := .ref (q10 3)) (C := RX10) (Tb := TX10) (N := 18) hx hb hts hu_10 hown hKW hP 0 rfl rfl 4 (by decide) hf_16 rfl rfl dX10_sheet_101 ?_
                  refine lv_iload hx hb dX10_sheet_104 (lv_at hl 4 rfl) ?_
                  refine lv_iconst (v := nI 1) hx hb dX10_sheet_106 (by decide) ?_
                  refine k_iadd hx hb dX10_sheet_107 ?_
                  refine k_iald (n := 480) (i := k + 1) hx hb hKW hP 3 0 rfl rfl (by omega) (by omega) dX10_sheet_108 ?_
                  refine lv_aload_n hx hb dX10_sheet_109 rfl (lv_at hl 1 rfl) ?_
                  refine k_get (ci := 10) (v := .ref (q10 3)) (C := RX10) (Tb := TX10) (N := 18) hx hb hts hu_10 hown hKW hP 0 rfl rfl 4 (by decide) hf_16 rfl rfl dX10_sheet_110 ?_
                  refine lv_iload hx hb dX10_sheet_113 (lv_at hl 4 rfl) ?_
                  refine lv_iconst (v := nI 2) hx hb dX10_sheet_115 (by decide) ?_
                  refine k_iadd hx hb dX10_sheet_116 ?_
                  refine k_iald (n := 480) (i := k + 2) hx hb hKW hP 3 0 rfl rfl (by omega) (by omega) dX10_sheet_117 ?_
                  refine lv_aload_n hx hb dX10_sheet_118 rfl (lv_at hl 1 rfl) ?_
                  refine k_get (ci := 10) (v := .ref (q10 3)) (C := RX10) (Tb := TX10) (N := 18) hx hb hts hu_10 hown hKW hP 0 rfl rfl 4 (by decide) hf_16 rfl rfl dX10_sheet_119 ?_
                  refine lv_iload hx hb dX10_sheet_122 (lv_at hl 4 rfl) ?_
                  refine lv_iconst (v := nI 3) hx hb dX10_sheet_124 (by decide) ?_
                  refine k_iadd hx hb dX10_sheet_125 ?_
                  refine k_iald (n := 480) (i := k + 3) hx hb hKW hP 3 0 rfl rfl (by omega) (by omega) dX10_sheet_126 ?_
                  have hs_127 : kSplit (wX10 q10 cI cJ cB stc kc (nI uc) (nI wc) tape_10 (nI 0) marks_10 order_10 reach_10 heapOf_10 rows_10 x_10 overs_10 costs_10 ways_10 digits_10 beaten_10 walks_10) (wX10 q10 cI cJ cB stc kc (nI uc) (nI wc) tape_10 (nI 0) marks_10 order_10 reach_10 heapOf_10 rows_10 x_10 overs_10 costs_10 ways_10 digits_10 beaten_10 walks_10) ([] : va_W) [0, 1, 2, 3, 4, 5, 6, 7, 8, 9, 10, 11, 12, 13, 14, 15] [] := ⟨rfl, rfl, rfl, rfl, rfl, by decide⟩
                  refine kc_v hP hD hS hA hs_127 (kV (As := [.int (tape_10 k), .int (tape_10 (k + 1)), .int (tape_10 (k + 2)), .int (tape_10 (k + 3))]) (rest := []) hx hb hml hown hts hKW hP hD hs_127 (c_X10_put l D cI cJ cB q10 stc kc (nI uc) (nI wc) tape_10 (nI 0) marks_10 order_10 reach_10 heapOf_10 rows_10 x_10 overs_10 costs_10 ways_10 digits_10 beaten_10 walks_10 n mlc nx ks rr (tape_10 k) (tape_10 (k + 1)) (tape_10 (k + 2)) (tape_10 (k + 3)) hRc hVc c_78.1) (cwV 4 hts gX10_sheet_X10_put rfl rfl rfl (by decide +kernel) ⟨Nat.le_of_ble_eq_true rfl, Nat.le_of_ble_eq_true rfl⟩) 0 10 rfl rfl rfl rfl hl.1 rfl (Nat.le_of_ble_eq_true rfl) dX10_sheet_127 ⟨Nat.zero_le _, Nat.zero_le _⟩) (fun u_127 H locs hw_127 hP hD hS => ?_)
                  have hP : va_P D vwCl (wX10 q10 cI cJ cB (upd (upd (upd (upd (upd stc (11 + (4 * mlc.length)) (tape_10 k)) ((11 + (4 * mlc.length)) + 1) (tape_10 (k + 1))) ((11 + (4 * mlc.length)) + 2) (tape_10 (k + 2))) ((11 + (4 * mlc.length)) + 3) (tape_10 (k + 3))) 1 (nI (mlc.length + 1))) kc (nI uc) (nI wc) tape_10 (nI 0) marks_10 order_10 reach_10 heapOf_10 rows_10 x_10 overs_10 costs_10 ways_10 digits_10 beaten_10 walks_10) H := hP.sub (ws' := (wX10 q10 cI cJ cB (upd (upd (upd (upd (upd stc (11 + (4 * mlc.length)) (tape_10 k)) ((11 + (4 * mlc.length)) + 1) (tape_10 (k + 1))) ((11 + (4 * mlc.length)) + 2) (tape_10 (k + 2))) ((11 + (4 * mlc.length)) + 3) (tape_10 (k + 3))) 1 (nI (mlc.length + 1))) kc (nI uc) (nI wc) tape_10 (nI 0) marks_10 order_10 reach_10 heapOf_10 rows_10 x_10 overs_10 costs_10 ways_10 digits_10 beaten_10 walks_10)) [0, 1, 2, 3, 4, 5, 6, 7, 8, 9, 10, 11, 12, 13, 14, 15] rfl
                  have hD : va_D A (wX10 q10 cI cJ cB (upd (upd (upd (upd (upd stc (11 + (4 * mlc.length)) (tape_10 k)) ((11 + (4 * mlc.length)) + 1) (tape_10 (k + 1))) ((11 + (4 * mlc.length)) + 2) (tape_10 (k + 2))) ((11 + (4 * mlc.length)) + 3) (tape_10 (k + 3))) 1 (nI (mlc.length + 1))) kc (nI uc) (nI wc) tape_10 (nI 0) marks_10 order_10 reach_10 heapOf_10 rows_10 x_10 overs_10 costs_10 ways_10 digits_10 beaten_10 walks_10) := hD.sub (ws' := (wX10 q10 cI cJ cB (upd (upd (upd (upd (upd stc (11 + (4 * mlc.length)) (tape_10 k)) ((11 + (4 * mlc.length)) + 1) (tape_10 (k + 1))) ((11 + (4 * mlc.length)) + 2) (tape_10 (k + 2))) ((11 + (4 * mlc.length)) + 3) (tape_10 (k + 3))) 1 (nI (mlc.length + 1))) kc (nI uc) (nI wc) tape_10 (nI 0) marks_10 order_10 reach_10 heapOf_10 rows_10 x_10 overs_10 costs_10 ways_10 digits_10 beaten_10 walks_10)) [0, 1, 2, 3, 4, 5, 6, 7, 8, 9, 10, 11, 12, 13, 14, 15] (by decide) rfl
                  refine lv_iinc (v := nI (mlc.length - ml.length + 1)) (lv' := [(2, .int (nI (mlc.length - ml.length + 1))), (3, .int (nI 1)), (0, .ref (q10 0)), (1, .int (nI N2)), (4, .int (nI k))]) hx hb dX10_sheet_130 hl (k := 3) rfl (nI_add _ _) (by decide) rfl (fun ls hl => ?_)
                  refine lv_iinc (v := nI (k + 4)) (lv' := [(4, .int (nI (k + 4))), (2, .int (nI (mlc.length - ml.length + 1))), (3, .int (nI 1)), (0, .ref (q10 0)), (1, .int (nI N2))]) hx hb dX10_sheet_133 hl (k := 4) rfl (nI_add _ _) (by decide) rfl (fun ls hl => ?_)
                  refine lv_goto (tgt := 26) hx hb dX10_sheet_136 (by decide) ?_
                  rw [sh_len hle] at hl
                  exact ih_26 (k + 4) 1 (fl - 1) (mlc ++ [mkM (tape_10 k) (tape_10 (k + 1)) (tape_10 (k + 2)) (tape_10 (k + 3))]) _ _ wc uc (by omega) (by omega) (by omega) (hRc.meet hVc c_78) (hVc.app (okM_mk hn10 c_78) c_78.1) (by rw [List.length_append]; omega) (ShI_more hSh (by omega)) (by rw [hgo, if_pos (by omega), if_pos rfl]; obtain ⟨f9, ef9⟩ : ∃ f, fl = f + 1 := ⟨fl - 1, by omega⟩; subst ef9; exact shL_go ⟨by omega, c_78⟩) (by omega) hu9 (by omega) _ _ hP hD hS ls (lv_sub hl [3, 4, 1, 2, 0] rfl)
                · skip
                  have c_85 := k0_ne_n (by omega) c_85
                  refine lv_aload_n hx hb dX10_sheet_88 rfl (lv_at hl 1 rfl) ?_
                  have hs_89 : kSplit (wX10 q10 cI cJ cB stc kc (nI uc) (nI wc) tape_10 (nI 0) marks_10 order_10 reach_10 heapOf_10 rows_10 x_10 overs_10 costs_10 ways_10 digits_10 beaten_10 walks_10) (wX10 q10 cI cJ cB stc kc (nI uc) (nI wc) tape_10 (nI 0) marks_10 order_10 reach_10 heapOf_10 rows_10 x_10 overs_10 costs_10 ways_10 digits_10 beaten_10 walks_10) ([] : va_W) [0, 1, 2, 3, 4, 5, 6, 7, 8, 9, 10, 11, 12, 13, 14, 15] [] := ⟨rfl, rfl, rfl, rfl, rfl, by decide⟩
                  refine kc_v hP hD hS hA hs_89 (kV (As := []) (rest := []) hx hb hml hown hts hKW hP hD hs_89 (c_X10_act l D cI cJ cB q10 stc kc tape_10 (nI 0) marks_10 order_10 reach_10 heapOf_10 rows_10 x_10 overs_10 costs_10 ways_10 digits_10 beaten_10 walks_10 wc uc (by omega) (by omega)) (cwV 0 hts gX10_sheet_X10_act rfl rfl rfl (by decide +kernel) ⟨Nat.le_of_ble_eq_true rfl, Nat.le_of_ble_eq_true rfl⟩) 0 10 rfl rfl rfl rfl hl.1 rfl (Nat.le_of_ble_eq_true rfl) dX10_sheet_89 ⟨Nat.zero_le _, Nat.zero_le _⟩) (fun u_89 H locs hw_89 hP hD hS => ?_)
                  obtain ⟨kept_10_89, undoable_10_89, newest_10_89⟩ := u_89
                  obtain ⟨e_kept_10_89, e_undoable_10_89, e_newest_10_89⟩ := hw_89
                  have e_kept_10_89 := e_kept_10_89.symm
                  subst e_kept_10_89
                  have e_undoable_10_89 := e_undoable_10_89.symm
                  subst e_undoable_10_89
                  have e_newest_10_89 := e_newest_10_89.symm
                  subst e_newest_10_89
                  have hP : va_P D vwCl (wX10 q10 cI cJ cB stc (fb_put kc stc (600 * ((wc + 1) % 40)) 600) (nI (if uc < 40 then uc + 1 else uc)) (nI ((wc + 1) % 40)) tape_10 (nI 0) marks_10 order_10 reach_10 heapOf_10 rows_10 x_10 overs_10 costs_10 ways_10 digits_10 beaten_10 walks_10) H := hP.sub (ws' := (wX10 q10 cI cJ cB stc (fb_put kc stc (600 * ((wc + 1) % 40)) 600) (nI (if uc < 40 then uc + 1 else uc)) (nI ((wc + 1) % 40)) tape_10 (nI 0) marks_10 order_10 reach_10 heapOf_10 rows_10 x_10 overs_10 costs_10 ways_10 digits_10 beaten_10 walks_10)) [0, 1, 2, 3, 4, 5, 6, 7, 8, 9, 10, 11, 12, 13, 14, 15] rfl
                  have hD : va_D A (wX10 q10 cI cJ cB stc (fb_put kc stc (600 * ((wc + 1) % 40)) 600) (nI (if uc < 40 then uc + 1 else uc)) (nI ((wc + 1) % 40)) tape_10 (nI 0) marks_10 order_10 reach_10 heapOf_10 rows_10 x_10 overs_10 costs_10 ways_10 digits_10 beaten_10 walks_10) := hD.sub (ws' := (wX10 q10 cI cJ cB stc (fb_put kc stc (600 * ((wc + 1) % 40)) 600) (nI (if uc < 40 then uc + 1 else uc)) (nI ((wc + 1) % 40)) tape_10 (nI 0) marks_10 order_10 reach_10 heapOf_10 rows_10 x_10 overs_10 costs_10 ways_10 digits_10 beaten_10 walks_10)) [0, 1, 2, 3, 4, 5, 6, 7, 8, 9, 10, 11, 12, 13, 14, 15] (by decide) rfl
                  refine lv_aload_n hx hb dX10_sheet_92 rfl (lv_at hl 1 rfl) ?_
                  refine lv_aload_n hx hb dX10_sheet_93 rfl (lv_at hl 1 rfl) ?_
                  refine k_get (ci := 10) (v := .ref (q10 3)) (C := RX10) (Tb := TX10) (N := 18) hx hb hts hu_10 hown hKW hP 0 rfl rfl 4 (by decide) hf_16 rfl rfl dX10_sheet_94 ?_
                  refine lv_iload hx hb dX10_sheet_97 (lv_at hl 4 rfl) ?_
                  refine k_iald (n := 480) (i := k) hx hb hKW hP 3 0 rfl rfl (by omega) (by omega) dX10_sheet_99 ?_
                  refine lv_aload_n hx hb dX10_sheet_100 rfl (lv_at hl 1 rfl) ?_
                  refine k_get (ci := 10) (v := .ref (q10 3)) (C := RX10) (Tb := TX10) (N := 18) hx hb hts hu_10 hown hKW hP 0 rfl rfl 4 (by decide) hf_16 rfl rfl dX10_sheet_101 ?_
                  refine lv_iload hx hb dX10_sheet_104 (lv_at hl 4 rfl) ?_
                  refine lv_iconst (v := nI 1) hx hb dX10_sheet_106 (by decide) ?_
                  refine k_iadd hx hb dX10_sheet_107 ?_
                  refine k_iald (n := 480) (i := k + 1) hx hb hKW hP 3 0 rfl rfl (by omega) (by omega) dX10_sheet_108 ?_
                  refine lv_aload_n hx hb dX10_sheet_109 rfl (lv_at hl 1 rfl) ?_
                  refine k_get (ci := 10) (v := .ref (q10 3)) (C := RX10) (Tb := TX10) (N := 18) hx hb hts hu_10 hown hKW hP 0 rfl rfl 4 (by decide) hf_16 rfl rfl dX10_sheet_110 ?_
                  refine lv_iload hx hb dX10_sheet_113 (lv_at hl 4 rfl) ?_
                  refine lv_iconst (v := nI 2) hx hb dX10_sheet_115 (by decide) ?_
                  refine k_iadd hx hb dX10_sheet_116 ?_
                  refine k_iald (n := 480) (i := k + 2) hx hb hKW hP 3 0 rfl rfl (by omega) (by omega) dX10_sheet_117 ?_
                  refine lv_aload_n hx hb dX10_sheet_118 rfl (lv_at hl 1 rfl) ?_
                  refine k_get (ci := 10) (v := .ref (q10 3)) (C := RX10) (Tb := TX10) (N := 18) hx hb hts hu_10 hown hKW hP 0 rfl rfl 4 (by decide) hf_16 rfl rfl dX10_sheet_119 ?_
                  refine lv_iload hx hb dX10_sheet_122 (lv_at hl 4 rfl) ?_
                  refine lv_iconst (v := nI 3) hx hb dX10_sheet_124 (by decide) ?_
                  refine k_iadd hx hb dX10_sheet_125 ?_
                  refine k_iald (n := 480) (i := k + 3) hx hb hKW hP 3 0 rfl rfl (by omega) (by omega) dX10_sheet_126 ?_
                  have hs_127 : kSplit (wX10 q10 cI cJ cB stc (fb_put kc stc (600 * ((wc + 1) % 40)) 600) (nI (if uc < 40 then uc + 1 else uc)) (nI ((wc + 1) % 40)) tape_10 (nI 0) marks_10 order_10 reach_10 heapOf_10 rows_10 x_10 overs_10 costs_10 ways_10 digits_10 beaten_10 walks_10) (wX10 q10 cI cJ cB stc (fb_put kc stc (600 * ((wc + 1) % 40)) 600) (nI (if uc < 40 then uc + 1 else uc)) (nI ((wc + 1) % 40)) tape_10 (nI 0) marks_10 order_10 reach_10 heapOf_10 rows_10 x_10 overs_10 costs_10 ways_10 digits_10 beaten_10 walks_10) ([] : va_W) [0, 1, 2, 3, 4, 5, 6, 7, 8, 9, 10, 11, 12, 13, 14, 15] [] := ⟨rfl, rfl, rfl, rfl, rfl, by decide⟩
                  refine kc_v hP hD hS hA hs_127 (kV (As := [.int (tape_10 k), .int (tape_10 (k + 1)), .int (tape_10 (k + 2)), .int (tape_10 (k + 3))]) (rest := []) hx hb hml hown hts hKW hP hD hs_127 (c_X10_put l D cI cJ cB q10 stc (fb_put kc stc (600 * ((wc + 1) % 40)) 600) (nI (if uc < 40 then uc + 1 else uc)) (nI ((wc + 1) % 40)) tape_10 (nI 0) marks_10 order_10 reach_10 heapOf_10 rows_10 x_10 overs_10 costs_10 ways_10 digits_10 beaten_10 walks_10 n mlc nx ks rr (tape_10 k) (tape_10 (k + 1)) (tape_10 (k + 2)) (tape_10 (k + 3)) hRc hVc c_78.1) (cwV 4 hts gX10_sheet_X10_put rfl rfl rfl (by decide +kernel) ⟨Nat.le_of_ble_eq_true rfl, Nat.le_of_ble_eq_true rfl⟩) 0 10 rfl rfl rfl rfl hl.1 rfl (Nat.le_of_ble_eq_true rfl) dX10_sheet_127 ⟨Nat.zero_le _, Nat.zero_le _⟩) (fun u_127 H locs hw_127 hP hD hS => ?_)
                  have hP : va_P D vwCl (wX10 q10 cI cJ cB (upd (upd (upd (upd (upd stc (11 + (4 * mlc.length)) (tape_10 k)) ((11 + (4 * mlc.length)) + 1) (tape_10 (k + 1))) ((11 + (4 * mlc.length)) + 2) (tape_10 (k + 2))) ((11 + (4 * mlc.length)) + 3) (tape_10 (k + 3))) 1 (nI (mlc.length + 1))) (fb_put kc stc (600 * ((wc + 1) % 40)) 600) (nI (if uc < 40 then uc + 1 else uc)) (nI ((wc + 1) % 40)) tape_10 (nI 0) marks_10 order_10 reach_10 heapOf_10 rows_10 x_10 overs_10 costs_10 ways_10 digits_10 beaten_10 walks_10) H := hP.sub (ws' := (wX10 q10 cI cJ cB (upd (upd (upd (upd (upd stc (11 + (4 * mlc.length)) (tape_10 k)) ((11 + (4 * mlc.length)) + 1) (tape_10 (k + 1))) ((11 + (4 * mlc.length)) + 2) (tape_10 (k + 2))) ((11 + (4 * mlc.length)) + 3) (tape_10 (k + 3))) 1 (nI (mlc.length + 1))) (fb_put kc stc (600 * ((wc + 1) % 40)) 600) (nI (if uc < 40 then uc + 1 else uc)) (nI ((wc + 1) % 40)) tape_10 (nI 0) marks_10 order_10 reach_10 heapOf_10 rows_10 x_10 overs_10 costs_10 ways_10 digits_10 beaten_10 walks_10)) [0, 1, 2, 3, 4, 5, 6, 7, 8, 9, 10, 11, 12, 13, 14, 15] rfl
                  have hD : va_D A (wX10 q10 cI cJ cB (upd (upd (upd (upd (upd stc (11 + (4 * mlc.length)) (tape_10 k)) ((11 + (4 * mlc.length)) + 1) (tape_10 (k + 1))) ((11 + (4 * mlc.length)) + 2) (tape_10 (k + 2))) ((11 + (4 * mlc.length)) + 3) (tape_10 (k + 3))) 1 (nI (mlc.length + 1))) (fb_put kc stc (600 * ((wc + 1) % 40)) 600) (nI (if uc < 40 then uc + 1 else uc)) (nI ((wc + 1) % 40)) tape_10 (nI 0) marks_10 order_10 reach_10 heapOf_10 rows_10 x_10 overs_10 costs_10 ways_10 digits_10 beaten_10 walks_10) := hD.sub (ws' := (wX10 q10 cI cJ cB (upd (upd (upd (upd (upd stc (11 + (4 * mlc.length)) (tape_10 k)) ((11 + (4 * mlc.length)) + 1) (tape_10 (k + 1))) ((11 + (4 * mlc.length)) + 2) (tape_10 (k + 2))) ((11 + (4 * mlc.length)) + 3) (tape_10 (k + 3))) 1 (nI (mlc.length + 1))) (fb_put kc stc (600 * ((wc + 1) % 40)) 600) (nI (if uc < 40 then uc + 1 else uc)) (nI ((wc + 1) % 40)) tape_10 (nI 0) marks_10 order_10 reach_10 heapOf_10 rows_10 x_10 overs_10 costs_10 ways_10 digits_10 beaten_10 walks_10)) [0, 1, 2, 3, 4, 5, 6, 7, 8, 9, 10, 11, 12, 13, 14, 15] (by decide) rfl
                  refine lv_iinc (v := nI (mlc.length - ml.length + 1)) (lv' := [(2, .int (nI (mlc.length - ml.length + 1))), (3, .int (nI 1)), (0, .ref (q10 0)), (1, .int (nI N2)), (4, .int (nI k))]) hx hb dX10_sheet_130 hl (k := 3) rfl (nI_add _ _) (by decide) rfl (fun ls hl => ?_)
                  refine lv_iinc (v := nI (k + 4)) (lv' := [(4, .int (nI (k + 4))), (2, .int (nI (mlc.length - ml.length + 1))), (3, .int (nI 1)), (0, .ref (q10 0)), (1, .int (nI N2))]) hx hb dX10_sheet_133 hl (k := 4) rfl (nI_add _ _) (by decide) rfl (fun ls hl => ?_)
                  refine lv_goto (tgt := 26) hx hb dX10_sheet_136 (by decide) ?_
                  rw [sh_len hle] at hl
                  exact ih_26 (k + 4) 1 (fl - 1) (mlc ++ [mkM (tape_10 k) (tape_10 (k + 1)) (tape_10 (k + 2)) (tape_10 (k + 3))]) _ _ ((wc + 1) % 40) (if uc < 40 then uc + 1 else uc) (by omega) (by omega) (by omega) (hRc.meet hVc c_78) (hVc.app (okM_mk hn10 c_78) c_78.1) (by rw [List.length_append]; omega) (ShI_first hSh (by omega)) (by rw [hgo, if_pos (by omega), if_pos rfl]; obtain ⟨f9, ef9⟩ : ∃ f, fl = f + 1 := ⟨fl - 1, by omega⟩; subst ef9; exact shL_go ⟨by omega, c_78⟩) (by omega) (by split <;> omega) (by omega) _ _ hP hD hS ls (lv_sub hl [3, 4, 1, 2, 0] rfl)
              · skip
                have c_78 := k_b0 c_78
                rw [if_neg c_78] at hl
                refine lv_goto (tgt := 133) hx hb dX10_sheet_81 (by decide) ?_
                refine lv_iinc (v := nI (k + 4)) (lv' := [(4, .int (nI (k + 4))), (3, .int (nI 0)), (0, .ref (q10 0)), (1, .int (nI N2)), (2, .int (nI (mlc.length - ml.length)))]) hx hb dX10_sheet_133 hl (k := 4) rfl (nI_add _ _) (by decide) rfl (fun ls hl => ?_)
                refine lv_goto (tgt := 26) hx hb dX10_sheet_136 (by decide) ?_
                exact ih_26 (k + 4) 0 (fl - 1) mlc _ _ wc uc (by omega) (by omega) (by omega) hRc hVc hle hSh (by rw [hgo, if_pos (by omega), shL_stop (fun z => c_78 z.2)]; rfl) (by omega) hu9 (by omega) _ _ hP hD hS ls (lv_sub hl [2, 3, 4, 1, 0] rfl)
      have hl : lv_has ls 5 [(4, .int (nI 0)), (3, .int (nI 1)), (2, .int (nI (ml.length - ml.length))), (0, .ref (q10 0)), (1, .int (nI N2))] := by rw [Nat.sub_self]; exact hl
      exact hL_26 _ 0 1 121 ml _ _ w u (by omega) (by omega) (by omega) hR hV (Nat.le_refl _) (Or.inl ⟨rfl, rfl, rfl, rfl, rfl, rfl⟩) rfl hw40 hu40 (Nat.lt_succ_self _) _ _ hP hD hS ls (lv_sub hl [3, 4, 2, 1, 0] rfl)
    · skip
      refine lv_iconst (v := (-1)) hx hb dX10_sheet_12 (by decide) ?_
      subst hQ; subst hAe
      exact W.iret (v := (-1)) hx hb hr (fun t ht _ => ⟨⟨(-1), (st_10, kept_10, nI u, nI w, nI z), rfl, ⟨fun h => absurd h (by first | exact kIn_lo c_1 | exact kIn_nle (by omega) c_9), fun _ => ⟨rfl, rfl, rfl, rfl, rfl, rfl⟩⟩, by rw [ht]; exact hP, hD⟩, hS.F ht⟩) hS.2.2 dX10_sheet_13
