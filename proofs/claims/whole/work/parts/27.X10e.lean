def rmX10_gatherOvers : Room := { frames := 2, cells := 0, slots := 0, locals := 45 }
set_option maxHeartbeats 4000000 in
set_option maxRecDepth 100000 in
theorem c_X10_gatherOvers (l : Launch) (D : va_G) (cI cJ cB : ClassId) (q10 : Nat → Nat) (st_10 : Nat → Int32) (kept_10 : Nat → Int32) (undoable_10 : Int32) (newest_10 : Int32) (tape_10 : Nat → Int32) (taped_10 : Int32) (marks_10 : Nat → Int32) (order_10 : Nat → Int32) (reach_10 : Nat → Int32) (heapOf_10 : Nat → Int32) (rows_10 : Nat → Int64) (x_10 : Nat → Int64) (overs_10 : Nat → Int32) (costs_10 : Nat → Int32) (ways_10 : Nat → Int32) (digits_10 : Nat → Int32) (beaten_10 : Nat → Int32) (walks_10 : Nat → Int32) (n : Nat) (ml : List Mt) (nx : List (Nat × Nat)) (ks : List Nat) (rr : Int32 × Int32 × Int32) (hR : RS st_10 n ml nx ks rr) (hV : VS n ml nx ks) : ∀ sz, Met l yX10_gatherOvers wsX10_gatherOvers rmX10_gatherOvers (va_Pc [.ref (q10 0)] (PW D (kT cI cJ cB) sz (wX10 q10 cI cJ cB st_10 kept_10 undoable_10 newest_10 tape_10 taped_10 marks_10 order_10 reach_10 heapOf_10 rows_10 x_10 overs_10 costs_10 ways_10 digits_10 beaten_10 walks_10))) (va_Qv (S := (Nat → Int32)) (fun overs_10' => OvOK ml n overs_10') (QW D sz (wX10 q10 cI cJ cB st_10 kept_10 undoable_10 newest_10 tape_10 taped_10 marks_10 order_10 reach_10 heapOf_10 rows_10 x_10 overs_10 costs_10 ways_10 digits_10 beaten_10 walks_10) (fun overs_10' => (wX10 q10 cI cJ cB st_10 kept_10 undoable_10 newest_10 tape_10 taped_10 marks_10 order_10 reach_10 heapOf_10 rows_10 x_10 overs_10' costs_10 ways_10 digits_10 beaten_10 walks_10))) (va_A (wX10 q10 cI cJ cB st_10 kept_10 undoable_10 newest_10 tape_10 taped_10 marks_10 order_10 reach_10 heapOf_10 rows_10 x_10 overs_10 costs_10 ways_10 digits_10 beaten_10 walks_10) sz)) 0 0 (va_A (wX10 q10 cI cJ cB st_10 kept_10 undoable_10 newest_10 tape_10 taped_10 marks_10 order_10 reach_10 heapOf_10 rows_10 x_10 overs_10 costs_10 ways_10 digits_10 beaten_10 walks_10) sz) := by
  intro sz
  refine Met.ofW (cc := cX10_gatherOvers) (maxL := 3) (ret := none) (by decide) rfl ?_
  intro p e s m args below meth c s₁ B hml hv
  obtain ⟨hav, hsz, hP, hKW, hD0⟩ := hv
  have hx := B.exec
  have hb := B.bytes
  have hr := B.returns
  have hts := atoms_spec (ws := wsX10_gatherOvers) B.pre
  have hown : s.vm.findClass RX10 = some m.cls := findClass_of_methodNamed B.named
  have hlocks := B.notSynchronized
  subst hsz
  have hD := hD0.self (sz := s.heap.size)
  obtain ⟨A, hAe⟩ : ∃ A : Nat → Prop, A = va_A (wX10 q10 cI cJ cB st_10 kept_10 undoable_10 newest_10 tape_10 taped_10 marks_10 order_10 reach_10 heapOf_10 rows_10 x_10 overs_10 costs_10 ways_10 digits_10 beaten_10 walks_10) s.heap.size := ⟨_, rfl⟩
  rw [← hAe] at hD
  have hA : ∀ q : Nat, s.heap.size ≤ q → A q := fun q h => by rw [hAe]; exact Or.inr h
  have hS : va_S A s.heap s.heap [] := va_S.rf
  refine k_gen (fun Q hQ => ?_)
  have hl := lv_entry ([.ref (q10 0)]) (n := 3) (Nat.le_of_ble_eq_true rfl)
  refine k_entry hav (lg_entry_eq ..) ?_
  generalize (lg_sl ([.ref (q10 0)]) ++ List.replicate (3 - (lg_sl ([.ref (q10 0)])).length) Slot.unset).toArray = ls at hl ⊢
  have hl : lv_has ls 3 [(0, .ref (q10 0))] := hl
  have hu_10 : ∀ w ∈ u_ws RX10 TX10 18, w ∈ wsX10_gatherOvers := by decide +kernel
  have hf_38 : Cond.fieldLink RX10 38 "MeetingRanksModel" "overs" "[I" ∈ wsX10_gatherOvers := by decide +kernel
  have hn1 := hV.1
  have hn10 := hV.2.1
  have hm120 := hV.2.2.1
  have hx40 := hV.2.2.2.2.1
  have hk4 := hV.2.2.2.2.2.2.1
  refine lv_iconst (v := nI 0) hx hb dX10_gatherOvers_0 (by decide) ?_
  refine lv_istore_n (lv' := [(1, .int (nI 0)), (0, .ref (q10 0))]) hx hb dX10_gatherOvers_1 rfl hl (by decide) rfl (fun ls hl => ?_)
  have hL_2 : ∀ (fu : Nat) (a : Nat) (f : Nat → Int32) (ha : a ≤ n) (hf : ∀ x y, x < a → y < n → f (10 * x + y) = nI (ov ml x y)), n - a < fu → ∀ (H : Heap) (locs : List Loc), va_P D vwCl (wX10 q10 cI cJ cB st_10 kept_10 undoable_10 newest_10 tape_10 taped_10 marks_10 order_10 reach_10 heapOf_10 rows_10 x_10 f costs_10 ways_10 digits_10 beaten_10 walks_10) H → va_D A (wX10 q10 cI cJ cB st_10 kept_10 undoable_10 newest_10 tape_10 taped_10 marks_10 order_10 reach_10 heapOf_10 rows_10 x_10 f costs_10 ways_10 digits_10 beaten_10 walks_10) → va_S A s.heap H locs → ∀ (ls : Array Slot), lv_has ls 3 [(0, .ref (q10 0)), (1, .int (nI a))] → W p l e (headSpec wsX10_gatherOvers rmX10_gatherOvers).room s m args below meth c H locs 0 0 Q (F0 m 2 ls []) := by
    intro fu
    induction fu with
    | zero => intro a f ha hf hfu; exact absurd hfu (Nat.not_lt_zero _)
    | succ fu ih_2 =>
      intro a f ha hf hfu H locs hP hD hS ls hl
      refine lv_iload_n hx hb dX10_gatherOvers_2 rfl (lv_at hl 1 rfl) ?_
      refine lv_aload_n hx hb dX10_gatherOvers_3 rfl (lv_at hl 0 rfl) ?_
      have hs_4 : kSplit (wX10 q10 cI cJ cB st_10 kept_10 undoable_10 newest_10 tape_10 taped_10 marks_10 order_10 reach_10 heapOf_10 rows_10 x_10 f costs_10 ways_10 digits_10 beaten_10 walks_10) (wX10 q10 cI cJ cB st_10 kept_10 undoable_10 newest_10 tape_10 taped_10 marks_10 order_10 reach_10 heapOf_10 rows_10 x_10 f costs_10 ways_10 digits_10 beaten_10 walks_10) ([] : va_W) [0, 1, 2, 3, 4, 5, 6, 7, 8, 9, 10, 11, 12, 13, 14, 15] [] := ⟨rfl, rfl, rfl, rfl, rfl, by decide⟩
      refine kc_i hP hD hS hA hs_4 (kV (As := []) (rest := [.int (nI a)]) hx hb hml hown hts hKW hP hD hs_4 (c_X10_n l D cI cJ cB q10 st_10 kept_10 undoable_10 newest_10 tape_10 taped_10 marks_10 order_10 reach_10 heapOf_10 rows_10 x_10 f costs_10 ways_10 digits_10 beaten_10 walks_10 n ml nx ks rr (by first | assumption | omega) (by first | assumption | omega)) (cwV 0 hts gX10_gatherOvers_X10_n rfl rfl rfl (by decide +kernel) ⟨Nat.le_of_ble_eq_true rfl, Nat.le_of_ble_eq_true rfl⟩) 0 10 rfl rfl rfl rfl hl.1 rfl (Nat.le_of_ble_eq_true rfl) dX10_gatherOvers_4 ⟨Nat.zero_le _, Nat.zero_le _⟩) (fun r_4 u_4 H locs hw_4 hP hD hS => ?_)
      have er_4 := hw_4
      have er_4 := er_4.symm
      subst er_4
      have hP : va_P D vwCl (wX10 q10 cI cJ cB st_10 kept_10 undoable_10 newest_10 tape_10 taped_10 marks_10 order_10 reach_10 heapOf_10 rows_10 x_10 f costs_10 ways_10 digits_10 beaten_10 walks_10) H := hP.sub (ws' := (wX10 q10 cI cJ cB st_10 kept_10 undoable_10 newest_10 tape_10 taped_10 marks_10 order_10 reach_10 heapOf_10 rows_10 x_10 f costs_10 ways_10 digits_10 beaten_10 walks_10)) [0, 1, 2, 3, 4, 5, 6, 7, 8, 9, 10, 11, 12, 13, 14, 15] rfl
      have hD : va_D A (wX10 q10 cI cJ cB st_10 kept_10 undoable_10 newest_10 tape_10 taped_10 marks_10 order_10 reach_10 heapOf_10 rows_10 x_10 f costs_10 ways_10 digits_10 beaten_10 walks_10) := hD.sub (ws' := (wX10 q10 cI cJ cB st_10 kept_10 undoable_10 newest_10 tape_10 taped_10 marks_10 order_10 reach_10 heapOf_10 rows_10 x_10 f costs_10 ways_10 digits_10 beaten_10 walks_10)) [0, 1, 2, 3, 4, 5, 6, 7, 8, 9, 10, 11, 12, 13, 14, 15] (by decide) rfl
      refine lv_icmp_ge (tgt := 58) hx hb dX10_gatherOvers_7 (by decide) (fun c_7 => ?_) (fun c_7 => ?_)
      · skip
        have c_7 := k_ge (by omega) (by omega) c_7
        obtain rfl : n = a := by omega
        subst hQ; subst hAe
        exact W.vret hx hb hr (fun t ht _ => ⟨⟨(f), rfl, hf, by rw [ht]; exact hP, hD⟩, hS.F ht⟩) hS.2.2 dX10_gatherOvers_58
      · skip
        have c_7 := k_ge_n (by omega) (by omega) c_7
        refine lv_iconst (v := nI 0) hx hb dX10_gatherOvers_10 (by decide) ?_
        refine lv_istore_n (lv' := [(2, .int (nI 0)), (0, .ref (q10 0)), (1, .int (nI a))]) hx hb dX10_gatherOvers_11 rfl hl (by decide) rfl (fun ls hl => ?_)
        have hL_12 : ∀ (fu : Nat) (b : Nat) (g : Nat → Int32) (hb2 : b ≤ n) (hf2 : ∀ x y, x < a → y < n → g (10 * x + y) = nI (ov ml x y)) (hg : ∀ y, y < b → g (10 * a + y) = nI (ov ml a y)), n - b < fu → ∀ (H : Heap) (locs : List Loc), va_P D vwCl (wX10 q10 cI cJ cB st_10 kept_10 undoable_10 newest_10 tape_10 taped_10 marks_10 order_10 reach_10 heapOf_10 rows_10 x_10 g costs_10 ways_10 digits_10 beaten_10 walks_10) H → va_D A (wX10 q10 cI cJ cB st_10 kept_10 undoable_10 newest_10 tape_10 taped_10 marks_10 order_10 reach_10 heapOf_10 rows_10 x_10 g costs_10 ways_10 digits_10 beaten_10 walks_10) → va_S A s.heap H locs → ∀ (ls : Array Slot), lv_has ls 3 [(0, .ref (q10 0)), (1, .int (nI a)), (2, .int (nI b))] → W p l e (headSpec wsX10_gatherOvers rmX10_gatherOvers).room s m args below meth c H locs 0 0 Q (F0 m 12 ls []) := by
          intro fu
          induction fu with
          | zero => intro b g hb2 hf2 hg hfu; exact absurd hfu (Nat.not_lt_zero _)
          | succ fu ih_12 =>
            intro b g hb2 hf2 hg hfu H locs hP hD hS ls hl
            refine lv_iload_n hx hb dX10_gatherOvers_12 rfl (lv_at hl 2 rfl) ?_
            refine lv_aload_n hx hb dX10_gatherOvers_13 rfl (lv_at hl 0 rfl) ?_
            have hs_14 : kSplit (wX10 q10 cI cJ cB st_10 kept_10 undoable_10 newest_10 tape_10 taped_10 marks_10 order_10 reach_10 heapOf_10 rows_10 x_10 g costs_10 ways_10 digits_10 beaten_10 walks_10) (wX10 q10 cI cJ cB st_10 kept_10 undoable_10 newest_10 tape_10 taped_10 marks_10 order_10 reach_10 heapOf_10 rows_10 x_10 g costs_10 ways_10 digits_10 beaten_10 walks_10) ([] : va_W) [0, 1, 2, 3, 4, 5, 6, 7, 8, 9, 10, 11, 12, 13, 14, 15] [] := ⟨rfl, rfl, rfl, rfl, rfl, by decide⟩
            refine kc_i hP hD hS hA hs_14 (kV (As := []) (rest := [.int (nI b)]) hx hb hml hown hts hKW hP hD hs_14 (c_X10_n l D cI cJ cB q10 st_10 kept_10 undoable_10 newest_10 tape_10 taped_10 marks_10 order_10 reach_10 heapOf_10 rows_10 x_10 g costs_10 ways_10 digits_10 beaten_10 walks_10 n ml nx ks rr (by first | assumption | omega) (by first | assumption | omega)) (cwV 0 hts gX10_gatherOvers_X10_n rfl rfl rfl (by decide +kernel) ⟨Nat.le_of_ble_eq_true rfl, Nat.le_of_ble_eq_true rfl⟩) 0 10 rfl rfl rfl rfl hl.1 rfl (Nat.le_of_ble_eq_true rfl) dX10_gatherOvers_14 ⟨Nat.zero_le _, Nat.zero_le _⟩) (fun r_14 u_14 H locs hw_14 hP hD hS => ?_)
            have er_14 := hw_14
            have er_14 := er_14.symm
            subst er_14
            have hP : va_P D vwCl (wX10 q10 cI cJ cB st_10 kept_10 undoable_10 newest_10 tape_10 taped_10 marks_10 order_10 reach_10 heapOf_10 rows_10 x_10 g costs_10 ways_10 digits_10 beaten_10 walks_10) H := hP.sub (ws' := (wX10 q10 cI cJ cB st_10 kept_10 undoable_10 newest_10 tape_10 taped_10 marks_10 order_10 reach_10 heapOf_10 rows_10 x_10 g costs_10 ways_10 digits_10 beaten_10 walks_10)) [0, 1, 2, 3, 4, 5, 6, 7, 8, 9, 10, 11, 12, 13, 14, 15] rfl
            have hD : va_D A (wX10 q10 cI cJ cB st_10 kept_10 undoable_10 newest_10 tape_10 taped_10 marks_10 order_10 reach_10 heapOf_10 rows_10 x_10 g costs_10 ways_10 digits_10 beaten_10 walks_10) := hD.sub (ws' := (wX10 q10 cI cJ cB st_10 kept_10 undoable_10 newest_10 tape_10 taped_10 marks_10 order_10 reach_10 heapOf_10 rows_10 x_10 g costs_10 ways_10 digits_10 beaten_10 walks_10)) [0, 1, 2, 3, 4, 5, 6, 7, 8, 9, 10, 11, 12, 13, 14, 15] (by decide) rfl
            refine lv_icmp_ge (tgt := 52) hx hb dX10_gatherOvers_17 (by decide) (fun c_17 => ?_) (fun c_17 => ?_)
            · skip
              have c_17 := k_ge (by omega) (by omega) c_17
              obtain rfl : n = b := by omega
              refine lv_iinc (v := nI (a + 1)) (lv' := [(1, .int (nI (a + 1))), (0, .ref (q10 0)), (2, .int (nI n))]) hx hb dX10_gatherOvers_52 hl (k := 1) rfl (nI_add _ _) (by decide) rfl (fun ls hl => ?_)
              refine lv_goto (tgt := 2) hx hb dX10_gatherOvers_55 (by decide) ?_
              exact ih_2 _ _ (by omega) (fun x y hx9 hy9 => by by_cases e9 : x = a; (subst e9; exact hg y (by omega)); (exact hf2 x y (by omega) hy9)) (by omega) _ _ hP hD hS ls (lv_sub hl [1, 0] rfl)
            · skip
              have c_17 := k_ge_n (by omega) (by omega) c_17
              refine lv_aload_n hx hb dX10_gatherOvers_20 rfl (lv_at hl 0 rfl) ?_
              refine k_get (ci := 10) (v := .ref (q10 10)) (C := RX10) (Tb := TX10) (N := 18) hx hb hts hu_10 hown hKW hP 0 rfl rfl 12 (by decide) hf_38 rfl rfl dX10_gatherOvers_21 ?_
              refine lv_bipush (v := nI 10) hx hb dX10_gatherOvers_24 (by decide) ?_
              refine lv_iload_n hx hb dX10_gatherOvers_26 rfl (lv_at hl 1 rfl) ?_
              refine k_imul hx hb dX10_gatherOvers_27 ?_
              refine lv_iload_n hx hb dX10_gatherOvers_28 rfl (lv_at hl 2 rfl) ?_
              refine k_iadd hx hb dX10_gatherOvers_29 ?_
              refine lv_iload_n hx hb dX10_gatherOvers_30 rfl (lv_at hl 1 rfl) ?_
              refine lv_iload_n hx hb dX10_gatherOvers_31 rfl (lv_at hl 2 rfl) ?_
              refine lv_icmp_ne (tgt := 39) hx hb dX10_gatherOvers_32 (by decide) (fun c_32 => ?_) (fun c_32 => ?_)
              · skip
                have c_32 := k_ne (by omega) (by omega) c_32
                refine lv_aload_n hx hb dX10_gatherOvers_39 rfl (lv_at hl 0 rfl) ?_
                refine lv_iload_n hx hb dX10_gatherOvers_40 rfl (lv_at hl 1 rfl) ?_
                refine lv_iload_n hx hb dX10_gatherOvers_41 rfl (lv_at hl 2 rfl) ?_
                have hs_42 : kSplit (wX10 q10 cI cJ cB st_10 kept_10 undoable_10 newest_10 tape_10 taped_10 marks_10 order_10 reach_10 heapOf_10 rows_10 x_10 g costs_10 ways_10 digits_10 beaten_10 walks_10) (wX10 q10 cI cJ cB st_10 kept_10 undoable_10 newest_10 tape_10 taped_10 marks_10 order_10 reach_10 heapOf_10 rows_10 x_10 g costs_10 ways_10 digits_10 beaten_10 walks_10) ([] : va_W) [0, 1, 2, 3, 4, 5, 6, 7, 8, 9, 10, 11, 12, 13, 14, 15] [] := ⟨rfl, rfl, rfl, rfl, rfl, by decide⟩
                refine kc_i hP hD hS hA hs_42 (kV (As := [.int (nI a), .int (nI b)]) (rest := [.int (nI ((10 * a) + b)), .ref (q10 10)]) hx hb hml hown hts hKW hP hD hs_42 (c_X10_overOf l D cI cJ cB q10 st_10 kept_10 undoable_10 newest_10 tape_10 taped_10 marks_10 order_10 reach_10 heapOf_10 rows_10 x_10 g costs_10 ways_10 digits_10 beaten_10 walks_10 n ml nx ks rr a b (by first | assumption | omega) (by first | assumption | omega) (by first | assumption | omega) (by first | assumption | omega)) (cwV 2 hts gX10_gatherOvers_X10_overOf rfl rfl rfl (by decide +kernel) ⟨Nat.le_of_ble_eq_true rfl, Nat.le_of_ble_eq_true rfl⟩) 0 10 rfl rfl rfl rfl hl.1 rfl (Nat.le_of_ble_eq_true rfl) dX10_gatherOvers_42 ⟨Nat.zero_le _, Nat.zero_le _⟩) (fun r_42 u_42 H locs hw_42 hP hD hS => ?_)
                have er_42 := hw_42
                have er_42 := er_42.symm
                subst er_42
                have hP : va_P D vwCl (wX10 q10 cI cJ cB st_10 kept_10 undoable_10 newest_10 tape_10 taped_10 marks_10 order_10 reach_10 heapOf_10 rows_10 x_10 g costs_10 ways_10 digits_10 beaten_10 walks_10) H := hP.sub (ws' := (wX10 q10 cI cJ cB st_10 kept_10 undoable_10 newest_10 tape_10 taped_10 marks_10 order_10 reach_10 heapOf_10 rows_10 x_10 g costs_10 ways_10 digits_10 beaten_10 walks_10)) [0, 1, 2, 3, 4, 5, 6, 7, 8, 9, 10, 11, 12, 13, 14, 15] rfl
                have hD : va_D A (wX10 q10 cI cJ cB st_10 kept_10 undoable_10 newest_10 tape_10 taped_10 marks_10 order_10 reach_10 heapOf_10 rows_10 x_10 g costs_10 ways_10 digits_10 beaten_10 walks_10) := hD.sub (ws' := (wX10 q10 cI cJ cB st_10 kept_10 undoable_10 newest_10 tape_10 taped_10 marks_10 order_10 reach_10 heapOf_10 rows_10 x_10 g costs_10 ways_10 digits_10 beaten_10 walks_10)) [0, 1, 2, 3, 4, 5, 6, 7, 8, 9, 10, 11, 12, 13, 14, 15] (by decide) rfl
                refine k_iast (n := 100) (i := (10 * a) + b) (x := nI (ov ml a b)) (w' := (wX10 q10 cI cJ cB st_10 kept_10 undoable_10 newest_10 tape_10 taped_10 marks_10 order_10 reach_10 heapOf_10 rows_10 x_10 (upd g ((10 * a) + b) (nI (ov ml a b))) costs_10 ways_10 digits_10 beaten_10 walks_10)) hx hb hKW hP hD hS 10 0 rfl rfl (by omega) (by omega) dX10_gatherOvers_45 rfl (fun H locs hP hD hS => ?_)
                refine lv_iinc (v := nI (b + 1)) (lv' := [(2, .int (nI (b + 1))), (0, .ref (q10 0)), (1, .int (nI a))]) hx hb dX10_gatherOvers_46 hl (k := 2) rfl (nI_add _ _) (by decide) rfl (fun ls hl => ?_)
                refine lv_goto (tgt := 12) hx hb dX10_gatherOvers_49 (by decide) ?_
                exact ih_12 _ _ (by omega) (fun x y hx9 hy9 => by rw [pk_un (by omega)]; exact hf2 x y hx9 hy9) (fun y hy9 => by by_cases e9 : y = b; (subst e9; rw [pk_us]); (rw [pk_un (by omega)]; exact hg y (by omega))) (by omega) _ _ hP hD hS ls (lv_sub hl [1, 2, 0] rfl)
              · skip
                have c_32 := k_ne_n (by omega) (by omega) c_32
                refine lv_iconst (v := nI 0) hx hb dX10_gatherOvers_35 (by decide) ?_
                refine lv_goto (tgt := 45) hx hb dX10_gatherOvers_36 (by decide) ?_
                refine k_iast (n := 100) (i := (10 * a) + b) (x := nI 0) (w' := (wX10 q10 cI cJ cB st_10 kept_10 undoable_10 newest_10 tape_10 taped_10 marks_10 order_10 reach_10 heapOf_10 rows_10 x_10 (upd g ((10 * a) + b) (nI 0)) costs_10 ways_10 digits_10 beaten_10 walks_10)) hx hb hKW hP hD hS 10 0 rfl rfl (by omega) (by omega) dX10_gatherOvers_45 rfl (fun H locs hP hD hS => ?_)
                refine lv_iinc (v := nI (b + 1)) (lv' := [(2, .int (nI (b + 1))), (0, .ref (q10 0)), (1, .int (nI a))]) hx hb dX10_gatherOvers_46 hl (k := 2) rfl (nI_add _ _) (by decide) rfl (fun ls hl => ?_)
                refine lv_goto (tgt := 12) hx hb dX10_gatherOvers_49 (by decide) ?_
                exact ih_12 _ _ (by omega) (fun x y hx9 hy9 => by rw [pk_un (by omega)]; exact hf2 x y hx9 hy9) (fun y hy9 => by by_cases e9 : y = b; (subst e9; rw [pk_us, c_32, ov_self _ hV.2.2.2.1]); (rw [pk_un (by omega)]; exact hg y (by omega))) (by omega) _ _ hP hD hS ls (lv_sub hl [1, 2, 0] rfl)
        exact hL_12 _ 0 _ (Nat.zero_le _) hf (fun y hy9 => absurd hy9 (Nat.not_lt_zero y)) (Nat.lt_succ_self _) _ _ hP hD hS ls (lv_sub hl [1, 2, 0] rfl)
  exact hL_2 _ 0 _ (Nat.zero_le _) (fun x y hx9 => absurd hx9 (Nat.not_lt_zero x)) (Nat.lt_succ_self _) _ _ hP hD hS ls (lv_sub hl [1, 0] rfl)
def rmX10_behind : Room := { frames := 1, cells := 0, slots := 0, locals := 20 }
set_option maxHeartbeats 4000000 in
set_option maxRecDepth 100000 in
theorem c_X10_behind (l : Launch) (D : va_G) (cI cJ cB : ClassId) (q10 : Nat → Nat) (st_10 : Nat → Int32) (kept_10 : Nat → Int32) (undoable_10 : Int32) (newest_10 : Int32) (tape_10 : Nat → Int32) (taped_10 : Int32) (marks_10 : Nat → Int32) (order_10 : Nat → Int32) (reach_10 : Nat → Int32) (heapOf_10 : Nat → Int32) (rows_10 : Nat → Int64) (x_10 : Nat → Int64) (overs_10 : Nat → Int32) (costs_10 : Nat → Int32) (ways_10 : Nat → Int32) (digits_10 : Nat → Int32) (beaten_10 : Nat → Int32) (walks_10 : Nat → Int32) (n : Nat) (ml : List Mt) (nx : List (Nat × Nat)) (ks : List Nat) (rr : Int32 × Int32 × Int32) (p1 : Nat) (S : Nat) (hR : RS st_10 n ml nx ks rr) (hV : VS n ml nx ks) (hO : OvOK ml n overs_10) (hp1 : p1 < n) (hS10 : S < 2 ^ 31) : ∀ sz, Met l yX10_behind wsX10_behind rmX10_behind (va_Pc [.ref (q10 0), .int (nI p1), .int (nI S)] (PW D (kT cI cJ cB) sz (wX10 q10 cI cJ cB st_10 kept_10 undoable_10 newest_10 tape_10 taped_10 marks_10 order_10 reach_10 heapOf_10 rows_10 x_10 overs_10 costs_10 ways_10 digits_10 beaten_10 walks_10))) (va_Qi (S := Unit) (fun r _ => r = bhI ml n p1 S) (QW D sz (wX10 q10 cI cJ cB st_10 kept_10 undoable_10 newest_10 tape_10 taped_10 marks_10 order_10 reach_10 heapOf_10 rows_10 x_10 overs_10 costs_10 ways_10 digits_10 beaten_10 walks_10) (fun _ => (wX10 q10 cI cJ cB st_10 kept_10 undoable_10 newest_10 tape_10 taped_10 marks_10 order_10 reach_10 heapOf_10 rows_10 x_10 overs_10 costs_10 ways_10 digits_10 beaten_10 walks_10))) (va_A (wX10 q10 cI cJ cB st_10 kept_10 undoable_10 newest_10 tape_10 taped_10 marks_10 order_10 reach_10 heapOf_10 rows_10 x_10 overs_10 costs_10 ways_10 digits_10 beaten_10 walks_10) sz)) 0 0 (va_A (wX10 q10 cI cJ cB st_10 kept_10 undoable_10 newest_10 tape_10 taped_10 marks_10 order_10 reach_10 heapOf_10 rows_10 x_10 overs_10 costs_10 ways_10 digits_10 beaten_10 walks_10) sz) := by
  intro sz
  refine Met.ofW (cc := cX10_behind) (maxL := 5) (ret := (some .int)) (by decide) rfl ?_
  intro p e s m args below meth c s₁ B hml hv
  obtain ⟨hav, hsz, hP, hKW, hD0⟩ := hv
  have hx := B.exec
  have hb := B.bytes
  have hr := B.returns
  have hts := atoms_spec (ws := wsX10_behind) B.pre
  have hown : s.vm.findClass RX10 = some m.cls := findClass_of_methodNamed B.named
  have hlocks := B.notSynchronized
  subst hsz
  have hD := hD0.self (sz := s.heap.size)
  obtain ⟨A, hAe⟩ : ∃ A : Nat → Prop, A = va_A (wX10 q10 cI cJ cB st_10 kept_10 undoable_10 newest_10 tape_10 taped_10 marks_10 order_10 reach_10 heapOf_10 rows_10 x_10 overs_10 costs_10 ways_10 digits_10 beaten_10 walks_10) s.heap.size := ⟨_, rfl⟩
  rw [← hAe] at hD
  have hA : ∀ q : Nat, s.heap.size ≤ q → A q := fun q h => by rw [hAe]; exact Or.inr h
  have hS : va_S A s.heap s.heap [] := va_S.rf
  refine k_gen (fun Q hQ => ?_)
  have hl := lv_entry ([.ref (q10 0), .int (nI p1), .int (nI S)]) (n := 5) (Nat.le_of_ble_eq_true rfl)
  refine k_entry hav (lg_entry_eq ..) ?_
  generalize (lg_sl ([.ref (q10 0), .int (nI p1), .int (nI S)]) ++ List.replicate (5 - (lg_sl ([.ref (q10 0), .int (nI p1), .int (nI S)])).length) Slot.unset).toArray = ls at hl ⊢
  have hl : lv_has ls 5 [(0, .ref (q10 0)), (1, .int (nI p1)), (2, .int (nI S))] := hl
  have hu_10 : ∀ w ∈ u_ws RX10 TX10 18, w ∈ wsX10_behind := by decide +kernel
  have hf_38 : Cond.fieldLink RX10 38 "MeetingRanksModel" "overs" "[I" ∈ wsX10_behind := by decide +kernel
  have hn1 := hV.1
  have hn10 := hV.2.1
  have hm120 := hV.2.2.1
  have hx40 := hV.2.2.2.2.1
  have hk4 := hV.2.2.2.2.2.2.1
  refine lv_iconst (v := nI 0) hx hb dX10_behind_0 (by decide) ?_
  refine lv_istore_n (lv' := [(3, .int (nI 0)), (0, .ref (q10 0)), (1, .int (nI p1)), (2, .int (nI S))]) hx hb dX10_behind_1 rfl hl (by decide) rfl (fun ls hl => ?_)
  refine lv_iconst (v := nI 0) hx hb dX10_behind_2 (by decide) ?_
  refine lv_istore (lv' := [(4, .int (nI 0)), (3, .int (nI 0)), (0, .ref (q10 0)), (1, .int (nI p1)), (2, .int (nI S))]) hx hb dX10_behind_3 hl (by decide) rfl (fun ls hl => ?_)
  have hL_5 : ∀ (fu : Nat) (q : Nat) (v : Int32) (hq : q ≤ n) (hv : v = sI (fun q => if S.testBit q = true then nI (ov ml p1 q) else 0) q), n - q < fu → ∀ (H : Heap) (locs : List Loc), va_P D vwCl (wX10 q10 cI cJ cB st_10 kept_10 undoable_10 newest_10 tape_10 taped_10 marks_10 order_10 reach_10 heapOf_10 rows_10 x_10 overs_10 costs_10 ways_10 digits_10 beaten_10 walks_10) H → va_D A (wX10 q10 cI cJ cB st_10 kept_10 undoable_10 newest_10 tape_10 taped_10 marks_10 order_10 reach_10 heapOf_10 rows_10 x_10 overs_10 costs_10 ways_10 digits_10 beaten_10 walks_10) → va_S A s.heap H locs → ∀ (ls : Array Slot), lv_has ls 5 [(0, .ref (q10 0)), (1, .int (nI p1)), (2, .int (nI S)), (3, .int v), (4, .int (nI q))] → W p l e (headSpec wsX10_behind rmX10_behind).room s m args below meth c H locs 0 0 Q (F0 m 5 ls []) := by
    intro fu
    induction fu with
    | zero => intro q v hq hv hfu; exact absurd hfu (Nat.not_lt_zero _)
    | succ fu ih_5 =>
      intro q v hq hv hfu H locs hP hD hS ls hl
      refine lv_iload hx hb dX10_behind_5 (lv_at hl 4 rfl) ?_
      refine lv_aload_n hx hb dX10_behind_7 rfl (lv_at hl 0 rfl) ?_
      have hs_8 : kSplit (wX10 q10 cI cJ cB st_10 kept_10 undoable_10 newest_10 tape_10 taped_10 marks_10 order_10 reach_10 heapOf_10 rows_10 x_10 overs_10 costs_10 ways_10 digits_10 beaten_10 walks_10) (wX10 q10 cI cJ cB st_10 kept_10 undoable_10 newest_10 tape_10 taped_10 marks_10 order_10 reach_10 heapOf_10 rows_10 x_10 overs_10 costs_10 ways_10 digits_10 beaten_10 walks_10) ([] : va_W) [0, 1, 2, 3, 4, 5, 6, 7, 8, 9, 10, 11, 12, 13, 14, 15] [] := ⟨rfl, rfl, rfl, rfl, rfl, by decide⟩
      refine kc_i hP hD hS hA hs_8 (kV (As := []) (rest := [.int (nI q)]) hx hb hml hown hts hKW hP hD hs_8 (c_X10_n l D cI cJ cB q10 st_10 kept_10 undoable_10 newest_10 tape_10 taped_10 marks_10 order_10 reach_10 heapOf_10 rows_10 x_10 overs_10 costs_10 ways_10 digits_10 beaten_10 walks_10 n ml nx ks rr (by first | assumption | omega) (by first | assumption | omega)) (cwV 0 hts gX10_behind_X10_n rfl rfl rfl (by decide +kernel) ⟨Nat.le_of_ble_eq_true rfl, Nat.le_of_ble_eq_true rfl⟩) 0 10 rfl rfl rfl rfl hl.1 rfl (Nat.le_of_ble_eq_true rfl) dX10_behind_8 ⟨Nat.zero_le _, Nat.zero_le _⟩) (fun r_8 u_8 H locs hw_8 hP hD hS => ?_)
      have er_8 := hw_8
      have er_8 := er_8.symm
      subst er_8
      have hP : va_P D vwCl (wX10 q10 cI cJ cB st_10 kept_10 undoable_10 newest_10 tape_10 taped_10 marks_10 order_10 reach_10 heapOf_10 rows_10 x_10 overs_10 costs_10 ways_10 digits_10 beaten_10 walks_10) H := hP.sub (ws' := (wX10 q10 cI cJ cB st_10 kept_10 undoable_10 newest_10 tape_10 taped_10 marks_10 order_10 reach_10 heapOf_10 rows_10 x_10 overs_10 costs_10 ways_10 digits_10 beaten_10 walks_10)) [0, 1, 2, 3, 4, 5, 6, 7, 8, 9, 10, 11, 12, 13, 14, 15] rfl
      have hD : va_D A (wX10 q10 cI cJ cB st_10 kept_10 undoable_10 newest_10 tape_10 taped_10 marks_10 order_10 reach_10 heapOf_10 rows_10 x_10 overs_10 costs_10 ways_10 digits_10 beaten_10 walks_10) := hD.sub (ws' := (wX10 q10 cI cJ cB st_10 kept_10 undoable_10 newest_10 tape_10 taped_10 marks_10 order_10 reach_10 heapOf_10 rows_10 x_10 overs_10 costs_10 ways_10 digits_10 beaten_10 walks_10)) [0, 1, 2, 3, 4, 5, 6, 7, 8, 9, 10, 11, 12, 13, 14, 15] (by decide) rfl
      refine lv_icmp_ge (tgt := 49) hx hb dX10_behind_11 (by decide) (fun c_11 => ?_) (fun c_11 => ?_)
      · skip
        have c_11 := k_ge (by omega) (by omega) c_11
        obtain rfl : n = q := by omega
        refine lv_iload_n hx hb dX10_behind_49 rfl (lv_at hl 3 rfl) ?_
        subst hQ; subst hAe
        exact W.iret (v := v) hx hb hr (fun t ht _ => ⟨⟨v, (), rfl, hv, by rw [ht]; exact hP, hD⟩, hS.F ht⟩) hS.2.2 dX10_behind_50
      · skip
        have c_11 := k_ge_n (by omega) (by omega) c_11
        refine lv_iload_n hx hb dX10_behind_14 rfl (lv_at hl 3 rfl) ?_
        refine lv_iload_n hx hb dX10_behind_15 rfl (lv_at hl 2 rfl) ?_
        refine lv_iload hx hb dX10_behind_16 (lv_at hl 4 rfl) ?_
        refine lv_ishr hx hb dX10_behind_18 ?_
        refine k_top (y := nI (S / 2 ^ q)) (k_shr (by omega) (by omega)) ?_
        refine lv_iconst (v := nI 1) hx hb dX10_behind_19 (by decide) ?_
        refine lv_iand hx hb dX10_behind_20 ?_
        refine k_top (y := nI (S / 2 ^ q % 2)) (k_and1 _ (k_shr_lt (by omega))) ?_
        refine lv_iconst (v := nI 1) hx hb dX10_behind_21 (by decide) ?_
        refine lv_icmp_ne (tgt := 40) hx hb dX10_behind_22 (by decide) (fun c_22 => ?_) (fun c_22 => ?_)
        · skip
          have c_22 := k_ne (by omega) (by omega) c_22
          refine lv_iconst (v := nI 0) hx hb dX10_behind_40 (by decide) ?_
          refine lv_iadd hx hb dX10_behind_41 ?_
          refine lv_istore_n (lv' := [(3, .int (v + (nI 0))), (0, .ref (q10 0)), (1, .int (nI p1)), (2, .int (nI S)), (4, .int (nI q))]) hx hb dX10_behind_42 rfl hl (by decide) rfl (fun ls hl => ?_)
          refine lv_iinc (v := nI (q + 1)) (lv' := [(4, .int (nI (q + 1))), (3, .int (v + (nI 0))), (0, .ref (q10 0)), (1, .int (nI p1)), (2, .int (nI S))]) hx hb dX10_behind_43 hl (k := 4) rfl (nI_add _ _) (by decide) rfl (fun ls hl => ?_)
          refine lv_goto (tgt := 5) hx hb dX10_behind_46 (by decide) ?_
          exact ih_5 _ _ (by omega) (by rw [hv]; show _ = _ + (if _ then _ else _); rw [if_neg (fun z => c_22 (tb_mod.mp z))]; rfl) (by omega) _ _ hP hD hS ls (lv_sub hl [2, 3, 4, 1, 0] rfl)
        · skip
          have c_22 := k_ne_n (by omega) (by omega) c_22
          refine lv_aload_n hx hb dX10_behind_25 rfl (lv_at hl 0 rfl) ?_
          refine k_get (ci := 10) (v := .ref (q10 10)) (C := RX10) (Tb := TX10) (N := 18) hx hb hts hu_10 hown hKW hP 0 rfl rfl 12 (by decide) hf_38 rfl rfl dX10_behind_26 ?_
          refine lv_bipush (v := nI 10) hx hb dX10_behind_29 (by decide) ?_
          refine lv_iload_n hx hb dX10_behind_31 rfl (lv_at hl 1 rfl) ?_
          refine k_imul hx hb dX10_behind_32 ?_
          refine lv_iload hx hb dX10_behind_33 (lv_at hl 4 rfl) ?_
          refine k_iadd hx hb dX10_behind_35 ?_
          refine k_iald (n := 100) (i := (10 * p1) + q) hx hb hKW hP 10 0 rfl rfl (by omega) (by omega) dX10_behind_36 ?_
          refine k_top (y := nI (ov ml p1 q)) (hO p1 q (by omega) (by omega)) ?_
          refine lv_goto (tgt := 41) hx hb dX10_behind_37 (by decide) ?_
          refine lv_iadd hx hb dX10_behind_41 ?_
          refine lv_istore_n (lv' := [(3, .int (v + (nI (ov ml p1 q)))), (0, .ref (q10 0)), (1, .int (nI p1)), (2, .int (nI S)), (4, .int (nI q))]) hx hb dX10_behind_42 rfl hl (by decide) rfl (fun ls hl => ?_)
          refine lv_iinc (v := nI (q + 1)) (lv' := [(4, .int (nI (q + 1))), (3, .int (v + (nI (ov ml p1 q)))), (0, .ref (q10 0)), (1, .int (nI p1)), (2, .int (nI S))]) hx hb dX10_behind_43 hl (k := 4) rfl (nI_add _ _) (by decide) rfl (fun ls hl => ?_)
          refine lv_goto (tgt := 5) hx hb dX10_behind_46 (by decide) ?_
          exact ih_5 _ _ (by omega) (by rw [hv]; show _ = _ + (if _ then _ else _); rw [if_pos (tb_mod.mpr c_22)]) (by omega) _ _ hP hD hS ls (lv_sub hl [2, 3, 4, 1, 0] rfl)
  exact hL_5 _ 0 0 (Nat.zero_le _) rfl (Nat.lt_succ_self _) _ _ hP hD hS ls (lv_sub hl [2, 3, 4, 1, 0] rfl)
def rmX10_fill : Room := { frames := 3, cells := 0, slots := 0, locals := 67 }
set_option maxHeartbeats 4000000 in
set_option maxRecDepth 100000 in
theorem c_X10_fill (l : Launch) (D : va_G) (cI cJ cB : ClassId) (q10 : Nat → Nat) (st_10 : Nat → Int32) (kept_10 : Nat → Int32) (undoable_10 : Int32) (newest_10 : Int32) (tape_10 : Nat → Int32) (taped_10 : Int32) (marks_10 : Nat → Int32) (order_10 : Nat → Int32) (reach_10 : Nat → Int32) (heapOf_10 : Nat → Int32) (rows_10 : Nat → Int64) (x_10 : Nat → Int64) (overs_10 : Nat → Int32) (costs_10 : Nat → Int32) (ways_10 : Nat → Int32) (digits_10 : Nat → Int32) (beaten_10 : Nat → Int32) (walks_10 : Nat → Int32) (n : Nat) (ml : List Mt) (nx : List (Nat × Nat)) (ks : List Nat) (rr : Int32 × Int32 × Int32) (hR : RS st_10 n ml nx ks rr) (hV : VS n ml nx ks) : ∀ sz, Met l yX10_fill wsX10_fill rmX10_fill (va_Pc [.ref (q10 0)] (PW D (kT cI cJ cB) sz (wX10 q10 cI cJ cB st_10 kept_10 undoable_10 newest_10 tape_10 taped_10 marks_10 order_10 reach_10 heapOf_10 rows_10 x_10 overs_10 costs_10 ways_10 digits_10 beaten_10 walks_10))) (va_Qv (S := (Nat → Int32) × (Nat → Int32) × (Nat → Int32)) (fun uu => match uu with | (overs_10', costs_10', ways_10') => OvOK ml n overs_10' ∧ FilOK ml n costs_10' ways_10' 0) (QW D sz (wX10 q10 cI cJ cB st_10 kept_10 undoable_10 newest_10 tape_10 taped_10 marks_10 order_10 reach_10 heapOf_10 rows_10 x_10 overs_10 costs_10 ways_10 digits_10 beaten_10 walks_10) (fun uu => match uu with | (overs_10', costs_10', ways_10') => (wX10 q10 cI cJ cB st_10 kept_10 undoable_10 newest_10 tape_10 taped_10 marks_10 order_10 reach_10 heapOf_10 rows_10 x_10 overs_10' costs_10' ways_10' digits_10 beaten_10 walks_10))) (va_A (wX10 q10 cI cJ cB st_10 kept_10 undoable_10 newest_10 tape_10 taped_10 marks_10 order_10 reach_10 heapOf_10 rows_10 x_10 overs_10 costs_10 ways_10 digits_10 beaten_10 walks_10) sz)) 0 0 (va_A (wX10 q10 cI cJ cB st_10 kept_10 undoable_10 newest_10 tape_10 taped_10 marks_10 order_10 reach_10 heapOf_10 rows_10 x_10 overs_10 costs_10 ways_10 digits_10 beaten_10 walks_10) sz) := by
  intro sz
  refine Met.ofW (cc := cX10_fill) (maxL := 5) (ret := none) (by decide) rfl ?_
  intro p e s m args below meth c s₁ B hml hv
  obtain ⟨hav, hsz, hP, hKW, hD0⟩ := hv
  have hx := B.exec
  have hb := B.bytes
  have hr := B.returns
  have hts := atoms_spec (ws := wsX10_fill) B.pre
  have hown : s.vm.findClass RX10 = some m.cls := findClass_of_methodNamed B.named
  have hlocks := B.notSynchronized
  subst hsz
  have hD := hD0.self (sz := s.heap.size)
  obtain ⟨A, hAe⟩ : ∃ A : Nat → Prop, A = va_A (wX10 q10 cI cJ cB st_10 kept_10 undoable_10 newest_10 tape_10 taped_10 marks_10 order_10 reach_10 heapOf_10 rows_10 x_10 overs_10 costs_10 ways_10 digits_10 beaten_10 walks_10) s.heap.size := ⟨_, rfl⟩
  rw [← hAe] at hD
  have hA : ∀ q : Nat, s.heap.size ≤ q → A q := fun q h => by rw [hAe]; exact Or.inr h
  have hS : va_S A s.heap s.heap [] := va_S.rf
  refine k_gen (fun Q hQ => ?_)
  have hl := lv_entry ([.ref (q10 0)]) (n := 5) (Nat.le_of_ble_eq_true rfl)
  refine k_entry hav (lg_entry_eq ..) ?_
  generalize (lg_sl ([.ref (q10 0)]) ++ List.replicate (5 - (lg_sl ([.ref (q10 0)])).length) Slot.unset).toArray = ls at hl ⊢
  have hl : lv_has ls 5 [(0, .ref (q10 0))] := hl
  have hu_10 : ∀ w ∈ u_ws RX10 TX10 18, w ∈ wsX10_fill := by decide +kernel
  have hf_41 : Cond.fieldLink RX10 41 "MeetingRanksModel" "costs" "[I" ∈ wsX10_fill := by decide +kernel
  have hf_44 : Cond.fieldLink RX10 44 "MeetingRanksModel" "ways" "[I" ∈ wsX10_fill := by decide +kernel
  have hn1 := hV.1
  have hn10 := hV.2.1
  have hm120 := hV.2.2.1
  have hx40 := hV.2.2.2.2.1
  have hk4 := hV.2.2.2.2.2.2.1
  have h2n := pow_le_1024 hn10
  have h2p := Nat.two_pow_pos n
  refine lv_aload_n hx hb dX10_fill_0 rfl (lv_at hl 0 rfl) ?_
  have hs_1 : kSplit (wX10 q10 cI cJ cB st_10 kept_10 undoable_10 newest_10 tape_10 taped_10 marks_10 order_10 reach_10 heapOf_10 rows_10 x_10 overs_10 costs_10 ways_10 digits_10 beaten_10 walks_10) (wX10 q10 cI cJ cB st_10 kept_10 undoable_10 newest_10 tape_10 taped_10 marks_10 order_10 reach_10 heapOf_10 rows_10 x_10 overs_10 costs_10 ways_10 digits_10 beaten_10 walks_10) ([] : va_W) [0, 1, 2, 3, 4, 5, 6, 7, 8, 9, 10, 11, 12, 13, 14, 15] [] := ⟨rfl, rfl, rfl, rfl, rfl, by decide⟩
  refine kc_v hP hD hS hA hs_1 (kV (As := []) (rest := []) hx hb hml hown hts hKW hP hD hs_1 (c_X10_gatherOvers l D cI cJ cB q10 st_10 kept_10 undoable_10 newest_10 tape_10 taped_10 marks_10 order_10 reach_10 heapOf_10 rows_10 x_10 overs_10 costs_10 ways_10 digits_10 beaten_10 walks_10 n ml nx ks rr (by first | assumption | omega) (by first | assumption | omega)) (cwV 0 hts gX10_fill_X10_gatherOvers rfl rfl rfl (by decide +kernel) ⟨Nat.le_of_ble_eq_true rfl, Nat.le_of_ble_eq_true rfl⟩) 0 10 rfl rfl rfl rfl hl.1 rfl (Nat.le_of_ble_eq_true rfl) dX10_fill_1 ⟨Nat.zero_le _, Nat.zero_le _⟩) (fun u_1 H locs hw_1 hP hD hS => ?_)
  obtain ⟨overs_10_1, rfl⟩ : ∃ z, z = u_1 := ⟨_, rfl⟩
  have hP : va_P D vwCl (wX10 q10 cI cJ cB st_10 kept_10 undoable_10 newest_10 tape_10 taped_10 marks_10 order_10 reach_10 heapOf_10 rows_10 x_10 overs_10_1 costs_10 ways_10 digits_10 beaten_10 walks_10) H := hP.sub (ws' := (wX10 q10 cI cJ cB st_10 kept_10 undoable_10 newest_10 tape_10 taped_10 marks_10 order_10 reach_10 heapOf_10 rows_10 x_10 overs_10_1 costs_10 ways_10 digits_10 beaten_10 walks_10)) [0, 1, 2, 3, 4, 5, 6, 7, 8, 9, 10, 11, 12, 13, 14, 15] rfl
  have hD : va_D A (wX10 q10 cI cJ cB st_10 kept_10 undoable_10 newest_10 tape_10 taped_10 marks_10 order_10 reach_10 heapOf_10 rows_10 x_10 overs_10_1 costs_10 ways_10 digits_10 beaten_10 walks_10) := hD.sub (ws' := (wX10 q10 cI cJ cB st_10 kept_10 undoable_10 newest_10 tape_10 taped_10 marks_10 order_10 reach_10 heapOf_10 rows_10 x_10 overs_10_1 costs_10 ways_10 digits_10 beaten_10 walks_10)) [0, 1, 2, 3, 4, 5, 6, 7, 8, 9, 10, 11, 12, 13, 14, 15] (by decide) rfl
  refine lv_iconst (v := nI 1) hx hb dX10_fill_4 (by decide) ?_
  refine lv_aload_n hx hb dX10_fill_5 rfl (lv_at hl 0 rfl) ?_
  have hs_6 : kSplit (wX10 q10 cI cJ cB st_10 kept_10 undoable_10 newest_10 tape_10 taped_10 marks_10 order_10 reach_10 heapOf_10 rows_10 x_10 overs_10_1 costs_10 ways_10 digits_10 beaten_10 walks_10) (wX10 q10 cI cJ cB st_10 kept_10 undoable_10 newest_10 tape_10 taped_10 marks_10 order_10 reach_10 heapOf_10 rows_10 x_10 overs_10_1 costs_10 ways_10 digits_10 beaten_10 walks_10) ([] : va_W) [0, 1, 2, 3, 4, 5, 6, 7, 8, 9, 10, 11, 12, 13, 14, 15] [] := ⟨rfl, rfl, rfl, rfl, rfl, by decide⟩
  refine kc_i hP hD hS hA hs_6 (kV (As := []) (rest := [.int (nI 1)]) hx hb hml hown hts hKW hP hD hs_6 (c_X10_n l D cI cJ cB q10 st_10 kept_10 undoable_10 newest_10 tape_10 taped_10 marks_10 order_10 reach_10 heapOf_10 rows_10 x_10 overs_10_1 costs_10 ways_10 digits_10 beaten_10 walks_10 n ml nx ks rr (by first | assumption | omega) (by first | assumption | omega)) (cwV 0 hts gX10_fill_X10_n rfl rfl rfl (by decide +kernel) ⟨Nat.le_of_ble_eq_true rfl, Nat.le_of_ble_eq_true rfl⟩) 0 10 rfl rfl rfl rfl hl.1 rfl (Nat.le_of_ble_eq_true rfl) dX10_fill_6 ⟨Nat.zero_le _, Nat.zero_le _⟩) (fun r_6 u_6 H locs hw_6 hP hD hS => ?_)
  have er_6 := hw_6
  have er_6 := er_6.symm
  subst er_6
  have hP : va_P D vwCl (wX10 q10 cI cJ cB st_10 kept_10 undoable_10 newest_10 tape_10 taped_10 marks_10 order_10 reach_10 heapOf_10 rows_10 x_10 overs_10_1 costs_10 ways_10 digits_10 beaten_10 walks_10) H := hP.sub (ws' := (wX10 q10 cI cJ cB st_10 kept_10 undoable_10 newest_10 tape_10 taped_10 marks_10 order_10 reach_10 heapOf_10 rows_10 x_10 overs_10_1 costs_10 ways_10 digits_10 beaten_10 walks_10)) [0, 1, 2, 3, 4, 5, 6, 7, 8, 9, 10, 11, 12, 13, 14, 15] rfl
  have hD : va_D A (wX10 q10 cI cJ cB st_10 kept_10 undoable_10 newest_10 tape_10 taped_10 marks_10 order_10 reach_10 heapOf_10 rows_10 x_10 overs_10_1 costs_10 ways_10 digits_10 beaten_10 walks_10) := hD.sub (ws' := (wX10 q10 cI cJ cB st_10 kept_10 undoable_10 newest_10 tape_10 taped_10 marks_10 order_10 reach_10 heapOf_10 rows_10 x_10 overs_10_1 costs_10 ways_10 digits_10 beaten_10 walks_10)) [0, 1, 2, 3, 4, 5, 6, 7, 8, 9, 10, 11, 12, 13, 14, 15] (by decide) rfl
  refine lv_ishl hx hb dX10_fill_9 ?_
  refine k_top (y := nI (2 ^ n)) (k_shl1 (by omega)) ?_
  refine lv_iconst (v := nI 1) hx hb dX10_fill_10 (by decide) ?_
  refine k_isub hx hb (by omega) dX10_fill_11 ?_
  refine lv_istore_n (lv' := [(1, .int (nI ((2 ^ n) - 1))), (0, .ref (q10 0))]) hx hb dX10_fill_12 rfl hl (by decide) rfl (fun ls hl => ?_)
  refine lv_aload_n hx hb dX10_fill_13 rfl (lv_at hl 1 rfl) ?_
  refine k_get (ci := 10) (v := .ref (q10 11)) (C := RX10) (Tb := TX10) (N := 18) hx hb hts hu_10 hown hKW hP 0 rfl rfl 13 (by decide) hf_41 rfl rfl dX10_fill_14 ?_
  refine lv_iload_n hx hb dX10_fill_17 rfl (lv_at hl 0 rfl) ?_
  refine lv_iconst (v := nI 0) hx hb dX10_fill_18 (by decide) ?_
  refine k_iast (n := 1024) (i := (2 ^ n) - 1) (x := nI 0) (w' := (wX10 q10 cI cJ cB st_10 kept_10 undoable_10 newest_10 tape_10 taped_10 marks_10 order_10 reach_10 heapOf_10 rows_10 x_10 overs_10_1 (upd costs_10 ((2 ^ n) - 1) (nI 0)) ways_10 digits_10 beaten_10 walks_10)) hx hb hKW hP hD hS 11 0 rfl rfl (by omega) (by omega) dX10_fill_19 rfl (fun H locs hP hD hS => ?_)
  refine lv_aload_n hx hb dX10_fill_20 rfl (lv_at hl 1 rfl) ?_
  refine k_get (ci := 10) (v := .ref (q10 12)) (C := RX10) (Tb := TX10) (N := 18) hx hb hts hu_10 hown hKW hP 0 rfl rfl 14 (by decide) hf_44 rfl rfl dX10_fill_21 ?_
  refine lv_iload_n hx hb dX10_fill_24 rfl (lv_at hl 0 rfl) ?_
  refine lv_iconst (v := nI 1) hx hb dX10_fill_25 (by decide) ?_
  refine k_iast (n := 1024) (i := (2 ^ n) - 1) (x := nI 1) (w' := (wX10 q10 cI cJ cB st_10 kept_10 undoable_10 newest_10 tape_10 taped_10 marks_10 order_10 reach_10 heapOf_10 rows_10 x_10 overs_10_1 (upd costs_10 ((2 ^ n) - 1) (nI 0)) (upd ways_10 ((2 ^ n) - 1) (nI 1)) digits_10 beaten_10 walks_10)) hx hb hKW hP hD hS 12 0 rfl rfl (by omega) (by omega) dX10_fill_26 rfl (fun H locs hP hD hS => ?_)
  refine lv_iload_n hx hb dX10_fill_27 rfl (lv_at hl 0 rfl) ?_
  refine lv_iconst (v := nI 1) hx hb dX10_fill_28 (by decide) ?_
  refine lv_isub hx hb dX10_fill_29 ?_
  refine k_top (y := nI (2 ^ n - 1) - nI 1) (rfl) ?_
  refine lv_istore_n (lv' := [(2, .int (nI (2 ^ n - 1) - nI 1)), (1, .int (nI ((2 ^ n) - 1))), (0, .ref (q10 0))]) hx hb dX10_fill_30 rfl hl (by decide) rfl (fun ls hl => ?_)
  have hL_31 : ∀ (fu : Nat) (t : Nat) (cs0 : Nat → Int32) (ws0 : Nat → Int32) (ht : t ≤ 2 ^ n - 1) (hfil : FilOK ml n cs0 ws0 t), t < fu → ∀ (H : Heap) (locs : List Loc), va_P D vwCl (wX10 q10 cI cJ cB st_10 kept_10 undoable_10 newest_10 tape_10 taped_10 marks_10 order_10 reach_10 heapOf_10 rows_10 x_10 overs_10_1 cs0 ws0 digits_10 beaten_10 walks_10) H → va_D A (wX10 q10 cI cJ cB st_10 kept_10 undoable_10 newest_10 tape_10 taped_10 marks_10 order_10 reach_10 heapOf_10 rows_10 x_10 overs_10_1 cs0 ws0 digits_10 beaten_10 walks_10) → va_S A s.heap H locs → ∀ (ls : Array Slot), lv_has ls 5 [(0, .ref (q10 0)), (1, .int (nI ((2 ^ n) - 1))), (2, .int (nI t - nI 1))] → W p l e (headSpec wsX10_fill rmX10_fill).room s m args below meth c H locs 0 0 Q (F0 m 31 ls []) := by
    intro fu
    induction fu with
    | zero => intro t cs0 ws0 ht hfil hfu; exact absurd hfu (Nat.not_lt_zero _)
    | succ fu ih_31 =>
      intro t cs0 ws0 ht hfil hfu H locs hP hD hS ls hl
      refine lv_iload_n hx hb dX10_fill_31 rfl (lv_at hl 2 rfl) ?_
      refine lv_if_lt (tgt := 163) hx hb dX10_fill_32 (by decide) (fun c_32 => ?_) (fun c_32 => ?_)
      · skip
        have c_32 := mq_lt (by omega) (by omega) c_32
        obtain rfl : t = 0 := by omega
        subst hQ; subst hAe
        exact W.vret hx hb hr (fun t ht _ => ⟨⟨(overs_10_1, cs0, ws0), rfl, ⟨hw_1, hfil⟩, by rw [ht]; exact hP, hD⟩, hS.F ht⟩) hS.2.2 dX10_fill_163
      · skip
        have c_32 := mq_lt_n (by omega) (by omega) c_32
        rw [pk_sub (by omega)] at hl
        refine lv_aload_n hx hb dX10_fill_35 rfl (lv_at hl 0 rfl) ?_
        refine k_get (ci := 10) (v := .ref (q10 11)) (C := RX10) (Tb := TX10) (N := 18) hx hb hts hu_10 hown hKW hP 0 rfl rfl 13 (by decide) hf_41 rfl rfl dX10_fill_36 ?_
        refine lv_iload_n hx hb dX10_fill_39 rfl (lv_at hl 2 rfl) ?_
        refine lv_ldc (v := (2147483647 : Int32)) hx hb hown (hts (.constant RX10 152 (2147483647)) (by decide +kernel)) dX10_fill_40 ?_
        refine k_top (y := nI 2147483647) (by decide) ?_
        refine k_iast (n := 1024) (i := t - 1) (x := nI 2147483647) (w' := (wX10 q10 cI cJ cB st_10 kept_10 undoable_10 newest_10 tape_10 taped_10 marks_10 order_10 reach_10 heapOf_10 rows_10 x_10 overs_10_1 (upd cs0 (t - 1) (nI 2147483647)) ws0 digits_10 beaten_10 walks_10)) hx hb hKW hP hD hS 11 0 rfl rfl (by omega) (by omega) dX10_fill_42 rfl (fun H locs hP hD hS => ?_)
        refine lv_aload_n hx hb dX10_fill_43 rfl (lv_at hl 0 rfl) ?_
        refine k_get (ci := 10) (v := .ref (q10 12)) (C := RX10) (Tb := TX10) (N := 18) hx hb hts hu_10 hown hKW hP 0 rfl rfl 14 (by decide) hf_44 rfl rfl dX10_fill_44 ?_
        refine lv_iload_n hx hb dX10_fill_47 rfl (lv_at hl 2 rfl) ?_
        refine lv_iconst (v := nI 0) hx hb dX10_fill_48 (by decide) ?_
        refine k_iast (n := 1024) (i := t - 1) (x := nI 0) (w' := (wX10 q10 cI cJ cB st_10 kept_10 undoable_10 newest_10 tape_10 taped_10 marks_10 order_10 reach_10 heapOf_10 rows_10 x_10 overs_10_1 (upd cs0 (t - 1) (nI 2147483647)) (upd ws0 (t - 1) (nI 0)) digits_10 beaten_10 walks_10)) hx hb hKW hP hD hS 12 0 rfl rfl (by omega) (by omega) dX10_fill_49 rfl (fun H locs hP hD hS => ?_)
        refine lv_iconst (v := nI 0) hx hb dX10_fill_50 (by decide) ?_
        refine lv_istore_n (lv' := [(3, .int (nI 0)), (0, .ref (q10 0)), (1, .int (nI ((2 ^ n) - 1))), (2, .int (nI (t - 1)))]) hx hb dX10_fill_51 rfl hl (by decide) rfl (fun ls hl => ?_)
        have hL_52 : ∀ (fu : Nat) (p1 : Nat) (f : Nat → Int32) (g : Nat → Int32) (hp1 : p1 ≤ n) (hf1 : ∀ i, i ≠ t - 1 → f i = cs0 i ∧ g i = ws0 i) (hv : (f (t - 1), g (t - 1)) = mnS (fun p => !(t - 1).testBit p) (fun p => bhI ml n p (t - 1) + cs0 ((t - 1) ||| 2 ^ p)) (fun p => ws0 ((t - 1) ||| 2 ^ p)) p1), n - p1 < fu → ∀ (H : Heap) (locs : List Loc), va_P D vwCl (wX10 q10 cI cJ cB st_10 kept_10 undoable_10 newest_10 tape_10 taped_10 marks_10 order_10 reach_10 heapOf_10 rows_10 x_10 overs_10_1 f g digits_10 beaten_10 walks_10) H → va_D A (wX10 q10 cI cJ cB st_10 kept_10 undoable_10 newest_10 tape_10 taped_10 marks_10 order_10 reach_10 heapOf_10 rows_10 x_10 overs_10_1 f g digits_10 beaten_10 walks_10) → va_S A s.heap H locs → ∀ (ls : Array Slot), lv_has ls 5 [(0, .ref (q10 0)), (1, .int (nI ((2 ^ n) - 1))), (2, .int (nI (t - 1))), (3, .int (nI p1))] → W p l e (headSpec wsX10_fill rmX10_fill).room s m args below meth c H locs 0 0 Q (F0 m 52 ls []) := by
          intro fu
          induction fu with
          | zero => intro p1 f g hp1 hf1 hv hfu; exact absurd hfu (Nat.not_lt_zero _)
          | succ fu ih_52 =>
            intro p1 f g hp1 hf1 hv hfu H locs hP hD hS ls hl
            refine lv_iload_n hx hb dX10_fill_52 rfl (lv_at hl 3 rfl) ?_
            refine lv_aload_n hx hb dX10_fill_53 rfl (lv_at hl 0 rfl) ?_
            have hs_54 : kSplit (wX10 q10 cI cJ cB st_10 kept_10 undoable_10 newest_10 tape_10 taped_10 marks_10 order_10 reach_10 heapOf_10 rows_10 x_10 overs_10_1 f g digits_10 beaten_10 walks_10) (wX10 q10 cI cJ cB st_10 kept_10 undoable_10 newest_10 tape_10 taped_10 marks_10 order_10 reach_10 heapOf_10 rows_10 x_10 overs_10_1 f g digits_10 beaten_10 walks_10) ([] : va_W) [0, 1, 2, 3, 4, 5, 6, 7, 8, 9, 10, 11, 12, 13, 14, 15] [] := ⟨rfl, rfl, rfl, rfl, rfl, by decide⟩
            refine kc_i hP hD hS hA hs_54 (kV (As := []) (rest := [.int (nI p1)]) hx hb hml hown hts hKW hP hD hs_54 (c_X10_n l D cI cJ cB q10 st_10 kept_10 undoable_10 newest_10 tape_10 taped_10 marks_10 order_10 reach_10 heapOf_10 rows_10 x_10 overs_10_1 f g digits_10 beaten_10 walks_10 n ml nx ks rr (by first | assumption | omega) (by first | assumption | omega)) (cwV 0 hts gX10_fill_X10_n rfl rfl rfl (by decide +kernel) ⟨Nat.le_of_ble_eq_true rfl, Nat.le_of_ble_eq_true rfl⟩) 0 10 rfl rfl rfl rfl hl.1 rfl (Nat.le_of_ble_eq_true rfl) dX10_fill_54 ⟨Nat.zero_le _, Nat.zero_le _⟩) (fun r_54 u_54 H locs hw_54 hP hD hS => ?_)
            have er_54 := hw_54
            have er_54 := er_54.symm
            subst er_54
            have hP : va_P D vwCl (wX10 q10 cI cJ cB st_10 kept_10 undoable_10 newest_10 tape_10 taped_10 marks_10 order_10 reach_10 heapOf_10 rows_10 x_10 overs_10_1 f g digits_10 beaten_10 walks_10) H := hP.sub (ws' := (wX10 q10 cI cJ cB st_10 kept_10 undoable_10 newest_10 tape_10 taped_10 marks_10 order_10 reach_10 heapOf_10 rows_10 x_10 overs_10_1 f g digits_10 beaten_10 walks_10)) [0, 1, 2, 3, 4, 5, 6, 7, 8, 9, 10, 11, 12, 13, 14, 15] rfl
            have hD : va_D A (wX10 q10 cI cJ cB st_10 kept_10 undoable_10 newest_10 tape_10 taped_10 marks_10 order_10 reach_10 heapOf_10 rows_10 x_10 overs_10_1 f g digits_10 beaten_10 walks_10) := hD.sub (ws' := (wX10 q10 cI cJ cB st_10 kept_10 undoable_10 newest_10 tape_10 taped_10 marks_10 order_10 reach_10 heapOf_10 rows_10 x_10 overs_10_1 f g digits_10 beaten_10 walks_10)) [0, 1, 2, 3, 4, 5, 6, 7, 8, 9, 10, 11, 12, 13, 14, 15] (by decide) rfl
            refine lv_icmp_ge (tgt := 157) hx hb dX10_fill_57 (by decide) (fun c_57 => ?_) (fun c_57 => ?_)
            · skip
              have c_57 := k_ge (by omega) (by omega) c_57
              obtain rfl : n = p1 := by omega
              refine lv_iinc (v := nI (t - 1) - nI 1) (lv' := [(2, .int (nI (t - 1) - nI 1)), (0, .ref (q10 0)), (1, .int (nI ((2 ^ n) - 1))), (3, .int (nI n))]) hx hb dX10_fill_157 hl (k := 2) rfl (k_dec _) (by decide) rfl (fun ls hl => ?_)
              refine lv_goto (tgt := 31) hx hb dX10_fill_160 (by decide) ?_
              exact ih_31 _ _ _ (by omega) (FilOK_prev (by omega) (by rw [show t - 1 + 1 = t by omega]; exact hfil) hf1 hv) (by omega) _ _ hP hD hS ls (lv_sub hl [1, 2, 0] rfl)
            · skip
              have c_57 := k_ge_n (by omega) (by omega) c_57
              refine lv_iload_n hx hb dX10_fill_60 rfl (lv_at hl 2 rfl) ?_
              refine lv_iload_n hx hb dX10_fill_61 rfl (lv_at hl 3 rfl) ?_
              refine lv_ishr hx hb dX10_fill_62 ?_
              refine k_top (y := nI ((t - 1) / 2 ^ p1)) (k_shr (by omega) (by omega)) ?_
              refine lv_iconst (v := nI 1) hx hb dX10_fill_63 (by decide) ?_
              refine lv_iand hx hb dX10_fill_64 ?_
              refine k_top (y := nI ((t - 1) / 2 ^ p1 % 2)) (k_and1 _ (k_shr_lt (by omega))) ?_
              refine lv_iconst (v := nI 1) hx hb dX10_fill_65 (by decide) ?_
              refine lv_icmp_ne (tgt := 72) hx hb dX10_fill_66 (by decide) (fun c_66 => ?_) (fun c_66 => ?_)
              · skip
                have c_66 := k_ne (by omega) (by omega) c_66
                have hgt9 := or_gt (s := t - 1) (p := p1) (fun z => c_66 (tb_mod.mp z))
                have hlt9 : ((t - 1) ||| 2 ^ p1) < 1024 := Nat.or_lt_two_pow (n := 10) (by omega) (Nat.lt_of_le_of_lt (pow_lt_1024 (by omega)) (by decide))
                refine lv_aload_n hx hb dX10_fill_72 rfl (lv_at hl 0 rfl) ?_
                refine lv_iload_n hx hb dX10_fill_73 rfl (lv_at hl 3 rfl) ?_
                refine lv_iload_n hx hb dX10_fill_74 rfl (lv_at hl 2 rfl) ?_
                have hs_75 : kSplit (wX10 q10 cI cJ cB st_10 kept_10 undoable_10 newest_10 tape_10 taped_10 marks_10 order_10 reach_10 heapOf_10 rows_10 x_10 overs_10_1 f g digits_10 beaten_10 walks_10) (wX10 q10 cI cJ cB st_10 kept_10 undoable_10 newest_10 tape_10 taped_10 marks_10 order_10 reach_10 heapOf_10 rows_10 x_10 overs_10_1 f g digits_10 beaten_10 walks_10) ([] : va_W) [0, 1, 2, 3, 4, 5, 6, 7, 8, 9, 10, 11, 12, 13, 14, 15] [] := ⟨rfl, rfl, rfl, rfl, rfl, by decide⟩
                refine kc_i hP hD hS hA hs_75 (kV (As := [.int (nI p1), .int (nI (t - 1))]) (rest := []) hx hb hml hown hts hKW hP hD hs_75 (c_X10_behind l D cI cJ cB q10 st_10 kept_10 undoable_10 newest_10 tape_10 taped_10 marks_10 order_10 reach_10 heapOf_10 rows_10 x_10 overs_10_1 f g digits_10 beaten_10 walks_10 n ml nx ks rr p1 (t - 1) (by first | assumption | omega) (by first | assumption | omega) (by first | assumption | omega) (by first | assumption | omega) (by first | assumption | omega)) (cwV 2 hts gX10_fill_X10_behind rfl rfl rfl (by decide +kernel) ⟨Nat.le_of_ble_eq_true rfl, Nat.le_of_ble_eq_true rfl⟩) 0 10 rfl rfl rfl rfl hl.1 rfl (Nat.le_of_ble_eq_true rfl) dX10_fill_75 ⟨Nat.zero_le _, Nat.zero_le _⟩) (fun r_75 u_75 H locs hw_75 hP hD hS => ?_)
                have er_75 := hw_75
                have er_75 := er_75.symm
                subst er_75
                have hP : va_P D vwCl (wX10 q10 cI cJ cB st_10 kept_10 undoable_10 newest_10 tape_10 taped_10 marks_10 order_10 reach_10 heapOf_10 rows_10 x_10 overs_10_1 f g digits_10 beaten_10 walks_10) H := hP.sub (ws' := (wX10 q10 cI cJ cB st_10 kept_10 undoable_10 newest_10 tape_10 taped_10 marks_10 order_10 reach_10 heapOf_10 rows_10 x_10 overs_10_1 f g digits_10 beaten_10 walks_10)) [0, 1, 2, 3, 4, 5, 6, 7, 8, 9, 10, 11, 12, 13, 14, 15] rfl
                have hD : va_D A (wX10 q10 cI cJ cB st_10 kept_10 undoable_10 newest_10 tape_10 taped_10 marks_10 order_10 reach_10 heapOf_10 rows_10 x_10 overs_10_1 f g digits_10 beaten_10 walks_10) := hD.sub (ws' := (wX10 q10 cI cJ cB st_10 kept_10 undoable_10 newest_10 tape_10 taped_10 marks_10 order_10 reach_10 heapOf_10 rows_10 x_10 overs_10_1 f g digits_10 beaten_10 walks_10)) [0, 1, 2, 3, 4, 5, 6, 7, 8, 9, 10, 11, 12, 13, 14, 15] (by decide) rfl
                refine lv_aload_n hx hb dX10_fill_78 rfl (lv_at hl 0 rfl) ?_
                refine k_get (ci := 10) (v := .ref (q10 11)) (C := RX10) (Tb := TX10) (N := 18) hx hb hts hu_10 hown hKW hP 0 rfl rfl 13 (by decide) hf_41 rfl rfl dX10_fill_79 ?_
                refine lv_iload_n hx hb dX10_fill_82 rfl (lv_at hl 2 rfl) ?_
                refine lv_iconst (v := nI 1) hx hb dX10_fill_83 (by decide) ?_
                refine lv_iload_n hx hb dX10_fill_84 rfl (lv_at hl 3 rfl) ?_
                refine lv_ishl hx hb dX10_fill_85 ?_
                refine k_top (y := nI (2 ^ p1)) (k_shl1 (by omega)) ?_
                refine lv_ior hx hb dX10_fill_86 ?_
                refine k_top (y := nI ((t - 1) ||| 2 ^ p1)) (k_or _ _) ?_
                refine k_iald (n := 1024) (i := (t - 1) ||| 2 ^ p1) hx hb hKW hP 11 0 rfl rfl (by omega) (by omega) dX10_fill_87 ?_
                refine k_top (y := cs0 ((t - 1) ||| 2 ^ p1)) ((hf1 _ (by omega)).1) ?_
                refine lv_iadd hx hb dX10_fill_88 ?_
                refine lv_istore (lv' := [(4, .int ((bhI ml n p1 (t - 1)) + (cs0 ((t - 1) ||| 2 ^ p1)))), (0, .ref (q10 0)), (1, .int (nI ((2 ^ n) - 1))), (2, .int (nI (t - 1))), (3, .int (nI p1))]) hx hb dX10_fill_89 hl (by decide) rfl (fun ls hl => ?_)
                have hJ_117 : ∀ (f2 : Nat → Int32) (g2 : Nat → Int32) (hf3 : ∀ i, i ≠ t - 1 → f2 i = cs0 i ∧ g2 i = ws0 i) (hv2 : (f2 (t - 1), g2 (t - 1)) = if (bhI ml n p1 (t - 1) + cs0 ((t - 1) ||| 2 ^ p1)) < f (t - 1) then ((bhI ml n p1 (t - 1) + cs0 ((t - 1) ||| 2 ^ p1)), nI 0) else (f (t - 1), g (t - 1))), ∀ (H : Heap) (locs : List Loc), va_P D vwCl (wX10 q10 cI cJ cB st_10 kept_10 undoable_10 newest_10 tape_10 taped_10 marks_10 order_10 reach_10 heapOf_10 rows_10 x_10 overs_10_1 f2 g2 digits_10 beaten_10 walks_10) H → va_D A (wX10 q10 cI cJ cB st_10 kept_10 undoable_10 newest_10 tape_10 taped_10 marks_10 order_10 reach_10 heapOf_10 rows_10 x_10 overs_10_1 f2 g2 digits_10 beaten_10 walks_10) → va_S A s.heap H locs → ∀ (ls : Array Slot), lv_has ls 5 [(0, .ref (q10 0)), (1, .int (nI ((2 ^ n) - 1))), (2, .int (nI (t - 1))), (3, .int (nI p1)), (4, .int ((bhI ml n p1 (t - 1)) + (cs0 ((t - 1) ||| 2 ^ p1))))] → W p l e (headSpec wsX10_fill rmX10_fill).room s m args below meth c H locs 0 0 Q (F0 m 117 ls []) := by
                  intro f2 g2 hf3 hv2 H locs hP hD hS ls hl
                  refine lv_aload_n hx hb dX10_fill_117 rfl (lv_at hl 0 rfl) ?_
                  refine k_get (ci := 10) (v := .ref (q10 12)) (C := RX10) (Tb := TX10) (N := 18) hx hb hts hu_10 hown hKW hP 0 rfl rfl 14 (by decide) hf_44 rfl rfl dX10_fill_118 ?_
                  refine lv_iload_n hx hb dX10_fill_121 rfl (lv_at hl 2 rfl) ?_
                  refine lv_dup2_11 hx hb dX10_fill_122 rfl rfl ?_
                  refine k_iald (n := 1024) (i := t - 1) hx hb hKW hP 12 0 rfl rfl (by omega) (by omega) dX10_fill_123 ?_
                  refine lv_iload hx hb dX10_fill_124 (lv_at hl 4 rfl) ?_
                  refine lv_aload_n hx hb dX10_fill_126 rfl (lv_at hl 0 rfl) ?_
                  refine k_get (ci := 10) (v := .ref (q10 11)) (C := RX10) (Tb := TX10) (N := 18) hx hb hts hu_10 hown hKW hP 0 rfl rfl 13 (by decide) hf_41 rfl rfl dX10_fill_127 ?_
                  refine lv_iload_n hx hb dX10_fill_130 rfl (lv_at hl 2 rfl) ?_
                  refine k_iald (n := 1024) (i := t - 1) hx hb hKW hP 11 0 rfl rfl (by omega) (by omega) dX10_fill_131 ?_
                  refine lv_icmp_ne (tgt := 148) hx hb dX10_fill_132 (by decide) (fun c_132 => ?_) (fun c_132 => ?_)
                  · skip
                    refine lv_iconst (v := nI 0) hx hb dX10_fill_148 (by decide) ?_
                    refine lv_iadd hx hb dX10_fill_149 ?_
                    refine k_iast (n := 1024) (i := t - 1) (x := (g2 (t - 1)) + (nI 0)) (w' := (wX10 q10 cI cJ cB st_10 kept_10 undoable_10 newest_10 tape_10 taped_10 marks_10 order_10 reach_10 heapOf_10 rows_10 x_10 overs_10_1 f2 (upd g2 (t - 1) ((g2 (t - 1)) + (nI 0))) digits_10 beaten_10 walks_10)) hx hb hKW hP hD hS 12 0 rfl rfl (by omega) (by omega) dX10_fill_150 rfl (fun H locs hP hD hS => ?_)
                    refine lv_iinc (v := nI (p1 + 1)) (lv' := [(3, .int (nI (p1 + 1))), (0, .ref (q10 0)), (1, .int (nI ((2 ^ n) - 1))), (2, .int (nI (t - 1))), (4, .int ((bhI ml n p1 (t - 1)) + (cs0 ((t - 1) ||| 2 ^ p1))))]) hx hb dX10_fill_151 hl (k := 3) rfl (nI_add _ _) (by decide) rfl (fun ls hl => ?_)
                    refine lv_goto (tgt := 52) hx hb dX10_fill_154 (by decide) ?_
                    exact ih_52 _ _ _ (by omega) (fun i hi => ⟨(hf3 i hi).1, by rw [pk_un hi]; exact (hf3 i hi).2⟩) (by rw [pk_us]; show _ = (if _ then _ else _); rw [if_pos (nb_t (fun z => c_66 (tb_mod.mp z))), ← hv]; exact mn_ref hv2 (by rw [if_neg c_132])) (by omega) _ _ hP hD hS ls (lv_sub hl [1, 2, 3, 0] rfl)
                  · skip
                    refine lv_aload_n hx hb dX10_fill_135 rfl (lv_at hl 0 rfl) ?_
                    refine k_get (ci := 10) (v := .ref (q10 12)) (C := RX10) (Tb := TX10) (N := 18) hx hb hts hu_10 hown hKW hP 0 rfl rfl 14 (by decide) hf_44 rfl rfl dX10_fill_136 ?_
                    refine lv_iload_n hx hb dX10_fill_139 rfl (lv_at hl 2 rfl) ?_
                    refine lv_iconst (v := nI 1) hx hb dX10_fill_140 (by decide) ?_
                    refine lv_iload_n hx hb dX10_fill_141 rfl (lv_at hl 3 rfl) ?_
                    refine lv_ishl hx hb dX10_fill_142 ?_
                    refine k_top (y := nI (2 ^ p1)) (k_shl1 (by omega)) ?_
                    refine lv_ior hx hb dX10_fill_143 ?_
                    refine k_top (y := nI ((t - 1) ||| 2 ^ p1)) (k_or _ _) ?_
                    refine k_iald (n := 1024) (i := (t - 1) ||| 2 ^ p1) hx hb hKW hP 12 0 rfl rfl (by omega) (by omega) dX10_fill_144 ?_
                    refine k_top (y := ws0 ((t - 1) ||| 2 ^ p1)) ((hf3 _ (by omega)).2) ?_
                    refine lv_goto (tgt := 149) hx hb dX10_fill_145 (by decide) ?_
                    refine lv_iadd hx hb dX10_fill_149 ?_
                    refine k_iast (n := 1024) (i := t - 1) (x := (g2 (t - 1)) + (ws0 ((t - 1) ||| 2 ^ p1))) (w' := (wX10 q10 cI cJ cB st_10 kept_10 undoable_10 newest_10 tape_10 taped_10 marks_10 order_10 reach_10 heapOf_10 rows_10 x_10 overs_10_1 f2 (upd g2 (t - 1) ((g2 (t - 1)) + (ws0 ((t - 1) ||| 2 ^ p1)))) digits_10 beaten_10 walks_10)) hx hb hKW hP hD hS 12 0 rfl rfl (by omega) (by omega) dX10_fill_150 rfl (fun H locs hP hD hS => ?_)
                    refine lv_iinc (v := nI (p1 + 1)) (lv' := [(3, .int (nI (p1 + 1))), (0, .ref (q10 0)), (1, .int (nI ((2 ^ n) - 1))), (2, .int (nI (t - 1))), (4, .int ((bhI ml n p1 (t - 1)) + (cs0 ((t - 1) ||| 2 ^ p1))))]) hx hb dX10_fill_151 hl (k := 3) rfl (nI_add _ _) (by decide) rfl (fun ls hl => ?_)
                    refine lv_goto (tgt := 52) hx hb dX10_fill_154 (by decide) ?_
                    exact ih_52 _ _ _ (by omega) (fun i hi => ⟨(hf3 i hi).1, by rw [pk_un hi]; exact (hf3 i hi).2⟩) (by rw [pk_us]; show _ = (if _ then _ else _); rw [if_pos (nb_t (fun z => c_66 (tb_mod.mp z))), ← hv]; exact mn_ref hv2 (by rw [if_pos c_132])) (by omega) _ _ hP hD hS ls (lv_sub hl [1, 2, 3, 0] rfl)
                refine lv_iload hx hb dX10_fill_91 (lv_at hl 0 rfl) ?_
                refine lv_aload_n hx hb dX10_fill_93 rfl (lv_at hl 1 rfl) ?_
                refine k_get (ci := 10) (v := .ref (q10 11)) (C := RX10) (Tb := TX10) (N := 18) hx hb hts hu_10 hown hKW hP 0 rfl rfl 13 (by decide) hf_41 rfl rfl dX10_fill_94 ?_
                refine lv_iload_n hx hb dX10_fill_97 rfl (lv_at hl 3 rfl) ?_
                refine k_iald (n := 1024) (i := t - 1) hx hb hKW hP 11 0 rfl rfl (by omega) (by omega) dX10_fill_98 ?_
                refine lv_icmp_ge (tgt := 117) hx hb dX10_fill_99 (by decide) (fun c_99 => ?_) (fun c_99 => ?_)
                · skip
                  exact hJ_117 _ _ hf1 (by rw [if_neg (k_nlt c_99)]) H locs hP hD hS ls (lv_sub hl [1, 2, 3, 4, 0] rfl)
                · skip
                  refine lv_aload_n hx hb dX10_fill_102 rfl (lv_at hl 1 rfl) ?_
                  refine k_get (ci := 10) (v := .ref (q10 11)) (C := RX10) (Tb := TX10) (N := 18) hx hb hts hu_10 hown hKW hP 0 rfl rfl 13 (by decide) hf_41 rfl rfl dX10_fill_103 ?_
                  refine lv_iload_n hx hb dX10_fill_106 rfl (lv_at hl 3 rfl) ?_
                  refine lv_iload hx hb dX10_fill_107 (lv_at hl 0 rfl) ?_
                  refine k_iast (n := 1024) (i := t - 1) (x := (bhI ml n p1 (t - 1)) + (cs0 ((t - 1) ||| 2 ^ p1))) (w' := (wX10 q10 cI cJ cB st_10 kept_10 undoable_10 newest_10 tape_10 taped_10 marks_10 order_10 reach_10 heapOf_10 rows_10 x_10 overs_10_1 (upd f (t - 1) ((bhI ml n p1 (t - 1)) + (cs0 ((t - 1) ||| 2 ^ p1)))) g digits_10 beaten_10 walks_10)) hx hb hKW hP hD hS 11 0 rfl rfl (by omega) (by omega) dX10_fill_109 rfl (fun H locs hP hD hS => ?_)
                  refine lv_aload_n hx hb dX10_fill_110 rfl (lv_at hl 1 rfl) ?_
                  refine k_get (ci := 10) (v := .ref (q10 12)) (C := RX10) (Tb := TX10) (N := 18) hx hb hts hu_10 hown hKW hP 0 rfl rfl 14 (by decide) hf_44 rfl rfl dX10_fill_111 ?_
                  refine lv_iload_n hx hb dX10_fill_114 rfl (lv_at hl 3 rfl) ?_
                  refine lv_iconst (v := nI 0) hx hb dX10_fill_115 (by decide) ?_
                  refine k_iast (n := 1024) (i := t - 1) (x := nI 0) (w' := (wX10 q10 cI cJ cB st_10 kept_10 undoable_10 newest_10 tape_10 taped_10 marks_10 order_10 reach_10 heapOf_10 rows_10 x_10 overs_10_1 (upd f (t - 1) ((bhI ml n p1 (t - 1)) + (cs0 ((t - 1) ||| 2 ^ p1)))) (upd g (t - 1) (nI 0)) digits_10 beaten_10 walks_10)) hx hb hKW hP hD hS 12 0 rfl rfl (by omega) (by omega) dX10_fill_116 rfl (fun H locs hP hD hS => ?_)
                  exact hJ_117 _ _ (fun i hi => ⟨by rw [pk_un hi]; exact (hf1 i hi).1, by rw [pk_un hi]; exact (hf1 i hi).2⟩) (by rw [if_pos (k_nle c_99), pk_us, pk_us]) H locs hP hD hS ls (lv_sub hl [1, 2, 3, 4, 0] rfl)
              · skip
                have c_66 := k_ne_n (by omega) (by omega) c_66
                refine lv_goto (tgt := 151) hx hb dX10_fill_69 (by decide) ?_
                refine lv_iinc (v := nI (p1 + 1)) (lv' := [(3, .int (nI (p1 + 1))), (0, .ref (q10 0)), (1, .int (nI ((2 ^ n) - 1))), (2, .int (nI (t - 1)))]) hx hb dX10_fill_151 hl (k := 3) rfl (nI_add _ _) (by decide) rfl (fun ls hl => ?_)
                refine lv_goto (tgt := 52) hx hb dX10_fill_154 (by decide) ?_
                exact ih_52 _ _ _ (by omega) hf1 (by rw [hv]; show _ = (if _ then _ else _); rw [if_neg (nb_f (tb_mod.mpr c_66))]) (by omega) _ _ hP hD hS ls (lv_sub hl [1, 2, 3, 0] rfl)
        exact hL_52 _ 0 _ _ (Nat.zero_le _) (fun i hi => ⟨by rw [pk_un hi], by rw [pk_un hi]⟩) (by rw [pk_us, pk_us]; rfl) (Nat.lt_succ_self _) _ _ hP hD hS ls (lv_sub hl [1, 2, 3, 0] rfl)
  exact hL_31 _ _ _ _ (Nat.le_refl _) (⟨pk_us, pk_us, fun s9 h1 h2 => absurd h1 (by omega)⟩) (Nat.lt_succ_self _) _ _ hP hD hS ls (lv_sub hl [2, 1, 0] rfl)
def rmX10_best : Room := { frames := 4, cells := 0, slots := 0, locals := 91 }
set_option maxHeartbeats 4000000 in
set_option maxRecDepth 100000 in
theorem c_X10_best (l : Launch) (D : va_G) (cI cJ cB : ClassId) (q10 : Nat → Nat) (st_10 : Nat → Int32) (kept_10 : Nat → Int32) (undoable_10 : Int32) (newest_10 : Int32) (tape_10 : Nat → Int32) (taped_10 : Int32) (marks_10 : Nat → Int32) (order_10 : Nat → Int32) (reach_10 : Nat → Int32) (heapOf_10 : Nat → Int32) (rows_10 : Nat → Int64) (x_10 : Nat → Int64) (overs_10 : Nat → Int32) (costs_10 : Nat → Int32) (ways_10 : Nat → Int32) (digits_10 : Nat → Int32) (beaten_10 : Nat → Int32) (walks_10 : Nat → Int32) (n : Nat) (ml : List Mt) (nx : List (Nat × Nat)) (ks : List Nat) (rr : Int32 × Int32 × Int32) (hR : RS st_10 n ml nx ks rr) (hV : VS n ml nx ks) : ∀ sz, Met l yX10_best wsX10_best rmX10_best (va_Pc [.ref (q10 0)] (PW D (kT cI cJ cB) sz (wX10 q10 cI cJ cB st_10 kept_10 undoable_10 newest_10 tape_10 taped_10 marks_10 order_10 reach_10 heapOf_10 rows_10 x_10 overs_10 costs_10 ways_10 digits_10 beaten_10 walks_10))) (va_Qi (S := (Nat → Int32) × (Nat → Int32) × (Nat → Int32)) (fun r uu => match uu with | (overs_10', costs_10', ways_10') => ∃ cs ws, FilOK ml n cs ws 0 ∧ r = cs 0) (QW D sz (wX10 q10 cI cJ cB st_10 kept_10 undoable_10 newest_10 tape_10 taped_10 marks_10 order_10 reach_10 heapOf_10 rows_10 x_10 overs_10 costs_10 ways_10 digits_10 beaten_10 walks_10) (fun uu => match uu with | (overs_10', costs_10', ways_10') => (wX10 q10 cI cJ cB st_10 kept_10 undoable_10 newest_10 tape_10 taped_10 marks_10 order_10 reach_10 heapOf_10 rows_10 x_10 overs_10' costs_10' ways_10' digits_10 beaten_10 walks_10))) (va_A (wX10 q10 cI cJ cB st_10 kept_10 undoable_10 newest_10 tape_10 taped_10 marks_10 order_10 reach_10 heapOf_10 rows_10 x_10 overs_10 costs_10 ways_10 digits_10 beaten_10 walks_10) sz)) 0 0 (va_A (wX10 q10 cI cJ cB st_10 kept_10 undoable_10 newest_10 tape_10 taped_10 marks_10 order_10 reach_10 heapOf_10 rows_10 x_10 overs_10 costs_10 ways_10 digits_10 beaten_10 walks_10) sz) := by
  intro sz
  refine Met.ofW (cc := cX10_best) (maxL := 1) (ret := (some .int)) (by decide) rfl ?_
  intro p e s m args below meth c s₁ B hml hv
  obtain ⟨hav, hsz, hP, hKW, hD0⟩ := hv
  have hx := B.exec
  have hb := B.bytes
  have hr := B.returns
  have hts := atoms_spec (ws := wsX10_best) B.pre
  have hown : s.vm.findClass RX10 = some m.cls := findClass_of_methodNamed B.named
  have hlocks := B.notSynchronized
  subst hsz
  have hD := hD0.self (sz := s.heap.size)
  obtain ⟨A, hAe⟩ : ∃ A : Nat → Prop, A = va_A (wX10 q10 cI cJ cB st_10 kept_10 undoable_10 newest_10 tape_10 taped_10 marks_10 order_10 reach_10 heapOf_10 rows_10 x_10 overs_10 costs_10 ways_10 digits_10 beaten_10 walks_10) s.heap.size := ⟨_, rfl⟩
  rw [← hAe] at hD
  have hA : ∀ q : Nat, s.heap.size ≤ q → A q := fun q h => by rw [hAe]; exact Or.inr h
  have hS : va_S A s.heap s.heap [] := va_S.rf
  refine k_gen (fun Q hQ => ?_)
  have hl := lv_entry ([.ref (q10 0)]) (n := 1) (Nat.le_of_ble_eq_true rfl)
  refine k_entry hav (lg_entry_eq ..) ?_
  generalize (lg_sl ([.ref (q10 0)]) ++ List.replicate (1 - (lg_sl ([.ref (q10 0)])).length) Slot.unset).toArray = ls at hl ⊢
  have hl : lv_has ls 1 [(0, .ref (q10 0))] := hl
  have hu_10 : ∀ w ∈ u_ws RX10 TX10 18, w ∈ wsX10_best := by decide +kernel
  have hf_41 : Cond.fieldLink RX10 41 "MeetingRanksModel" "costs" "[I" ∈ wsX10_best := by decide +kernel
  have hn1 := hV.1
  have hn10 := hV.2.1
  have hm120 := hV.2.2.1
  have hx40 := hV.2.2.2.2.1
  have hk4 := hV.2.2.2.2.2.2.1
  have h2n := pow_le_1024 hn10
  have h2p := Nat.two_pow_pos n
  refine lv_aload_n hx hb dX10_best_0 rfl (lv_at hl 0 rfl) ?_
  have hs_1 : kSplit (wX10 q10 cI cJ cB st_10 kept_10 undoable_10 newest_10 tape_10 taped_10 marks_10 order_10 reach_10 heapOf_10 rows_10 x_10 overs_10 costs_10 ways_10 digits_10 beaten_10 walks_10) (wX10 q10 cI cJ cB st_10 kept_10 undoable_10 newest_10 tape_10 taped_10 marks_10 order_10 reach_10 heapOf_10 rows_10 x_10 overs_10 costs_10 ways_10 digits_10 beaten_10 walks_10) ([] : va_W) [0, 1, 2, 3, 4, 5, 6, 7, 8, 9, 10, 11, 12, 13, 14, 15] [] := ⟨rfl, rfl, rfl, rfl, rfl, by decide⟩
  refine kc_v hP hD hS hA hs_1 (kV (As := []) (rest := []) hx hb hml hown hts hKW hP hD hs_1 (c_X10_fill l D cI cJ cB q10 st_10 kept_10 undoable_10 newest_10 tape_10 taped_10 marks_10 order_10 reach_10 heapOf_10 rows_10 x_10 overs_10 costs_10 ways_10 digits_10 beaten_10 walks_10 n ml nx ks rr (by first | assumption | omega) (by first | assumption | omega)) (cwV 0 hts gX10_best_X10_fill rfl rfl rfl (by decide +kernel) ⟨Nat.le_of_ble_eq_true rfl, Nat.le_of_ble_eq_true rfl⟩) 0 10 rfl rfl rfl rfl hl.1 rfl (Nat.le_of_ble_eq_true rfl) dX10_best_1 ⟨Nat.zero_le _, Nat.zero_le _⟩) (fun u_1 H locs hw_1 hP hD hS => ?_)
  obtain ⟨overs_10_1, costs_10_1, ways_10_1⟩ := u_1
  have hP : va_P D vwCl (wX10 q10 cI cJ cB st_10 kept_10 undoable_10 newest_10 tape_10 taped_10 marks_10 order_10 reach_10 heapOf_10 rows_10 x_10 overs_10_1 costs_10_1 ways_10_1 digits_10 beaten_10 walks_10) H := hP.sub (ws' := (wX10 q10 cI cJ cB st_10 kept_10 undoable_10 newest_10 tape_10 taped_10 marks_10 order_10 reach_10 heapOf_10 rows_10 x_10 overs_10_1 costs_10_1 ways_10_1 digits_10 beaten_10 walks_10)) [0, 1, 2, 3, 4, 5, 6, 7, 8, 9, 10, 11, 12, 13, 14, 15] rfl
  have hD : va_D A (wX10 q10 cI cJ cB st_10 kept_10 undoable_10 newest_10 tape_10 taped_10 marks_10 order_10 reach_10 heapOf_10 rows_10 x_10 overs_10_1 costs_10_1 ways_10_1 digits_10 beaten_10 walks_10) := hD.sub (ws' := (wX10 q10 cI cJ cB st_10 kept_10 undoable_10 newest_10 tape_10 taped_10 marks_10 order_10 reach_10 heapOf_10 rows_10 x_10 overs_10_1 costs_10_1 ways_10_1 digits_10 beaten_10 walks_10)) [0, 1, 2, 3, 4, 5, 6, 7, 8, 9, 10, 11, 12, 13, 14, 15] (by decide) rfl
  refine lv_aload_n hx hb dX10_best_4 rfl (lv_at hl 0 rfl) ?_
  refine k_get (ci := 10) (v := .ref (q10 11)) (C := RX10) (Tb := TX10) (N := 18) hx hb hts hu_10 hown hKW hP 0 rfl rfl 13 (by decide) hf_41 rfl rfl dX10_best_5 ?_
  refine lv_iconst (v := nI 0) hx hb dX10_best_8 (by decide) ?_
  refine k_iald (n := 1024) (i := 0) hx hb hKW hP 11 0 rfl rfl (by omega) (by omega) dX10_best_9 ?_
  subst hQ; subst hAe
  exact W.iret (v := costs_10_1 0) hx hb hr (fun t ht _ => ⟨⟨costs_10_1 0, (overs_10_1, costs_10_1, ways_10_1), rfl, ⟨_, _, hw_1.2, rfl⟩, by rw [ht]; exact hP, hD⟩, hS.F ht⟩) hS.2.2 dX10_best_10
def rmX10_rows : Room := { frames := 4, cells := 0, slots := 0, locals := 91 }
set_option maxHeartbeats 4000000 in
set_option maxRecDepth 100000 in
theorem c_X10_rows (l : Launch) (D : va_G) (cI cJ cB : ClassId) (q10 : Nat → Nat) (st_10 : Nat → Int32) (kept_10 : Nat → Int32) (undoable_10 : Int32) (newest_10 : Int32) (tape_10 : Nat → Int32) (taped_10 : Int32) (marks_10 : Nat → Int32) (order_10 : Nat → Int32) (reach_10 : Nat → Int32) (heapOf_10 : Nat → Int32) (rows_10 : Nat → Int64) (x_10 : Nat → Int64) (overs_10 : Nat → Int32) (costs_10 : Nat → Int32) (ways_10 : Nat → Int32) (digits_10 : Nat → Int32) (beaten_10 : Nat → Int32) (walks_10 : Nat → Int32) (n : Nat) (ml : List Mt) (nx : List (Nat × Nat)) (ks : List Nat) (rr : Int32 × Int32 × Int32) (hR : RS st_10 n ml nx ks rr) (hV : VS n ml nx ks) : ∀ sz, Met l yX10_rows wsX10_rows rmX10_rows (va_Pc [.ref (q10 0)] (PW D (kT cI cJ cB) sz (wX10 q10 cI cJ cB st_10 kept_10 undoable_10 newest_10 tape_10 taped_10 marks_10 order_10 reach_10 heapOf_10 rows_10 x_10 overs_10 costs_10 ways_10 digits_10 beaten_10 walks_10))) (va_Qi (S := (Nat → Int32) × (Nat → Int32) × (Nat → Int32)) (fun r uu => match uu with | (overs_10', costs_10', ways_10') => ∃ cs ws, FilOK ml n cs ws 0 ∧ r = ws 0) (QW D sz (wX10 q10 cI cJ cB st_10 kept_10 undoable_10 newest_10 tape_10 taped_10 marks_10 order_10 reach_10 heapOf_10 rows_10 x_10 overs_10 costs_10 ways_10 digits_10 beaten_10 walks_10) (fun uu => match uu with | (overs_10', costs_10', ways_10') => (wX10 q10 cI cJ cB st_10 kept_10 undoable_10 newest_10 tape_10 taped_10 marks_10 order_10 reach_10 heapOf_10 rows_10 x_10 overs_10' costs_10' ways_10' digits_10 beaten_10 walks_10))) (va_A (wX10 q10 cI cJ cB st_10 kept_10 undoable_10 newest_10 tape_10 taped_10 marks_10 order_10 reach_10 heapOf_10 rows_10 x_10 overs_10 costs_10 ways_10 digits_10 beaten_10 walks_10) sz)) 0 0 (va_A (wX10 q10 cI cJ cB st_10 kept_10 undoable_10 newest_10 tape_10 taped_10 marks_10 order_10 reach_10 heapOf_10 rows_10 x_10 overs_10 costs_10 ways_10 digits_10 beaten_10 walks_10) sz) := by
  intro sz
  refine Met.ofW (cc := cX10_rows) (maxL := 1) (ret := (some .int)) (by decide) rfl ?_
  intro p e s m args below meth c s₁ B hml hv
  obtain ⟨hav, hsz, hP, hKW, hD0⟩ := hv
  have hx := B.exec
  have hb := B.bytes
  have hr := B.returns
  have hts := atoms_spec (ws := wsX10_rows) B.pre
  have hown : s.vm.findClass RX10 = some m.cls := findClass_of_methodNamed B.named
  have hlocks := B.notSynchronized
  subst hsz
  have hD := hD0.self (sz := s.heap.size)
  obtain ⟨A, hAe⟩ : ∃ A : Nat → Prop, A = va_A (wX10 q10 cI cJ cB st_10 kept_10 undoable_10 newest_10 tape_10 taped_10 marks_10 order_10 reach_10 heapOf_10 rows_10 x_10 overs_10 costs_10 ways_10 digits_10 beaten_10 walks_10) s.heap.size := ⟨_, rfl⟩
  rw [← hAe] at hD
  have hA : ∀ q : Nat, s.heap.size ≤ q → A q := fun q h => by rw [hAe]; exact Or.inr h
  have hS : va_S A s.heap s.heap [] := va_S.rf
  refine k_gen (fun Q hQ => ?_)
  have hl := lv_entry ([.ref (q10 0)]) (n := 1) (Nat.le_of_ble_eq_true rfl)
  refine k_entry hav (lg_entry_eq ..) ?_
  generalize (lg_sl ([.ref (q10 0)]) ++ List.replicate (1 - (lg_sl ([.ref (q10 0)])).length) Slot.unset).toArray = ls at hl ⊢
  have hl : lv_has ls 1 [(0, .ref (q10 0))] := hl
  have hu_10 : ∀ w ∈ u_ws RX10 TX10 18, w ∈ wsX10_rows := by decide +kernel
  have hf_44 : Cond.fieldLink RX10 44 "MeetingRanksModel" "ways" "[I" ∈ wsX10_rows := by decide +kernel
  have hn1 := hV.1
  have hn10 := hV.2.1
  have hm120 := hV.2.2.1
  have hx40 := hV.2.2.2.2.1
  have hk4 := hV.2.2.2.2.2.2.1
  have h2n := pow_le_1024 hn10
  have h2p := Nat.two_pow_pos n
  refine lv_aload_n hx hb dX10_rows_0 rfl (lv_at hl 0 rfl) ?_
  have hs_1 : kSplit (wX10 q10 cI cJ cB st_10 kept_10 undoable_10 newest_10 tape_10 taped_10 marks_10 order_10 reach_10 heapOf_10 rows_10 x_10 overs_10 costs_10 ways_10 digits_10 beaten_10 walks_10) (wX10 q10 cI cJ cB st_10 kept_10 undoable_10 newest_10 tape_10 taped_10 marks_10 order_10 reach_10 heapOf_10 rows_10 x_10 overs_10 costs_10 ways_10 digits_10 beaten_10 walks_10) ([] : va_W) [0, 1, 2, 3, 4, 5, 6, 7, 8, 9, 10, 11, 12, 13, 14, 15] [] := ⟨rfl, rfl, rfl, rfl, rfl, by decide⟩
  refine kc_v hP hD hS hA hs_1 (kV (As := []) (rest := []) hx hb hml hown hts hKW hP hD hs_1 (c_X10_fill l D cI cJ cB q10 st_10 kept_10 undoable_10 newest_10 tape_10 taped_10 marks_10 order_10 reach_10 heapOf_10 rows_10 x_10 overs_10 costs_10 ways_10 digits_10 beaten_10 walks_10 n ml nx ks rr (by first | assumption | omega) (by first | assumption | omega)) (cwV 0 hts gX10_rows_X10_fill rfl rfl rfl (by decide +kernel) ⟨Nat.le_of_ble_eq_true rfl, Nat.le_of_ble_eq_true rfl⟩) 0 10 rfl rfl rfl rfl hl.1 rfl (Nat.le_of_ble_eq_true rfl) dX10_rows_1 ⟨Nat.zero_le _, Nat.zero_le _⟩) (fun u_1 H locs hw_1 hP hD hS => ?_)
  obtain ⟨overs_10_1, costs_10_1, ways_10_1⟩ := u_1
  have hP : va_P D vwCl (wX10 q10 cI cJ cB st_10 kept_10 undoable_10 newest_10 tape_10 taped_10 marks_10 order_10 reach_10 heapOf_10 rows_10 x_10 overs_10_1 costs_10_1 ways_10_1 digits_10 beaten_10 walks_10) H := hP.sub (ws' := (wX10 q10 cI cJ cB st_10 kept_10 undoable_10 newest_10 tape_10 taped_10 marks_10 order_10 reach_10 heapOf_10 rows_10 x_10 overs_10_1 costs_10_1 ways_10_1 digits_10 beaten_10 walks_10)) [0, 1, 2, 3, 4, 5, 6, 7, 8, 9, 10, 11, 12, 13, 14, 15] rfl
  have hD : va_D A (wX10 q10 cI cJ cB st_10 kept_10 undoable_10 newest_10 tape_10 taped_10 marks_10 order_10 reach_10 heapOf_10 rows_10 x_10 overs_10_1 costs_10_1 ways_10_1 digits_10 beaten_10 walks_10) := hD.sub (ws' := (wX10 q10 cI cJ cB st_10 kept_10 undoable_10 newest_10 tape_10 taped_10 marks_10 order_10 reach_10 heapOf_10 rows_10 x_10 overs_10_1 costs_10_1 ways_10_1 digits_10 beaten_10 walks_10)) [0, 1, 2, 3, 4, 5, 6, 7, 8, 9, 10, 11, 12, 13, 14, 15] (by decide) rfl
  refine lv_aload_n hx hb dX10_rows_4 rfl (lv_at hl 0 rfl) ?_
  refine k_get (ci := 10) (v := .ref (q10 12)) (C := RX10) (Tb := TX10) (N := 18) hx hb hts hu_10 hown hKW hP 0 rfl rfl 14 (by decide) hf_44 rfl rfl dX10_rows_5 ?_
  refine lv_iconst (v := nI 0) hx hb dX10_rows_8 (by decide) ?_
  refine k_iald (n := 1024) (i := 0) hx hb hKW hP 12 0 rfl rfl (by omega) (by omega) dX10_rows_9 ?_
  subst hQ; subst hAe
  exact W.iret (v := ways_10_1 0) hx hb hr (fun t ht _ => ⟨⟨ways_10_1 0, (overs_10_1, costs_10_1, ways_10_1), rfl, ⟨_, _, hw_1.2, rfl⟩, by rw [ht]; exact hP, hD⟩, hS.F ht⟩) hS.2.2 dX10_rows_10
def rmX10_has : Room := { frames := 1, cells := 0, slots := 0, locals := 21 }
set_option maxHeartbeats 4000000 in
set_option maxRecDepth 100000 in
theorem c_X10_has (l : Launch) (D : va_G) (cI cJ cB : ClassId) (q10 : Nat → Nat) (st_10 : Nat → Int32) (kept_10 : Nat → Int32) (undoable_10 : Int32) (newest_10 : Int32) (tape_10 : Nat → Int32) (taped_10 : Int32) (marks_10 : Nat → Int32) (order_10 : Nat → Int32) (reach_10 : Nat → Int32) (heapOf_10 : Nat → Int32) (rows_10 : Nat → Int64) (x_10 : Nat → Int64) (overs_10 : Nat → Int32) (costs_10 : Nat → Int32) (ways_10 : Nat → Int32) (digits_10 : Nat → Int32) (beaten_10 : Nat → Int32) (walks_10 : Nat → Int32) (n : Nat) (ml : List Mt) (nx : List (Nat × Nat)) (ks : List Nat) (rr : Int32 × Int32 × Int32) (p1 : Nat) (hR : RS st_10 n ml nx ks rr) (hV : VS n ml nx ks) (hp1 : p1 < 10) : ∀ sz, Met l yX10_has wsX10_has rmX10_has (va_Pc [.ref (q10 0), .int (nI p1)] (PW D (kT cI cJ cB) sz (wX10 q10 cI cJ cB st_10 kept_10 undoable_10 newest_10 tape_10 taped_10 marks_10 order_10 reach_10 heapOf_10 rows_10 x_10 overs_10 costs_10 ways_10 digits_10 beaten_10 walks_10))) (va_Qi (S := Unit) (fun r _ => r = lsI (hsX p1) ml) (QW D sz (wX10 q10 cI cJ cB st_10 kept_10 undoable_10 newest_10 tape_10 taped_10 marks_10 order_10 reach_10 heapOf_10 rows_10 x_10 overs_10 costs_10 ways_10 digits_10 beaten_10 walks_10) (fun _ => (wX10 q10 cI cJ cB st_10 kept_10 undoable_10 newest_10 tape_10 taped_10 marks_10 order_10 reach_10 heapOf_10 rows_10 x_10 overs_10 costs_10 ways_10 digits_10 beaten_10 walks_10))) (va_A (wX10 q10 cI cJ cB st_10 kept_10 undoable_10 newest_10 tape_10 taped_10 marks_10 order_10 reach_10 heapOf_10 rows_10 x_10 overs_10 costs_10 ways_10 digits_10 beaten_10 walks_10) sz)) 0 0 (va_A (wX10 q10 cI cJ cB st_10 kept_10 undoable_10 newest_10 tape_10 taped_10 marks_10 order_10 reach_10 heapOf_10 rows_10 x_10 overs_10 costs_10 ways_10 digits_10 beaten_10 walks_10) sz) := by
  intro sz
  refine Met.ofW (cc := cX10_has) (maxL := 4) (ret := (some .int)) (by decide) rfl ?_
  intro p e s m args below meth c s₁ B hml hv
  obtain ⟨hav, hsz, hP, hKW, hD0⟩ := hv
  have hx := B.exec
  have hb := B.bytes
  have hr := B.returns
  have hts := atoms_spec (ws := wsX10_has) B.pre
  have hown : s.vm.findClass RX10 = some m.cls := findClass_of_methodNamed B.named
  have hlocks := B.notSynchronized
  subst hsz
  have hD := hD0.self (sz := s.heap.size)
  obtain ⟨A, hAe⟩ : ∃ A : Nat → Prop, A = va_A (wX10 q10 cI cJ cB st_10 kept_10 undoable_10 newest_10 tape_10 taped_10 marks_10 order_10 reach_10 heapOf_10 rows_10 x_10 overs_10 costs_10 ways_10 digits_10 beaten_10 walks_10) s.heap.size := ⟨_, rfl⟩
  rw [← hAe] at hD
  have hA : ∀ q : Nat, s.heap.size ≤ q → A q := fun q h => by rw [hAe]; exact Or.inr h
  have hS : va_S A s.heap s.heap [] := va_S.rf
  refine k_gen (fun Q hQ => ?_)
  have hl := lv_entry ([.ref (q10 0), .int (nI p1)]) (n := 4) (Nat.le_of_ble_eq_true rfl)
  refine k_entry hav (lg_entry_eq ..) ?_
  generalize (lg_sl ([.ref (q10 0), .int (nI p1)]) ++ List.replicate (4 - (lg_sl ([.ref (q10 0), .int (nI p1)])).length) Slot.unset).toArray = ls at hl ⊢
  have hl : lv_has ls 4 [(0, .ref (q10 0)), (1, .int (nI p1))] := hl
  have hu_10 : ∀ w ∈ u_ws RX10 TX10 18, w ∈ wsX10_has := by decide +kernel
  have hf_7 : Cond.fieldLink RX10 7 "MeetingRanksModel" "st" "[I" ∈ wsX10_has := by decide +kernel
  have hn1 := hV.1
  have hn10 := hV.2.1
  have hm120 := hV.2.2.1
  have hx40 := hV.2.2.2.2.1
  have hk4 := hV.2.2.2.2.2.2.1
  refine lv_iconst (v := nI 0) hx hb dX10_has_0 (by decide) ?_
  refine lv_istore_n (lv' := [(2, .int (nI 0)), (0, .ref (q10 0)), (1, .int (nI p1))]) hx hb dX10_has_1 rfl hl (by decide) rfl (fun ls hl => ?_)
  refine lv_iconst (v := nI 0) hx hb dX10_has_2 (by decide) ?_
  refine lv_istore_n (lv' := [(3, .int (nI 0)), (2, .int (nI 0)), (0, .ref (q10 0)), (1, .int (nI p1))]) hx hb dX10_has_3 rfl hl (by decide) rfl (fun ls hl => ?_)
  have hL_4 : ∀ (fu : Nat) (k : Nat) (v : Int32) (hk : k ≤ ml.length) (hv : v = lsI (hsX p1) (ml.take k)), ml.length - k < fu → ∀ (H : Heap) (locs : List Loc), va_P D vwCl (wX10 q10 cI cJ cB st_10 kept_10 undoable_10 newest_10 tape_10 taped_10 marks_10 order_10 reach_10 heapOf_10 rows_10 x_10 overs_10 costs_10 ways_10 digits_10 beaten_10 walks_10) H → va_D A (wX10 q10 cI cJ cB st_10 kept_10 undoable_10 newest_10 tape_10 taped_10 marks_10 order_10 reach_10 heapOf_10 rows_10 x_10 overs_10 costs_10 ways_10 digits_10 beaten_10 walks_10) → va_S A s.heap H locs → ∀ (ls : Array Slot), lv_has ls 4 [(0, .ref (q10 0)), (1, .int (nI p1)), (2, .int v), (3, .int (nI k))] → W p l e (headSpec wsX10_has rmX10_has).room s m args below meth c H locs 0 0 Q (F0 m 4 ls []) := by
    intro fu
    induction fu with
    | zero => intro k v hk hv hfu; exact absurd hfu (Nat.not_lt_zero _)
    | succ fu ih_4 =>
      intro k v hk hv hfu H locs hP hD hS ls hl
      refine lv_iload_n hx hb dX10_has_4 rfl (lv_at hl 3 rfl) ?_
      refine lv_aload_n hx hb dX10_has_5 rfl (lv_at hl 0 rfl) ?_
      refine k_get (ci := 10) (v := .ref (q10 1)) (C := RX10) (Tb := TX10) (N := 18) hx hb hts hu_10 hown hKW hP 0 rfl rfl 0 (by decide) hf_7 rfl rfl dX10_has_6 ?_
      refine lv_iconst (v := nI 1) hx hb dX10_has_9 (by decide) ?_
      refine k_iald (n := 600) (i := 1) hx hb hKW hP 1 0 rfl rfl (by omega) (by omega) dX10_has_10 ?_
      refine k_top (y := nI ml.length) (hR.2.1) ?_
      refine lv_icmp_ge (tgt := 94) hx hb dX10_has_11 (by decide) (fun c_11 => ?_) (fun c_11 => ?_)
      · skip
        have c_11 := k_ge (by omega) (by omega) c_11
        obtain rfl : k = ml.length := by omega
        refine lv_iload_n hx hb dX10_has_94 rfl (lv_at hl 2 rfl) ?_
        subst hQ; subst hAe
        exact W.iret (v := v) hx hb hr (fun t ht _ => ⟨⟨v, (), rfl, by rw [hv, List.take_length], by rw [ht]; exact hP, hD⟩, hS.F ht⟩) hS.2.2 dX10_has_95
      · skip
        have c_11 := k_ge_n (by omega) (by omega) c_11
        obtain ⟨hx1, hx2, hx3, hx4, hx5⟩ := hV.m c_11
        have hJ_51 : ∀ (v1 : Int32) (hv1 : v1 = v + (if (mg ml k).1 = p1 then (if (mg ml k).2.2.2 < (mg ml k).2.2.1 then nI 2 else if (mg ml k).2.2.1 = (mg ml k).2.2.2 then nI 1 else nI 0) else 0)), ∀ (H : Heap) (locs : List Loc), va_P D vwCl (wX10 q10 cI cJ cB st_10 kept_10 undoable_10 newest_10 tape_10 taped_10 marks_10 order_10 reach_10 heapOf_10 rows_10 x_10 overs_10 costs_10 ways_10 digits_10 beaten_10 walks_10) H → va_D A (wX10 q10 cI cJ cB st_10 kept_10 undoable_10 newest_10 tape_10 taped_10 marks_10 order_10 reach_10 heapOf_10 rows_10 x_10 overs_10 costs_10 ways_10 digits_10 beaten_10 walks_10) → va_S A s.heap H locs → ∀ (ls : Array Slot), lv_has ls 4 [(0, .ref (q10 0)), (1, .int (nI p1)), (2, .int v1), (3, .int (nI k))] → W p l e (headSpec wsX10_has rmX10_has).room s m args below meth c H locs 0 0 Q (F0 m 51 ls []) := by
          intro v1 hv1 H locs hP hD hS ls hl
          have hJ_88 : ∀ (v2 : Int32) (hv2 : v2 = v1 + (if (mg ml k).2.1 = p1 then (if (mg ml k).2.2.1 < (mg ml k).2.2.2 then nI 2 else if (mg ml k).2.2.1 = (mg ml k).2.2.2 then nI 1 else nI 0) else 0)), ∀ (H : Heap) (locs : List Loc), va_P D vwCl (wX10 q10 cI cJ cB st_10 kept_10 undoable_10 newest_10 tape_10 taped_10 marks_10 order_10 reach_10 heapOf_10 rows_10 x_10 overs_10 costs_10 ways_10 digits_10 beaten_10 walks_10) H → va_D A (wX10 q10 cI cJ cB st_10 kept_10 undoable_10 newest_10 tape_10 taped_10 marks_10 order_10 reach_10 heapOf_10 rows_10 x_10 overs_10 costs_10 ways_10 digits_10 beaten_10 walks_10) → va_S A s.heap H locs → ∀ (ls : Array Slot), lv_has ls 4 [(0, .ref (q10 0)), (1, .int (nI p1)), (2, .int v2), (3, .int (nI k))] → W p l e (headSpec wsX10_has rmX10_has).room s m args below meth c H locs 0 0 Q (F0 m 88 ls []) := by
            intro v2 hv2 H locs hP hD hS ls hl
            refine lv_iinc (v := nI (k + 1)) (lv' := [(3, .int (nI (k + 1))), (0, .ref (q10 0)), (1, .int (nI p1)), (2, .int v2)]) hx hb dX10_has_88 hl (k := 3) rfl (nI_add _ _) (by decide) rfl (fun ls hl => ?_)
            refine lv_goto (tgt := 4) hx hb dX10_has_91 (by decide) ?_
            exact ih_4 _ _ (by omega) (by rw [lsI_take _ c_11, ← hv, hv2, hv1]; unfold hsX; rw [Int32.add_assoc]) (by omega) _ _ hP hD hS ls (lv_sub hl [1, 2, 3, 0] rfl)
          refine lv_aload_n hx hb dX10_has_51 rfl (lv_at hl 0 rfl) ?_
          refine lv_iload_n hx hb dX10_has_52 rfl (lv_at hl 3 rfl) ?_
          have hs_53 : kSplit (wX10 q10 cI cJ cB st_10 kept_10 undoable_10 newest_10 tape_10 taped_10 marks_10 order_10 reach_10 heapOf_10 rows_10 x_10 overs_10 costs_10 ways_10 digits_10 beaten_10 walks_10) (wX10 q10 cI cJ cB st_10 kept_10 undoable_10 newest_10 tape_10 taped_10 marks_10 order_10 reach_10 heapOf_10 rows_10 x_10 overs_10 costs_10 ways_10 digits_10 beaten_10 walks_10) ([] : va_W) [0, 1, 2, 3, 4, 5, 6, 7, 8, 9, 10, 11, 12, 13, 14, 15] [] := ⟨rfl, rfl, rfl, rfl, rfl, by decide⟩
          refine kc_i hP hD hS hA hs_53 (kV (As := [.int (nI k)]) (rest := []) hx hb hml hown hts hKW hP hD hs_53 (c_X10_two l D cI cJ cB q10 st_10 kept_10 undoable_10 newest_10 tape_10 taped_10 marks_10 order_10 reach_10 heapOf_10 rows_10 x_10 overs_10 costs_10 ways_10 digits_10 beaten_10 walks_10 n ml nx ks rr k (by first | assumption | omega) (by first | assumption | omega) (by first | assumption | omega)) (cwV 1 hts gX10_has_X10_two rfl rfl rfl (by decide +kernel) ⟨Nat.le_of_ble_eq_true rfl, Nat.le_of_ble_eq_true rfl⟩) 0 10 rfl rfl rfl rfl hl.1 rfl (Nat.le_of_ble_eq_true rfl) dX10_has_53 ⟨Nat.zero_le _, Nat.zero_le _⟩) (fun r_53 u_53 H locs hw_53 hP hD hS => ?_)
          have er_53 := hw_53
          have er_53 := er_53.symm
          subst er_53
          have hP : va_P D vwCl (wX10 q10 cI cJ cB st_10 kept_10 undoable_10 newest_10 tape_10 taped_10 marks_10 order_10 reach_10 heapOf_10 rows_10 x_10 overs_10 costs_10 ways_10 digits_10 beaten_10 walks_10) H := hP.sub (ws' := (wX10 q10 cI cJ cB st_10 kept_10 undoable_10 newest_10 tape_10 taped_10 marks_10 order_10 reach_10 heapOf_10 rows_10 x_10 overs_10 costs_10 ways_10 digits_10 beaten_10 walks_10)) [0, 1, 2, 3, 4, 5, 6, 7, 8, 9, 10, 11, 12, 13, 14, 15] rfl
          have hD : va_D A (wX10 q10 cI cJ cB st_10 kept_10 undoable_10 newest_10 tape_10 taped_10 marks_10 order_10 reach_10 heapOf_10 rows_10 x_10 overs_10 costs_10 ways_10 digits_10 beaten_10 walks_10) := hD.sub (ws' := (wX10 q10 cI cJ cB st_10 kept_10 undoable_10 newest_10 tape_10 taped_10 marks_10 order_10 reach_10 heapOf_10 rows_10 x_10 overs_10 costs_10 ways_10 digits_10 beaten_10 walks_10)) [0, 1, 2, 3, 4, 5, 6, 7, 8, 9, 10, 11, 12, 13, 14, 15] (by decide) rfl
          refine lv_iload_n hx hb dX10_has_56 rfl (lv_at hl 1 rfl) ?_
          refine lv_icmp_ne (tgt := 88) hx hb dX10_has_57 (by decide) (fun c_57 => ?_) (fun c_57 => ?_)
          · skip
            have c_57 := k_ne (by omega) (by omega) c_57
            exact hJ_88 _ (by rw [if_neg c_57, Int32.add_zero]) H locs hP hD hS ls (lv_sub hl [0, 1, 2, 3] rfl)
          · skip
            have c_57 := k_ne_n (by omega) (by omega) c_57
            refine lv_iload_n hx hb dX10_has_60 rfl (lv_at hl 2 rfl) ?_
            refine lv_aload_n hx hb dX10_has_61 rfl (lv_at hl 0 rfl) ?_
            refine lv_iload_n hx hb dX10_has_62 rfl (lv_at hl 3 rfl) ?_
            have hs_63 : kSplit (wX10 q10 cI cJ cB st_10 kept_10 undoable_10 newest_10 tape_10 taped_10 marks_10 order_10 reach_10 heapOf_10 rows_10 x_10 overs_10 costs_10 ways_10 digits_10 beaten_10 walks_10) (wX10 q10 cI cJ cB st_10 kept_10 undoable_10 newest_10 tape_10 taped_10 marks_10 order_10 reach_10 heapOf_10 rows_10 x_10 overs_10 costs_10 ways_10 digits_10 beaten_10 walks_10) ([] : va_W) [0, 1, 2, 3, 4, 5, 6, 7, 8, 9, 10, 11, 12, 13, 14, 15] [] := ⟨rfl, rfl, rfl, rfl, rfl, by decide⟩
            refine kc_i hP hD hS hA hs_63 (kV (As := [.int (nI k)]) (rest := [.int v1]) hx hb hml hown hts hKW hP hD hs_63 (c_X10_more l D cI cJ cB q10 st_10 kept_10 undoable_10 newest_10 tape_10 taped_10 marks_10 order_10 reach_10 heapOf_10 rows_10 x_10 overs_10 costs_10 ways_10 digits_10 beaten_10 walks_10 n ml nx ks rr k (by first | assumption | omega) (by first | assumption | omega) (by first | assumption | omega)) (cwV 1 hts gX10_has_X10_more rfl rfl rfl (by decide +kernel) ⟨Nat.le_of_ble_eq_true rfl, Nat.le_of_ble_eq_true rfl⟩) 0 10 rfl rfl rfl rfl hl.1 rfl (Nat.le_of_ble_eq_true rfl) dX10_has_63 ⟨Nat.zero_le _, Nat.zero_le _⟩) (fun r_63 u_63 H locs hw_63 hP hD hS => ?_)
            have er_63 := hw_63
            have er_63 := er_63.symm
            subst er_63
            have hP : va_P D vwCl (wX10 q10 cI cJ cB st_10 kept_10 undoable_10 newest_10 tape_10 taped_10 marks_10 order_10 reach_10 heapOf_10 rows_10 x_10 overs_10 costs_10 ways_10 digits_10 beaten_10 walks_10) H := hP.sub (ws' := (wX10 q10 cI cJ cB st_10 kept_10 undoable_10 newest_10 tape_10 taped_10 marks_10 order_10 reach_10 heapOf_10 rows_10 x_10 overs_10 costs_10 ways_10 digits_10 beaten_10 walks_10)) [0, 1, 2, 3, 4, 5, 6, 7, 8, 9, 10, 11, 12, 13, 14, 15] rfl
            have hD : va_D A (wX10 q10 cI cJ cB st_10 kept_10 undoable_10 newest_10 tape_10 taped_10 marks_10 order_10 reach_10 heapOf_10 rows_10 x_10 overs_10 costs_10 ways_10 digits_10 beaten_10 walks_10) := hD.sub (ws' := (wX10 q10 cI cJ cB st_10 kept_10 undoable_10 newest_10 tape_10 taped_10 marks_10 order_10 reach_10 heapOf_10 rows_10 x_10 overs_10 costs_10 ways_10 digits_10 beaten_10 walks_10)) [0, 1, 2, 3, 4, 5, 6, 7, 8, 9, 10, 11, 12, 13, 14, 15] (by decide) rfl
            refine lv_if_ge (tgt := 73) hx hb dX10_has_66 (by decide) (fun c_66 => ?_) (fun c_66 => ?_)
            · skip
              have c_66 := mo_ge (by omega) (by omega) c_66
              refine lv_aload_n hx hb dX10_has_73 rfl (lv_at hl 0 rfl) ?_
              refine lv_iload_n hx hb dX10_has_74 rfl (lv_at hl 3 rfl) ?_
              have hs_75 : kSplit (wX10 q10 cI cJ cB st_10 kept_10 undoable_10 newest_10 tape_10 taped_10 marks_10 order_10 reach_10 heapOf_10 rows_10 x_10 overs_10 costs_10 ways_10 digits_10 beaten_10 walks_10) (wX10 q10 cI cJ cB st_10 kept_10 undoable_10 newest_10 tape_10 taped_10 marks_10 order_10 reach_10 heapOf_10 rows_10 x_10 overs_10 costs_10 ways_10 digits_10 beaten_10 walks_10) ([] : va_W) [0, 1, 2, 3, 4, 5, 6, 7, 8, 9, 10, 11, 12, 13, 14, 15] [] := ⟨rfl, rfl, rfl, rfl, rfl, by decide⟩
              refine kc_i hP hD hS hA hs_75 (kV (As := [.int (nI k)]) (rest := [.int v1]) hx hb hml hown hts hKW hP hD hs_75 (c_X10_more l D cI cJ cB q10 st_10 kept_10 undoable_10 newest_10 tape_10 taped_10 marks_10 order_10 reach_10 heapOf_10 rows_10 x_10 overs_10 costs_10 ways_10 digits_10 beaten_10 walks_10 n ml nx ks rr k (by first | assumption | omega) (by first | assumption | omega) (by first | assumption | omega)) (cwV 1 hts gX10_has_X10_more rfl rfl rfl (by decide +kernel) ⟨Nat.le_of_ble_eq_true rfl, Nat.le_of_ble_eq_true rfl⟩) 0 10 rfl rfl rfl rfl hl.1 rfl (Nat.le_of_ble_eq_true rfl) dX10_has_75 ⟨Nat.zero_le _, Nat.zero_le _⟩) (fun r_75 u_75 H locs hw_75 hP hD hS => ?_)
              have er_75 := hw_75
              have er_75 := er_75.symm
              subst er_75
              have hP : va_P D vwCl (wX10 q10 cI cJ cB st_10 kept_10 undoable_10 newest_10 tape_10 taped_10 marks_10 order_10 reach_10 heapOf_10 rows_10 x_10 overs_10 costs_10 ways_10 digits_10 beaten_10 walks_10) H := hP.sub (ws' := (wX10 q10 cI cJ cB st_10 kept_10 undoable_10 newest_10 tape_10 taped_10 marks_10 order_10 reach_10 heapOf_10 rows_10 x_10 overs_10 costs_10 ways_10 digits_10 beaten_10 walks_10)) [0, 1, 2, 3, 4, 5, 6, 7, 8, 9, 10, 11, 12, 13, 14, 15] rfl
              have hD : va_D A (wX10 q10 cI cJ cB st_10 kept_10 undoable_10 newest_10 tape_10 taped_10 marks_10 order_10 reach_10 heapOf_10 rows_10 x_10 overs_10 costs_10 ways_10 digits_10 beaten_10 walks_10) := hD.sub (ws' := (wX10 q10 cI cJ cB st_10 kept_10 undoable_10 newest_10 tape_10 taped_10 marks_10 order_10 reach_10 heapOf_10 rows_10 x_10 overs_10 costs_10 ways_10 digits_10 beaten_10 walks_10)) [0, 1, 2, 3, 4, 5, 6, 7, 8, 9, 10, 11, 12, 13, 14, 15] (by decide) rfl
              refine lv_if_ne (tgt := 85) hx hb dX10_has_78 (by decide) (fun c_78 => ?_) (fun c_78 => ?_)
              · skip
                have c_78 := mo_ne (by omega) (by omega) c_78
                refine lv_iconst (v := nI 0) hx hb dX10_has_85 (by decide) ?_
                refine lv_iadd hx hb dX10_has_86 ?_
                refine lv_istore_n (lv' := [(2, .int (v1 + (nI 0))), (0, .ref (q10 0)), (1, .int (nI p1)), (3, .int (nI k))]) hx hb dX10_has_87 rfl hl (by decide) rfl (fun ls hl => ?_)
                exact hJ_88 _ (by rw [if_pos c_57, if_neg (by omega), if_neg c_78]) H locs hP hD hS ls (lv_sub hl [1, 2, 0, 3] rfl)
              · skip
                have c_78 := mo_ne_n (by omega) (by omega) c_78
                refine lv_iconst (v := nI 1) hx hb dX10_has_81 (by decide) ?_
                refine lv_goto (tgt := 86) hx hb dX10_has_82 (by decide) ?_
                refine lv_iadd hx hb dX10_has_86 ?_
                refine lv_istore_n (lv' := [(2, .int (v1 + (nI 1))), (0, .ref (q10 0)), (1, .int (nI p1)), (3, .int (nI k))]) hx hb dX10_has_87 rfl hl (by decide) rfl (fun ls hl => ?_)
                exact hJ_88 _ (by rw [if_pos c_57, if_neg (by omega), if_pos c_78]) H locs hP hD hS ls (lv_sub hl [1, 2, 0, 3] rfl)
            · skip
              have c_66 := mo_ge_n (by omega) (by omega) c_66
              refine lv_iconst (v := nI 2) hx hb dX10_has_69 (by decide) ?_
              refine lv_goto (tgt := 86) hx hb dX10_has_70 (by decide) ?_
              refine lv_iadd hx hb dX10_has_86 ?_
              refine lv_istore_n (lv' := [(2, .int (v1 + (nI 2))), (0, .ref (q10 0)), (1, .int (nI p1)), (3, .int (nI k))]) hx hb dX10_has_87 rfl hl (by decide) rfl (fun ls hl => ?_)
              exact hJ_88 _ (by rw [if_pos c_57, if_pos c_66]) H locs hP hD hS ls (lv_sub hl [1, 2, 0, 3] rfl)
        refine lv_aload_n hx hb dX10_has_14 rfl (lv_at hl 0 rfl) ?_
        refine lv_iload_n hx hb dX10_has_15 rfl (lv_at hl 3 rfl) ?_
        have hs_16 : kSplit (wX10 q10 cI cJ cB st_10 kept_10 undoable_10 newest_10 tape_10 taped_10 marks_10 order_10 reach_10 heapOf_10 rows_10 x_10 overs_10 costs_10 ways_10 digits_10 beaten_10 walks_10) (wX10 q10 cI cJ cB st_10 kept_10 undoable_10 newest_10 tape_10 taped_10 marks_10 order_10 reach_10 heapOf_10 rows_10 x_10 overs_10 costs_10 ways_10 digits_10 beaten_10 walks_10) ([] : va_W) [0, 1, 2, 3, 4, 5, 6, 7, 8, 9, 10, 11, 12, 13, 14, 15] [] := ⟨rfl, rfl, rfl, rfl, rfl, by decide⟩
        refine kc_i hP hD hS hA hs_16 (kV (As := [.int (nI k)]) (rest := []) hx hb hml hown hts hKW hP hD hs_16 (c_X10_one l D cI cJ cB q10 st_10 kept_10 undoable_10 newest_10 tape_10 taped_10 marks_10 order_10 reach_10 heapOf_10 rows_10 x_10 overs_10 costs_10 ways_10 digits_10 beaten_10 walks_10 n ml nx ks rr k (by first | assumption | omega) (by first | assumption | omega) (by first | assumption | omega)) (cwV 1 hts gX10_has_X10_one rfl rfl rfl (by decide +kernel) ⟨Nat.le_of_ble_eq_true rfl, Nat.le_of_ble_eq_true rfl⟩) 0 10 rfl rfl rfl rfl hl.1 rfl (Nat.le_of_ble_eq_true rfl) dX10_has_16 ⟨Nat.zero_le _, Nat.zero_le _⟩) (fun r_16 u_16 H locs hw_16 hP hD hS => ?_)
        have er_16 := hw_16
        have er_16 := er_16.symm
        subst er_16
        have hP : va_P D vwCl (wX10 q10 cI cJ cB st_10 kept_10 undoable_10 newest_10 tape_10 taped_10 marks_10 order_10 reach_10 heapOf_10 rows_10 x_10 overs_10 costs_10 ways_10 digits_10 beaten_10 walks_10) H := hP.sub (ws' := (wX10 q10 cI cJ cB st_10 kept_10 undoable_10 newest_10 tape_10 taped_10 marks_10 order_10 reach_10 heapOf_10 rows_10 x_10 overs_10 costs_10 ways_10 digits_10 beaten_10 walks_10)) [0, 1, 2, 3, 4, 5, 6, 7, 8, 9, 10, 11, 12, 13, 14, 15] rfl
        have hD : va_D A (wX10 q10 cI cJ cB st_10 kept_10 undoable_10 newest_10 tape_10 taped_10 marks_10 order_10 reach_10 heapOf_10 rows_10 x_10 overs_10 costs_10 ways_10 digits_10 beaten_10 walks_10) := hD.sub (ws' := (wX10 q10 cI cJ cB st_10 kept_10 undoable_10 newest_10 tape_10 taped_10 marks_10 order_10 reach_10 heapOf_10 rows_10 x_10 overs_10 costs_10 ways_10 digits_10 beaten_10 walks_10)) [0, 1, 2, 3, 4, 5, 6, 7, 8, 9, 10, 11, 12, 13, 14, 15] (by decide) rfl
        refine lv_iload_n hx hb dX10_has_19 rfl (lv_at hl 1 rfl) ?_
        refine lv_icmp_ne (tgt := 51) hx hb dX10_has_20 (by decide) (fun c_20 => ?_) (fun c_20 => ?_)
        · skip
          have c_20 := k_ne (by omega) (by omega) c_20
          exact hJ_51 _ (by rw [if_neg c_20, Int32.add_zero]) H locs hP hD hS ls (lv_sub hl [0, 1, 2, 3] rfl)
        · skip
          have c_20 := k_ne_n (by omega) (by omega) c_20
          refine lv_iload_n hx hb dX10_has_23 rfl (lv_at hl 2 rfl) ?_
          refine lv_aload_n hx hb dX10_has_24 rfl (lv_at hl 0 rfl) ?_
          refine lv_iload_n hx hb dX10_has_25 rfl (lv_at hl 3 rfl) ?_
          have hs_26 : kSplit (wX10 q10 cI cJ cB st_10 kept_10 undoable_10 newest_10 tape_10 taped_10 marks_10 order_10 reach_10 heapOf_10 rows_10 x_10 overs_10 costs_10 ways_10 digits_10 beaten_10 walks_10) (wX10 q10 cI cJ cB st_10 kept_10 undoable_10 newest_10 tape_10 taped_10 marks_10 order_10 reach_10 heapOf_10 rows_10 x_10 overs_10 costs_10 ways_10 digits_10 beaten_10 walks_10) ([] : va_W) [0, 1, 2, 3, 4, 5, 6, 7, 8, 9, 10, 11, 12, 13, 14, 15] [] := ⟨rfl, rfl, rfl, rfl, rfl, by decide⟩
          refine kc_i hP hD hS hA hs_26 (kV (As := [.int (nI k)]) (rest := [.int v]) hx hb hml hown hts hKW hP hD hs_26 (c_X10_more l D cI cJ cB q10 st_10 kept_10 undoable_10 newest_10 tape_10 taped_10 marks_10 order_10 reach_10 heapOf_10 rows_10 x_10 overs_10 costs_10 ways_10 digits_10 beaten_10 walks_10 n ml nx ks rr k (by first | assumption | omega) (by first | assumption | omega) (by first | assumption | omega)) (cwV 1 hts gX10_has_X10_more rfl rfl rfl (by decide +kernel) ⟨Nat.le_of_ble_eq_true rfl, Nat.le_of_ble_eq_true rfl⟩) 0 10 rfl rfl rfl rfl hl.1 rfl (Nat.le_of_ble_eq_true rfl) dX10_has_26 ⟨Nat.zero_le _, Nat.zero_le _⟩) (fun r_26 u_26 H locs hw_26 hP hD hS => ?_)
          have er_26 := hw_26
          have er_26 := er_26.symm
          subst er_26
          have hP : va_P D vwCl (wX10 q10 cI cJ cB st_10 kept_10 undoable_10 newest_10 tape_10 taped_10 marks_10 order_10 reach_10 heapOf_10 rows_10 x_10 overs_10 costs_10 ways_10 digits_10 beaten_10 walks_10) H := hP.sub (ws' := (wX10 q10 cI cJ cB st_10 kept_10 undoable_10 newest_10 tape_10 taped_10 marks_10 order_10 reach_10 heapOf_10 rows_10 x_10 overs_10 costs_10 ways_10 digits_10 beaten_10 walks_10)) [0, 1, 2, 3, 4, 5, 6, 7, 8, 9, 10, 11, 12, 13, 14, 15] rfl
          have hD : va_D A (wX10 q10 cI cJ cB st_10 kept_10 undoable_10 newest_10 tape_10 taped_10 marks_10 order_10 reach_10 heapOf_10 rows_10 x_10 overs_10 costs_10 ways_10 digits_10 beaten_10 walks_10) := hD.sub (ws' := (wX10 q10 cI cJ cB st_10 kept_10 undoable_10 newest_10 tape_10 taped_10 marks_10 order_10 reach_10 heapOf_10 rows_10 x_10 overs_10 costs_10 ways_10 digits_10 beaten_10 walks_10)) [0, 1, 2, 3, 4, 5, 6, 7, 8, 9, 10, 11, 12, 13, 14, 15] (by decide) rfl
          refine lv_if_le (tgt := 36) hx hb dX10_has_29 (by decide) (fun c_29 => ?_) (fun c_29 => ?_)
          · skip
            have c_29 := mo_le (by omega) (by omega) c_29
            refine lv_aload_n hx hb dX10_has_36 rfl (lv_at hl 0 rfl) ?_
            refine lv_iload_n hx hb dX10_has_37 rfl (lv_at hl 3 rfl) ?_
            have hs_38 : kSplit (wX10 q10 cI cJ cB st_10 kept_10 undoable_10 newest_10 tape_10 taped_10 marks_10 order_10 reach_10 heapOf_10 rows_10 x_10 overs_10 costs_10 ways_10 digits_10 beaten_10 walks_10) (wX10 q10 cI cJ cB st_10 kept_10 undoable_10 newest_10 tape_10 taped_10 marks_10 order_10 reach_10 heapOf_10 rows_10 x_10 overs_10 costs_10 ways_10 digits_10 beaten_10 walks_10) ([] : va_W) [0, 1, 2, 3, 4, 5, 6, 7, 8, 9, 10, 11, 12, 13, 14, 15] [] := ⟨rfl, rfl, rfl, rfl, rfl, by decide⟩
            refine kc_i hP hD hS hA hs_38 (kV (As := [.int (nI k)]) (rest := [.int v]) hx hb hml hown hts hKW hP hD hs_38 (c_X10_more l D cI cJ cB q10 st_10 kept_10 undoable_10 newest_10 tape_10 taped_10 marks_10 order_10 reach_10 heapOf_10 rows_10 x_10 overs_10 costs_10 ways_10 digits_10 beaten_10 walks_10 n ml nx ks rr k (by first | assumption | omega) (by first | assumption | omega) (by first | assumption | omega)) (cwV 1 hts gX10_has_X10_more rfl rfl rfl (by decide +kernel) ⟨Nat.le_of_ble_eq_true rfl, Nat.le_of_ble_eq_true rfl⟩) 0 10 rfl rfl rfl rfl hl.1 rfl (Nat.le_of_ble_eq_true rfl) dX10_has_38 ⟨Nat.zero_le _, Nat.zero_le _⟩) (fun r_38 u_38 H locs hw_38 hP hD hS => ?_)
            have er_38 := hw_38
            have er_38 := er_38.symm
            subst er_38
            have hP : va_P D vwCl (wX10 q10 cI cJ cB st_10 kept_10 undoable_10 newest_10 tape_10 taped_10 marks_10 order_10 reach_10 heapOf_10 rows_10 x_10 overs_10 costs_10 ways_10 digits_10 beaten_10 walks_10) H := hP.sub (ws' := (wX10 q10 cI cJ cB st_10 kept_10 undoable_10 newest_10 tape_10 taped_10 marks_10 order_10 reach_10 heapOf_10 rows_10 x_10 overs_10 costs_10 ways_10 digits_10 beaten_10 walks_10)) [0, 1, 2, 3, 4, 5, 6, 7, 8, 9, 10, 11, 12, 13, 14, 15] rfl
            have hD : va_D A (wX10 q10 cI cJ cB st_10 kept_10 undoable_10 newest_10 tape_10 taped_10 marks_10 order_10 reach_10 heapOf_10 rows_10 x_10 overs_10 costs_10 ways_10 digits_10 beaten_10 walks_10) := hD.sub (ws' := (wX10 q10 cI cJ cB st_10 kept_10 undoable_10 newest_10 tape_10 taped_10 marks_10 order_10 reach_10 heapOf_10 rows_10 x_10 overs_10 costs_10 ways_10 digits_10 beaten_10 walks_10)) [0, 1, 2, 3, 4, 5, 6, 7, 8, 9, 10, 11, 12, 13, 14, 15] (by decide) rfl
            refine lv_if_ne (tgt := 48) hx hb dX10_has_41 (by decide) (fun c_41 => ?_) (fun c_41 => ?_)
            · skip
              have c_41 := mo_ne (by omega) (by omega) c_41
              refine lv_iconst (v := nI 0) hx hb dX10_has_48 (by decide) ?_
              refine lv_iadd hx hb dX10_has_49 ?_
              refine lv_istore_n (lv' := [(2, .int (v + (nI 0))), (0, .ref (q10 0)), (1, .int (nI p1)), (3, .int (nI k))]) hx hb dX10_has_50 rfl hl (by decide) rfl (fun ls hl => ?_)
              exact hJ_51 _ (by rw [if_pos c_20, if_neg (by omega), if_neg c_41]) H locs hP hD hS ls (lv_sub hl [1, 2, 0, 3] rfl)
            · skip
              have c_41 := mo_ne_n (by omega) (by omega) c_41
              refine lv_iconst (v := nI 1) hx hb dX10_has_44 (by decide) ?_
              refine lv_goto (tgt := 49) hx hb dX10_has_45 (by decide) ?_
              refine lv_iadd hx hb dX10_has_49 ?_
              refine lv_istore_n (lv' := [(2, .int (v + (nI 1))), (0, .ref (q10 0)), (1, .int (nI p1)), (3, .int (nI k))]) hx hb dX10_has_50 rfl hl (by decide) rfl (fun ls hl => ?_)
              exact hJ_51 _ (by rw [if_pos c_20, if_neg (by omega), if_pos c_41]) H locs hP hD hS ls (lv_sub hl [1, 2, 0, 3] rfl)
          · skip
            have c_29 := mo_le_n (by omega) (by omega) c_29
            refine lv_iconst (v := nI 2) hx hb dX10_has_32 (by decide) ?_
            refine lv_goto (tgt := 49) hx hb dX10_has_33 (by decide) ?_
            refine lv_iadd hx hb dX10_has_49 ?_
            refine lv_istore_n (lv' := [(2, .int (v + (nI 2))), (0, .ref (q10 0)), (1, .int (nI p1)), (3, .int (nI k))]) hx hb dX10_has_50 rfl hl (by decide) rfl (fun ls hl => ?_)
            exact hJ_51 _ (by rw [if_pos c_20, if_pos c_29]) H locs hP hD hS ls (lv_sub hl [1, 2, 0, 3] rfl)
  exact hL_4 _ 0 0 (Nat.zero_le _) rfl (Nat.lt_succ_self _) _ _ hP hD hS ls (lv_sub hl [2, 3, 1, 0] rfl)
def rmX10_why : Room := { frames := 2, cells := 0, slots := 0, locals := 44 }
set_option maxHeartbeats 4000000 in
set_option maxRecDepth 100000 in
theorem c_X10_why (l : Launch) (D : va_G) (cI cJ cB : ClassId) (q10 : Nat → Nat) (st_10 : Nat → Int32) (kept_10 : Nat → Int32) (undoable_10 : Int32) (newest_10 : Int32) (tape_10 : Nat → Int32) (taped_10 : Int32) (marks_10 : Nat → Int32) (order_10 : Nat → Int32) (reach_10 : Nat → Int32) (heapOf_10 : Nat → Int32) (rows_10 : Nat → Int64) (x_10 : Nat → Int64) (overs_10 : Nat → Int32) (costs_10 : Nat → Int32) (ways_10 : Nat → Int32) (digits_10 : Nat → Int32) (beaten_10 : Nat → Int32) (walks_10 : Nat → Int32) (n : Nat) (ml : List Mt) (nx : List (Nat × Nat)) (ks : List Nat) (rr : Int32 × Int32 × Int32) (x : Int32) (hR : RS st_10 n ml nx ks rr) (hV : VS n ml nx ks) : ∀ sz, Met l yX10_why wsX10_why rmX10_why (va_Pc [.ref (q10 0), .int x] (PW D (kT cI cJ cB) sz (wX10 q10 cI cJ cB st_10 kept_10 undoable_10 newest_10 tape_10 taped_10 marks_10 order_10 reach_10 heapOf_10 rows_10 x_10 overs_10 costs_10 ways_10 digits_10 beaten_10 walks_10))) (va_Qi (S := Unit) (fun r _ => r = if kIn x n then nI (whyF ml nx n x.toInt.toNat) else -1) (QW D sz (wX10 q10 cI cJ cB st_10 kept_10 undoable_10 newest_10 tape_10 taped_10 marks_10 order_10 reach_10 heapOf_10 rows_10 x_10 overs_10 costs_10 ways_10 digits_10 beaten_10 walks_10) (fun _ => (wX10 q10 cI cJ cB st_10 kept_10 undoable_10 newest_10 tape_10 taped_10 marks_10 order_10 reach_10 heapOf_10 rows_10 x_10 overs_10 costs_10 ways_10 digits_10 beaten_10 walks_10))) (va_A (wX10 q10 cI cJ cB st_10 kept_10 undoable_10 newest_10 tape_10 taped_10 marks_10 order_10 reach_10 heapOf_10 rows_10 x_10 overs_10 costs_10 ways_10 digits_10 beaten_10 walks_10) sz)) 0 0 (va_A (wX10 q10 cI cJ cB st_10 kept_10 undoable_10 newest_10 tape_10 taped_10 marks_10 order_10 reach_10 heapOf_10 rows_10 x_10 overs_10 costs_10 ways_10 digits_10 beaten_10 walks_10) sz) := by
  intro sz
  refine Met.ofW (cc := cX10_why) (maxL := 6) (ret := (some .int)) (by decide) rfl ?_
  intro p e s m args below meth c s₁ B hml hv
  obtain ⟨hav, hsz, hP, hKW, hD0⟩ := hv
  have hx := B.exec
  have hb := B.bytes
  have hr := B.returns
  have hts := atoms_spec (ws := wsX10_why) B.pre
  have hown : s.vm.findClass RX10 = some m.cls := findClass_of_methodNamed B.named
  have hlocks := B.notSynchronized
  subst hsz
  have hD := hD0.self (sz := s.heap.size)
  obtain ⟨A, hAe⟩ : ∃ A : Nat → Prop, A = va_A (wX10 q10 cI cJ cB st_10 kept_10 undoable_10 newest_10 tape_10 taped_10 marks_10 order_10 reach_10 heapOf_10 rows_10 x_10 overs_10 costs_10 ways_10 digits_10 beaten_10 walks_10) s.heap.size := ⟨_, rfl⟩
  rw [← hAe] at hD
  have hA : ∀ q : Nat, s.heap.size ≤ q → A q := fun q h => by rw [hAe]; exact Or.inr h
  have hS : va_S A s.heap s.heap [] := va_S.rf
  refine k_gen (fun Q hQ => ?_)
  have hl := lv_entry ([.ref (q10 0), .int x]) (n := 6) (Nat.le_of_ble_eq_true rfl)
  refine k_entry hav (lg_entry_eq ..) ?_
  generalize (lg_sl ([.ref (q10 0), .int x]) ++ List.replicate (6 - (lg_sl ([.ref (q10 0), .int x])).length) Slot.unset).toArray = ls at hl ⊢
  have hl : lv_has ls 6 [(0, .ref (q10 0)), (1, .int x)] := hl
  have hu_10 : ∀ w ∈ u_ws RX10 TX10 18, w ∈ wsX10_why := by decide +kernel
  have hf_7 : Cond.fieldLink RX10 7 "MeetingRanksModel" "st" "[I" ∈ wsX10_why := by decide +kernel
  have hn1 := hV.1
  have hn10 := hV.2.1
  have hm120 := hV.2.2.1
  have hx40 := hV.2.2.2.2.1
  have hk4 := hV.2.2.2.2.2.2.1
  have h2n := pow_le_1024 hn10
  have h2p := Nat.two_pow_pos n
  refine lv_aload_n hx hb dX10_why_0 rfl (lv_at hl 0 rfl) ?_
  refine lv_iload_n hx hb dX10_why_1 rfl (lv_at hl 1 rfl) ?_
  have hs_2 : kSplit (wX10 q10 cI cJ cB st_10 kept_10 undoable_10 newest_10 tape_10 taped_10 marks_10 order_10 reach_10 heapOf_10 rows_10 x_10 overs_10 costs_10 ways_10 digits_10 beaten_10 walks_10) (wX10 q10 cI cJ cB st_10 kept_10 undoable_10 newest_10 tape_10 taped_10 marks_10 order_10 reach_10 heapOf_10 rows_10 x_10 overs_10 costs_10 ways_10 digits_10 beaten_10 walks_10) ([] : va_W) [0, 1, 2, 3, 4, 5, 6, 7, 8, 9, 10, 11, 12, 13, 14, 15] [] := ⟨rfl, rfl, rfl, rfl, rfl, by decide⟩
  refine kc_i hP hD hS hA hs_2 (kV (As := [.int x]) (rest := []) hx hb hml hown hts hKW hP hD hs_2 (c_X10_isPlayer l D cI cJ cB q10 st_10 kept_10 undoable_10 newest_10 tape_10 taped_10 marks_10 order_10 reach_10 heapOf_10 rows_10 x_10 overs_10 costs_10 ways_10 digits_10 beaten_10 walks_10 n ml nx ks rr x (by first | assumption | omega) (by first | assumption | omega)) (cwV 1 hts gX10_why_X10_isPlayer rfl rfl rfl (by decide +kernel) ⟨Nat.le_of_ble_eq_true rfl, Nat.le_of_ble_eq_true rfl⟩) 0 10 rfl rfl rfl rfl hl.1 rfl (Nat.le_of_ble_eq_true rfl) dX10_why_2 ⟨Nat.zero_le _, Nat.zero_le _⟩) (fun r_2 u_2 H locs hw_2 hP hD hS => ?_)
  have er_2 := hw_2
  have er_2 := er_2.symm
  subst er_2
  have hP : va_P D vwCl (wX10 q10 cI cJ cB st_10 kept_10 undoable_10 newest_10 tape_10 taped_10 marks_10 order_10 reach_10 heapOf_10 rows_10 x_10 overs_10 costs_10 ways_10 digits_10 beaten_10 walks_10) H := hP.sub (ws' := (wX10 q10 cI cJ cB st_10 kept_10 undoable_10 newest_10 tape_10 taped_10 marks_10 order_10 reach_10 heapOf_10 rows_10 x_10 overs_10 costs_10 ways_10 digits_10 beaten_10 walks_10)) [0, 1, 2, 3, 4, 5, 6, 7, 8, 9, 10, 11, 12, 13, 14, 15] rfl
  have hD : va_D A (wX10 q10 cI cJ cB st_10 kept_10 undoable_10 newest_10 tape_10 taped_10 marks_10 order_10 reach_10 heapOf_10 rows_10 x_10 overs_10 costs_10 ways_10 digits_10 beaten_10 walks_10) := hD.sub (ws' := (wX10 q10 cI cJ cB st_10 kept_10 undoable_10 newest_10 tape_10 taped_10 marks_10 order_10 reach_10 heapOf_10 rows_10 x_10 overs_10 costs_10 ways_10 digits_10 beaten_10 walks_10)) [0, 1, 2, 3, 4, 5, 6, 7, 8, 9, 10, 11, 12, 13, 14, 15] (by decide) rfl
  refine lv_if_ne (tgt := 10) hx hb dX10_why_5 (by decide) (fun c_5 => ?_) (fun c_5 => ?_)
  · skip
    have c_5 := k_b1 c_5
    obtain ⟨p1, hp1, rfl⟩ := kIn_nat c_5
    refine lv_aload_n hx hb dX10_why_10 rfl (lv_at hl 0 rfl) ?_
    refine lv_iload_n hx hb dX10_why_11 rfl (lv_at hl 1 rfl) ?_
    have hs_12 : kSplit (wX10 q10 cI cJ cB st_10 kept_10 undoable_10 newest_10 tape_10 taped_10 marks_10 order_10 reach_10 heapOf_10 rows_10 x_10 overs_10 costs_10 ways_10 digits_10 beaten_10 walks_10) (wX10 q10 cI cJ cB st_10 kept_10 undoable_10 newest_10 tape_10 taped_10 marks_10 order_10 reach_10 heapOf_10 rows_10 x_10 overs_10 costs_10 ways_10 digits_10 beaten_10 walks_10) ([] : va_W) [0, 1, 2, 3, 4, 5, 6, 7, 8, 9, 10, 11, 12, 13, 14, 15] [] := ⟨rfl, rfl, rfl, rfl, rfl, by decide⟩
    refine kc_i hP hD hS hA hs_12 (kV (As := [.int (nI p1)]) (rest := []) hx hb hml hown hts hKW hP hD hs_12 (c_X10_has l D cI cJ cB q10 st_10 kept_10 undoable_10 newest_10 tape_10 taped_10 marks_10 order_10 reach_10 heapOf_10 rows_10 x_10 overs_10 costs_10 ways_10 digits_10 beaten_10 walks_10 n ml nx ks rr p1 (by first | assumption | omega) (by first | assumption | omega) (by first | assumption | omega)) (cwV 1 hts gX10_why_X10_has rfl rfl rfl (by decide +kernel) ⟨Nat.le_of_ble_eq_true rfl, Nat.le_of_ble_eq_true rfl⟩) 0 10 rfl rfl rfl rfl hl.1 rfl (Nat.le_of_ble_eq_true rfl) dX10_why_12 ⟨Nat.zero_le _, Nat.zero_le _⟩) (fun r_12 u_12 H locs hw_12 hP hD hS => ?_)
    have er_12 := hw_12
    have er_12 := er_12.symm
    subst er_12
    have hP : va_P D vwCl (wX10 q10 cI cJ cB st_10 kept_10 undoable_10 newest_10 tape_10 taped_10 marks_10 order_10 reach_10 heapOf_10 rows_10 x_10 overs_10 costs_10 ways_10 digits_10 beaten_10 walks_10) H := hP.sub (ws' := (wX10 q10 cI cJ cB st_10 kept_10 undoable_10 newest_10 tape_10 taped_10 marks_10 order_10 reach_10 heapOf_10 rows_10 x_10 overs_10 costs_10 ways_10 digits_10 beaten_10 walks_10)) [0, 1, 2, 3, 4, 5, 6, 7, 8, 9, 10, 11, 12, 13, 14, 15] rfl
    have hD : va_D A (wX10 q10 cI cJ cB st_10 kept_10 undoable_10 newest_10 tape_10 taped_10 marks_10 order_10 reach_10 heapOf_10 rows_10 x_10 overs_10 costs_10 ways_10 digits_10 beaten_10 walks_10) := hD.sub (ws' := (wX10 q10 cI cJ cB st_10 kept_10 undoable_10 newest_10 tape_10 taped_10 marks_10 order_10 reach_10 heapOf_10 rows_10 x_10 overs_10 costs_10 ways_10 digits_10 beaten_10 walks_10)) [0, 1, 2, 3, 4, 5, 6, 7, 8, 9, 10, 11, 12, 13, 14, 15] (by decide) rfl
    refine lv_istore_n (lv' := [(2, .int (lsI (hsX p1) ml)), (0, .ref (q10 0)), (1, .int (nI p1))]) hx hb dX10_why_15 rfl hl (by decide) rfl (fun ls hl => ?_)
    refine lv_iconst (v := nI 0) hx hb dX10_why_16 (by decide) ?_
    refine lv_istore_n (lv' := [(3, .int (nI 0)), (2, .int (lsI (hsX p1) ml)), (0, .ref (q10 0)), (1, .int (nI p1))]) hx hb dX10_why_17 rfl hl (by decide) rfl (fun ls hl => ?_)
    have hL_18 : ∀ (fu : Nat) (k : Nat) (v : Int32) (hk : k ≤ nx.length) (hv : v = lsI (hsX p1) ml + lsQ (fun x => if x.1 = p1 ∨ x.2 = p1 then nI 2 else nI 0) (nx.take k)), nx.length - k < fu → ∀ (H : Heap) (locs : List Loc), va_P D vwCl (wX10 q10 cI cJ cB st_10 kept_10 undoable_10 newest_10 tape_10 taped_10 marks_10 order_10 reach_10 heapOf_10 rows_10 x_10 overs_10 costs_10 ways_10 digits_10 beaten_10 walks_10) H → va_D A (wX10 q10 cI cJ cB st_10 kept_10 undoable_10 newest_10 tape_10 taped_10 marks_10 order_10 reach_10 heapOf_10 rows_10 x_10 overs_10 costs_10 ways_10 digits_10 beaten_10 walks_10) → va_S A s.heap H locs → ∀ (ls : Array Slot), lv_has ls 6 [(0, .ref (q10 0)), (1, .int (nI p1)), (2, .int v), (3, .int (nI k))] → W p l e (headSpec wsX10_why rmX10_why).room s m args below meth c H locs 0 0 Q (F0 m 18 ls []) := by
      intro fu
      induction fu with
      | zero => intro k v hk hv hfu; exact absurd hfu (Nat.not_lt_zero _)
      | succ fu ih_18 =>
        intro k v hk hv hfu H locs hP hD hS ls hl
        refine lv_iload_n hx hb dX10_why_18 rfl (lv_at hl 3 rfl) ?_
        refine lv_aload_n hx hb dX10_why_19 rfl (lv_at hl 0 rfl) ?_
        refine k_get (ci := 10) (v := .ref (q10 1)) (C := RX10) (Tb := TX10) (N := 18) hx hb hts hu_10 hown hKW hP 0 rfl rfl 0 (by decide) hf_7 rfl rfl dX10_why_20 ?_
        refine lv_iconst (v := nI 2) hx hb dX10_why_23 (by decide) ?_
        refine k_iald (n := 600) (i := 2) hx hb hKW hP 1 0 rfl rfl (by omega) (by omega) dX10_why_24 ?_
        refine k_top (y := nI nx.length) (hR.2.2.1) ?_
        refine lv_icmp_ge (tgt := 76) hx hb dX10_why_25 (by decide) (fun c_25 => ?_) (fun c_25 => ?_)
        · skip
          have c_25 := k_ge (by omega) (by omega) c_25
          obtain rfl : k = nx.length := by omega
          rw [List.take_length] at hv
          subst hv
          refine lv_iconst (v := nI 1) hx hb dX10_why_76 (by decide) ?_
          refine lv_istore_n (lv' := [(3, .int (nI 1)), (0, .ref (q10 0)), (1, .int (nI p1)), (2, .int (mstF ml nx p1))]) hx hb dX10_why_77 rfl hl (by decide) rfl (fun ls hl => ?_)
          have hL_78 : ∀ (fu : Nat) (S : Nat) (hS1 : 1 ≤ S) (hS2 : S ≤ 2 ^ n) (hs : srch (fun S => !S.testBit p1 && decide (0 < exF ml nx n p1 S)) 1 (2 ^ n - 1) = srch (fun S => !S.testBit p1 && decide (0 < exF ml nx n p1 S)) S (2 ^ n - S)), 2 ^ n - S < fu → ∀ (H : Heap) (locs : List Loc), va_P D vwCl (wX10 q10 cI cJ cB st_10 kept_10 undoable_10 newest_10 tape_10 taped_10 marks_10 order_10 reach_10 heapOf_10 rows_10 x_10 overs_10 costs_10 ways_10 digits_10 beaten_10 walks_10) H → va_D A (wX10 q10 cI cJ cB st_10 kept_10 undoable_10 newest_10 tape_10 taped_10 marks_10 order_10 reach_10 heapOf_10 rows_10 x_10 overs_10 costs_10 ways_10 digits_10 beaten_10 walks_10) → va_S A s.heap H locs → ∀ (ls : Array Slot), lv_has ls 6 [(0, .ref (q10 0)), (1, .int (nI p1)), (2, .int (mstF ml nx p1)), (3, .int (nI S))] → W p l e (headSpec wsX10_why rmX10_why).room s m args below meth c H locs 0 0 Q (F0 m 78 ls []) := by
            intro fu
            induction fu with
            | zero => intro S hS1 hS2 hs hfu; exact absurd hfu (Nat.not_lt_zero _)
            | succ fu ih_78 =>
              intro S hS1 hS2 hs hfu H locs hP hD hS ls hl
              refine lv_iload_n hx hb dX10_why_78 rfl (lv_at hl 3 rfl) ?_
              refine lv_iconst (v := nI 1) hx hb dX10_why_79 (by decide) ?_
              refine lv_aload_n hx hb dX10_why_80 rfl (lv_at hl 0 rfl) ?_
              have hs_81 : kSplit (wX10 q10 cI cJ cB st_10 kept_10 undoable_10 newest_10 tape_10 taped_10 marks_10 order_10 reach_10 heapOf_10 rows_10 x_10 overs_10 costs_10 ways_10 digits_10 beaten_10 walks_10) (wX10 q10 cI cJ cB st_10 kept_10 undoable_10 newest_10 tape_10 taped_10 marks_10 order_10 reach_10 heapOf_10 rows_10 x_10 overs_10 costs_10 ways_10 digits_10 beaten_10 walks_10) ([] : va_W) [0, 1, 2, 3, 4, 5, 6, 7, 8, 9, 10, 11, 12, 13, 14, 15] [] := ⟨rfl, rfl, rfl, rfl, rfl, by decide⟩
              refine kc_i hP hD hS hA hs_81 (kV (As := []) (rest := [.int (nI 1), .int (nI S)]) hx hb hml hown hts hKW hP hD hs_81 (c_X10_n l D cI cJ cB q10 st_10 kept_10 undoable_10 newest_10 tape_10 taped_10 marks_10 order_10 reach_10 heapOf_10 rows_10 x_10 overs_10 costs_10 ways_10 digits_10 beaten_10 walks_10 n ml nx ks rr (by first | assumption | omega) (by first | assumption | omega)) (cwV 0 hts gX10_why_X10_n rfl rfl rfl (by decide +kernel) ⟨Nat.le_of_ble_eq_true rfl, Nat.le_of_ble_eq_true rfl⟩) 0 10 rfl rfl rfl rfl hl.1 rfl (Nat.le_of_ble_eq_true rfl) dX10_why_81 ⟨Nat.zero_le _, Nat.zero_le _⟩) (fun r_81 u_81 H locs hw_81 hP hD hS => ?_)
              have er_81 := hw_81
              have er_81 := er_81.symm
              subst er_81
              have hP : va_P D vwCl (wX10 q10 cI cJ cB st_10 kept_10 undoable_10 newest_10 tape_10 taped_10 marks_10 order_10 reach_10 heapOf_10 rows_10 x_10 overs_10 costs_10 ways_10 digits_10 beaten_10 walks_10) H := hP.sub (ws' := (wX10 q10 cI cJ cB st_10 kept_10 undoable_10 newest_10 tape_10 taped_10 marks_10 order_10 reach_10 heapOf_10 rows_10 x_10 overs_10 costs_10 ways_10 digits_10 beaten_10 walks_10)) [0, 1, 2, 3, 4, 5, 6, 7, 8, 9, 10, 11, 12, 13, 14, 15] rfl
              have hD : va_D A (wX10 q10 cI cJ cB st_10 kept_10 undoable_10 newest_10 tape_10 taped_10 marks_10 order_10 reach_10 heapOf_10 rows_10 x_10 overs_10 costs_10 ways_10 digits_10 beaten_10 walks_10) := hD.sub (ws' := (wX10 q10 cI cJ cB st_10 kept_10 undoable_10 newest_10 tape_10 taped_10 marks_10 order_10 reach_10 heapOf_10 rows_10 x_10 overs_10 costs_10 ways_10 digits_10 beaten_10 walks_10)) [0, 1, 2, 3, 4, 5, 6, 7, 8, 9, 10, 11, 12, 13, 14, 15] (by decide) rfl
              refine lv_ishl hx hb dX10_why_84 ?_
              refine k_top (y := nI (2 ^ n)) (k_shl1 (by omega)) ?_
              refine lv_icmp_ge (tgt := 235) hx hb dX10_why_85 (by decide) (fun c_85 => ?_) (fun c_85 => ?_)
              · skip
                have c_85 := k_ge (by omega) (by omega) c_85
                refine lv_iconst (v := nI 0) hx hb dX10_why_235 (by decide) ?_
                subst hQ; subst hAe
                exact W.iret (v := nI 0) hx hb hr (fun t ht _ => ⟨⟨nI 0, (), rfl, by rw [if_pos ((kIn_nI (by omega)).mpr hp1), k_tt (by omega)]; unfold whyF; rw [hs, show 2 ^ n - S = 0 by omega]; rfl, by rw [ht]; exact hP, hD⟩, hS.F ht⟩) hS.2.2 dX10_why_236
              · skip
                have c_85 := k_ge_n (by omega) (by omega) c_85
                refine lv_iload_n hx hb dX10_why_88 rfl (lv_at hl 3 rfl) ?_
                refine lv_iload_n hx hb dX10_why_89 rfl (lv_at hl 1 rfl) ?_
                refine lv_ishr hx hb dX10_why_90 ?_
                refine k_top (y := nI (S / 2 ^ p1)) (k_shr (by omega) (by omega)) ?_
                refine lv_iconst (v := nI 1) hx hb dX10_why_91 (by decide) ?_
                refine lv_iand hx hb dX10_why_92 ?_
                refine k_top (y := nI (S / 2 ^ p1 % 2)) (k_and1 _ (k_shr_lt (by omega))) ?_
                refine lv_iconst (v := nI 1) hx hb dX10_why_93 (by decide) ?_
                refine lv_icmp_ne (tgt := 100) hx hb dX10_why_94 (by decide) (fun c_94 => ?_) (fun c_94 => ?_)
                · skip
                  have c_94 := k_ne (by omega) (by omega) c_94
                  refine lv_iconst (v := nI 0) hx hb dX10_why_100 (by decide) ?_
                  refine lv_istore (lv' := [(4, .int (nI 0)), (0, .ref (q10 0)), (1, .int (nI p1)), (2, .int (mstF ml nx p1)), (3, .int (nI S))]) hx hb dX10_why_101 hl (by decide) rfl (fun ls hl => ?_)
                  refine lv_iconst (v := nI 0) hx hb dX10_why_103 (by decide) ?_
                  refine lv_istore (lv' := [(5, .int (nI 0)), (4, .int (nI 0)), (0, .ref (q10 0)), (1, .int (nI p1)), (2, .int (mstF ml nx p1)), (3, .int (nI S))]) hx hb dX10_why_104 hl (by decide) rfl (fun ls hl => ?_)
                  have hL_106 : ∀ (fu : Nat) (q : Nat) (v1 : Int32) (hq : q ≤ n) (hv1 : v1 = sI (fun q => if S.testBit q = true then lsI (hsX q) ml - mstF ml nx p1 else nI 0) q), n - q < fu → ∀ (H : Heap) (locs : List Loc), va_P D vwCl (wX10 q10 cI cJ cB st_10 kept_10 undoable_10 newest_10 tape_10 taped_10 marks_10 order_10 reach_10 heapOf_10 rows_10 x_10 overs_10 costs_10 ways_10 digits_10 beaten_10 walks_10) H → va_D A (wX10 q10 cI cJ cB st_10 kept_10 undoable_10 newest_10 tape_10 taped_10 marks_10 order_10 reach_10 heapOf_10 rows_10 x_10 overs_10 costs_10 ways_10 digits_10 beaten_10 walks_10) → va_S A s.heap H locs → ∀ (ls : Array Slot), lv_has ls 6 [(0, .ref (q10 0)), (1, .int (nI p1)), (2, .int (mstF ml nx p1)), (3, .int (nI S)), (4, .int v1), (5, .int (nI q))] → W p l e (headSpec wsX10_why rmX10_why).room s m args below meth c H locs 0 0 Q (F0 m 106 ls []) := by
                    intro fu
                    induction fu with
                    | zero => intro q v1 hq hv1 hfu; exact absurd hfu (Nat.not_lt_zero _)
                    | succ fu ih_106 =>
                      intro q v1 hq hv1 hfu H locs hP hD hS ls hl
                      refine lv_iload hx hb dX10_why_106 (lv_at hl 5 rfl) ?_
                      refine lv_aload_n hx hb dX10_why_108 rfl (lv_at hl 0 rfl) ?_
                      have hs_109 : kSplit (wX10 q10 cI cJ cB st_10 kept_10 undoable_10 newest_10 tape_10 taped_10 marks_10 order_10 reach_10 heapOf_10 rows_10 x_10 overs_10 costs_10 ways_10 digits_10 beaten_10 walks_10) (wX10 q10 cI cJ cB st_10 kept_10 undoable_10 newest_10 tape_10 taped_10 marks_10 order_10 reach_10 heapOf_10 rows_10 x_10 overs_10 costs_10 ways_10 digits_10 beaten_10 walks_10) ([] : va_W) [0, 1, 2, 3, 4, 5, 6, 7, 8, 9, 10, 11, 12, 13, 14, 15] [] := ⟨rfl, rfl, rfl, rfl, rfl, by decide⟩
                      refine kc_i hP hD hS hA hs_109 (kV (As := []) (rest := [.int (nI q)]) hx hb hml hown hts hKW hP hD hs_109 (c_X10_n l D cI cJ cB q10 st_10 kept_10 undoable_10 newest_10 tape_10 taped_10 marks_10 order_10 reach_10 heapOf_10 rows_10 x_10 overs_10 costs_10 ways_10 digits_10 beaten_10 walks_10 n ml nx ks rr (by first | assumption | omega) (by first | assumption | omega)) (cwV 0 hts gX10_why_X10_n rfl rfl rfl (by decide +kernel) ⟨Nat.le_of_ble_eq_true rfl, Nat.le_of_ble_eq_true rfl⟩) 0 10 rfl rfl rfl rfl hl.1 rfl (Nat.le_of_ble_eq_true rfl) dX10_why_109 ⟨Nat.zero_le _, Nat.zero_le _⟩) (fun r_109 u_109 H locs hw_109 hP hD hS => ?_)
                      have er_109 := hw_109
                      have er_109 := er_109.symm
                      subst er_109
                      have hP : va_P D vwCl (wX10 q10 cI cJ cB st_10 kept_10 undoable_10 newest_10 tape_10 taped_10 marks_10 order_10 reach_10 heapOf_10 rows_10 x_10 overs_10 costs_10 ways_10 digits_10 beaten_10 walks_10) H := hP.sub (ws' := (wX10 q10 cI cJ cB st_10 kept_10 undoable_10 newest_10 tape_10 taped_10 marks_10 order_10 reach_10 heapOf_10 rows_10 x_10 overs_10 costs_10 ways_10 digits_10 beaten_10 walks_10)) [0, 1, 2, 3, 4, 5, 6, 7, 8, 9, 10, 11, 12, 13, 14, 15] rfl
                      have hD : va_D A (wX10 q10 cI cJ cB st_10 kept_10 undoable_10 newest_10 tape_10 taped_10 marks_10 order_10 reach_10 heapOf_10 rows_10 x_10 overs_10 costs_10 ways_10 digits_10 beaten_10 walks_10) := hD.sub (ws' := (wX10 q10 cI cJ cB st_10 kept_10 undoable_10 newest_10 tape_10 taped_10 marks_10 order_10 reach_10 heapOf_10 rows_10 x_10 overs_10 costs_10 ways_10 digits_10 beaten_10 walks_10)) [0, 1, 2, 3, 4, 5, 6, 7, 8, 9, 10, 11, 12, 13, 14, 15] (by decide) rfl
                      refine lv_icmp_ge (tgt := 148) hx hb dX10_why_112 (by decide) (fun c_112 => ?_) (fun c_112 => ?_)
                      · skip
                        have c_112 := k_ge (by omega) (by omega) c_112
                        obtain rfl : n = q := by omega
                        refine lv_iconst (v := nI 0) hx hb dX10_why_148 (by decide) ?_
                        refine lv_istore (lv' := [(5, .int (nI 0)), (0, .ref (q10 0)), (1, .int (nI p1)), (2, .int (mstF ml nx p1)), (3, .int (nI S)), (4, .int v1)]) hx hb dX10_why_149 hl (by decide) rfl (fun ls hl => ?_)
                        have hL_151 : ∀ (fu : Nat) (k : Nat) (v2 : Int32) (hk2 : k ≤ nx.length) (hv2 : v2 = sI (fun q => if S.testBit q = true then lsI (hsX q) ml - mstF ml nx p1 else nI 0) n + lsQ (fun x => if S.testBit x.1 = true ∧ S.testBit x.2 = true then nI 2 else nI 0) (nx.take k)), nx.length - k < fu → ∀ (H : Heap) (locs : List Loc), va_P D vwCl (wX10 q10 cI cJ cB st_10 kept_10 undoable_10 newest_10 tape_10 taped_10 marks_10 order_10 reach_10 heapOf_10 rows_10 x_10 overs_10 costs_10 ways_10 digits_10 beaten_10 walks_10) H → va_D A (wX10 q10 cI cJ cB st_10 kept_10 undoable_10 newest_10 tape_10 taped_10 marks_10 order_10 reach_10 heapOf_10 rows_10 x_10 overs_10 costs_10 ways_10 digits_10 beaten_10 walks_10) → va_S A s.heap H locs → ∀ (ls : Array Slot), lv_has ls 6 [(0, .ref (q10 0)), (1, .int (nI p1)), (2, .int (mstF ml nx p1)), (3, .int (nI S)), (4, .int v2), (5, .int (nI k))] → W p l e (headSpec wsX10_why rmX10_why).room s m args below meth c H locs 0 0 Q (F0 m 151 ls []) := by
                          intro fu
                          induction fu with
                          | zero => intro k v2 hk2 hv2 hfu; exact absurd hfu (Nat.not_lt_zero _)
                          | succ fu ih_151 =>
                            intro k v2 hk2 hv2 hfu H locs hP hD hS ls hl
                            refine lv_iload hx hb dX10_why_151 (lv_at hl 5 rfl) ?_
                            refine lv_aload_n hx hb dX10_why_153 rfl (lv_at hl 0 rfl) ?_
                            refine k_get (ci := 10) (v := .ref (q10 1)) (C := RX10) (Tb := TX10) (N := 18) hx hb hts hu_10 hown hKW hP 0 rfl rfl 0 (by decide) hf_7 rfl rfl dX10_why_154 ?_
                            refine lv_iconst (v := nI 2) hx hb dX10_why_157 (by decide) ?_
                            refine k_iald (n := 600) (i := 2) hx hb hKW hP 1 0 rfl rfl (by omega) (by omega) dX10_why_158 ?_
                            refine k_top (y := nI nx.length) (hR.2.2.1) ?_
                            refine lv_icmp_ge (tgt := 222) hx hb dX10_why_159 (by decide) (fun c_159 => ?_) (fun c_159 => ?_)
                            · skip
                              have c_159 := k_ge (by omega) (by omega) c_159
                              obtain rfl : k = nx.length := by omega
                              rw [List.take_length] at hv2
                              refine lv_iload hx hb dX10_why_222 (lv_at hl 4 rfl) ?_
                              refine lv_if_le (tgt := 229) hx hb dX10_why_224 (by decide) (fun c_224 => ?_) (fun c_224 => ?_)
                              · skip
                                refine lv_iinc (v := nI (S + 1)) (lv' := [(3, .int (nI (S + 1))), (0, .ref (q10 0)), (1, .int (nI p1)), (2, .int (mstF ml nx p1)), (4, .int v2), (5, .int (nI nx.length))]) hx hb dX10_why_229 hl (k := 3) rfl (nI_add _ _) (by decide) rfl (fun ls hl => ?_)
                                refine lv_goto (tgt := 78) hx hb dX10_why_232 (by decide) ?_
                                exact ih_78 _ (by omega) (by omega) (by rw [hs, show 2 ^ n - S = (2 ^ n - (S + 1)) + 1 by omega]; refine srch_no (fun z => ?_); rw [Bool.and_eq_true] at z; exact k_nlt c_224 (hv2.symm.subst (motive := fun z => (0 : Int32) < z) (of_decide_eq_true z.2))) (by omega) _ _ hP hD hS ls (lv_sub hl [1, 2, 3, 0] rfl)
                              · skip
                                refine lv_iload_n hx hb dX10_why_227 rfl (lv_at hl 3 rfl) ?_
                                subst hQ; subst hAe
                                exact W.iret (v := nI S) hx hb hr (fun t ht _ => ⟨⟨nI S, (), rfl, by rw [if_pos ((kIn_nI (by omega)).mpr hp1), k_tt (by omega)]; unfold whyF; rw [hs, show 2 ^ n - S = (2 ^ n - (S + 1)) + 1 by omega, srch_yes (wb_t (fun z => c_94 (tb_mod.mp z)) (hv2.subst (motive := fun z => (0 : Int32) < z) (k_nle c_224)))]; rfl, by rw [ht]; exact hP, hD⟩, hS.F ht⟩) hS.2.2 dX10_why_228
                            · skip
                              have c_159 := k_ge_n (by omega) (by omega) c_159
                              obtain ⟨hx1, hx2, hx3⟩ := hV.2.2.2.2.2.1 _ (nx_mem c_159)
                              refine lv_iload hx hb dX10_why_162 (lv_at hl 4 rfl) ?_
                              refine lv_iload_n hx hb dX10_why_164 rfl (lv_at hl 3 rfl) ?_
                              refine lv_aload_n hx hb dX10_why_165 rfl (lv_at hl 0 rfl) ?_
                              refine k_get (ci := 10) (v := .ref (q10 1)) (C := RX10) (Tb := TX10) (N := 18) hx hb hts hu_10 hown hKW hP 0 rfl rfl 0 (by decide) hf_7 rfl rfl dX10_why_166 ?_
                              refine lv_sipush (v := nI 491) hx hb dX10_why_169 (by decide) ?_
                              refine lv_iconst (v := nI 2) hx hb dX10_why_172 (by decide) ?_
                              refine lv_iload hx hb dX10_why_173 (lv_at hl 5 rfl) ?_
                              refine k_imul hx hb dX10_why_175 ?_
                              refine k_iadd hx hb dX10_why_176 ?_
                              refine k_iald (n := 600) (i := 491 + (2 * k)) hx hb hKW hP 1 0 rfl rfl (by omega) (by omega) dX10_why_177 ?_
                              refine k_top (y := nI ((nx.getD k (0, 0)).1)) ((hR.2.2.2.2.2.2.2.2.2 k c_159).1) ?_
                              refine lv_ishr hx hb dX10_why_178 ?_
                              refine k_top (y := nI (S / 2 ^ (nx.getD k (0, 0)).1)) (k_shr (by omega) (by omega)) ?_
                              refine lv_iconst (v := nI 1) hx hb dX10_why_179 (by decide) ?_
                              refine lv_iand hx hb dX10_why_180 ?_
                              refine k_top (y := nI (S / 2 ^ (nx.getD k (0, 0)).1 % 2)) (k_and1 _ (k_shr_lt (by omega))) ?_
                              refine lv_iconst (v := nI 1) hx hb dX10_why_181 (by decide) ?_
                              refine lv_icmp_ne (tgt := 212) hx hb dX10_why_182 (by decide) (fun c_182 => ?_) (fun c_182 => ?_)
                              · skip
                                have c_182 := k_ne (by omega) (by omega) c_182
                                refine lv_iconst (v := nI 0) hx hb dX10_why_212 (by decide) ?_
                                refine lv_iadd hx hb dX10_why_213 ?_
                                refine lv_istore (lv' := [(4, .int (v2 + (nI 0))), (0, .ref (q10 0)), (1, .int (nI p1)), (2, .int (mstF ml nx p1)), (3, .int (nI S)), (5, .int (nI k))]) hx hb dX10_why_214 hl (by decide) rfl (fun ls hl => ?_)
                                refine lv_iinc (v := nI (k + 1)) (lv' := [(5, .int (nI (k + 1))), (4, .int (v2 + (nI 0))), (0, .ref (q10 0)), (1, .int (nI p1)), (2, .int (mstF ml nx p1)), (3, .int (nI S))]) hx hb dX10_why_216 hl (k := 5) rfl (nI_add _ _) (by decide) rfl (fun ls hl => ?_)
                                refine lv_goto (tgt := 151) hx hb dX10_why_219 (by decide) ?_
                                exact ih_151 _ _ (by omega) (by rw [lsQ_take _ c_159, ← Int32.add_assoc, ← hv2, if_neg (fun z => c_182 (tb_mod.mp z.1))]) (by omega) _ _ hP hD hS ls (lv_sub hl [2, 3, 4, 5, 1, 0] rfl)
                              · skip
                                have c_182 := k_ne_n (by omega) (by omega) c_182
                                refine lv_iload_n hx hb dX10_why_185 rfl (lv_at hl 3 rfl) ?_
                                refine lv_aload_n hx hb dX10_why_186 rfl (lv_at hl 0 rfl) ?_
                                refine k_get (ci := 10) (v := .ref (q10 1)) (C := RX10) (Tb := TX10) (N := 18) hx hb hts hu_10 hown hKW hP 0 rfl rfl 0 (by decide) hf_7 rfl rfl dX10_why_187 ?_
                                refine lv_sipush (v := nI 491) hx hb dX10_why_190 (by decide) ?_
                                refine lv_iconst (v := nI 2) hx hb dX10_why_193 (by decide) ?_
                                refine lv_iload hx hb dX10_why_194 (lv_at hl 5 rfl) ?_
                                refine k_imul hx hb dX10_why_196 ?_
                                refine k_iadd hx hb dX10_why_197 ?_
                                refine lv_iconst (v := nI 1) hx hb dX10_why_198 (by decide) ?_
                                refine k_iadd hx hb dX10_why_199 ?_
                                refine k_iald (n := 600) (i := (491 + (2 * k)) + 1) hx hb hKW hP 1 0 rfl rfl (by omega) (by omega) dX10_why_200 ?_
                                refine k_top (y := nI ((nx.getD k (0, 0)).2)) ((hR.2.2.2.2.2.2.2.2.2 k c_159).2) ?_
                                refine lv_ishr hx hb dX10_why_201 ?_
                                refine k_top (y := nI (S / 2 ^ (nx.getD k (0, 0)).2)) (k_shr (by omega) (by omega)) ?_
                                refine lv_iconst (v := nI 1) hx hb dX10_why_202 (by decide) ?_
                                refine lv_iand hx hb dX10_why_203 ?_
                                refine k_top (y := nI (S / 2 ^ (nx.getD k (0, 0)).2 % 2)) (k_and1 _ (k_shr_lt (by omega))) ?_
                                refine lv_iconst (v := nI 1) hx hb dX10_why_204 (by decide) ?_
                                refine lv_icmp_ne (tgt := 212) hx hb dX10_why_205 (by decide) (fun c_205 => ?_) (fun c_205 => ?_)
                                · skip
                                  have c_205 := k_ne (by omega) (by omega) c_205
                                  refine lv_iconst (v := nI 0) hx hb dX10_why_212 (by decide) ?_
                                  refine lv_iadd hx hb dX10_why_213 ?_
                                  refine lv_istore (lv' := [(4, .int (v2 + (nI 0))), (0, .ref (q10 0)), (1, .int (nI p1)), (2, .int (mstF ml nx p1)), (3, .int (nI S)), (5, .int (nI k))]) hx hb dX10_why_214 hl (by decide) rfl (fun ls hl => ?_)
                                  refine lv_iinc (v := nI (k + 1)) (lv' := [(5, .int (nI (k + 1))), (4, .int (v2 + (nI 0))), (0, .ref (q10 0)), (1, .int (nI p1)), (2, .int (mstF ml nx p1)), (3, .int (nI S))]) hx hb dX10_why_216 hl (k := 5) rfl (nI_add _ _) (by decide) rfl (fun ls hl => ?_)
                                  refine lv_goto (tgt := 151) hx hb dX10_why_219 (by decide) ?_
                                  exact ih_151 _ _ (by omega) (by rw [lsQ_take _ c_159, ← Int32.add_assoc, ← hv2, if_neg (fun z => c_205 (tb_mod.mp z.2))]) (by omega) _ _ hP hD hS ls (lv_sub hl [2, 3, 4, 5, 1, 0] rfl)
                                · skip
                                  have c_205 := k_ne_n (by omega) (by omega) c_205
                                  refine lv_iconst (v := nI 2) hx hb dX10_why_208 (by decide) ?_
                                  refine lv_goto (tgt := 213) hx hb dX10_why_209 (by decide) ?_
                                  refine lv_iadd hx hb dX10_why_213 ?_
                                  refine lv_istore (lv' := [(4, .int (v2 + (nI 2))), (0, .ref (q10 0)), (1, .int (nI p1)), (2, .int (mstF ml nx p1)), (3, .int (nI S)), (5, .int (nI k))]) hx hb dX10_why_214 hl (by decide) rfl (fun ls hl => ?_)
                                  refine lv_iinc (v := nI (k + 1)) (lv' := [(5, .int (nI (k + 1))), (4, .int (v2 + (nI 2))), (0, .ref (q10 0)), (1, .int (nI p1)), (2, .int (mstF ml nx p1)), (3, .int (nI S))]) hx hb dX10_why_216 hl (k := 5) rfl (nI_add _ _) (by decide) rfl (fun ls hl => ?_)
                                  refine lv_goto (tgt := 151) hx hb dX10_why_219 (by decide) ?_
                                  exact ih_151 _ _ (by omega) (by rw [lsQ_take _ c_159, ← Int32.add_assoc, ← hv2, if_pos ⟨tb_mod.mpr c_182, tb_mod.mpr c_205⟩]) (by omega) _ _ hP hD hS ls (lv_sub hl [2, 3, 4, 5, 1, 0] rfl)
                        exact hL_151 _ 0 _ (Nat.zero_le _) (by rw [hv1]; exact (Int32.add_zero _).symm) (Nat.lt_succ_self _) _ _ hP hD hS ls (lv_sub hl [1, 2, 3, 4, 5, 0] rfl)
                      · skip
                        have c_112 := k_ge_n (by omega) (by omega) c_112
                        refine lv_iload hx hb dX10_why_115 (lv_at hl 4 rfl) ?_
                        refine lv_iload_n hx hb dX10_why_117 rfl (lv_at hl 3 rfl) ?_
                        refine lv_iload hx hb dX10_why_118 (lv_at hl 5 rfl) ?_
                        refine lv_ishr hx hb dX10_why_120 ?_
                        refine k_top (y := nI (S / 2 ^ q)) (k_shr (by omega) (by omega)) ?_
                        refine lv_iconst (v := nI 1) hx hb dX10_why_121 (by decide) ?_
                        refine lv_iand hx hb dX10_why_122 ?_
                        refine k_top (y := nI (S / 2 ^ q % 2)) (k_and1 _ (k_shr_lt (by omega))) ?_
                        refine lv_iconst (v := nI 1) hx hb dX10_why_123 (by decide) ?_
                        refine lv_icmp_ne (tgt := 138) hx hb dX10_why_124 (by decide) (fun c_124 => ?_) (fun c_124 => ?_)
                        · skip
                          have c_124 := k_ne (by omega) (by omega) c_124
                          refine lv_iconst (v := nI 0) hx hb dX10_why_138 (by decide) ?_
                          refine lv_iadd hx hb dX10_why_139 ?_
                          refine lv_istore (lv' := [(4, .int (v1 + (nI 0))), (0, .ref (q10 0)), (1, .int (nI p1)), (2, .int (mstF ml nx p1)), (3, .int (nI S)), (5, .int (nI q))]) hx hb dX10_why_140 hl (by decide) rfl (fun ls hl => ?_)
                          refine lv_iinc (v := nI (q + 1)) (lv' := [(5, .int (nI (q + 1))), (4, .int (v1 + (nI 0))), (0, .ref (q10 0)), (1, .int (nI p1)), (2, .int (mstF ml nx p1)), (3, .int (nI S))]) hx hb dX10_why_142 hl (k := 5) rfl (nI_add _ _) (by decide) rfl (fun ls hl => ?_)
                          refine lv_goto (tgt := 106) hx hb dX10_why_145 (by decide) ?_
                          exact ih_106 _ _ (by omega) (by rw [hv1]; show _ = _ + (if _ then _ else _); rw [if_neg (fun z => c_124 (tb_mod.mp z))]) (by omega) _ _ hP hD hS ls (lv_sub hl [2, 3, 4, 5, 1, 0] rfl)
                        · skip
                          have c_124 := k_ne_n (by omega) (by omega) c_124
                          refine lv_aload_n hx hb dX10_why_127 rfl (lv_at hl 0 rfl) ?_
                          refine lv_iload hx hb dX10_why_128 (lv_at hl 5 rfl) ?_
                          have hs_130 : kSplit (wX10 q10 cI cJ cB st_10 kept_10 undoable_10 newest_10 tape_10 taped_10 marks_10 order_10 reach_10 heapOf_10 rows_10 x_10 overs_10 costs_10 ways_10 digits_10 beaten_10 walks_10) (wX10 q10 cI cJ cB st_10 kept_10 undoable_10 newest_10 tape_10 taped_10 marks_10 order_10 reach_10 heapOf_10 rows_10 x_10 overs_10 costs_10 ways_10 digits_10 beaten_10 walks_10) ([] : va_W) [0, 1, 2, 3, 4, 5, 6, 7, 8, 9, 10, 11, 12, 13, 14, 15] [] := ⟨rfl, rfl, rfl, rfl, rfl, by decide⟩
                          refine kc_i hP hD hS hA hs_130 (kV (As := [.int (nI q)]) (rest := [.int v1]) hx hb hml hown hts hKW hP hD hs_130 (c_X10_has l D cI cJ cB q10 st_10 kept_10 undoable_10 newest_10 tape_10 taped_10 marks_10 order_10 reach_10 heapOf_10 rows_10 x_10 overs_10 costs_10 ways_10 digits_10 beaten_10 walks_10 n ml nx ks rr q (by first | assumption | omega) (by first | assumption | omega) (by first | assumption | omega)) (cwV 1 hts gX10_why_X10_has rfl rfl rfl (by decide +kernel) ⟨Nat.le_of_ble_eq_true rfl, Nat.le_of_ble_eq_true rfl⟩) 0 10 rfl rfl rfl rfl hl.1 rfl (Nat.le_of_ble_eq_true rfl) dX10_why_130 ⟨Nat.zero_le _, Nat.zero_le _⟩) (fun r_130 u_130 H locs hw_130 hP hD hS => ?_)
                          have er_130 := hw_130
                          have er_130 := er_130.symm
                          subst er_130
                          have hP : va_P D vwCl (wX10 q10 cI cJ cB st_10 kept_10 undoable_10 newest_10 tape_10 taped_10 marks_10 order_10 reach_10 heapOf_10 rows_10 x_10 overs_10 costs_10 ways_10 digits_10 beaten_10 walks_10) H := hP.sub (ws' := (wX10 q10 cI cJ cB st_10 kept_10 undoable_10 newest_10 tape_10 taped_10 marks_10 order_10 reach_10 heapOf_10 rows_10 x_10 overs_10 costs_10 ways_10 digits_10 beaten_10 walks_10)) [0, 1, 2, 3, 4, 5, 6, 7, 8, 9, 10, 11, 12, 13, 14, 15] rfl
                          have hD : va_D A (wX10 q10 cI cJ cB st_10 kept_10 undoable_10 newest_10 tape_10 taped_10 marks_10 order_10 reach_10 heapOf_10 rows_10 x_10 overs_10 costs_10 ways_10 digits_10 beaten_10 walks_10) := hD.sub (ws' := (wX10 q10 cI cJ cB st_10 kept_10 undoable_10 newest_10 tape_10 taped_10 marks_10 order_10 reach_10 heapOf_10 rows_10 x_10 overs_10 costs_10 ways_10 digits_10 beaten_10 walks_10)) [0, 1, 2, 3, 4, 5, 6, 7, 8, 9, 10, 11, 12, 13, 14, 15] (by decide) rfl
                          refine lv_iload_n hx hb dX10_why_133 rfl (lv_at hl 2 rfl) ?_
                          refine lv_isub hx hb dX10_why_134 ?_
                          refine lv_goto (tgt := 139) hx hb dX10_why_135 (by decide) ?_
                          refine lv_iadd hx hb dX10_why_139 ?_
                          refine lv_istore (lv' := [(4, .int (v1 + ((lsI (hsX q) ml) - (mstF ml nx p1)))), (0, .ref (q10 0)), (1, .int (nI p1)), (2, .int (mstF ml nx p1)), (3, .int (nI S)), (5, .int (nI q))]) hx hb dX10_why_140 hl (by decide) rfl (fun ls hl => ?_)
                          refine lv_iinc (v := nI (q + 1)) (lv' := [(5, .int (nI (q + 1))), (4, .int (v1 + ((lsI (hsX q) ml) - (mstF ml nx p1)))), (0, .ref (q10 0)), (1, .int (nI p1)), (2, .int (mstF ml nx p1)), (3, .int (nI S))]) hx hb dX10_why_142 hl (k := 5) rfl (nI_add _ _) (by decide) rfl (fun ls hl => ?_)
                          refine lv_goto (tgt := 106) hx hb dX10_why_145 (by decide) ?_
                          exact ih_106 _ _ (by omega) (by rw [hv1]; show _ = _ + (if _ then _ else _); rw [if_pos (tb_mod.mpr c_124)]) (by omega) _ _ hP hD hS ls (lv_sub hl [2, 3, 4, 5, 1, 0] rfl)
                  exact hL_106 _ 0 0 (Nat.zero_le _) rfl (Nat.lt_succ_self _) _ _ hP hD hS ls (lv_sub hl [2, 3, 4, 5, 1, 0] rfl)
                · skip
                  have c_94 := k_ne_n (by omega) (by omega) c_94
                  refine lv_goto (tgt := 229) hx hb dX10_why_97 (by decide) ?_
                  refine lv_iinc (v := nI (S + 1)) (lv' := [(3, .int (nI (S + 1))), (0, .ref (q10 0)), (1, .int (nI p1)), (2, .int (mstF ml nx p1))]) hx hb dX10_why_229 hl (k := 3) rfl (nI_add _ _) (by decide) rfl (fun ls hl => ?_)
                  refine lv_goto (tgt := 78) hx hb dX10_why_232 (by decide) ?_
                  exact ih_78 _ (by omega) (by omega) (by rw [hs, show 2 ^ n - S = (2 ^ n - (S + 1)) + 1 by omega]; exact srch_no (wb_f (tb_mod.mpr c_94))) (by omega) _ _ hP hD hS ls (lv_sub hl [1, 2, 3, 0] rfl)
          exact hL_78 _ 1 (Nat.le_refl _) (by omega) rfl (Nat.lt_succ_self _) _ _ hP hD hS ls (lv_sub hl [1, 2, 3, 0] rfl)
        · skip
          have c_25 := k_ge_n (by omega) (by omega) c_25
          obtain ⟨hx1, hx2, hx3⟩ := hV.2.2.2.2.2.1 _ (nx_mem c_25)
          refine lv_iload_n hx hb dX10_why_28 rfl (lv_at hl 2 rfl) ?_
          refine lv_aload_n hx hb dX10_why_29 rfl (lv_at hl 0 rfl) ?_
          refine k_get (ci := 10) (v := .ref (q10 1)) (C := RX10) (Tb := TX10) (N := 18) hx hb hts hu_10 hown hKW hP 0 rfl rfl 0 (by decide) hf_7 rfl rfl dX10_why_30 ?_
          refine lv_sipush (v := nI 491) hx hb dX10_why_33 (by decide) ?_
          refine lv_iconst (v := nI 2) hx hb dX10_why_36 (by decide) ?_
          refine lv_iload_n hx hb dX10_why_37 rfl (lv_at hl 3 rfl) ?_
          refine k_imul hx hb dX10_why_38 ?_
          refine k_iadd hx hb dX10_why_39 ?_
          refine k_iald (n := 600) (i := 491 + (2 * k)) hx hb hKW hP 1 0 rfl rfl (by omega) (by omega) dX10_why_40 ?_
          refine k_top (y := nI ((nx.getD k (0, 0)).1)) ((hR.2.2.2.2.2.2.2.2.2 k c_25).1) ?_
          refine lv_iload_n hx hb dX10_why_41 rfl (lv_at hl 1 rfl) ?_
          refine lv_icmp_eq (tgt := 63) hx hb dX10_why_42 (by decide) (fun c_42 => ?_) (fun c_42 => ?_)
          · skip
            have c_42 := k_eq (by omega) (by omega) c_42
            refine lv_iconst (v := nI 2) hx hb dX10_why_63 (by decide) ?_
            refine lv_goto (tgt := 68) hx hb dX10_why_64 (by decide) ?_
            refine lv_iadd hx hb dX10_why_68 ?_
            refine lv_istore_n (lv' := [(2, .int (v + (nI 2))), (0, .ref (q10 0)), (1, .int (nI p1)), (3, .int (nI k))]) hx hb dX10_why_69 rfl hl (by decide) rfl (fun ls hl => ?_)
            refine lv_iinc (v := nI (k + 1)) (lv' := [(3, .int (nI (k + 1))), (2, .int (v + (nI 2))), (0, .ref (q10 0)), (1, .int (nI p1))]) hx hb dX10_why_70 hl (k := 3) rfl (nI_add _ _) (by decide) rfl (fun ls hl => ?_)
            refine lv_goto (tgt := 18) hx hb dX10_why_73 (by decide) ?_
            exact ih_18 _ _ (by omega) (by rw [lsQ_take _ c_25, ← Int32.add_assoc, ← hv, if_pos (Or.inl c_42)]) (by omega) _ _ hP hD hS ls (lv_sub hl [2, 3, 1, 0] rfl)
          · skip
            have c_42 := k_eq_n (by omega) (by omega) c_42
            refine lv_aload_n hx hb dX10_why_45 rfl (lv_at hl 0 rfl) ?_
            refine k_get (ci := 10) (v := .ref (q10 1)) (C := RX10) (Tb := TX10) (N := 18) hx hb hts hu_10 hown hKW hP 0 rfl rfl 0 (by decide) hf_7 rfl rfl dX10_why_46 ?_
            refine lv_sipush (v := nI 491) hx hb dX10_why_49 (by decide) ?_
            refine lv_iconst (v := nI 2) hx hb dX10_why_52 (by decide) ?_
            refine lv_iload_n hx hb dX10_why_53 rfl (lv_at hl 3 rfl) ?_
            refine k_imul hx hb dX10_why_54 ?_
            refine k_iadd hx hb dX10_why_55 ?_
            refine lv_iconst (v := nI 1) hx hb dX10_why_56 (by decide) ?_
            refine k_iadd hx hb dX10_why_57 ?_
            refine k_iald (n := 600) (i := (491 + (2 * k)) + 1) hx hb hKW hP 1 0 rfl rfl (by omega) (by omega) dX10_why_58 ?_
            refine k_top (y := nI ((nx.getD k (0, 0)).2)) ((hR.2.2.2.2.2.2.2.2.2 k c_25).2) ?_
            refine lv_iload_n hx hb dX10_why_59 rfl (lv_at hl 1 rfl) ?_
            refine lv_icmp_ne (tgt := 67) hx hb dX10_why_60 (by decide) (fun c_60 => ?_) (fun c_60 => ?_)
            · skip
              have c_60 := k_ne (by omega) (by omega) c_60
              refine lv_iconst (v := nI 0) hx hb dX10_why_67 (by decide) ?_
              refine lv_iadd hx hb dX10_why_68 ?_
              refine lv_istore_n (lv' := [(2, .int (v + (nI 0))), (0, .ref (q10 0)), (1, .int (nI p1)), (3, .int (nI k))]) hx hb dX10_why_69 rfl hl (by decide) rfl (fun ls hl => ?_)
              refine lv_iinc (v := nI (k + 1)) (lv' := [(3, .int (nI (k + 1))), (2, .int (v + (nI 0))), (0, .ref (q10 0)), (1, .int (nI p1))]) hx hb dX10_why_70 hl (k := 3) rfl (nI_add _ _) (by decide) rfl (fun ls hl => ?_)
              refine lv_goto (tgt := 18) hx hb dX10_why_73 (by decide) ?_
              exact ih_18 _ _ (by omega) (by rw [lsQ_take _ c_25, ← Int32.add_assoc, ← hv, if_neg (by omega)]) (by omega) _ _ hP hD hS ls (lv_sub hl [2, 3, 1, 0] rfl)
            · skip
              have c_60 := k_ne_n (by omega) (by omega) c_60
              refine lv_iconst (v := nI 2) hx hb dX10_why_63 (by decide) ?_
              refine lv_goto (tgt := 68) hx hb dX10_why_64 (by decide) ?_
              refine lv_iadd hx hb dX10_why_68 ?_
              refine lv_istore_n (lv' := [(2, .int (v + (nI 2))), (0, .ref (q10 0)), (1, .int (nI p1)), (3, .int (nI k))]) hx hb dX10_why_69 rfl hl (by decide) rfl (fun ls hl => ?_)
              refine lv_iinc (v := nI (k + 1)) (lv' := [(3, .int (nI (k + 1))), (2, .int (v + (nI 2))), (0, .ref (q10 0)), (1, .int (nI p1))]) hx hb dX10_why_70 hl (k := 3) rfl (nI_add _ _) (by decide) rfl (fun ls hl => ?_)
              refine lv_goto (tgt := 18) hx hb dX10_why_73 (by decide) ?_
              exact ih_18 _ _ (by omega) (by rw [lsQ_take _ c_25, ← Int32.add_assoc, ← hv, if_pos (Or.inr c_60)]) (by omega) _ _ hP hD hS ls (lv_sub hl [2, 3, 1, 0] rfl)
    exact hL_18 _ 0 _ (Nat.zero_le _) ((Int32.add_zero _).symm) (Nat.lt_succ_self _) _ _ hP hD hS ls (lv_sub hl [2, 3, 1, 0] rfl)
  · skip
    have c_5 := k_b0 c_5
    refine lv_iconst (v := (-1)) hx hb dX10_why_8 (by decide) ?_
    subst hQ; subst hAe
    exact W.iret (v := (-1)) hx hb hr (fun t ht _ => ⟨⟨(-1), (), rfl, (if_neg c_5).symm, by rw [ht]; exact hP, hD⟩, hS.F ht⟩) hS.2.2 dX10_why_9
