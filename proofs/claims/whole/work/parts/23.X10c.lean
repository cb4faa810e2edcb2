def rmX10_overOf : Room := { frames := 1, cells := 0, slots := 0, locals := 21 }
set_option maxHeartbeats 4000000 in
set_option maxRecDepth 100000 in
theorem c_X10_overOf (l : Launch) (D : va_G) (cI cJ cB : ClassId) (q10 : Nat → Nat) (st_10 : Nat → Int32) (kept_10 : Nat → Int32) (undoable_10 : Int32) (newest_10 : Int32) (tape_10 : Nat → Int32) (taped_10 : Int32) (marks_10 : Nat → Int32) (order_10 : Nat → Int32) (reach_10 : Nat → Int32) (heapOf_10 : Nat → Int32) (rows_10 : Nat → Int64) (x_10 : Nat → Int64) (overs_10 : Nat → Int32) (costs_10 : Nat → Int32) (ways_10 : Nat → Int32) (digits_10 : Nat → Int32) (beaten_10 : Nat → Int32) (walks_10 : Nat → Int32) (n : Nat) (ml : List Mt) (nx : List (Nat × Nat)) (ks : List Nat) (rr : Int32 × Int32 × Int32) (a : Nat) (b : Nat) (hR : RS st_10 n ml nx ks rr) (hV : VS n ml nx ks) (ha : a < 10) (hb2 : b < 10) : ∀ sz, Met l yX10_overOf wsX10_overOf rmX10_overOf (va_Pc [.ref (q10 0), .int (nI a), .int (nI b)] (PW D (kT cI cJ cB) sz (wX10 q10 cI cJ cB st_10 kept_10 undoable_10 newest_10 tape_10 taped_10 marks_10 order_10 reach_10 heapOf_10 rows_10 x_10 overs_10 costs_10 ways_10 digits_10 beaten_10 walks_10))) (va_Qi (S := Unit) (fun r _ => r = nI (ov ml a b)) (QW D sz (wX10 q10 cI cJ cB st_10 kept_10 undoable_10 newest_10 tape_10 taped_10 marks_10 order_10 reach_10 heapOf_10 rows_10 x_10 overs_10 costs_10 ways_10 digits_10 beaten_10 walks_10) (fun _ => (wX10 q10 cI cJ cB st_10 kept_10 undoable_10 newest_10 tape_10 taped_10 marks_10 order_10 reach_10 heapOf_10 rows_10 x_10 overs_10 costs_10 ways_10 digits_10 beaten_10 walks_10))) (va_A (wX10 q10 cI cJ cB st_10 kept_10 undoable_10 newest_10 tape_10 taped_10 marks_10 order_10 reach_10 heapOf_10 rows_10 x_10 overs_10 costs_10 ways_10 digits_10 beaten_10 walks_10) sz)) 0 0 (va_A (wX10 q10 cI cJ cB st_10 kept_10 undoable_10 newest_10 tape_10 taped_10 marks_10 order_10 reach_10 heapOf_10 rows_10 x_10 overs_10 costs_10 ways_10 digits_10 beaten_10 walks_10) sz) := by
  intro sz
  refine Met.ofW (cc := cX10_overOf) (maxL := 5) (ret := (some .int)) (by decide) rfl ?_
  intro p e s m args below meth c s₁ B hml hv
  obtain ⟨hav, hsz, hP, hKW, hD0⟩ := hv
  have hx := B.exec
  have hb := B.bytes
  have hr := B.returns
  have hts := atoms_spec (ws := wsX10_overOf) B.pre
  have hown : s.vm.findClass RX10 = some m.cls := findClass_of_methodNamed B.named
  have hlocks := B.notSynchronized
  subst hsz
  have hD := hD0.self (sz := s.heap.size)
  obtain ⟨A, hAe⟩ : ∃ A : Nat → Prop, A = va_A (wX10 q10 cI cJ cB st_10 kept_10 undoable_10 newest_10 tape_10 taped_10 marks_10 order_10 reach_10 heapOf_10 rows_10 x_10 overs_10 costs_10 ways_10 digits_10 beaten_10 walks_10) s.heap.size := ⟨_, rfl⟩
  rw [← hAe] at hD
  have hA : ∀ q : Nat, s.heap.size ≤ q → A q := fun q h => by rw [hAe]; exact Or.inr h
  have hS : va_S A s.heap s.heap [] := va_S.rf
  refine k_gen (fun Q hQ => ?_)
  have hl := lv_entry ([.ref (q10 0), .int (nI a), .int (nI b)]) (n := 5) (Nat.le_of_ble_eq_true rfl)
  refine k_entry hav (lg_entry_eq ..) ?_
  generalize (lg_sl ([.ref (q10 0), .int (nI a), .int (nI b)]) ++ List.replicate (5 - (lg_sl ([.ref (q10 0), .int (nI a), .int (nI b)])).length) Slot.unset).toArray = ls at hl ⊢
  have hl : lv_has ls 5 [(0, .ref (q10 0)), (1, .int (nI a)), (2, .int (nI b))] := hl
  have hu_10 : ∀ w ∈ u_ws RX10 TX10 18, w ∈ wsX10_overOf := by decide +kernel
  have hf_7 : Cond.fieldLink RX10 7 "MeetingRanksModel" "st" "[I" ∈ wsX10_overOf := by decide +kernel
  have hn1 := hV.1
  have hn10 := hV.2.1
  have hm120 := hV.2.2.1
  have hx40 := hV.2.2.2.2.1
  have hk4 := hV.2.2.2.2.2.2.1
  refine lv_iconst (v := nI 0) hx hb dX10_overOf_0 (by decide) ?_
  refine lv_istore_n (lv' := [(3, .int (nI 0)), (0, .ref (q10 0)), (1, .int (nI a)), (2, .int (nI b))]) hx hb dX10_overOf_1 rfl hl (by decide) rfl (fun ls hl => ?_)
  refine lv_iconst (v := nI 0) hx hb dX10_overOf_2 (by decide) ?_
  refine lv_istore (lv' := [(4, .int (nI 0)), (3, .int (nI 0)), (0, .ref (q10 0)), (1, .int (nI a)), (2, .int (nI b))]) hx hb dX10_overOf_3 hl (by decide) rfl (fun ls hl => ?_)
  have hL_5 : ∀ (fu : Nat) (k : Nat) (v : Nat) (hk : k ≤ ml.length) (hv : v = lsN (ovX a b) (ml.take k)), ml.length - k < fu → ∀ (H : Heap) (locs : List Loc), va_P D vwCl (wX10 q10 cI cJ cB st_10 kept_10 undoable_10 newest_10 tape_10 taped_10 marks_10 order_10 reach_10 heapOf_10 rows_10 x_10 overs_10 costs_10 ways_10 digits_10 beaten_10 walks_10) H → va_D A (wX10 q10 cI cJ cB st_10 kept_10 undoable_10 newest_10 tape_10 taped_10 marks_10 order_10 reach_10 heapOf_10 rows_10 x_10 overs_10 costs_10 ways_10 digits_10 beaten_10 walks_10) → va_S A s.heap H locs → ∀ (ls : Array Slot), lv_has ls 5 [(0, .ref (q10 0)), (1, .int (nI a)), (2, .int (nI b)), (3, .int (nI v)), (4, .int (nI k))] → W p l e (headSpec wsX10_overOf rmX10_overOf).room s m args below meth c H locs 0 0 Q (F0 m 5 ls []) := by
    intro fu
    induction fu with
    | zero => intro k v hk hv hfu; exact absurd hfu (Nat.not_lt_zero _)
    | succ fu ih_5 =>
      intro k v hk hv hfu H locs hP hD hS ls hl
      refine lv_iload hx hb dX10_overOf_5 (lv_at hl 4 rfl) ?_
      refine lv_aload_n hx hb dX10_overOf_7 rfl (lv_at hl 0 rfl) ?_
      refine k_get (ci := 10) (v := .ref (q10 1)) (C := RX10) (Tb := TX10) (N := 18) hx hb hts hu_10 hown hKW hP 0 rfl rfl 0 (by decide) hf_7 rfl rfl dX10_overOf_8 ?_
      refine lv_iconst (v := nI 1) hx hb dX10_overOf_11 (by decide) ?_
      refine k_iald (n := 600) (i := 1) hx hb hKW hP 1 0 rfl rfl (by omega) (by omega) dX10_overOf_12 ?_
      refine k_top (y := nI ml.length) (hR.2.1) ?_
      refine lv_icmp_ge (tgt := 88) hx hb dX10_overOf_13 (by decide) (fun c_13 => ?_) (fun c_13 => ?_)
      · skip
        have c_13 := k_ge (by omega) (by omega) c_13
        obtain rfl : k = ml.length := by omega
        refine lv_iload_n hx hb dX10_overOf_88 rfl (lv_at hl 3 rfl) ?_
        subst hQ; subst hAe
        exact W.iret (v := nI v) hx hb hr (fun t ht _ => ⟨⟨nI v, (), rfl, by rw [hv, List.take_length], by rw [ht]; exact hP, hD⟩, hS.F ht⟩) hS.2.2 dX10_overOf_89
      · skip
        have c_13 := k_ge_n (by omega) (by omega) c_13
        obtain ⟨hx1, hx2, hx3, hx4, hx5⟩ := hV.m c_13
        have hJ_80 : ∀ (z : Nat) (hz : z = ovX a b (mg ml k)), ∀ (H : Heap) (locs : List Loc), va_P D vwCl (wX10 q10 cI cJ cB st_10 kept_10 undoable_10 newest_10 tape_10 taped_10 marks_10 order_10 reach_10 heapOf_10 rows_10 x_10 overs_10 costs_10 ways_10 digits_10 beaten_10 walks_10) H → va_D A (wX10 q10 cI cJ cB st_10 kept_10 undoable_10 newest_10 tape_10 taped_10 marks_10 order_10 reach_10 heapOf_10 rows_10 x_10 overs_10 costs_10 ways_10 digits_10 beaten_10 walks_10) → va_S A s.heap H locs → ∀ (ls : Array Slot), lv_has ls 5 [(0, .ref (q10 0)), (1, .int (nI a)), (2, .int (nI b)), (3, .int (nI v)), (4, .int (nI k))] → W p l e (headSpec wsX10_overOf rmX10_overOf).room s m args below meth c H locs 0 0 Q (F0 m 80 ls [.int (nI z), .int (nI v)]) := by
          intro z hz H locs hP hD hS ls hl
          refine k_iadd hx hb dX10_overOf_80 ?_
          refine lv_istore_n (lv' := [(3, .int (nI (v + z))), (0, .ref (q10 0)), (1, .int (nI a)), (2, .int (nI b)), (4, .int (nI k))]) hx hb dX10_overOf_81 rfl hl (by decide) rfl (fun ls hl => ?_)
          refine lv_iinc (v := nI (k + 1)) (lv' := [(4, .int (nI (k + 1))), (3, .int (nI (v + z))), (0, .ref (q10 0)), (1, .int (nI a)), (2, .int (nI b))]) hx hb dX10_overOf_82 hl (k := 4) rfl (nI_add _ _) (by decide) rfl (fun ls hl => ?_)
          refine lv_goto (tgt := 5) hx hb dX10_overOf_85 (by decide) ?_
          exact ih_5 _ _ (by omega) (by rw [lsN_take _ c_13, ← hv, hz]) (by omega) _ _ hP hD hS ls (lv_sub hl [2, 3, 4, 1, 0] rfl)
        refine lv_iload_n hx hb dX10_overOf_16 rfl (lv_at hl 3 rfl) ?_
        refine lv_aload_n hx hb dX10_overOf_17 rfl (lv_at hl 0 rfl) ?_
        refine lv_iload hx hb dX10_overOf_18 (lv_at hl 4 rfl) ?_
        have hs_20 : kSplit (wX10 q10 cI cJ cB st_10 kept_10 undoable_10 newest_10 tape_10 taped_10 marks_10 order_10 reach_10 heapOf_10 rows_10 x_10 overs_10 costs_10 ways_10 digits_10 beaten_10 walks_10) (wX10 q10 cI cJ cB st_10 kept_10 undoable_10 newest_10 tape_10 taped_10 marks_10 order_10 reach_10 heapOf_10 rows_10 x_10 overs_10 costs_10 ways_10 digits_10 beaten_10 walks_10) ([] : va_W) [0, 1, 2, 3, 4, 5, 6, 7, 8, 9, 10, 11, 12, 13, 14, 15] [] := ⟨rfl, rfl, rfl, rfl, rfl, by decide⟩
        refine kc_i hP hD hS hA hs_20 (kV (As := [.int (nI k)]) (rest := [.int (nI v)]) hx hb hml hown hts hKW hP hD hs_20 (c_X10_one l D cI cJ cB q10 st_10 kept_10 undoable_10 newest_10 tape_10 taped_10 marks_10 order_10 reach_10 heapOf_10 rows_10 x_10 overs_10 costs_10 ways_10 digits_10 beaten_10 walks_10 n ml nx ks rr k (by first | assumption | omega) (by first | assumption | omega) (by first | assumption | omega)) (cwV 1 hts gX10_overOf_X10_one rfl rfl rfl (by decide +kernel) ⟨Nat.le_of_ble_eq_true rfl, Nat.le_of_ble_eq_true rfl⟩) 0 10 rfl rfl rfl rfl hl.1 rfl (Nat.le_of_ble_eq_true rfl) dX10_overOf_20 ⟨Nat.zero_le _, Nat.zero_le _⟩) (fun r_20 u_20 H locs hw_20 hP hD hS => ?_)
        have er_20 := hw_20
        subst er_20
        have hP : va_P D vwCl (wX10 q10 cI cJ cB st_10 kept_10 undoable_10 newest_10 tape_10 taped_10 marks_10 order_10 reach_10 heapOf_10 rows_10 x_10 overs_10 costs_10 ways_10 digits_10 beaten_10 walks_10) H := hP.sub (ws' := (wX10 q10 cI cJ cB st_10 kept_10 undoable_10 newest_10 tape_10 taped_10 marks_10 order_10 reach_10 heapOf_10 rows_10 x_10 overs_10 costs_10 ways_10 digits_10 beaten_10 walks_10)) [0, 1, 2, 3, 4, 5, 6, 7, 8, 9, 10, 11, 12, 13, 14, 15] rfl
        have hD : va_D A (wX10 q10 cI cJ cB st_10 kept_10 undoable_10 newest_10 tape_10 taped_10 marks_10 order_10 reach_10 heapOf_10 rows_10 x_10 overs_10 costs_10 ways_10 digits_10 beaten_10 walks_10) := hD.sub (ws' := (wX10 q10 cI cJ cB st_10 kept_10 undoable_10 newest_10 tape_10 taped_10 marks_10 order_10 reach_10 heapOf_10 rows_10 x_10 overs_10 costs_10 ways_10 digits_10 beaten_10 walks_10)) [0, 1, 2, 3, 4, 5, 6, 7, 8, 9, 10, 11, 12, 13, 14, 15] (by decide) rfl
        refine lv_iload_n hx hb dX10_overOf_23 rfl (lv_at hl 1 rfl) ?_
        refine lv_icmp_ne (tgt := 46) hx hb dX10_overOf_24 (by decide) (fun c_24 => ?_) (fun c_24 => ?_)
        · skip
          have c_24 := k_ne (by omega) (by omega) c_24
          refine lv_aload_n hx hb dX10_overOf_46 rfl (lv_at hl 0 rfl) ?_
          refine lv_iload hx hb dX10_overOf_47 (lv_at hl 4 rfl) ?_
          have hs_49 : kSplit (wX10 q10 cI cJ cB st_10 kept_10 undoable_10 newest_10 tape_10 taped_10 marks_10 order_10 reach_10 heapOf_10 rows_10 x_10 overs_10 costs_10 ways_10 digits_10 beaten_10 walks_10) (wX10 q10 cI cJ cB st_10 kept_10 undoable_10 newest_10 tape_10 taped_10 marks_10 order_10 reach_10 heapOf_10 rows_10 x_10 overs_10 costs_10 ways_10 digits_10 beaten_10 walks_10) ([] : va_W) [0, 1, 2, 3, 4, 5, 6, 7, 8, 9, 10, 11, 12, 13, 14, 15] [] := ⟨rfl, rfl, rfl, rfl, rfl, by decide⟩
          refine kc_i hP hD hS hA hs_49 (kV (As := [.int (nI k)]) (rest := [.int (nI v)]) hx hb hml hown hts hKW hP hD hs_49 (c_X10_one l D cI cJ cB q10 st_10 kept_10 undoable_10 newest_10 tape_10 taped_10 marks_10 order_10 reach_10 heapOf_10 rows_10 x_10 overs_10 costs_10 ways_10 digits_10 beaten_10 walks_10 n ml nx ks rr k (by first | assumption | omega) (by first | assumption | omega) (by first | assumption | omega)) (cwV 1 hts gX10_overOf_X10_one rfl rfl rfl (by decide +kernel) ⟨Nat.le_of_ble_eq_true rfl, Nat.le_of_ble_eq_true rfl⟩) 0 10 rfl rfl rfl rfl hl.1 rfl (Nat.le_of_ble_eq_true rfl) dX10_overOf_49 ⟨Nat.zero_le _, Nat.zero_le _⟩) (fun r_49 u_49 H locs hw_49 hP hD hS => ?_)
          have er_49 := hw_49
          subst er_49
          have hP : va_P D vwCl (wX10 q10 cI cJ cB st_10 kept_10 undoable_10 newest_10 tape_10 taped_10 marks_10 order_10 reach_10 heapOf_10 rows_10 x_10 overs_10 costs_10 ways_10 digits_10 beaten_10 walks_10) H := hP.sub (ws' := (wX10 q10 cI cJ cB st_10 kept_10 undoable_10 newest_10 tape_10 taped_10 marks_10 order_10 reach_10 heapOf_10 rows_10 x_10 overs_10 costs_10 ways_10 digits_10 beaten_10 walks_10)) [0, 1, 2, 3, 4, 5, 6, 7, 8, 9, 10, 11, 12, 13, 14, 15] rfl
          have hD : va_D A (wX10 q10 cI cJ cB st_10 kept_10 undoable_10 newest_10 tape_10 taped_10 marks_10 order_10 reach_10 heapOf_10 rows_10 x_10 overs_10 costs_10 ways_10 digits_10 beaten_10 walks_10) := hD.sub (ws' := (wX10 q10 cI cJ cB st_10 kept_10 undoable_10 newest_10 tape_10 taped_10 marks_10 order_10 reach_10 heapOf_10 rows_10 x_10 overs_10 costs_10 ways_10 digits_10 beaten_10 walks_10)) [0, 1, 2, 3, 4, 5, 6, 7, 8, 9, 10, 11, 12, 13, 14, 15] (by decide) rfl
          refine lv_iload_n hx hb dX10_overOf_52 rfl (lv_at hl 2 rfl) ?_
          refine lv_icmp_ne (tgt := 79) hx hb dX10_overOf_53 (by decide) (fun c_53 => ?_) (fun c_53 => ?_)
          · skip
            have c_53 := k_ne (by omega) (by omega) c_53
            refine lv_iconst (v := nI 0) hx hb dX10_overOf_79 (by decide) ?_
            exact hJ_80 _ (by unfold ovX; first | (rw [if_pos (Or.inl ⟨c_24, c_34, c_43⟩)]; done) | (rw [if_pos (Or.inr ⟨c_53, c_63, c_72⟩)]; done) | (rw [if_neg]; rintro (⟨z1, z2, z3⟩ | ⟨z1, z2, z3⟩) <;> omega)) H locs hP hD hS ls (lv_sub hl [0, 1, 2, 3, 4] rfl)
          · skip
            have c_53 := k_ne_n (by omega) (by omega) c_53
            refine lv_aload_n hx hb dX10_overOf_56 rfl (lv_at hl 0 rfl) ?_
            refine lv_iload hx hb dX10_overOf_57 (lv_at hl 4 rfl) ?_
            have hs_59 : kSplit (wX10 q10 cI cJ cB st_10 kept_10 undoable_10 newest_10 tape_10 taped_10 marks_10 order_10 reach_10 heapOf_10 rows_10 x_10 overs_10 costs_10 ways_10 digits_10 beaten_10 walks_10) (wX10 q10 cI cJ cB st_10 kept_10 undoable_10 newest_10 tape_10 taped_10 marks_10 order_10 reach_10 heapOf_10 rows_10 x_10 overs_10 costs_10 ways_10 digits_10 beaten_10 walks_10) ([] : va_W) [0, 1, 2, 3, 4, 5, 6, 7, 8, 9, 10, 11, 12, 13, 14, 15] [] := ⟨rfl, rfl, rfl, rfl, rfl, by decide⟩
            refine kc_i hP hD hS hA hs_59 (kV (As := [.int (nI k)]) (rest := [.int (nI v)]) hx hb hml hown hts hKW hP hD hs_59 (c_X10_two l D cI cJ cB q10 st_10 kept_10 undoable_10 newest_10 tape_10 taped_10 marks_10 order_10 reach_10 heapOf_10 rows_10 x_10 overs_10 costs_10 ways_10 digits_10 beaten_10 walks_10 n ml nx ks rr k (by first | assumption | omega) (by first | assumption | omega) (by first | assumption | omega)) (cwV 1 hts gX10_overOf_X10_two rfl rfl rfl (by decide +kernel) ⟨Nat.le_of_ble_eq_true rfl, Nat.le_of_ble_eq_true rfl⟩) 0 10 rfl rfl rfl rfl hl.1 rfl (Nat.le_of_ble_eq_true rfl) dX10_overOf_59 ⟨Nat.zero_le _, Nat.zero_le _⟩) (fun r_59 u_59 H locs hw_59 hP hD hS => ?_)
            have er_59 := hw_59
            subst er_59
            have hP : va_P D vwCl (wX10 q10 cI cJ cB st_10 kept_10 undoable_10 newest_10 tape_10 taped_10 marks_10 order_10 reach_10 heapOf_10 rows_10 x_10 overs_10 costs_10 ways_10 digits_10 beaten_10 walks_10) H := hP.sub (ws' := (wX10 q10 cI cJ cB st_10 kept_10 undoable_10 newest_10 tape_10 taped_10 marks_10 order_10 reach_10 heapOf_10 rows_10 x_10 overs_10 costs_10 ways_10 digits_10 beaten_10 walks_10)) [0, 1, 2, 3, 4, 5, 6, 7, 8, 9, 10, 11, 12, 13, 14, 15] rfl
            have hD : va_D A (wX10 q10 cI cJ cB st_10 kept_10 undoable_10 newest_10 tape_10 taped_10 marks_10 order_10 reach_10 heapOf_10 rows_10 x_10 overs_10 costs_10 ways_10 digits_10 beaten_10 walks_10) := hD.sub (ws' := (wX10 q10 cI cJ cB st_10 kept_10 undoable_10 newest_10 tape_10 taped_10 marks_10 order_10 reach_10 heapOf_10 rows_10 x_10 overs_10 costs_10 ways_10 digits_10 beaten_10 walks_10)) [0, 1, 2, 3, 4, 5, 6, 7, 8, 9, 10, 11, 12, 13, 14, 15] (by decide) rfl
            refine lv_iload_n hx hb dX10_overOf_62 rfl (lv_at hl 1 rfl) ?_
            refine lv_icmp_ne (tgt := 79) hx hb dX10_overOf_63 (by decide) (fun c_63 => ?_) (fun c_63 => ?_)
            · skip
              have c_63 := k_ne (by omega) (by omega) c_63
              refine lv_iconst (v := nI 0) hx hb dX10_overOf_79 (by decide) ?_
              exact hJ_80 _ (by unfold ovX; first | (rw [if_pos (Or.inl ⟨c_24, c_34, c_43⟩)]; done) | (rw [if_pos (Or.inr ⟨c_53, c_63, c_72⟩)]; done) | (rw [if_neg]; rintro (⟨z1, z2, z3⟩ | ⟨z1, z2, z3⟩) <;> omega)) H locs hP hD hS ls (lv_sub hl [0, 1, 2, 3, 4] rfl)
            · skip
              have c_63 := k_ne_n (by omega) (by omega) c_63
              refine lv_aload_n hx hb dX10_overOf_66 rfl (lv_at hl 0 rfl) ?_
              refine lv_iload hx hb dX10_overOf_67 (lv_at hl 4 rfl) ?_
              have hs_69 : kSplit (wX10 q10 cI cJ cB st_10 kept_10 undoable_10 newest_10 tape_10 taped_10 marks_10 order_10 reach_10 heapOf_10 rows_10 x_10 overs_10 costs_10 ways_10 digits_10 beaten_10 walks_10) (wX10 q10 cI cJ cB st_10 kept_10 undoable_10 newest_10 tape_10 taped_10 marks_10 order_10 reach_10 heapOf_10 rows_10 x_10 overs_10 costs_10 ways_10 digits_10 beaten_10 walks_10) ([] : va_W) [0, 1, 2, 3, 4, 5, 6, 7, 8, 9, 10, 11, 12, 13, 14, 15] [] := ⟨rfl, rfl, rfl, rfl, rfl, by decide⟩
              refine kc_i hP hD hS hA hs_69 (kV (As := [.int (nI k)]) (rest := [.int (nI v)]) hx hb hml hown hts hKW hP hD hs_69 (c_X10_more l D cI cJ cB q10 st_10 kept_10 undoable_10 newest_10 tape_10 taped_10 marks_10 order_10 reach_10 heapOf_10 rows_10 x_10 overs_10 costs_10 ways_10 digits_10 beaten_10 walks_10 n ml nx ks rr k (by first | assumption | omega) (by first | assumption | omega) (by first | assumption | omega)) (cwV 1 hts gX10_overOf_X10_more rfl rfl rfl (by decide +kernel) ⟨Nat.le_of_ble_eq_true rfl, Nat.le_of_ble_eq_true rfl⟩) 0 10 rfl rfl rfl rfl hl.1 rfl (Nat.le_of_ble_eq_true rfl) dX10_overOf_69 ⟨Nat.zero_le _, Nat.zero_le _⟩) (fun r_69 u_69 H locs hw_69 hP hD hS => ?_)
              have er_69 := hw_69
              subst er_69
              have hP : va_P D vwCl (wX10 q10 cI cJ cB st_10 kept_10 undoable_10 newest_10 tape_10 taped_10 marks_10 order_10 reach_10 heapOf_10 rows_10 x_10 overs_10 costs_10 ways_10 digits_10 beaten_10 walks_10) H := hP.sub (ws' := (wX10 q10 cI cJ cB st_10 kept_10 undoable_10 newest_10 tape_10 taped_10 marks_10 order_10 reach_10 heapOf_10 rows_10 x_10 overs_10 costs_10 ways_10 digits_10 beaten_10 walks_10)) [0, 1, 2, 3, 4, 5, 6, 7, 8, 9, 10, 11, 12, 13, 14, 15] rfl
              have hD : va_D A (wX10 q10 cI cJ cB st_10 kept_10 undoable_10 newest_10 tape_10 taped_10 marks_10 order_10 reach_10 heapOf_10 rows_10 x_10 overs_10 costs_10 ways_10 digits_10 beaten_10 walks_10) := hD.sub (ws' := (wX10 q10 cI cJ cB st_10 kept_10 undoable_10 newest_10 tape_10 taped_10 marks_10 order_10 reach_10 heapOf_10 rows_10 x_10 overs_10 costs_10 ways_10 digits_10 beaten_10 walks_10)) [0, 1, 2, 3, 4, 5, 6, 7, 8, 9, 10, 11, 12, 13, 14, 15] (by decide) rfl
              refine lv_if_ge (tgt := 79) hx hb dX10_overOf_72 (by decide) (fun c_72 => ?_) (fun c_72 => ?_)
              · skip
                have c_72 := mo_ge (by omega) (by omega) c_72
                refine lv_iconst (v := nI 0) hx hb dX10_overOf_79 (by decide) ?_
                exact hJ_80 _ (by unfold ovX; first | (rw [if_pos (Or.inl ⟨c_24, c_34, c_43⟩)]; done) | (rw [if_pos (Or.inr ⟨c_53, c_63, c_72⟩)]; done) | (rw [if_neg]; rintro (⟨z1, z2, z3⟩ | ⟨z1, z2, z3⟩) <;> omega)) H locs hP hD hS ls (lv_sub hl [0, 1, 2, 3, 4] rfl)
              · skip
                have c_72 := mo_ge_n (by omega) (by omega) c_72
                refine lv_iconst (v := nI 1) hx hb dX10_overOf_75 (by decide) ?_
                refine lv_goto (tgt := 80) hx hb dX10_overOf_76 (by decide) ?_
                exact hJ_80 _ (by unfold ovX; first | (rw [if_pos (Or.inl ⟨c_24, c_34, c_43⟩)]; done) | (rw [if_pos (Or.inr ⟨c_53, c_63, c_72⟩)]; done) | (rw [if_neg]; rintro (⟨z1, z2, z3⟩ | ⟨z1, z2, z3⟩) <;> omega)) H locs hP hD hS ls (lv_sub hl [0, 1, 2, 3, 4] rfl)
        · skip
          have c_24 := k_ne_n (by omega) (by omega) c_24
          refine lv_aload_n hx hb dX10_overOf_27 rfl (lv_at hl 0 rfl) ?_
          refine lv_iload hx hb dX10_overOf_28 (lv_at hl 4 rfl) ?_
          have hs_30 : kSplit (wX10 q10 cI cJ cB st_10 kept_10 undoable_10 newest_10 tape_10 taped_10 marks_10 order_10 reach_10 heapOf_10 rows_10 x_10 overs_10 costs_10 ways_10 digits_10 beaten_10 walks_10) (wX10 q10 cI cJ cB st_10 kept_10 undoable_10 newest_10 tape_10 taped_10 marks_10 order_10 reach_10 heapOf_10 rows_10 x_10 overs_10 costs_10 ways_10 digits_10 beaten_10 walks_10) ([] : va_W) [0, 1, 2, 3, 4, 5, 6, 7, 8, 9, 10, 11, 12, 13, 14, 15] [] := ⟨rfl, rfl, rfl, rfl, rfl, by decide⟩
          refine kc_i hP hD hS hA hs_30 (kV (As := [.int (nI k)]) (rest := [.int (nI v)]) hx hb hml hown hts hKW hP hD hs_30 (c_X10_two l D cI cJ cB q10 st_10 kept_10 undoable_10 newest_10 tape_10 taped_10 marks_10 order_10 reach_10 heapOf_10 rows_10 x_10 overs_10 costs_10 ways_10 digits_10 beaten_10 walks_10 n ml nx ks rr k (by first | assumption | omega) (by first | assumption | omega) (by first | assumption | omega)) (cwV 1 hts gX10_overOf_X10_two rfl rfl rfl (by decide +kernel) ⟨Nat.le_of_ble_eq_true rfl, Nat.le_of_ble_eq_true rfl⟩) 0 10 rfl rfl rfl rfl hl.1 rfl (Nat.le_of_ble_eq_true rfl) dX10_overOf_30 ⟨Nat.zero_le _, Nat.zero_le _⟩) (fun r_30 u_30 H locs hw_30 hP hD hS => ?_)
          have er_30 := hw_30
          subst er_30
          have hP : va_P D vwCl (wX10 q10 cI cJ cB st_10 kept_10 undoable_10 newest_10 tape_10 taped_10 marks_10 order_10 reach_10 heapOf_10 rows_10 x_10 overs_10 costs_10 ways_10 digits_10 beaten_10 walks_10) H := hP.sub (ws' := (wX10 q10 cI cJ cB st_10 kept_10 undoable_10 newest_10 tape_10 taped_10 marks_10 order_10 reach_10 heapOf_10 rows_10 x_10 overs_10 costs_10 ways_10 digits_10 beaten_10 walks_10)) [0, 1, 2, 3, 4, 5, 6, 7, 8, 9, 10, 11, 12, 13, 14, 15] rfl
          have hD : va_D A (wX10 q10 cI cJ cB st_10 kept_10 undoable_10 newest_10 tape_10 taped_10 marks_10 order_10 reach_10 heapOf_10 rows_10 x_10 overs_10 costs_10 ways_10 digits_10 beaten_10 walks_10) := hD.sub (ws' := (wX10 q10 cI cJ cB st_10 kept_10 undoable_10 newest_10 tape_10 taped_10 marks_10 order_10 reach_10 heapOf_10 rows_10 x_10 overs_10 costs_10 ways_10 digits_10 beaten_10 walks_10)) [0, 1, 2, 3, 4, 5, 6, 7, 8, 9, 10, 11, 12, 13, 14, 15] (by decide) rfl
          refine lv_iload_n hx hb dX10_overOf_33 rfl (lv_at hl 2 rfl) ?_
          refine lv_icmp_ne (tgt := 46) hx hb dX10_overOf_34 (by decide) (fun c_34 => ?_) (fun c_34 => ?_)
          · skip
            have c_34 := k_ne (by omega) (by omega) c_34
            refine lv_aload_n hx hb dX10_overOf_46 rfl (lv_at hl 0 rfl) ?_
            refine lv_iload hx hb dX10_overOf_47 (lv_at hl 4 rfl) ?_
            have hs_49 : kSplit (wX10 q10 cI cJ cB st_10 kept_10 undoable_10 newest_10 tape_10 taped_10 marks_10 order_10 reach_10 heapOf_10 rows_10 x_10 overs_10 costs_10 ways_10 digits_10 beaten_10 walks_10) (wX10 q10 cI cJ cB st_10 kept_10 undoable_10 newest_10 tape_10 taped_10 marks_10 order_10 reach_10 heapOf_10 rows_10 x_10 overs_10 costs_10 ways_10 digits_10 beaten_10 walks_10) ([] : va_W) [0, 1, 2, 3, 4, 5, 6, 7, 8, 9, 10, 11, 12, 13, 14, 15] [] := ⟨rfl, rfl, rfl, rfl, rfl, by decide⟩
            refine kc_i hP hD hS hA hs_49 (kV (As := [.int (nI k)]) (rest := [.int (nI v)]) hx hb hml hown hts hKW hP hD hs_49 (c_X10_one l D cI cJ cB q10 st_10 kept_10 undoable_10 newest_10 tape_10 taped_10 marks_10 order_10 reach_10 heapOf_10 rows_10 x_10 overs_10 costs_10 ways_10 digits_10 beaten_10 walks_10 n ml nx ks rr k (by first | assumption | omega) (by first | assumption | omega) (by first | assumption | omega)) (cwV 1 hts gX10_overOf_X10_one rfl rfl rfl (by decide +kernel) ⟨Nat.le_of_ble_eq_true rfl, Nat.le_of_ble_eq_true rfl⟩) 0 10 rfl rfl rfl rfl hl.1 rfl (Nat.le_of_ble_eq_true rfl) dX10_overOf_49 ⟨Nat.zero_le _, Nat.zero_le _⟩) (fun r_49 u_49 H locs hw_49 hP hD hS => ?_)
            have er_49 := hw_49
            subst er_49
            have hP : va_P D vwCl (wX10 q10 cI cJ cB st_10 kept_10 undoable_10 newest_10 tape_10 taped_10 marks_10 order_10 reach_10 heapOf_10 rows_10 x_10 overs_10 costs_10 ways_10 digits_10 beaten_10 walks_10) H := hP.sub (ws' := (wX10 q10 cI cJ cB st_10 kept_10 undoable_10 newest_10 tape_10 taped_10 marks_10 order_10 reach_10 heapOf_10 rows_10 x_10 overs_10 costs_10 ways_10 digits_10 beaten_10 walks_10)) [0, 1, 2, 3, 4, 5, 6, 7, 8, 9, 10, 11, 12, 13, 14, 15] rfl
            have hD : va_D A (wX10 q10 cI cJ cB st_10 kept_10 undoable_10 newest_10 tape_10 taped_10 marks_10 order_10 reach_10 heapOf_10 rows_10 x_10 overs_10 costs_10 ways_10 digits_10 beaten_10 walks_10) := hD.sub (ws' := (wX10 q10 cI cJ cB st_10 kept_10 undoable_10 newest_10 tape_10 taped_10 marks_10 order_10 reach_10 heapOf_10 rows_10 x_10 overs_10 costs_10 ways_10 digits_10 beaten_10 walks_10)) [0, 1, 2, 3, 4, 5, 6, 7, 8, 9, 10, 11, 12, 13, 14, 15] (by decide) rfl
            refine lv_iload_n hx hb dX10_overOf_52 rfl (lv_at hl 2 rfl) ?_
            refine lv_icmp_ne (tgt := 79) hx hb dX10_overOf_53 (by decide) (fun c_53 => ?_) (fun c_53 => ?_)
            · skip
              have c_53 := k_ne (by omega) (by omega) c_53
              refine lv_iconst (v := nI 0) hx hb dX10_overOf_79 (by decide) ?_
              exact hJ_80 _ (by unfold ovX; first | (rw [if_pos (Or.inl ⟨c_24, c_34, c_43⟩)]; done) | (rw [if_pos (Or.inr ⟨c_53, c_63, c_72⟩)]; done) | (rw [if_neg]; rintro (⟨z1, z2, z3⟩ | ⟨z1, z2, z3⟩) <;> omega)) H locs hP hD hS ls (lv_sub hl [0, 1, 2, 3, 4] rfl)
            · skip
              have c_53 := k_ne_n (by omega) (by omega) c_53
              refine lv_aload_n hx hb dX10_overOf_56 rfl (lv_at hl 0 rfl) ?_
              refine lv_iload hx hb dX10_overOf_57 (lv_at hl 4 rfl) ?_
              have hs_59 : kSplit (wX10 q10 cI cJ cB st_10 kept_10 undoable_10 newest_10 tape_10 taped_10 marks_10 order_10 reach_10 heapOf_10 rows_10 x_10 overs_10 costs_10 ways_10 digits_10 beaten_10 walks_10) (wX10 q10 cI cJ cB st_10 kept_10 undoable_10 newest_10 tape_10 taped_10 marks_10 order_10 reach_10 heapOf_10 rows_10 x_10 overs_10 costs_10 ways_10 digits_10 beaten_10 walks_10) ([] : va_W) [0, 1, 2, 3, 4, 5, 6, 7, 8, 9, 10, 11, 12, 13, 14, 15] [] := ⟨rfl, rfl, rfl, rfl, rfl, by decide⟩
              refine kc_i hP hD hS hA hs_59 (kV (As := [.int (nI k)]) (rest := [.int (nI v)]) hx hb hml hown hts hKW hP hD hs_59 (c_X10_two l D cI cJ cB q10 st_10 kept_10 undoable_10 newest_10 tape_10 taped_10 marks_10 order_10 reach_10 heapOf_10 rows_10 x_10 overs_10 costs_10 ways_10 digits_10 beaten_10 walks_10 n ml nx ks rr k (by first | assumption | omega) (by first | assumption | omega) (by first | assumption | omega)) (cwV 1 hts gX10_overOf_X10_two rfl rfl rfl (by decide +kernel) ⟨Nat.le_of_ble_eq_true rfl, Nat.le_of_ble_eq_true rfl⟩) 0 10 rfl rfl rfl rfl hl.1 rfl (Nat.le_of_ble_eq_true rfl) dX10_overOf_59 ⟨Nat.zero_le _, Nat.zero_le _⟩) (fun r_59 u_59 H locs hw_59 hP hD hS => ?_)
              have er_59 := hw_59
              subst er_59
              have hP : va_P D vwCl (wX10 q10 cI cJ cB st_10 kept_10 undoable_10 newest_10 tape_10 taped_10 marks_10 order_10 reach_10 heapOf_10 rows_10 x_10 overs_10 costs_10 ways_10 digits_10 beaten_10 walks_10) H := hP.sub (ws' := (wX10 q10 cI cJ cB st_10 kept_10 undoable_10 newest_10 tape_10 taped_10 marks_10 order_10 reach_10 heapOf_10 rows_10 x_10 overs_10 costs_10 ways_10 digits_10 beaten_10 walks_10)) [0, 1, 2, 3, 4, 5, 6, 7, 8, 9, 10, 11, 12, 13, 14, 15] rfl
              have hD : va_D A (wX10 q10 cI cJ cB st_10 kept_10 undoable_10 newest_10 tape_10 taped_10 marks_10 order_10 reach_10 heapOf_10 rows_10 x_10 overs_10 costs_10 ways_10 digits_10 beaten_10 walks_10) := hD.sub (ws' := (wX10 q10 cI cJ cB st_10 kept_10 undoable_10 newest_10 tape_10 taped_10 marks_10 order_10 reach_10 heapOf_10 rows_10 x_10 overs_10 costs_10 ways_10 digits_10 beaten_10 walks_10)) [0, 1, 2, 3, 4, 5, 6, 7, 8, 9, 10, 11, 12, 13, 14, 15] (by decide) rfl
              refine lv_iload_n hx hb dX10_overOf_62 rfl (lv_at hl 1 rfl) ?_
              refine lv_icmp_ne (tgt := 79) hx hb dX10_overOf_63 (by decide) (fun c_63 => ?_) (fun c_63 => ?_)
              · skip
                have c_63 := k_ne (by omega) (by omega) c_63
                refine lv_iconst (v := nI 0) hx hb dX10_overOf_79 (by decide) ?_
                exact hJ_80 _ (by unfold ovX; first | (rw [if_pos (Or.inl ⟨c_24, c_34, c_43⟩)]; done) | (rw [if_pos (Or.inr ⟨c_53, c_63, c_72⟩)]; done) | (rw [if_neg]; rintro (⟨z1, z2, z3⟩ | ⟨z1, z2, z3⟩) <;> omega)) H locs hP hD hS ls (lv_sub hl [0, 1, 2, 3, 4] rfl)
              · skip
                have c_63 := k_ne_n (by omega) (by omega) c_63
                refine lv_aload_n hx hb dX10_overOf_66 rfl (lv_at hl 0 rfl) ?_
                refine lv_iload hx hb dX10_overOf_67 (lv_at hl 4 rfl) ?_
                have hs_69 : kSplit (wX10 q10 cI cJ cB st_10 kept_10 undoable_10 newest_10 tape_10 taped_10 marks_10 order_10 reach_10 heapOf_10 rows_10 x_10 overs_10 costs_10 ways_10 digits_10 beaten_10 walks_10) (wX10 q10 cI cJ cB st_10 kept_10 undoable_10 newest_10 tape_10 taped_10 marks_10 order_10 reach_10 heapOf_10 rows_10 x_10 overs_10 costs_10 ways_10 digits_10 beaten_10 walks_10) ([] : va_W) [0, 1, 2, 3, 4, 5, 6, 7, 8, 9, 10, 11, 12, 13, 14, 15] [] := ⟨rfl, rfl, rfl, rfl, rfl, by decide⟩
                refine kc_i hP hD hS hA hs_69 (kV (As := [.int (nI k)]) (rest := [.int (nI v)]) hx hb hml hown hts hKW hP hD hs_69 (c_X10_more l D cI cJ cB q10 st_10 kept_10 undoable_10 newest_10 tape_10 taped_10 marks_10 order_10 reach_10 heapOf_10 rows_10 x_10 overs_10 costs_10 ways_10 digits_10 beaten_10 walks_10 n ml nx ks rr k (by first | assumption | omega) (by first | assumption | omega) (by first | assumption | omega)) (cwV 1 hts gX10_overOf_X10_more rfl rfl rfl (by decide +kernel) ⟨Nat.le_of_ble_eq_true rfl, Nat.le_of_ble_eq_true rfl⟩) 0 10 rfl rfl rfl rfl hl.1 rfl (Nat.le_of_ble_eq_true rfl) dX10_overOf_69 ⟨Nat.zero_le _, Nat.zero_le _⟩) (fun r_69 u_69 H locs hw_69 hP hD hS => ?_)
                have er_69 := hw_69
                subst er_69
                have hP : va_P D vwCl (wX10 q10 cI cJ cB st_10 kept_10 undoable_10 newest_10 tape_10 taped_10 marks_10 order_10 reach_10 heapOf_10 rows_10 x_10 overs_10 costs_10 ways_10 digits_10 beaten_10 walks_10) H := hP.sub (ws' := (wX10 q10 cI cJ cB st_10 kept_10 undoable_10 newest_10 tape_10 taped_10 marks_10 order_10 reach_10 heapOf_10 rows_10 x_10 overs_10 costs_10 ways_10 digits_10 beaten_10 walks_10)) [0, 1, 2, 3, 4, 5, 6, 7, 8, 9, 10, 11, 12, 13, 14, 15] rfl
                have hD : va_D A (wX10 q10 cI cJ cB st_10 kept_10 undoable_10 newest_10 tape_10 taped_10 marks_10 order_10 reach_10 heapOf_10 rows_10 x_10 overs_10 costs_10 ways_10 digits_10 beaten_10 walks_10) := hD.sub (ws' := (wX10 q10 cI cJ cB st_10 kept_10 undoable_10 newest_10 tape_10 taped_10 marks_10 order_10 reach_10 heapOf_10 rows_10 x_10 overs_10 costs_10 ways_10 digits_10 beaten_10 walks_10)) [0, 1, 2, 3, 4, 5, 6, 7, 8, 9, 10, 11, 12, 13, 14, 15] (by decide) rfl
                refine lv_if_ge (tgt := 79) hx hb dX10_overOf_72 (by decide) (fun c_72 => ?_) (fun c_72 => ?_)
                · skip
                  have c_72 := mo_ge (by omega) (by omega) c_72
                  refine lv_iconst (v := nI 0) hx hb dX10_overOf_79 (by decide) ?_
                  exact hJ_80 _ (by unfold ovX; first | (rw [if_pos (Or.inl ⟨c_24, c_34, c_43⟩)]; done) | (rw [if_pos (Or.inr ⟨c_53, c_63, c_72⟩)]; done) | (rw [if_neg]; rintro (⟨z1, z2, z3⟩ | ⟨z1, z2, z3⟩) <;> omega)) H locs hP hD hS ls (lv_sub hl [0, 1, 2, 3, 4] rfl)
                · skip
                  have c_72 := mo_ge_n (by omega) (by omega) c_72
                  refine lv_iconst (v := nI 1) hx hb dX10_overOf_75 (by decide) ?_
                  refine lv_goto (tgt := 80) hx hb dX10_overOf_76 (by decide) ?_
                  exact hJ_80 _ (by unfold ovX; first | (rw [if_pos (Or.inl ⟨c_24, c_34, c_43⟩)]; done) | (rw [if_pos (Or.inr ⟨c_53, c_63, c_72⟩)]; done) | (rw [if_neg]; rintro (⟨z1, z2, z3⟩ | ⟨z1, z2, z3⟩) <;> omega)) H locs hP hD hS ls (lv_sub hl [0, 1, 2, 3, 4] rfl)
          · skip
            have c_34 := k_ne_n (by omega) (by omega) c_34
            refine lv_aload_n hx hb dX10_overOf_37 rfl (lv_at hl 0 rfl) ?_
            refine lv_iload hx hb dX10_overOf_38 (lv_at hl 4 rfl) ?_
            have hs_40 : kSplit (wX10 q10 cI cJ cB st_10 kept_10 undoable_10 newest_10 tape_10 taped_10 marks_10 order_10 reach_10 heapOf_10 rows_10 x_10 overs_10 costs_10 ways_10 digits_10 beaten_10 walks_10) (wX10 q10 cI cJ cB st_10 kept_10 undoable_10 newest_10 tape_10 taped_10 marks_10 order_10 reach_10 heapOf_10 rows_10 x_10 overs_10 costs_10 ways_10 digits_10 beaten_10 walks_10) ([] : va_W) [0, 1, 2, 3, 4, 5, 6, 7, 8, 9, 10, 11, 12, 13, 14, 15] [] := ⟨rfl, rfl, rfl, rfl, rfl, by decide⟩
            refine kc_i hP hD hS hA hs_40 (kV (As := [.int (nI k)]) (rest := [.int (nI v)]) hx hb hml hown hts hKW hP hD hs_40 (c_X10_more l D cI cJ cB q10 st_10 kept_10 undoable_10 newest_10 tape_10 taped_10 marks_10 order_10 reach_10 heapOf_10 rows_10 x_10 overs_10 costs_10 ways_10 digits_10 beaten_10 walks_10 n ml nx ks rr k (by first | assumption | omega) (by first | assumption | omega) (by first | assumption | omega)) (cwV 1 hts gX10_overOf_X10_more rfl rfl rfl (by decide +kernel) ⟨Nat.le_of_ble_eq_true rfl, Nat.le_of_ble_eq_true rfl⟩) 0 10 rfl rfl rfl rfl hl.1 rfl (Nat.le_of_ble_eq_true rfl) dX10_overOf_40 ⟨Nat.zero_le _, Nat.zero_le _⟩) (fun r_40 u_40 H locs hw_40 hP hD hS => ?_)
            have er_40 := hw_40
            subst er_40
            have hP : va_P D vwCl (wX10 q10 cI cJ cB st_10 kept_10 undoable_10 newest_10 tape_10 taped_10 marks_10 order_10 reach_10 heapOf_10 rows_10 x_10 overs_10 costs_10 ways_10 digits_10 beaten_10 walks_10) H := hP.sub (ws' := (wX10 q10 cI cJ cB st_10 kept_10 undoable_10 newest_10 tape_10 taped_10 marks_10 order_10 reach_10 heapOf_10 rows_10 x_10 overs_10 costs_10 ways_10 digits_10 beaten_10 walks_10)) [0, 1, 2, 3, 4, 5, 6, 7, 8, 9, 10, 11, 12, 13, 14, 15] rfl
            have hD : va_D A (wX10 q10 cI cJ cB st_10 kept_10 undoable_10 newest_10 tape_10 taped_10 marks_10 order_10 reach_10 heapOf_10 rows_10 x_10 overs_10 costs_10 ways_10 digits_10 beaten_10 walks_10) := hD.sub (ws' := (wX10 q10 cI cJ cB st_10 kept_10 undoable_10 newest_10 tape_10 taped_10 marks_10 order_10 reach_10 heapOf_10 rows_10 x_10 overs_10 costs_10 ways_10 digits_10 beaten_10 walks_10)) [0, 1, 2, 3, 4, 5, 6, 7, 8, 9, 10, 11, 12, 13, 14, 15] (by decide) rfl
            refine lv_if_gt (tgt := 75) hx hb dX10_overOf_43 (by decide) (fun c_43 => ?_) (fun c_43 => ?_)
            · skip
              have c_43 := mo_gt (by omega) (by omega) c_43
              refine lv_iconst (v := nI 1) hx hb dX10_overOf_75 (by decide) ?_
              refine lv_goto (tgt := 80) hx hb dX10_overOf_76 (by decide) ?_
              exact hJ_80 _ (by unfold ovX; first | (rw [if_pos (Or.inl ⟨c_24, c_34, c_43⟩)]; done) | (rw [if_pos (Or.inr ⟨c_53, c_63, c_72⟩)]; done) | (rw [if_neg]; rintro (⟨z1, z2, z3⟩ | ⟨z1, z2, z3⟩) <;> omega)) H locs hP hD hS ls (lv_sub hl [0, 1, 2, 3, 4] rfl)
            · skip
              have c_43 := mo_gt_n (by omega) (by omega) c_43
              refine lv_aload_n hx hb dX10_overOf_46 rfl (lv_at hl 0 rfl) ?_
              refine lv_iload hx hb dX10_overOf_47 (lv_at hl 4 rfl) ?_
              have hs_49 : kSplit (wX10 q10 cI cJ cB st_10 kept_10 undoable_10 newest_10 tape_10 taped_10 marks_10 order_10 reach_10 heapOf_10 rows_10 x_10 overs_10 costs_10 ways_10 digits_10 beaten_10 walks_10) (wX10 q10 cI cJ cB st_10 kept_10 undoable_10 newest_10 tape_10 taped_10 marks_10 order_10 reach_10 heapOf_10 rows_10 x_10 overs_10 costs_10 ways_10 digits_10 beaten_10 walks_10) ([] : va_W) [0, 1, 2, 3, 4, 5, 6, 7, 8, 9, 10, 11, 12, 13, 14, 15] [] := ⟨rfl, rfl, rfl, rfl, rfl, by decide⟩
              refine kc_i hP hD hS hA hs_49 (kV (As := [.int (nI k)]) (rest := [.int (nI v)]) hx hb hml hown hts hKW hP hD hs_49 (c_X10_one l D cI cJ cB q10 st_10 kept_10 undoable_10 newest_10 tape_10 taped_10 marks_10 order_10 reach_10 heapOf_10 rows_10 x_10 overs_10 costs_10 ways_10 digits_10 beaten_10 walks_10 n ml nx ks rr k (by first | assumption | omega) (by first | assumption | omega) (by first | assumption | omega)) (cwV 1 hts gX10_overOf_X10_one rfl rfl rfl (by decide +kernel) ⟨Nat.le_of_ble_eq_true rfl, Nat.le_of_ble_eq_true rfl⟩) 0 10 rfl rfl rfl rfl hl.1 rfl (Nat.le_of_ble_eq_true rfl) dX10_overOf_49 ⟨Nat.zero_le _, Nat.zero_le _⟩) (fun r_49 u_49 H locs hw_49 hP hD hS => ?_)
              have er_49 := hw_49
              subst er_49
              have hP : va_P D vwCl (wX10 q10 cI cJ cB st_10 kept_10 undoable_10 newest_10 tape_10 taped_10 marks_10 order_10 reach_10 heapOf_10 rows_10 x_10 overs_10 costs_10 ways_10 digits_10 beaten_10 walks_10) H := hP.sub (ws' := (wX10 q10 cI cJ cB st_10 kept_10 undoable_10 newest_10 tape_10 taped_10 marks_10 order_10 reach_10 heapOf_10 rows_10 x_10 overs_10 costs_10 ways_10 digits_10 beaten_10 walks_10)) [0, 1, 2, 3, 4, 5, 6, 7, 8, 9, 10, 11, 12, 13, 14, 15] rfl
              have hD : va_D A (wX10 q10 cI cJ cB st_10 kept_10 undoable_10 newest_10 tape_10 taped_10 marks_10 order_10 reach_10 heapOf_10 rows_10 x_10 overs_10 costs_10 ways_10 digits_10 beaten_10 walks_10) := hD.sub (ws' := (wX10 q10 cI cJ cB st_10 kept_10 undoable_10 newest_10 tape_10 taped_10 marks_10 order_10 reach_10 heapOf_10 rows_10 x_10 overs_10 costs_10 ways_10 digits_10 beaten_10 walks_10)) [0, 1, 2, 3, 4, 5, 6, 7, 8, 9, 10, 11, 12, 13, 14, 15] (by decide) rfl
              refine lv_iload_n hx hb dX10_overOf_52 rfl (lv_at hl 2 rfl) ?_
              refine lv_icmp_ne (tgt := 79) hx hb dX10_overOf_53 (by decide) (fun c_53 => ?_) (fun c_53 => ?_)
              · skip
                have c_53 := k_ne (by omega) (by omega) c_53
                refine lv_iconst (v := nI 0) hx hb dX10_overOf_79 (by decide) ?_
                exact hJ_80 _ (by unfold ovX; first | (rw [if_pos (Or.inl ⟨c_24, c_34, c_43⟩)]; done) | (rw [if_pos (Or.inr ⟨c_53, c_63, c_72⟩)]; done) | (rw [if_neg]; rintro (⟨z1, z2, z3⟩ | ⟨z1, z2, z3⟩) <;> omega)) H locs hP hD hS ls (lv_sub hl [0, 1, 2, 3, 4] rfl)
              · skip
                have c_53 := k_ne_n (by omega) (by omega) c_53
                refine lv_aload_n hx hb dX10_overOf_56 rfl (lv_at hl 0 rfl) ?_
                refine lv_iload hx hb dX10_overOf_57 (lv_at hl 4 rfl) ?_
                have hs_59 : kSplit (wX10 q10 cI cJ cB st_10 kept_10 undoable_10 newest_10 tape_10 taped_10 marks_10 order_10 reach_10 heapOf_10 rows_10 x_10 overs_10 costs_10 ways_10 digits_10 beaten_10 walks_10) (wX10 q10 cI cJ cB st_10 kept_10 undoable_10 newest_10 tape_10 taped_10 marks_10 order_10 reach_10 heapOf_10 rows_10 x_10 overs_10 costs_10 ways_10 digits_10 beaten_10 walks_10) ([] : va_W) [0, 1, 2, 3, 4, 5, 6, 7, 8, 9, 10, 11, 12, 13, 14, 15] [] := ⟨rfl, rfl, rfl, rfl, rfl, by decide⟩
                refine kc_i hP hD hS hA hs_59 (kV (As := [.int (nI k)]) (rest := [.int (nI v)]) hx hb hml hown hts hKW hP hD hs_59 (c_X10_two l D cI cJ cB q10 st_10 kept_10 undoable_10 newest_10 tape_10 taped_10 marks_10 order_10 reach_10 heapOf_10 rows_10 x_10 overs_10 costs_10 ways_10 digits_10 beaten_10 walks_10 n ml nx ks rr k (by first | assumption | omega) (by first | assumption | omega) (by first | assumption | omega)) (cwV 1 hts gX10_overOf_X10_two rfl rfl rfl (by decide +kernel) ⟨Nat.le_of_ble_eq_true rfl, Nat.le_of_ble_eq_true rfl⟩) 0 10 rfl rfl rfl rfl hl.1 rfl (Nat.le_of_ble_eq_true rfl) dX10_overOf_59 ⟨Nat.zero_le _, Nat.zero_le _⟩) (fun r_59 u_59 H locs hw_59 hP hD hS => ?_)
                have er_59 := hw_59
                subst er_59
                have hP : va_P D vwCl (wX10 q10 cI cJ cB st_10 kept_10 undoable_10 newest_10 tape_10 taped_10 marks_10 order_10 reach_10 heapOf_10 rows_10 x_10 overs_10 costs_10 ways_10 digits_10 beaten_10 walks_10) H := hP.sub (ws' := (wX10 q10 cI cJ cB st_10 kept_10 undoable_10 newest_10 tape_10 taped_10 marks_10 order_10 reach_10 heapOf_10 rows_10 x_10 overs_10 costs_10 ways_10 digits_10 beaten_10 walks_10)) [0, 1, 2, 3, 4, 5, 6, 7, 8, 9, 10, 11, 12, 13, 14, 15] rfl
                have hD : va_D A (wX10 q10 cI cJ cB st_10 kept_10 undoable_10 newest_10 tape_10 taped_10 marks_10 order_10 reach_10 heapOf_10 rows_10 x_10 overs_10 costs_10 ways_10 digits_10 beaten_10 walks_10) := hD.sub (ws' := (wX10 q10 cI cJ cB st_10 kept_10 undoable_10 newest_10 tape_10 taped_10 marks_10 order_10 reach_10 heapOf_10 rows_10 x_10 overs_10 costs_10 ways_10 digits_10 beaten_10 walks_10)) [0, 1, 2, 3, 4, 5, 6, 7, 8, 9, 10, 11, 12, 13, 14, 15] (by decide) rfl
                refine lv_iload_n hx hb dX10_overOf_62 rfl (lv_at hl 1 rfl) ?_
                refine lv_icmp_ne (tgt := 79) hx hb dX10_overOf_63 (by decide) (fun c_63 => ?_) (fun c_63 => ?_)
                · skip
                  have c_63 := k_ne (by omega) (by omega) c_63
                  refine lv_iconst (v := nI 0) hx hb dX10_overOf_79 (by decide) ?_
                  exact hJ_80 _ (by unfold ovX; first | (rw [if_pos (Or.inl ⟨c_24, c_34, c_43⟩)]; done) | (rw [if_pos (Or.inr ⟨c_53, c_63, c_72⟩)]; done) | (rw [if_neg]; rintro (⟨z1, z2, z3⟩ | ⟨z1, z2, z3⟩) <;> omega)) H locs hP hD hS ls (lv_sub hl [0, 1, 2, 3, 4] rfl)
                · skip
                  have c_63 := k_ne_n (by omega) (by omega) c_63
                  refine lv_aload_n hx hb dX10_overOf_66 rfl (lv_at hl 0 rfl) ?_
                  refine lv_iload hx hb dX10_overOf_67 (lv_at hl 4 rfl) ?_
                  have hs_69 : kSplit (wX10 q10 cI cJ cB st_10 kept_10 undoable_10 newest_10 tape_10 taped_10 marks_10 order_10 reach_10 heapOf_10 rows_10 x_10 overs_10 costs_10 ways_10 digits_10 beaten_10 walks_10) (wX10 q10 cI cJ cB st_10 kept_10 undoable_10 newest_10 tape_10 taped_10 marks_10 order_10 reach_10 heapOf_10 rows_10 x_10 overs_10 costs_10 ways_10 digits_10 beaten_10 walks_10) ([] : va_W) [0, 1, 2, 3, 4, 5, 6, 7, 8, 9, 10, 11, 12, 13, 14, 15] [] := ⟨rfl, rfl, rfl, rfl, rfl, by decide⟩
                  refine kc_i hP hD hS hA hs_69 (kV (As := [.int (nI k)]) (rest := [.int (nI v)]) hx hb hml hown hts hKW hP hD hs_69 (c_X10_more l D cI cJ cB q10 st_10 kept_10 undoable_10 newest_10 tape_10 taped_10 marks_10 order_10 reach_10 heapOf_10 rows_10 x_10 overs_10 costs_10 ways_10 digits_10 beaten_10 walks_10 n ml nx ks rr k (by first | assumption | omega) (by first | assumption | omega) (by first | assumption | omega)) (cwV 1 hts gX10_overOf_X10_more rfl rfl rfl (by decide +kernel) ⟨Nat.le_of_ble_eq_true rfl, Nat.le_of_ble_eq_true rfl⟩) 0 10 rfl rfl rfl rfl hl.1 rfl (Nat.le_of_ble_eq_true rfl) dX10_overOf_69 ⟨Nat.zero_le _, Nat.zero_le _⟩) (fun r_69 u_69 H locs hw_69 hP hD hS => ?_)
                  have er_69 := hw_69
                  subst er_69
                  have hP : va_P D vwCl (wX10 q10 cI cJ cB st_10 kept_10 undoable_10 newest_10 tape_10 taped_10 marks_10 order_10 reach_10 heapOf_10 rows_10 x_10 overs_10 costs_10 ways_10 digits_10 beaten_10 walks_10) H := hP.sub (ws' := (wX10 q10 cI cJ cB st_10 kept_10 undoable_10 newest_10 tape_10 taped_10 marks_10 order_10 reach_10 heapOf_10 rows_10 x_10 overs_10 costs_10 ways_10 digits_10 beaten_10 walks_10)) [0, 1, 2, 3, 4, 5, 6, 7, 8, 9, 10, 11, 12, 13, 14, 15] rfl
                  have hD : va_D A (wX10 q10 cI cJ cB st_10 kept_10 undoable_10 newest_10 tape_10 taped_10 marks_10 order_10 reach_10 heapOf_10 rows_10 x_10 overs_10 costs_10 ways_10 digits_10 beaten_10 walks_10) := hD.sub (ws' := (wX10 q10 cI cJ cB st_10 kept_10 undoable_10 newest_10 tape_10 taped_10 marks_10 order_10 reach_10 heapOf_10 rows_10 x_10 overs_10 costs_10 ways_10 digits_10 beaten_10 walks_10)) [0, 1, 2, 3, 4, 5, 6, 7, 8, 9, 10, 11, 12, 13, 14, 15] (by decide) rfl
                  refine lv_if_ge (tgt := 79) hx hb dX10_overOf_72 (by decide) (fun c_72 => ?_) (fun c_72 => ?_)
                  · skip
                    have c_72 := mo_ge (by omega) (by omega) c_72
                    refine lv_iconst (v := nI 0) hx hb dX10_overOf_79 (by decide) ?_
                    exact hJ_80 _ (by unfold ovX; first | (rw [if_pos (Or.inl ⟨c_24, c_34, c_43⟩)]; done) | (rw [if_pos (Or.inr ⟨c_53, c_63, c_72⟩)]; done) | (rw [if_neg]; rintro (⟨z1, z2, z3⟩ | ⟨z1, z2, z3⟩) <;> omega)) H locs hP hD hS ls (lv_sub hl [0, 1, 2, 3, 4] rfl)
                  · skip
                    have c_72 := mo_ge_n (by omega) (by omega) c_72
                    refine lv_iconst (v := nI 1) hx hb dX10_overOf_75 (by decide) ?_
                    refine lv_goto (tgt := 80) hx hb dX10_overOf_76 (by decide) ?_
                    exact hJ_80 _ (by unfold ovX; first | (rw [if_pos (Or.inl ⟨c_24, c_34, c_43⟩)]; done) | (rw [if_pos (Or.inr ⟨c_53, c_63, c_72⟩)]; done) | (rw [if_neg]; rintro (⟨z1, z2, z3⟩ | ⟨z1, z2, z3⟩) <;> omega)) H locs hP hD hS ls (lv_sub hl [0, 1, 2, 3, 4] rfl)
  exact hL_5 _ 0 0 (Nat.zero_le _) rfl (Nat.lt_succ_self _) _ _ hP hD hS ls (lv_sub hl [2, 3, 4, 1, 0] rfl)
def rmX10_over : Room := { frames := 2, cells := 0, slots := 0, locals := 45 }
set_option maxHeartbeats 4000000 in
set_option maxRecDepth 100000 in
theorem c_X10_over (l : Launch) (D : va_G) (cI cJ cB : ClassId) (q10 : Nat → Nat) (st_10 : Nat → Int32) (kept_10 : Nat → Int32) (undoable_10 : Int32) (newest_10 : Int32) (tape_10 : Nat → Int32) (taped_10 : Int32) (marks_10 : Nat → Int32) (order_10 : Nat → Int32) (reach_10 : Nat → Int32) (heapOf_10 : Nat → Int32) (rows_10 : Nat → Int64) (x_10 : Nat → Int64) (overs_10 : Nat → Int32) (costs_10 : Nat → Int32) (ways_10 : Nat → Int32) (digits_10 : Nat → Int32) (beaten_10 : Nat → Int32) (walks_10 : Nat → Int32) (n : Nat) (ml : List Mt) (nx : List (Nat × Nat)) (ks : List Nat) (rr : Int32 × Int32 × Int32) (a : Int32) (b : Int32) (hR : RS st_10 n ml nx ks rr) (hV : VS n ml nx ks) : ∀ sz, Met l yX10_over wsX10_over rmX10_over (va_Pc [.ref (q10 0), .int a, .int b] (PW D (kT cI cJ cB) sz (wX10 q10 cI cJ cB st_10 kept_10 undoable_10 newest_10 tape_10 taped_10 marks_10 order_10 reach_10 heapOf_10 rows_10 x_10 overs_10 costs_10 ways_10 digits_10 beaten_10 walks_10))) (va_Qi (S := Unit) (fun r _ => r = if kIn a n ∧ kIn b n ∧ ¬ a = b then nI (ov ml a.toInt.toNat b.toInt.toNat) else -1) (QW D sz (wX10 q10 cI cJ cB st_10 kept_10 undoable_10 newest_10 tape_10 taped_10 marks_10 order_10 reach_10 heapOf_10 rows_10 x_10 overs_10 costs_10 ways_10 digits_10 beaten_10 walks_10) (fun _ => (wX10 q10 cI cJ cB st_10 kept_10 undoable_10 newest_10 tape_10 taped_10 marks_10 order_10 reach_10 heapOf_10 rows_10 x_10 overs_10 costs_10 ways_10 digits_10 beaten_10 walks_10))) (va_A (wX10 q10 cI cJ cB st_10 kept_10 undoable_10 newest_10 tape_10 taped_10 marks_10 order_10 reach_10 heapOf_10 rows_10 x_10 overs_10 costs_10 ways_10 digits_10 beaten_10 walks_10) sz)) 0 0 (va_A (wX10 q10 cI cJ cB st_10 kept_10 undoable_10 newest_10 tape_10 taped_10 marks_10 order_10 reach_10 heapOf_10 rows_10 x_10 overs_10 costs_10 ways_10 digits_10 beaten_10 walks_10) sz) := by
  intro sz
  refine Met.ofW (cc := cX10_over) (maxL := 3) (ret := (some .int)) (by decide) rfl ?_
  intro p e s m args below meth c s₁ B hml hv
  obtain ⟨hav, hsz, hP, hKW, hD0⟩ := hv
  have hx := B.exec
  have hb := B.bytes
  have hr := B.returns
  have hts := atoms_spec (ws := wsX10_over) B.pre
  have hown : s.vm.findClass RX10 = some m.cls := findClass_of_methodNamed B.named
  have hlocks := B.notSynchronized
  subst hsz
  have hD := hD0.self (sz := s.heap.size)
  obtain ⟨A, hAe⟩ : ∃ A : Nat → Prop, A = va_A (wX10 q10 cI cJ cB st_10 kept_10 undoable_10 newest_10 tape_10 taped_10 marks_10 order_10 reach_10 heapOf_10 rows_10 x_10 overs_10 costs_10 ways_10 digits_10 beaten_10 walks_10) s.heap.size := ⟨_, rfl⟩
  rw [← hAe] at hD
  have hA : ∀ q : Nat, s.heap.size ≤ q → A q := fun q h => by rw [hAe]; exact Or.inr h
  have hS : va_S A s.heap s.heap [] := va_S.rf
  refine k_gen (fun Q hQ => ?_)
  have hl := lv_entry ([.ref (q10 0), .int a, .int b]) (n := 3) (Nat.le_of_ble_eq_true rfl)
  refine k_entry hav (lg_entry_eq ..) ?_
  generalize (lg_sl ([.ref (q10 0), .int a, .int b]) ++ List.replicate (3 - (lg_sl ([.ref (q10 0), .int a, .int b])).length) Slot.unset).toArray = ls at hl ⊢
  have hl : lv_has ls 3 [(0, .ref (q10 0)), (1, .int a), (2, .int b)] := hl
  have hn1 := hV.1
  have hn10 := hV.2.1
  have hm120 := hV.2.2.1
  have hx40 := hV.2.2.2.2.1
  have hk4 := hV.2.2.2.2.2.2.1
  refine lv_aload_n hx hb dX10_over_0 rfl (lv_at hl 0 rfl) ?_
  refine lv_iload_n hx hb dX10_over_1 rfl (lv_at hl 1 rfl) ?_
  have hs_2 : kSplit (wX10 q10 cI cJ cB st_10 kept_10 undoable_10 newest_10 tape_10 taped_10 marks_10 order_10 reach_10 heapOf_10 rows_10 x_10 overs_10 costs_10 ways_10 digits_10 beaten_10 walks_10) (wX10 q10 cI cJ cB st_10 kept_10 undoable_10 newest_10 tape_10 taped_10 marks_10 order_10 reach_10 heapOf_10 rows_10 x_10 overs_10 costs_10 ways_10 digits_10 beaten_10 walks_10) ([] : va_W) [0, 1, 2, 3, 4, 5, 6, 7, 8, 9, 10, 11, 12, 13, 14, 15] [] := ⟨rfl, rfl, rfl, rfl, rfl, by decide⟩
  refine kc_i hP hD hS hA hs_2 (kV (As := [.int a]) (rest := []) hx hb hml hown hts hKW hP hD hs_2 (c_X10_isPlayer l D cI cJ cB q10 st_10 kept_10 undoable_10 newest_10 tape_10 taped_10 marks_10 order_10 reach_10 heapOf_10 rows_10 x_10 overs_10 costs_10 ways_10 digits_10 beaten_10 walks_10 n ml nx ks rr a (by first | assumption | omega) (by first | assumption | omega)) (cwV 1 hts gX10_over_X10_isPlayer rfl rfl rfl (by decide +kernel) ⟨Nat.le_of_ble_eq_true rfl, Nat.le_of_ble_eq_true rfl⟩) 0 10 rfl rfl rfl rfl hl.1 rfl (Nat.le_of_ble_eq_true rfl) dX10_over_2 ⟨Nat.zero_le _, Nat.zero_le _⟩) (fun r_2 u_2 H locs hw_2 hP hD hS => ?_)
  have er_2 := hw_2
  subst er_2
  have hP : va_P D vwCl (wX10 q10 cI cJ cB st_10 kept_10 undoable_10 newest_10 tape_10 taped_10 marks_10 order_10 reach_10 heapOf_10 rows_10 x_10 overs_10 costs_10 ways_10 digits_10 beaten_10 walks_10) H := hP.sub (ws' := (wX10 q10 cI cJ cB st_10 kept_10 undoable_10 newest_10 tape_10 taped_10 marks_10 order_10 reach_10 heapOf_10 rows_10 x_10 overs_10 costs_10 ways_10 digits_10 beaten_10 walks_10)) [0, 1, 2, 3, 4, 5, 6, 7, 8, 9, 10, 11, 12, 13, 14, 15] rfl
  have hD : va_D A (wX10 q10 cI cJ cB st_10 kept_10 undoable_10 newest_10 tape_10 taped_10 marks_10 order_10 reach_10 heapOf_10 rows_10 x_10 overs_10 costs_10 ways_10 digits_10 beaten_10 walks_10) := hD.sub (ws' := (wX10 q10 cI cJ cB st_10 kept_10 undoable_10 newest_10 tape_10 taped_10 marks_10 order_10 reach_10 heapOf_10 rows_10 x_10 overs_10 costs_10 ways_10 digits_10 beaten_10 walks_10)) [0, 1, 2, 3, 4, 5, 6, 7, 8, 9, 10, 11, 12, 13, 14, 15] (by decide) rfl
  refine lv_if_eq (tgt := 30) hx hb dX10_over_5 (by decide) (fun c_5 => ?_) (fun c_5 => ?_)
  · skip
    have c_5 := k_b0 c_5
    refine lv_iconst (v := (-1)) hx hb dX10_over_30 (by decide) ?_
    subst hQ; subst hAe
    exact W.iret (v := (-1)) hx hb hr (fun t ht _ => ⟨⟨(-1), (), rfl, by first | (rw [if_pos hok, k_tt (by omega), k_tt (by omega)]; done) | exact (if_neg (fun z => by first | exact c_5 z.1 | exact c_13 z.2.1 | exact z.2.2 c_18)).symm, by rw [ht]; exact hP, hD⟩, hS.F ht⟩) hS.2.2 dX10_over_31
  · skip
    have c_5 := k_b1 c_5
    refine lv_aload_n hx hb dX10_over_8 rfl (lv_at hl 0 rfl) ?_
    refine lv_iload_n hx hb dX10_over_9 rfl (lv_at hl 2 rfl) ?_
    have hs_10 : kSplit (wX10 q10 cI cJ cB st_10 kept_10 undoable_10 newest_10 tape_10 taped_10 marks_10 order_10 reach_10 heapOf_10 rows_10 x_10 overs_10 costs_10 ways_10 digits_10 beaten_10 walks_10) (wX10 q10 cI cJ cB st_10 kept_10 undoable_10 newest_10 tape_10 taped_10 marks_10 order_10 reach_10 heapOf_10 rows_10 x_10 overs_10 costs_10 ways_10 digits_10 beaten_10 walks_10) ([] : va_W) [0, 1, 2, 3, 4, 5, 6, 7, 8, 9, 10, 11, 12, 13, 14, 15] [] := ⟨rfl, rfl, rfl, rfl, rfl, by decide⟩
    refine kc_i hP hD hS hA hs_10 (kV (As := [.int b]) (rest := []) hx hb hml hown hts hKW hP hD hs_10 (c_X10_isPlayer l D cI cJ cB q10 st_10 kept_10 undoable_10 newest_10 tape_10 taped_10 marks_10 order_10 reach_10 heapOf_10 rows_10 x_10 overs_10 costs_10 ways_10 digits_10 beaten_10 walks_10 n ml nx ks rr b (by first | assumption | omega) (by first | assumption | omega)) (cwV 1 hts gX10_over_X10_isPlayer rfl rfl rfl (by decide +kernel) ⟨Nat.le_of_ble_eq_true rfl, Nat.le_of_ble_eq_true rfl⟩) 0 10 rfl rfl rfl rfl hl.1 rfl (Nat.le_of_ble_eq_true rfl) dX10_over_10 ⟨Nat.zero_le _, Nat.zero_le _⟩) (fun r_10 u_10 H locs hw_10 hP hD hS => ?_)
    have er_10 := hw_10
    subst er_10
    have hP : va_P D vwCl (wX10 q10 cI cJ cB st_10 kept_10 undoable_10 newest_10 tape_10 taped_10 marks_10 order_10 reach_10 heapOf_10 rows_10 x_10 overs_10 costs_10 ways_10 digits_10 beaten_10 walks_10) H := hP.sub (ws' := (wX10 q10 cI cJ cB st_10 kept_10 undoable_10 newest_10 tape_10 taped_10 marks_10 order_10 reach_10 heapOf_10 rows_10 x_10 overs_10 costs_10 ways_10 digits_10 beaten_10 walks_10)) [0, 1, 2, 3, 4, 5, 6, 7, 8, 9, 10, 11, 12, 13, 14, 15] rfl
    have hD : va_D A (wX10 q10 cI cJ cB st_10 kept_10 undoable_10 newest_10 tape_10 taped_10 marks_10 order_10 reach_10 heapOf_10 rows_10 x_10 overs_10 costs_10 ways_10 digits_10 beaten_10 walks_10) := hD.sub (ws' := (wX10 q10 cI cJ cB st_10 kept_10 undoable_10 newest_10 tape_10 taped_10 marks_10 order_10 reach_10 heapOf_10 rows_10 x_10 overs_10 costs_10 ways_10 digits_10 beaten_10 walks_10)) [0, 1, 2, 3, 4, 5, 6, 7, 8, 9, 10, 11, 12, 13, 14, 15] (by decide) rfl
    refine lv_if_eq (tgt := 30) hx hb dX10_over_13 (by decide) (fun c_13 => ?_) (fun c_13 => ?_)
    · skip
      have c_13 := k_b0 c_13
      refine lv_iconst (v := (-1)) hx hb dX10_over_30 (by decide) ?_
      subst hQ; subst hAe
      exact W.iret (v := (-1)) hx hb hr (fun t ht _ => ⟨⟨(-1), (), rfl, by first | (rw [if_pos hok, k_tt (by omega), k_tt (by omega)]; done) | exact (if_neg (fun z => by first | exact c_5 z.1 | exact c_13 z.2.1 | exact z.2.2 c_18)).symm, by rw [ht]; exact hP, hD⟩, hS.F ht⟩) hS.2.2 dX10_over_31
    · skip
      have c_13 := k_b1 c_13
      refine lv_iload_n hx hb dX10_over_16 rfl (lv_at hl 1 rfl) ?_
      refine lv_iload_n hx hb dX10_over_17 rfl (lv_at hl 2 rfl) ?_
      refine lv_icmp_eq (tgt := 30) hx hb dX10_over_18 (by decide) (fun c_18 => ?_) (fun c_18 => ?_)
      · skip
        refine lv_iconst (v := (-1)) hx hb dX10_over_30 (by decide) ?_
        subst hQ; subst hAe
        exact W.iret (v := (-1)) hx hb hr (fun t ht _ => ⟨⟨(-1), (), rfl, by first | (rw [if_pos hok, k_tt (by omega), k_tt (by omega)]; done) | exact (if_neg (fun z => by first | exact c_5 z.1 | exact c_13 z.2.1 | exact z.2.2 c_18)).symm, by rw [ht]; exact hP, hD⟩, hS.F ht⟩) hS.2.2 dX10_over_31
      · skip
        have hok : kIn a n ∧ kIn b n ∧ ¬ a = b := ⟨c_5, c_13, c_18⟩
        obtain ⟨a, ha, rfl⟩ := kIn_nat c_5
        obtain ⟨b, hb2, rfl⟩ := kIn_nat c_13
        refine lv_aload_n hx hb dX10_over_21 rfl (lv_at hl 0 rfl) ?_
        refine lv_iload_n hx hb dX10_over_22 rfl (lv_at hl 1 rfl) ?_
        refine lv_iload_n hx hb dX10_over_23 rfl (lv_at hl 2 rfl) ?_
        have hs_24 : kSplit (wX10 q10 cI cJ cB st_10 kept_10 undoable_10 newest_10 tape_10 taped_10 marks_10 order_10 reach_10 heapOf_10 rows_10 x_10 overs_10 costs_10 ways_10 digits_10 beaten_10 walks_10) (wX10 q10 cI cJ cB st_10 kept_10 undoable_10 newest_10 tape_10 taped_10 marks_10 order_10 reach_10 heapOf_10 rows_10 x_10 overs_10 costs_10 ways_10 digits_10 beaten_10 walks_10) ([] : va_W) [0, 1, 2, 3, 4, 5, 6, 7, 8, 9, 10, 11, 12, 13, 14, 15] [] := ⟨rfl, rfl, rfl, rfl, rfl, by decide⟩
        refine kc_i hP hD hS hA hs_24 (kV (As := [.int (nI a), .int (nI b)]) (rest := []) hx hb hml hown hts hKW hP hD hs_24 (c_X10_overOf l D cI cJ cB q10 st_10 kept_10 undoable_10 newest_10 tape_10 taped_10 marks_10 order_10 reach_10 heapOf_10 rows_10 x_10 overs_10 costs_10 ways_10 digits_10 beaten_10 walks_10 n ml nx ks rr a b (by first | assumption | omega) (by first | assumption | omega) (by first | assumption | omega) (by first | assumption | omega)) (cwV 2 hts gX10_over_X10_overOf rfl rfl rfl (by decide +kernel) ⟨Nat.le_of_ble_eq_true rfl, Nat.le_of_ble_eq_true rfl⟩) 0 10 rfl rfl rfl rfl hl.1 rfl (Nat.le_of_ble_eq_true rfl) dX10_over_24 ⟨Nat.zero_le _, Nat.zero_le _⟩) (fun r_24 u_24 H locs hw_24 hP hD hS => ?_)
        have er_24 := hw_24
        subst er_24
        have hP : va_P D vwCl (wX10 q10 cI cJ cB st_10 kept_10 undoable_10 newest_10 tape_10 taped_10 marks_10 order_10 reach_10 heapOf_10 rows_10 x_10 overs_10 costs_10 ways_10 digits_10 beaten_10 walks_10) H := hP.sub (ws' := (wX10 q10 cI cJ cB st_10 kept_10 undoable_10 newest_10 tape_10 taped_10 marks_10 order_10 reach_10 heapOf_10 rows_10 x_10 overs_10 costs_10 ways_10 digits_10 beaten_10 walks_10)) [0, 1, 2, 3, 4, 5, 6, 7, 8, 9, 10, 11, 12, 13, 14, 15] rfl
        have hD : va_D A (wX10 q10 cI cJ cB st_10 kept_10 undoable_10 newest_10 tape_10 taped_10 marks_10 order_10 reach_10 heapOf_10 rows_10 x_10 overs_10 costs_10 ways_10 digits_10 beaten_10 walks_10) := hD.sub (ws' := (wX10 q10 cI cJ cB st_10 kept_10 undoable_10 newest_10 tape_10 taped_10 marks_10 order_10 reach_10 heapOf_10 rows_10 x_10 overs_10 costs_10 ways_10 digits_10 beaten_10 walks_10)) [0, 1, 2, 3, 4, 5, 6, 7, 8, 9, 10, 11, 12, 13, 14, 15] (by decide) rfl
        refine lv_goto (tgt := 31) hx hb dX10_over_27 (by decide) ?_
        subst hQ; subst hAe
        exact W.iret (v := nI (ov ml a b)) hx hb hr (fun t ht _ => ⟨⟨nI (ov ml a b), (), rfl, by first | (rw [if_pos hok, k_tt (by omega), k_tt (by omega)]; done) | exact (if_neg (fun z => by first | exact c_5 z.1 | exact c_13 z.2.1 | exact z.2.2 c_18)).symm, by rw [ht]; exact hP, hD⟩, hS.F ht⟩) hS.2.2 dX10_over_31
def rmX10_beats : Room := { frames := 2, cells := 0, slots := 0, locals := 45 }
set_option maxHeartbeats 4000000 in
set_option maxRecDepth 100000 in
theorem c_X10_beats (l : Launch) (D : va_G) (cI cJ cB : ClassId) (q10 : Nat → Nat) (st_10 : Nat → Int32) (kept_10 : Nat → Int32) (undoable_10 : Int32) (newest_10 : Int32) (tape_10 : Nat → Int32) (taped_10 : Int32) (marks_10 : Nat → Int32) (order_10 : Nat → Int32) (reach_10 : Nat → Int32) (heapOf_10 : Nat → Int32) (rows_10 : Nat → Int64) (x_10 : Nat → Int64) (overs_10 : Nat → Int32) (costs_10 : Nat → Int32) (ways_10 : Nat → Int32) (digits_10 : Nat → Int32) (beaten_10 : Nat → Int32) (walks_10 : Nat → Int32) (n : Nat) (ml : List Mt) (nx : List (Nat × Nat)) (ks : List Nat) (rr : Int32 × Int32 × Int32) (a : Nat) (b : Nat) (hR : RS st_10 n ml nx ks rr) (hV : VS n ml nx ks) (ha : a < 10) (hb2 : b < 10) : ∀ sz, Met l yX10_beats wsX10_beats rmX10_beats (va_Pc [.ref (q10 0), .int (nI a), .int (nI b)] (PW D (kT cI cJ cB) sz (wX10 q10 cI cJ cB st_10 kept_10 undoable_10 newest_10 tape_10 taped_10 marks_10 order_10 reach_10 heapOf_10 rows_10 x_10 overs_10 costs_10 ways_10 digits_10 beaten_10 walks_10))) (va_Qi (S := Unit) (fun r _ => r = if ov ml b a < ov ml a b then 1 else 0) (QW D sz (wX10 q10 cI cJ cB st_10 kept_10 undoable_10 newest_10 tape_10 taped_10 marks_10 order_10 reach_10 heapOf_10 rows_10 x_10 overs_10 costs_10 ways_10 digits_10 beaten_10 walks_10) (fun _ => (wX10 q10 cI cJ cB st_10 kept_10 undoable_10 newest_10 tape_10 taped_10 marks_10 order_10 reach_10 heapOf_10 rows_10 x_10 overs_10 costs_10 ways_10 digits_10 beaten_10 walks_10))) (va_A (wX10 q10 cI cJ cB st_10 kept_10 undoable_10 newest_10 tape_10 taped_10 marks_10 order_10 reach_10 heapOf_10 rows_10 x_10 overs_10 costs_10 ways_10 digits_10 beaten_10 walks_10) sz)) 0 0 (va_A (wX10 q10 cI cJ cB st_10 kept_10 undoable_10 newest_10 tape_10 taped_10 marks_10 order_10 reach_10 heapOf_10 rows_10 x_10 overs_10 costs_10 ways_10 digits_10 beaten_10 walks_10) sz) := by
  intro sz
  refine Met.ofW (cc := cX10_beats) (maxL := 3) (ret := (some .boolean)) (by decide) rfl ?_
  intro p e s m args below meth c s₁ B hml hv
  obtain ⟨hav, hsz, hP, hKW, hD0⟩ := hv
  have hx := B.exec
  have hb := B.bytes
  have hr := B.returns
  have hts := atoms_spec (ws := wsX10_beats) B.pre
  have hown : s.vm.findClass RX10 = some m.cls := findClass_of_methodNamed B.named
  have hlocks := B.notSynchronized
  subst hsz
  have hD := hD0.self (sz := s.heap.size)
  obtain ⟨A, hAe⟩ : ∃ A : Nat → Prop, A = va_A (wX10 q10 cI cJ cB st_10 kept_10 undoable_10 newest_10 tape_10 taped_10 marks_10 order_10 reach_10 heapOf_10 rows_10 x_10 overs_10 costs_10 ways_10 digits_10 beaten_10 walks_10) s.heap.size := ⟨_, rfl⟩
  rw [← hAe] at hD
  have hA : ∀ q : Nat, s.heap.size ≤ q → A q := fun q h => by rw [hAe]; exact Or.inr h
  have hS : va_S A s.heap s.heap [] := va_S.rf
  refine k_gen (fun Q hQ => ?_)
  have hl := lv_entry ([.ref (q10 0), .int (nI a), .int (nI b)]) (n := 3) (Nat.le_of_ble_eq_true rfl)
  refine k_entry hav (lg_entry_eq ..) ?_
  generalize (lg_sl ([.ref (q10 0), .int (nI a), .int (nI b)]) ++ List.replicate (3 - (lg_sl ([.ref (q10 0), .int (nI a), .int (nI b)])).length) Slot.unset).toArray = ls at hl ⊢
  have hl : lv_has ls 3 [(0, .ref (q10 0)), (1, .int (nI a)), (2, .int (nI b))] := hl
  have hn1 := hV.1
  have hn10 := hV.2.1
  have hm120 := hV.2.2.1
  have hx40 := hV.2.2.2.2.1
  have hk4 := hV.2.2.2.2.2.2.1
  refine lv_aload_n hx hb dX10_beats_0 rfl (lv_at hl 0 rfl) ?_
  refine lv_iload_n hx hb dX10_beats_1 rfl (lv_at hl 1 rfl) ?_
  refine lv_iload_n hx hb dX10_beats_2 rfl (lv_at hl 2 rfl) ?_
  have hs_3 : kSplit (wX10 q10 cI cJ cB st_10 kept_10 undoable_10 newest_10 tape_10 taped_10 marks_10 order_10 reach_10 heapOf_10 rows_10 x_10 overs_10 costs_10 ways_10 digits_10 beaten_10 walks_10) (wX10 q10 cI cJ cB st_10 kept_10 undoable_10 newest_10 tape_10 taped_10 marks_10 order_10 reach_10 heapOf_10 rows_10 x_10 overs_10 costs_10 ways_10 digits_10 beaten_10 walks_10) ([] : va_W) [0, 1, 2, 3, 4, 5, 6, 7, 8, 9, 10, 11, 12, 13, 14, 15] [] := ⟨rfl, rfl, rfl, rfl, rfl, by decide⟩
  refine kc_i hP hD hS hA hs_3 (kV (As := [.int (nI a), .int (nI b)]) (rest := []) hx hb hml hown hts hKW hP hD hs_3 (c_X10_overOf l D cI cJ cB q10 st_10 kept_10 undoable_10 newest_10 tape_10 taped_10 marks_10 order_10 reach_10 heapOf_10 rows_10 x_10 overs_10 costs_10 ways_10 digits_10 beaten_10 walks_10 n ml nx ks rr a b (by first | assumption | omega) (by first | assumption | omega) (by first | assumption | omega) (by first | assumption | omega)) (cwV 2 hts gX10_beats_X10_overOf rfl rfl rfl (by decide +kernel) ⟨Nat.le_of_ble_eq_true rfl, Nat.le_of_ble_eq_true rfl⟩) 0 10 rfl rfl rfl rfl hl.1 rfl (Nat.le_of_ble_eq_true rfl) dX10_beats_3 ⟨Nat.zero_le _, Nat.zero_le _⟩) (fun r_3 u_3 H locs hw_3 hP hD hS => ?_)
  have er_3 := hw_3
  subst er_3
  have hP : va_P D vwCl (wX10 q10 cI cJ cB st_10 kept_10 undoable_10 newest_10 tape_10 taped_10 marks_10 order_10 reach_10 heapOf_10 rows_10 x_10 overs_10 costs_10 ways_10 digits_10 beaten_10 walks_10) H := hP.sub (ws' := (wX10 q10 cI cJ cB st_10 kept_10 undoable_10 newest_10 tape_10 taped_10 marks_10 order_10 reach_10 heapOf_10 rows_10 x_10 overs_10 costs_10 ways_10 digits_10 beaten_10 walks_10)) [0, 1, 2, 3, 4, 5, 6, 7, 8, 9, 10, 11, 12, 13, 14, 15] rfl
  have hD : va_D A (wX10 q10 cI cJ cB st_10 kept_10 undoable_10 newest_10 tape_10 taped_10 marks_10 order_10 reach_10 heapOf_10 rows_10 x_10 overs_10 costs_10 ways_10 digits_10 beaten_10 walks_10) := hD.sub (ws' := (wX10 q10 cI cJ cB st_10 kept_10 undoable_10 newest_10 tape_10 taped_10 marks_10 order_10 reach_10 heapOf_10 rows_10 x_10 overs_10 costs_10 ways_10 digits_10 beaten_10 walks_10)) [0, 1, 2, 3, 4, 5, 6, 7, 8, 9, 10, 11, 12, 13, 14, 15] (by decide) rfl
  refine lv_aload_n hx hb dX10_beats_6 rfl (lv_at hl 0 rfl) ?_
  refine lv_iload_n hx hb dX10_beats_7 rfl (lv_at hl 2 rfl) ?_
  refine lv_iload_n hx hb dX10_beats_8 rfl (lv_at hl 1 rfl) ?_
  have hs_9 : kSplit (wX10 q10 cI cJ cB st_10 kept_10 undoable_10 newest_10 tape_10 taped_10 marks_10 order_10 reach_10 heapOf_10 rows_10 x_10 overs_10 costs_10 ways_10 digits_10 beaten_10 walks_10) (wX10 q10 cI cJ cB st_10 kept_10 undoable_10 newest_10 tape_10 taped_10 marks_10 order_10 reach_10 heapOf_10 rows_10 x_10 overs_10 costs_10 ways_10 digits_10 beaten_10 walks_10) ([] : va_W) [0, 1, 2, 3, 4, 5, 6, 7, 8, 9, 10, 11, 12, 13, 14, 15] [] := ⟨rfl, rfl, rfl, rfl, rfl, by decide⟩
  refine kc_i hP hD hS hA hs_9 (kV (As := [.int (nI b), .int (nI a)]) (rest := [.int (nI (ov ml a b))]) hx hb hml hown hts hKW hP hD hs_9 (c_X10_overOf l D cI cJ cB q10 st_10 kept_10 undoable_10 newest_10 tape_10 taped_10 marks_10 order_10 reach_10 heapOf_10 rows_10 x_10 overs_10 costs_10 ways_10 digits_10 beaten_10 walks_10 n ml nx ks rr b a (by first | assumption | omega) (by first | assumption | omega) (by first | assumption | omega) (by first | assumption | omega)) (cwV 2 hts gX10_beats_X10_overOf rfl rfl rfl (by decide +kernel) ⟨Nat.le_of_ble_eq_true rfl, Nat.le_of_ble_eq_true rfl⟩) 0 10 rfl rfl rfl rfl hl.1 rfl (Nat.le_of_ble_eq_true rfl) dX10_beats_9 ⟨Nat.zero_le _, Nat.zero_le _⟩) (fun r_9 u_9 H locs hw_9 hP hD hS => ?_)
  have er_9 := hw_9
  subst er_9
  have hP : va_P D vwCl (wX10 q10 cI cJ cB st_10 kept_10 undoable_10 newest_10 tape_10 taped_10 marks_10 order_10 reach_10 heapOf_10 rows_10 x_10 overs_10 costs_10 ways_10 digits_10 beaten_10 walks_10) H := hP.sub (ws' := (wX10 q10 cI cJ cB st_10 kept_10 undoable_10 newest_10 tape_10 taped_10 marks_10 order_10 reach_10 heapOf_10 rows_10 x_10 overs_10 costs_10 ways_10 digits_10 beaten_10 walks_10)) [0, 1, 2, 3, 4, 5, 6, 7, 8, 9, 10, 11, 12, 13, 14, 15] rfl
  have hD : va_D A (wX10 q10 cI cJ cB st_10 kept_10 undoable_10 newest_10 tape_10 taped_10 marks_10 order_10 reach_10 heapOf_10 rows_10 x_10 overs_10 costs_10 ways_10 digits_10 beaten_10 walks_10) := hD.sub (ws' := (wX10 q10 cI cJ cB st_10 kept_10 undoable_10 newest_10 tape_10 taped_10 marks_10 order_10 reach_10 heapOf_10 rows_10 x_10 overs_10 costs_10 ways_10 digits_10 beaten_10 walks_10)) [0, 1, 2, 3, 4, 5, 6, 7, 8, 9, 10, 11, 12, 13, 14, 15] (by decide) rfl
  have hov1 := ov_le ml a b
  have hov2 := ov_le ml b a
  refine lv_icmp_le (tgt := 19) hx hb dX10_beats_12 (by decide) (fun c_12 => ?_) (fun c_12 => ?_)
  · skip
    have c_12 := k_le (by omega) (by omega) c_12
    refine lv_iconst (v := nI 0) hx hb dX10_beats_19 (by decide) ?_
    subst hQ; subst hAe
    exact W.zret (v := nI 0) (ty := .boolean) hx hb hr (by decide) (fun t ht _ => ⟨⟨nI 0, (), rfl, by first | exact k_if1 (by omega) | exact k_if0 (by omega), by rw [ht]; exact hP, hD⟩, hS.F ht⟩) hS.2.2 dX10_beats_20
  · skip
    have c_12 := k_le_n (by omega) (by omega) c_12
    refine lv_iconst (v := nI 1) hx hb dX10_beats_15 (by decide) ?_
    refine lv_goto (tgt := 20) hx hb dX10_beats_16 (by decide) ?_
    subst hQ; subst hAe
    exact W.zret (v := nI 1) (ty := .boolean) hx hb hr (by decide) (fun t ht _ => ⟨⟨nI 1, (), rfl, by first | exact k_if1 (by omega) | exact k_if0 (by omega), by rw [ht]; exact hP, hD⟩, hS.F ht⟩) hS.2.2 dX10_beats_20
def rmX10_by : Room := { frames := 0, cells := 0, slots := 0, locals := 0 }
set_option maxHeartbeats 4000000 in
set_option maxRecDepth 100000 in
theorem c_X10_by (l : Launch) (D : va_G) (cI cJ cB : ClassId) (q10 : Nat → Nat) (st_10 : Nat → Int32) (kept_10 : Nat → Int32) (undoable_10 : Int32) (newest_10 : Int32) (tape_10 : Nat → Int32) (taped_10 : Int32) (marks_10 : Nat → Int32) (order_10 : Nat → Int32) (reach_10 : Nat → Int32) (heapOf_10 : Nat → Int32) (rows_10 : Nat → Int64) (x_10 : Nat → Int64) (overs_10 : Nat → Int32) (costs_10 : Nat → Int32) (ways_10 : Nat → Int32) (digits_10 : Nat → Int32) (beaten_10 : Nat → Int32) (walks_10 : Nat → Int32) (n : Nat) (ml : List Mt) (nx : List (Nat × Nat)) (ks : List Nat) (rr : Int32 × Int32 × Int32) (x : Nat) (y : Nat) (hR : RS st_10 n ml nx ks rr) (hV : VS n ml nx ks) (hx99 : x ≤ 99) (hy99 : y ≤ 99) : ∀ sz, Met l yX10_by wsX10_by rmX10_by (va_Pc [.ref (q10 0), .int (nI x - nI y)] (PW D (kT cI cJ cB) sz (wX10 q10 cI cJ cB st_10 kept_10 undoable_10 newest_10 tape_10 taped_10 marks_10 order_10 reach_10 heapOf_10 rows_10 x_10 overs_10 costs_10 ways_10 digits_10 beaten_10 walks_10))) (va_Qi (S := Unit) (fun r _ => r = byX rr x y) (QW D sz (wX10 q10 cI cJ cB st_10 kept_10 undoable_10 newest_10 tape_10 taped_10 marks_10 order_10 reach_10 heapOf_10 rows_10 x_10 overs_10 costs_10 ways_10 digits_10 beaten_10 walks_10) (fun _ => (wX10 q10 cI cJ cB st_10 kept_10 undoable_10 newest_10 tape_10 taped_10 marks_10 order_10 reach_10 heapOf_10 rows_10 x_10 overs_10 costs_10 ways_10 digits_10 beaten_10 walks_10))) (va_A (wX10 q10 cI cJ cB st_10 kept_10 undoable_10 newest_10 tape_10 taped_10 marks_10 order_10 reach_10 heapOf_10 rows_10 x_10 overs_10 costs_10 ways_10 digits_10 beaten_10 walks_10) sz)) 0 0 (va_A (wX10 q10 cI cJ cB st_10 kept_10 undoable_10 newest_10 tape_10 taped_10 marks_10 order_10 reach_10 heapOf_10 rows_10 x_10 overs_10 costs_10 ways_10 digits_10 beaten_10 walks_10) sz) := by
  intro sz
  refine Met.ofW (cc := cX10_by) (maxL := 2) (ret := (some .int)) (by decide) rfl ?_
  intro p e s m args below meth c s₁ B hml hv
  obtain ⟨hav, hsz, hP, hKW, hD0⟩ := hv
  have hx := B.exec
  have hb := B.bytes
  have hr := B.returns
  have hts := atoms_spec (ws := wsX10_by) B.pre
  have hown : s.vm.findClass RX10 = some m.cls := findClass_of_methodNamed B.named
  have hlocks := B.notSynchronized
  subst hsz
  have hD := hD0.self (sz := s.heap.size)
  obtain ⟨A, hAe⟩ : ∃ A : Nat → Prop, A = va_A (wX10 q10 cI cJ cB st_10 kept_10 undoable_10 newest_10 tape_10 taped_10 marks_10 order_10 reach_10 heapOf_10 rows_10 x_10 overs_10 costs_10 ways_10 digits_10 beaten_10 walks_10) s.heap.size := ⟨_, rfl⟩
  rw [← hAe] at hD
  have hA : ∀ q : Nat, s.heap.size ≤ q → A q := fun q h => by rw [hAe]; exact Or.inr h
  have hS : va_S A s.heap s.heap [] := va_S.rf
  refine k_gen (fun Q hQ => ?_)
  have hl := lv_entry ([.ref (q10 0), .int (nI x - nI y)]) (n := 2) (Nat.le_of_ble_eq_true rfl)
  refine k_entry hav (lg_entry_eq ..) ?_
  generalize (lg_sl ([.ref (q10 0), .int (nI x - nI y)]) ++ List.replicate (2 - (lg_sl ([.ref (q10 0), .int (nI x - nI y)])).length) Slot.unset).toArray = ls at hl ⊢
  have hl : lv_has ls 2 [(0, .ref (q10 0)), (1, .int (nI x - nI y))] := hl
  have hu_10 : ∀ w ∈ u_ws RX10 TX10 18, w ∈ wsX10_by := by decide +kernel
  have hf_7 : Cond.fieldLink RX10 7 "MeetingRanksModel" "st" "[I" ∈ wsX10_by := by decide +kernel
  have hn1 := hV.1
  have hn10 := hV.2.1
  have hm120 := hV.2.2.1
  have hx40 := hV.2.2.2.2.1
  have hk4 := hV.2.2.2.2.2.2.1
  refine lv_iload_n hx hb dX10_by_0 rfl (lv_at hl 1 rfl) ?_
  refine lv_if_le (tgt := 13) hx hb dX10_by_1 (by decide) (fun c_1 => ?_) (fun c_1 => ?_)
  · skip
    have c_1 := mo_le (by omega) (by omega) c_1
    refine lv_iload_n hx hb dX10_by_13 rfl (lv_at hl 1 rfl) ?_
    refine lv_if_ge (tgt := 27) hx hb dX10_by_14 (by decide) (fun c_14 => ?_) (fun c_14 => ?_)
    · skip
      have c_14 := mo_ge (by omega) (by omega) c_14
      refine lv_aload_n hx hb dX10_by_27 rfl (lv_at hl 0 rfl) ?_
      refine k_get (ci := 10) (v := .ref (q10 1)) (C := RX10) (Tb := TX10) (N := 18) hx hb hts hu_10 hown hKW hP 0 rfl rfl 0 (by decide) hf_7 rfl rfl dX10_by_28 ?_
      refine lv_iconst (v := nI 5) hx hb dX10_by_31 (by decide) ?_
      refine k_iald (n := 600) (i := 5) hx hb hKW hP 1 0 rfl rfl (by omega) (by omega) dX10_by_32 ?_
      refine k_top (y := rr.2.1) (hR.2.2.2.2.2.1) ?_
      subst hQ; subst hAe
      exact W.iret (v := rr.2.1) hx hb hr (fun t ht _ => ⟨⟨rr.2.1, (), rfl, by unfold byX; first | (rw [if_pos c_1]; done) | (rw [if_neg (by omega), if_pos c_14]; done) | (rw [if_neg (by omega), if_neg (by omega)]; done), by rw [ht]; exact hP, hD⟩, hS.F ht⟩) hS.2.2 dX10_by_33
    · skip
      have c_14 := mo_ge_n (by omega) (by omega) c_14
      refine lv_aload_n hx hb dX10_by_17 rfl (lv_at hl 0 rfl) ?_
      refine k_get (ci := 10) (v := .ref (q10 1)) (C := RX10) (Tb := TX10) (N := 18) hx hb hts hu_10 hown hKW hP 0 rfl rfl 0 (by decide) hf_7 rfl rfl dX10_by_18 ?_
      refine lv_bipush (v := nI 6) hx hb dX10_by_21 (by decide) ?_
      refine k_iald (n := 600) (i := 6) hx hb hKW hP 1 0 rfl rfl (by omega) (by omega) dX10_by_23 ?_
      refine k_top (y := rr.2.2) (hR.2.2.2.2.2.2.1) ?_
      refine lv_goto (tgt := 33) hx hb dX10_by_24 (by decide) ?_
      subst hQ; subst hAe
      exact W.iret (v := rr.2.2) hx hb hr (fun t ht _ => ⟨⟨rr.2.2, (), rfl, by unfold byX; first | (rw [if_pos c_1]; done) | (rw [if_neg (by omega), if_pos c_14]; done) | (rw [if_neg (by omega), if_neg (by omega)]; done), by rw [ht]; exact hP, hD⟩, hS.F ht⟩) hS.2.2 dX10_by_33
  · skip
    have c_1 := mo_le_n (by omega) (by omega) c_1
    refine lv_aload_n hx hb dX10_by_4 rfl (lv_at hl 0 rfl) ?_
    refine k_get (ci := 10) (v := .ref (q10 1)) (C := RX10) (Tb := TX10) (N := 18) hx hb hts hu_10 hown hKW hP 0 rfl rfl 0 (by decide) hf_7 rfl rfl dX10_by_5 ?_
    refine lv_iconst (v := nI 4) hx hb dX10_by_8 (by decide) ?_
    refine k_iald (n := 600) (i := 4) hx hb hKW hP 1 0 rfl rfl (by omega) (by omega) dX10_by_9 ?_
    refine k_top (y := rr.1) (hR.2.2.2.2.1) ?_
    refine lv_goto (tgt := 33) hx hb dX10_by_10 (by decide) ?_
    subst hQ; subst hAe
    exact W.iret (v := rr.1) hx hb hr (fun t ht _ => ⟨⟨rr.1, (), rfl, by unfold byX; first | (rw [if_pos c_1]; done) | (rw [if_neg (by omega), if_pos c_14]; done) | (rw [if_neg (by omega), if_neg (by omega)]; done), by rw [ht]; exact hP, hD⟩, hS.F ht⟩) hS.2.2 dX10_by_33
def rmX10_scoreWith : Room := { frames := 1, cells := 0, slots := 0, locals := 21 }
set_option maxHeartbeats 4000000 in
set_option maxRecDepth 100000 in
theorem c_X10_scoreWith (l : Launch) (D : va_G) (cI cJ cB : ClassId) (q10 : Nat → Nat) (st_10 : Nat → Int32) (kept_10 : Nat → Int32) (undoable_10 : Int32) (newest_10 : Int32) (tape_10 : Nat → Int32) (taped_10 : Int32) (marks_10 : Nat → Int32) (order_10 : Nat → Int32) (reach_10 : Nat → Int32) (heapOf_10 : Nat → Int32) (rows_10 : Nat → Int64) (x_10 : Nat → Int64) (overs_10 : Nat → Int32) (costs_10 : Nat → Int32) (ways_10 : Nat → Int32) (digits_10 : Nat → Int32) (beaten_10 : Nat → Int32) (walks_10 : Nat → Int32) (n : Nat) (ml : List Mt) (nx : List (Nat × Nat)) (ks : List Nat) (rr : Int32 × Int32 × Int32) (p1 : Nat) (S : Nat) (hR : RS st_10 n ml nx ks rr) (hV : VS n ml nx ks) (hp1 : p1 < 10) (hS10 : S < 1024) : ∀ sz, Met l yX10_scoreWith wsX10_scoreWith rmX10_scoreWith (va_Pc [.ref (q10 0), .int (nI p1), .int (nI S)] (PW D (kT cI cJ cB) sz (wX10 q10 cI cJ cB st_10 kept_10 undoable_10 newest_10 tape_10 taped_10 marks_10 order_10 reach_10 heapOf_10 rows_10 x_10 overs_10 costs_10 ways_10 digits_10 beaten_10 walks_10))) (va_Qi (S := Unit) (fun r _ => r = scF rr ml p1 S) (QW D sz (wX10 q10 cI cJ cB st_10 kept_10 undoable_10 newest_10 tape_10 taped_10 marks_10 order_10 reach_10 heapOf_10 rows_10 x_10 overs_10 costs_10 ways_10 digits_10 beaten_10 walks_10) (fun _ => (wX10 q10 cI cJ cB st_10 kept_10 undoable_10 newest_10 tape_10 taped_10 marks_10 order_10 reach_10 heapOf_10 rows_10 x_10 overs_10 costs_10 ways_10 digits_10 beaten_10 walks_10))) (va_A (wX10 q10 cI cJ cB st_10 kept_10 undoable_10 newest_10 tape_10 taped_10 marks_10 order_10 reach_10 heapOf_10 rows_10 x_10 overs_10 costs_10 ways_10 digits_10 beaten_10 walks_10) sz)) 0 0 (va_A (wX10 q10 cI cJ cB st_10 kept_10 undoable_10 newest_10 tape_10 taped_10 marks_10 order_10 reach_10 heapOf_10 rows_10 x_10 overs_10 costs_10 ways_10 digits_10 beaten_10 walks_10) sz) := by
  intro sz
  refine Met.ofW (cc := cX10_scoreWith) (maxL := 5) (ret := (some .int)) (by decide) rfl ?_
  intro p e s m args below meth c s₁ B hml hv
  obtain ⟨hav, hsz, hP, hKW, hD0⟩ := hv
  have hx := B.exec
  have hb := B.bytes
  have hr := B.returns
  have hts := atoms_spec (ws := wsX10_scoreWith) B.pre
  have hown : s.vm.findClass RX10 = some m.cls := findClass_of_methodNamed B.named
  have hlocks := B.notSynchronized
  subst hsz
  have hD := hD0.self (sz := s.heap.size)
  obtain ⟨A, hAe⟩ : ∃ A : Nat → Prop, A = va_A (wX10 q10 cI cJ cB st_10 kept_10 undoable_10 newest_10 tape_10 taped_10 marks_10 order_10 reach_10 heapOf_10 rows_10 x_10 overs_10 costs_10 ways_10 digits_10 beaten_10 walks_10) s.heap.size := ⟨_, rfl⟩
  rw [← hAe] at hD
  have hA : ∀ q : Nat, s.heap.size ≤ q → A q := fun q h => by rw [hAe]; exact Or.inr h
  have hS : va_S A s.heap s.heap [] := va_S.rf
  refine k_gen (fun Q hQ => ?_)
  have hl := lv_entry ([.ref (q10 0), .int (nI p1), .int (nI S)]) (n := 5) (Nat.le_of_ble_eq_true rfl)
  refine k_entry hav (lg_entry_eq ..) ?_
  generalize (lg_sl ([.ref (q10 0), .int (nI p1), .int (nI S)]) ++ List.replicate (5 - (lg_sl ([.ref (q10 0), .int (nI p1), .int (nI S)])).length) Slot.unset).toArray = ls at hl ⊢
  have hl : lv_has ls 5 [(0, .ref (q10 0)), (1, .int (nI p1)), (2, .int (nI S))] := hl
  have hu_10 : ∀ w ∈ u_ws RX10 TX10 18, w ∈ wsX10_scoreWith := by decide +kernel
  have hf_7 : Cond.fieldLink RX10 7 "MeetingRanksModel" "st" "[I" ∈ wsX10_scoreWith := by decide +kernel
  have hn1 := hV.1
  have hn10 := hV.2.1
  have hm120 := hV.2.2.1
  have hx40 := hV.2.2.2.2.1
  have hk4 := hV.2.2.2.2.2.2.1
  refine lv_iconst (v := nI 0) hx hb dX10_scoreWith_0 (by decide) ?_
  refine lv_istore_n (lv' := [(3, .int (nI 0)), (0, .ref (q10 0)), (1, .int (nI p1)), (2, .int (nI S))]) hx hb dX10_scoreWith_1 rfl hl (by decide) rfl (fun ls hl => ?_)
  refine lv_iconst (v := nI 0) hx hb dX10_scoreWith_2 (by decide) ?_
  refine lv_istore (lv' := [(4, .int (nI 0)), (3, .int (nI 0)), (0, .ref (q10 0)), (1, .int (nI p1)), (2, .int (nI S))]) hx hb dX10_scoreWith_3 hl (by decide) rfl (fun ls hl => ?_)
  have hL_5 : ∀ (fu : Nat) (k : Nat) (v : Int32) (hk : k ≤ ml.length) (hv : v = lsI (scX rr p1 S) (ml.take k)), ml.length - k < fu → ∀ (H : Heap) (locs : List Loc), va_P D vwCl (wX10 q10 cI cJ cB st_10 kept_10 undoable_10 newest_10 tape_10 taped_10 marks_10 order_10 reach_10 heapOf_10 rows_10 x_10 overs_10 costs_10 ways_10 digits_10 beaten_10 walks_10) H → va_D A (wX10 q10 cI cJ cB st_10 kept_10 undoable_10 newest_10 tape_10 taped_10 marks_10 order_10 reach_10 heapOf_10 rows_10 x_10 overs_10 costs_10 ways_10 digits_10 beaten_10 walks_10) → va_S A s.heap H locs → ∀ (ls : Array Slot), lv_has ls 5 [(0, .ref (q10 0)), (1, .int (nI p1)), (2, .int (nI S)), (3, .int v), (4, .int (nI k))] → W p l e (headSpec wsX10_scoreWith rmX10_scoreWith).room s m args below meth c H locs 0 0 Q (F0 m 5 ls []) := by
    intro fu
    induction fu with
    | zero => intro k v hk hv hfu; exact absurd hfu (Nat.not_lt_zero _)
    | succ fu ih_5 =>
      intro k v hk hv hfu H locs hP hD hS ls hl
      refine lv_iload hx hb dX10_scoreWith_5 (lv_at hl 4 rfl) ?_
      refine lv_aload_n hx hb dX10_scoreWith_7 rfl (lv_at hl 0 rfl) ?_
      refine k_get (ci := 10) (v := .ref (q10 1)) (C := RX10) (Tb := TX10) (N := 18) hx hb hts hu_10 hown hKW hP 0 rfl rfl 0 (by decide) hf_7 rfl rfl dX10_scoreWith_8 ?_
      refine lv_iconst (v := nI 1) hx hb dX10_scoreWith_11 (by decide) ?_
      refine k_iald (n := 600) (i := 1) hx hb hKW hP 1 0 rfl rfl (by omega) (by omega) dX10_scoreWith_12 ?_
      refine k_top (y := nI ml.length) (hR.2.1) ?_
      refine lv_icmp_ge (tgt := 97) hx hb dX10_scoreWith_13 (by decide) (fun c_13 => ?_) (fun c_13 => ?_)
      · skip
        have c_13 := k_ge (by omega) (by omega) c_13
        obtain rfl : k = ml.length := by omega
        refine lv_iload_n hx hb dX10_scoreWith_97 rfl (lv_at hl 3 rfl) ?_
        subst hQ; subst hAe
        exact W.iret (v := v) hx hb hr (fun t ht _ => ⟨⟨v, (), rfl, by rw [hv, List.take_length], by rw [ht]; exact hP, hD⟩, hS.F ht⟩) hS.2.2 dX10_scoreWith_98
      · skip
        have c_13 := k_ge_n (by omega) (by omega) c_13
        obtain ⟨hx1, hx2, hx3, hx4, hx5⟩ := hV.m c_13
        have hJ_53 : ∀ (v1 : Int32) (hv1 : v1 = v + (if (mg ml k).1 = p1 ∧ S / 2 ^ (mg ml k).2.1 % 2 = 1 then byX rr (mg ml k).2.2.1 (mg ml k).2.2.2 else 0)), ∀ (H : Heap) (locs : List Loc), va_P D vwCl (wX10 q10 cI cJ cB st_10 kept_10 undoable_10 newest_10 tape_10 taped_10 marks_10 order_10 reach_10 heapOf_10 rows_10 x_10 overs_10 costs_10 ways_10 digits_10 beaten_10 walks_10) H → va_D A (wX10 q10 cI cJ cB st_10 kept_10 undoable_10 newest_10 tape_10 taped_10 marks_10 order_10 reach_10 heapOf_10 rows_10 x_10 overs_10 costs_10 ways_10 digits_10 beaten_10 walks_10) → va_S A s.heap H locs → ∀ (ls : Array Slot), lv_has ls 5 [(0, .ref (q10 0)), (1, .int (nI p1)), (2, .int (nI S)), (3, .int v1), (4, .int (nI k))] → W p l e (headSpec wsX10_scoreWith rmX10_scoreWith).room s m args below meth c H locs 0 0 Q (F0 m 53 ls []) := by
          intro v1 hv1 H locs hP hD hS ls hl
          have hJ_91 : ∀ (v2 : Int32) (hv2 : v2 = v1 + (if (mg ml k).2.1 = p1 ∧ S / 2 ^ (mg ml k).1 % 2 = 1 then byX rr (mg ml k).2.2.2 (mg ml k).2.2.1 else 0)), ∀ (H : Heap) (locs : List Loc), va_P D vwCl (wX10 q10 cI cJ cB st_10 kept_10 undoable_10 newest_10 tape_10 taped_10 marks_10 order_10 reach_10 heapOf_10 rows_10 x_10 overs_10 costs_10 ways_10 digits_10 beaten_10 walks_10) H → va_D A (wX10 q10 cI cJ cB st_10 kept_10 undoable_10 newest_10 tape_10 taped_10 marks_10 order_10 reach_10 heapOf_10 rows_10 x_10 overs_10 costs_10 ways_10 digits_10 beaten_10 walks_10) → va_S A s.heap H locs → ∀ (ls : Array Slot), lv_has ls 5 [(0, .ref (q10 0)), (1, .int (nI p1)), (2, .int (nI S)), (3, .int v2), (4, .int (nI k))] → W p l e (headSpec wsX10_scoreWith rmX10_scoreWith).room s m args below meth c H locs 0 0 Q (F0 m 91 ls []) := by
            intro v2 hv2 H locs hP hD hS ls hl
            refine lv_iinc (v := nI (k + 1)) (lv' := [(4, .int (nI (k + 1))), (0, .ref (q10 0)), (1, .int (nI p1)), (2, .int (nI S)), (3, .int v2)]) hx hb dX10_scoreWith_91 hl (k := 4) rfl (nI_add _ _) (by decide) rfl (fun ls hl => ?_)
            refine lv_goto (tgt := 5) hx hb dX10_scoreWith_94 (by decide) ?_
            exact ih_5 _ _ (by omega) (by rw [lsI_take _ c_13, ← hv, hv2, hv1]; unfold scX; rw [Int32.add_assoc]) (by omega) _ _ hP hD hS ls (lv_sub hl [1, 2, 3, 4, 0] rfl)
          refine lv_aload_n hx hb dX10_scoreWith_53 rfl (lv_at hl 0 rfl) ?_
          refine lv_iload hx hb dX10_scoreWith_54 (lv_at hl 4 rfl) ?_
          have hs_56 : kSplit (wX10 q10 cI cJ cB st_10 kept_10 undoable_10 newest_10 tape_10 taped_10 marks_10 order_10 reach_10 heapOf_10 rows_10 x_10 overs_10 costs_10 ways_10 digits_10 beaten_10 walks_10) (wX10 q10 cI cJ cB st_10 kept_10 undoable_10 newest_10 tape_10 taped_10 marks_10 order_10 reach_10 heapOf_10 rows_10 x_10 overs_10 costs_10 ways_10 digits_10 beaten_10 walks_10) ([] : va_W) [0, 1, 2, 3, 4, 5, 6, 7, 8, 9, 10, 11, 12, 13, 14, 15] [] := ⟨rfl, rfl, rfl, rfl, rfl, by decide⟩
          refine kc_i hP hD hS hA hs_56 (kV (As := [.int (nI k)]) (rest := []) hx hb hml hown hts hKW hP hD hs_56 (c_X10_two l D cI cJ cB q10 st_10 kept_10 undoable_10 newest_10 tape_10 taped_10 marks_10 order_10 reach_10 heapOf_10 rows_10 x_10 overs_10 costs_10 ways_10 digits_10 beaten_10 walks_10 n ml nx ks rr k (by first | assumption | omega) (by first | assumption | omega) (by first | assumption | omega)) (cwV 1 hts gX10_scoreWith_X10_two rfl rfl rfl (by decide +kernel) ⟨Nat.le_of_ble_eq_true rfl, Nat.le_of_ble_eq_true rfl⟩) 0 10 rfl rfl rfl rfl hl.1 rfl (Nat.le_of_ble_eq_true rfl) dX10_scoreWith_56 ⟨Nat.zero_le _, Nat.zero_le _⟩) (fun r_56 u_56 H locs hw_56 hP hD hS => ?_)
          have er_56 := hw_56
          subst er_56
          have hP : va_P D vwCl (wX10 q10 cI cJ cB st_10 kept_10 undoable_10 newest_10 tape_10 taped_10 marks_10 order_10 reach_10 heapOf_10 rows_10 x_10 overs_10 costs_10 ways_10 digits_10 beaten_10 walks_10) H := hP.sub (ws' := (wX10 q10 cI cJ cB st_10 kept_10 undoable_10 newest_10 tape_10 taped_10 marks_10 order_10 reach_10 heapOf_10 rows_10 x_10 overs_10 costs_10 ways_10 digits_10 beaten_10 walks_10)) [0, 1, 2, 3, 4, 5, 6, 7, 8, 9, 10, 11, 12, 13, 14, 15] rfl
          have hD : va_D A (wX10 q10 cI cJ cB st_10 kept_10 undoable_10 newest_10 tape_10 taped_10 marks_10 order_10 reach_10 heapOf_10 rows_10 x_10 overs_10 costs_10 ways_10 digits_10 beaten_10 walks_10) := hD.sub (ws' := (wX10 q10 cI cJ cB st_10 kept_10 undoable_10 newest_10 tape_10 taped_10 marks_10 order_10 reach_10 heapOf_10 rows_10 x_10 overs_10 costs_10 ways_10 digits_10 beaten_10 walks_10)) [0, 1, 2, 3, 4, 5, 6, 7, 8, 9, 10, 11, 12, 13, 14, 15] (by decide) rfl
          refine lv_iload_n hx hb dX10_scoreWith_59 rfl (lv_at hl 1 rfl) ?_
          refine lv_icmp_ne (tgt := 91) hx hb dX10_scoreWith_60 (by decide) (fun c_60 => ?_) (fun c_60 => ?_)
          · skip
            have c_60 := k_ne (by omega) (by omega) c_60
            exact hJ_91 _ (by first | (rw [if_pos ⟨c_60, c_74⟩]; done) | (rw [if_neg (fun z => by first | exact c_60 z.1 | exact c_74 z.2), Int32.add_zero]; done)) H locs hP hD hS ls (lv_sub hl [0, 1, 2, 3, 4] rfl)
          · skip
            have c_60 := k_ne_n (by omega) (by omega) c_60
            refine lv_iload_n hx hb dX10_scoreWith_63 rfl (lv_at hl 2 rfl) ?_
            refine lv_aload_n hx hb dX10_scoreWith_64 rfl (lv_at hl 0 rfl) ?_
            refine lv_iload hx hb dX10_scoreWith_65 (lv_at hl 4 rfl) ?_
            have hs_67 : kSplit (wX10 q10 cI cJ cB st_10 kept_10 undoable_10 newest_10 tape_10 taped_10 marks_10 order_10 reach_10 heapOf_10 rows_10 x_10 overs_10 costs_10 ways_10 digits_10 beaten_10 walks_10) (wX10 q10 cI cJ cB st_10 kept_10 undoable_10 newest_10 tape_10 taped_10 marks_10 order_10 reach_10 heapOf_10 rows_10 x_10 overs_10 costs_10 ways_10 digits_10 beaten_10 walks_10) ([] : va_W) [0, 1, 2, 3, 4, 5, 6, 7, 8, 9, 10, 11, 12, 13, 14, 15] [] := ⟨rfl, rfl, rfl, rfl, rfl, by decide⟩
            refine kc_i hP hD hS hA hs_67 (kV (As := [.int (nI k)]) (rest := [.int (nI S)]) hx hb hml hown hts hKW hP hD hs_67 (c_X10_one l D cI cJ cB q10 st_10 kept_10 undoable_10 newest_10 tape_10 taped_10 marks_10 order_10 reach_10 heapOf_10 rows_10 x_10 overs_10 costs_10 ways_10 digits_10 beaten_10 walks_10 n ml nx ks rr k (by first | assumption | omega) (by first | assumption | omega) (by first | assumption | omega)) (cwV 1 hts gX10_scoreWith_X10_one rfl rfl rfl (by decide +kernel) ⟨Nat.le_of_ble_eq_true rfl, Nat.le_of_ble_eq_true rfl⟩) 0 10 rfl rfl rfl rfl hl.1 rfl (Nat.le_of_ble_eq_true rfl) dX10_scoreWith_67 ⟨Nat.zero_le _, Nat.zero_le _⟩) (fun r_67 u_67 H locs hw_67 hP hD hS => ?_)
            have er_67 := hw_67
            subst er_67
            have hP : va_P D vwCl (wX10 q10 cI cJ cB st_10 kept_10 undoable_10 newest_10 tape_10 taped_10 marks_10 order_10 reach_10 heapOf_10 rows_10 x_10 overs_10 costs_10 ways_10 digits_10 beaten_10 walks_10) H := hP.sub (ws' := (wX10 q10 cI cJ cB st_10 kept_10 undoable_10 newest_10 tape_10 taped_10 marks_10 order_10 reach_10 heapOf_10 rows_10 x_10 overs_10 costs_10 ways_10 digits_10 beaten_10 walks_10)) [0, 1, 2, 3, 4, 5, 6, 7, 8, 9, 10, 11, 12, 13, 14, 15] rfl
            have hD : va_D A (wX10 q10 cI cJ cB st_10 kept_10 undoable_10 newest_10 tape_10 taped_10 marks_10 order_10 reach_10 heapOf_10 rows_10 x_10 overs_10 costs_10 ways_10 digits_10 beaten_10 walks_10) := hD.sub (ws' := (wX10 q10 cI cJ cB st_10 kept_10 undoable_10 newest_10 tape_10 taped_10 marks_10 order_10 reach_10 heapOf_10 rows_10 x_10 overs_10 costs_10 ways_10 digits_10 beaten_10 walks_10)) [0, 1, 2, 3, 4, 5, 6, 7, 8, 9, 10, 11, 12, 13, 14, 15] (by decide) rfl
            refine lv_ishr hx hb dX10_scoreWith_70 ?_
            refine k_top (y := nI (S / 2 ^ (mg ml k).1)) (k_shr (by omega) (by omega)) ?_
            refine lv_iconst (v := nI 1) hx hb dX10_scoreWith_71 (by decide) ?_
            refine lv_iand hx hb dX10_scoreWith_72 ?_
            refine k_top (y := nI (S / 2 ^ (mg ml k).1 % 2)) (k_and1 _ (k_shr_lt (by omega))) ?_
            refine lv_iconst (v := nI 1) hx hb dX10_scoreWith_73 (by decide) ?_
            refine lv_icmp_ne (tgt := 91) hx hb dX10_scoreWith_74 (by decide) (fun c_74 => ?_) (fun c_74 => ?_)
            · skip
              have c_74 := k_ne (by omega) (by omega) c_74
              exact hJ_91 _ (by first | (rw [if_pos ⟨c_60, c_74⟩]; done) | (rw [if_neg (fun z => by first | exact c_60 z.1 | exact c_74 z.2), Int32.add_zero]; done)) H locs hP hD hS ls (lv_sub hl [0, 1, 2, 3, 4] rfl)
            · skip
              have c_74 := k_ne_n (by omega) (by omega) c_74
              refine lv_iload_n hx hb dX10_scoreWith_77 rfl (lv_at hl 3 rfl) ?_
              refine lv_aload_n hx hb dX10_scoreWith_78 rfl (lv_at hl 0 rfl) ?_
              refine lv_aload_n hx hb dX10_scoreWith_79 rfl (lv_at hl 0 rfl) ?_
              refine lv_iload hx hb dX10_scoreWith_80 (lv_at hl 4 rfl) ?_
              have hs_82 : kSplit (wX10 q10 cI cJ cB st_10 kept_10 undoable_10 newest_10 tape_10 taped_10 marks_10 order_10 reach_10 heapOf_10 rows_10 x_10 overs_10 costs_10 ways_10 digits_10 beaten_10 walks_10) (wX10 q10 cI cJ cB st_10 kept_10 undoable_10 newest_10 tape_10 taped_10 marks_10 order_10 reach_10 heapOf_10 rows_10 x_10 overs_10 costs_10 ways_10 digits_10 beaten_10 walks_10) ([] : va_W) [0, 1, 2, 3, 4, 5, 6, 7, 8, 9, 10, 11, 12, 13, 14, 15] [] := ⟨rfl, rfl, rfl, rfl, rfl, by decide⟩
              refine kc_i hP hD hS hA hs_82 (kV (As := [.int (nI k)]) (rest := [.ref (q10 0), .int v1]) hx hb hml hown hts hKW hP hD hs_82 (c_X10_more l D cI cJ cB q10 st_10 kept_10 undoable_10 newest_10 tape_10 taped_10 marks_10 order_10 reach_10 heapOf_10 rows_10 x_10 overs_10 costs_10 ways_10 digits_10 beaten_10 walks_10 n ml nx ks rr k (by first | assumption | omega) (by first | assumption | omega) (by first | assumption | omega)) (cwV 1 hts gX10_scoreWith_X10_more rfl rfl rfl (by decide +kernel) ⟨Nat.le_of_ble_eq_true rfl, Nat.le_of_ble_eq_true rfl⟩) 0 10 rfl rfl rfl rfl hl.1 rfl (Nat.le_of_ble_eq_true rfl) dX10_scoreWith_82 ⟨Nat.zero_le _, Nat.zero_le _⟩) (fun r_82 u_82 H locs hw_82 hP hD hS => ?_)
              have er_82 := hw_82
              subst er_82
              have hP : va_P D vwCl (wX10 q10 cI cJ cB st_10 kept_10 undoable_10 newest_10 tape_10 taped_10 marks_10 order_10 reach_10 heapOf_10 rows_10 x_10 overs_10 costs_10 ways_10 digits_10 beaten_10 walks_10) H := hP.sub (ws' := (wX10 q10 cI cJ cB st_10 kept_10 undoable_10 newest_10 tape_10 taped_10 marks_10 order_10 reach_10 heapOf_10 rows_10 x_10 overs_10 costs_10 ways_10 digits_10 beaten_10 walks_10)) [0, 1, 2, 3, 4, 5, 6, 7, 8, 9, 10, 11, 12, 13, 14, 15] rfl
              have hD : va_D A (wX10 q10 cI cJ cB st_10 kept_10 undoable_10 newest_10 tape_10 taped_10 marks_10 order_10 reach_10 heapOf_10 rows_10 x_10 overs_10 costs_10 ways_10 digits_10 beaten_10 walks_10) := hD.sub (ws' := (wX10 q10 cI cJ cB st_10 kept_10 undoable_10 newest_10 tape_10 taped_10 marks_10 order_10 reach_10 heapOf_10 rows_10 x_10 overs_10 costs_10 ways_10 digits_10 beaten_10 walks_10)) [0, 1, 2, 3, 4, 5, 6, 7, 8, 9, 10, 11, 12, 13, 14, 15] (by decide) rfl
              refine lv_ineg hx hb dX10_scoreWith_85 ?_
              refine k_top (y := nI (mg ml k).2.2.2 - nI (mg ml k).2.2.1) (k_negsub _ _) ?_
              have hs_86 : kSplit (wX10 q10 cI cJ cB st_10 kept_10 undoable_10 newest_10 tape_10 taped_10 marks_10 order_10 reach_10 heapOf_10 rows_10 x_10 overs_10 costs_10 ways_10 digits_10 beaten_10 walks_10) (wX10 q10 cI cJ cB st_10 kept_10 undoable_10 newest_10 tape_10 taped_10 marks_10 order_10 reach_10 heapOf_10 rows_10 x_10 overs_10 costs_10 ways_10 digits_10 beaten_10 walks_10) ([] : va_W) [0, 1, 2, 3, 4, 5, 6, 7, 8, 9, 10, 11, 12, 13, 14, 15] [] := ⟨rfl, rfl, rfl, rfl, rfl, by decide⟩
              refine kc_i hP hD hS hA hs_86 (kV (As := [.int (nI (mg ml k).2.2.2 - nI (mg ml k).2.2.1)]) (rest := [.int v1]) hx hb hml hown hts hKW hP hD hs_86 (c_X10_by l D cI cJ cB q10 st_10 kept_10 undoable_10 newest_10 tape_10 taped_10 marks_10 order_10 reach_10 heapOf_10 rows_10 x_10 overs_10 costs_10 ways_10 digits_10 beaten_10 walks_10 n ml nx ks rr ((mg ml k).2.2.2) ((mg ml k).2.2.1) (by first | assumption | omega) (by first | assumption | omega) (by first | assumption | omega) (by first | assumption | omega)) (cwV 1 hts gX10_scoreWith_X10_by rfl rfl rfl (by decide +kernel) ⟨Nat.le_of_ble_eq_true rfl, Nat.le_of_ble_eq_true rfl⟩) 0 10 rfl rfl rfl rfl hl.1 rfl (Nat.le_of_ble_eq_true rfl) dX10_scoreWith_86 ⟨Nat.zero_le _, Nat.zero_le _⟩) (fun r_86 u_86 H locs hw_86 hP hD hS => ?_)
              have er_86 := hw_86
              subst er_86
              have hP : va_P D vwCl (wX10 q10 cI cJ cB st_10 kept_10 undoable_10 newest_10 tape_10 taped_10 marks_10 order_10 reach_10 heapOf_10 rows_10 x_10 overs_10 costs_10 ways_10 digits_10 beaten_10 walks_10) H := hP.sub (ws' := (wX10 q10 cI cJ cB st_10 kept_10 undoable_10 newest_10 tape_10 taped_10 marks_10 order_10 reach_10 heapOf_10 rows_10 x_10 overs_10 costs_10 ways_10 digits_10 beaten_10 walks_10)) [0, 1, 2, 3, 4, 5, 6, 7, 8, 9, 10, 11, 12, 13, 14, 15] rfl
              have hD : va_D A (wX10 q10 cI cJ cB st_10 kept_10 undoable_10 newest_10 tape_10 taped_10 marks_10 order_10 reach_10 heapOf_10 rows_10 x_10 overs_10 costs_10 ways_10 digits_10 beaten_10 walks_10) := hD.sub (ws' := (wX10 q10 cI cJ cB st_10 kept_10 undoable_10 newest_10 tape_10 taped_10 marks_10 order_10 reach_10 heapOf_10 rows_10 x_10 overs_10 costs_10 ways_10 digits_10 beaten_10 walks_10)) [0, 1, 2, 3, 4, 5, 6, 7, 8, 9, 10, 11, 12, 13, 14, 15] (by decide) rfl
              refine lv_iadd hx hb dX10_scoreWith_89 ?_
              refine lv_istore_n (lv' := [(3, .int (v1 + (byX rr ((mg ml k).2.2.2) ((mg ml k).2.2.1)))), (0, .ref (q10 0)), (1, .int (nI p1)), (2, .int (nI S)), (4, .int (nI k))]) hx hb dX10_scoreWith_90 rfl hl (by decide) rfl (fun ls hl => ?_)
              exact hJ_91 _ (by first | (rw [if_pos ⟨c_60, c_74⟩]; done) | (rw [if_neg (fun z => by first | exact c_60 z.1 | exact c_74 z.2), Int32.add_zero]; done)) H locs hP hD hS ls (lv_sub hl [1, 2, 3, 0, 4] rfl)
        refine lv_aload_n hx hb dX10_scoreWith_16 rfl (lv_at hl 0 rfl) ?_
        refine lv_iload hx hb dX10_scoreWith_17 (lv_at hl 4 rfl) ?_
        have hs_19 : kSplit (wX10 q10 cI cJ cB st_10 kept_10 undoable_10 newest_10 tape_10 taped_10 marks_10 order_10 reach_10 heapOf_10 rows_10 x_10 overs_10 costs_10 ways_10 digits_10 beaten_10 walks_10) (wX10 q10 cI cJ cB st_10 kept_10 undoable_10 newest_10 tape_10 taped_10 marks_10 order_10 reach_10 heapOf_10 rows_10 x_10 overs_10 costs_10 ways_10 digits_10 beaten_10 walks_10) ([] : va_W) [0, 1, 2, 3, 4, 5, 6, 7, 8, 9, 10, 11, 12, 13, 14, 15] [] := ⟨rfl, rfl, rfl, rfl, rfl, by decide⟩
        refine kc_i hP hD hS hA hs_19 (kV (As := [.int (nI k)]) (rest := []) hx hb hml hown hts hKW hP hD hs_19 (c_X10_one l D cI cJ cB q10 st_10 kept_10 undoable_10 newest_10 tape_10 taped_10 marks_10 order_10 reach_10 heapOf_10 rows_10 x_10 overs_10 costs_10 ways_10 digits_10 beaten_10 walks_10 n ml nx ks rr k (by first | assumption | omega) (by first | assumption | omega) (by first | assumption | omega)) (cwV 1 hts gX10_scoreWith_X10_one rfl rfl rfl (by decide +kernel) ⟨Nat.le_of_ble_eq_true rfl, Nat.le_of_ble_eq_true rfl⟩) 0 10 rfl rfl rfl rfl hl.1 rfl (Nat.le_of_ble_eq_true rfl) dX10_scoreWith_19 ⟨Nat.zero_le _, Nat.zero_le _⟩) (fun r_19 u_19 H locs hw_19 hP hD hS => ?_)
        have er_19 := hw_19
        subst er_19
        have hP : va_P D vwCl (wX10 q10 cI cJ cB st_10 kept_10 undoable_10 newest_10 tape_10 taped_10 marks_10 order_10 reach_10 heapOf_10 rows_10 x_10 overs_10 costs_10 ways_10 digits_10 beaten_10 walks_10) H := hP.sub (ws' := (wX10 q10 cI cJ cB st_10 kept_10 undoable_10 newest_10 tape_10 taped_10 marks_10 order_10 reach_10 heapOf_10 rows_10 x_10 overs_10 costs_10 ways_10 digits_10 beaten_10 walks_10)) [0, 1, 2, 3, 4, 5, 6, 7, 8, 9, 10, 11, 12, 13, 14, 15] rfl
        have hD : va_D A (wX10 q10 cI cJ cB st_10 kept_10 undoable_10 newest_10 tape_10 taped_10 marks_10 order_10 reach_10 heapOf_10 rows_10 x_10 overs_10 costs_10 ways_10 digits_10 beaten_10 walks_10) := hD.sub (ws' := (wX10 q10 cI cJ cB st_10 kept_10 undoable_10 newest_10 tape_10 taped_10 marks_10 order_10 reach_10 heapOf_10 rows_10 x_10 overs_10 costs_10 ways_10 digits_10 beaten_10 walks_10)) [0, 1, 2, 3, 4, 5, 6, 7, 8, 9, 10, 11, 12, 13, 14, 15] (by decide) rfl
        refine lv_iload_n hx hb dX10_scoreWith_22 rfl (lv_at hl 1 rfl) ?_
        refine lv_icmp_ne (tgt := 53) hx hb dX10_scoreWith_23 (by decide) (fun c_23 => ?_) (fun c_23 => ?_)
        · skip
          have c_23 := k_ne (by omega) (by omega) c_23
          exact hJ_53 _ (by first | (rw [if_pos ⟨c_23, c_37⟩]; done) | (rw [if_neg (fun z => by first | exact c_23 z.1 | exact c_37 z.2), Int32.add_zero]; done)) H locs hP hD hS ls (lv_sub hl [0, 1, 2, 3, 4] rfl)
        · skip
          have c_23 := k_ne_n (by omega) (by omega) c_23
          refine lv_iload_n hx hb dX10_scoreWith_26 rfl (lv_at hl 2 rfl) ?_
          refine lv_aload_n hx hb dX10_scoreWith_27 rfl (lv_at hl 0 rfl) ?_
          refine lv_iload hx hb dX10_scoreWith_28 (lv_at hl 4 rfl) ?_
          have hs_30 : kSplit (wX10 q10 cI cJ cB st_10 kept_10 undoable_10 newest_10 tape_10 taped_10 marks_10 order_10 reach_10 heapOf_10 rows_10 x_10 overs_10 costs_10 ways_10 digits_10 beaten_10 walks_10) (wX10 q10 cI cJ cB st_10 kept_10 undoable_10 newest_10 tape_10 taped_10 marks_10 order_10 reach_10 heapOf_10 rows_10 x_10 overs_10 costs_10 ways_10 digits_10 beaten_10 walks_10) ([] : va_W) [0, 1, 2, 3, 4, 5, 6, 7, 8, 9, 10, 11, 12, 13, 14, 15] [] := ⟨rfl, rfl, rfl, rfl, rfl, by decide⟩
          refine kc_i hP hD hS hA hs_30 (kV (As := [.int (nI k)]) (rest := [.int (nI S)]) hx hb hml hown hts hKW hP hD hs_30 (c_X10_two l D cI cJ cB q10 st_10 kept_10 undoable_10 newest_10 tape_10 taped_10 marks_10 order_10 reach_10 heapOf_10 rows_10 x_10 overs_10 costs_10 ways_10 digits_10 beaten_10 walks_10 n ml nx ks rr k (by first | assumption | omega) (by first | assumption | omega) (by first | assumption | omega)) (cwV 1 hts gX10_scoreWith_X10_two rfl rfl rfl (by decide +kernel) ⟨Nat.le_of_ble_eq_true rfl, Nat.le_of_ble_eq_true rfl⟩) 0 10 rfl rfl rfl rfl hl.1 rfl (Nat.le_of_ble_eq_true rfl) dX10_scoreWith_30 ⟨Nat.zero_le _, Nat.zero_le _⟩) (fun r_30 u_30 H locs hw_30 hP hD hS => ?_)
          have er_30 := hw_30
          subst er_30
          have hP : va_P D vwCl (wX10 q10 cI cJ cB st_10 kept_10 undoable_10 newest_10 tape_10 taped_10 marks_10 order_10 reach_10 heapOf_10 rows_10 x_10 overs_10 costs_10 ways_10 digits_10 beaten_10 walks_10) H := hP.sub (ws' := (wX10 q10 cI cJ cB st_10 kept_10 undoable_10 newest_10 tape_10 taped_10 marks_10 order_10 reach_10 heapOf_10 rows_10 x_10 overs_10 costs_10 ways_10 digits_10 beaten_10 walks_10)) [0, 1, 2, 3, 4, 5, 6, 7, 8, 9, 10, 11, 12, 13, 14, 15] rfl
          have hD : va_D A (wX10 q10 cI cJ cB st_10 kept_10 undoable_10 newest_10 tape_10 taped_10 marks_10 order_10 reach_10 heapOf_10 rows_10 x_10 overs_10 costs_10 ways_10 digits_10 beaten_10 walks_10) := hD.sub (ws' := (wX10 q10 cI cJ cB st_10 kept_10 undoable_10 newest_10 tape_10 taped_10 marks_10 order_10 reach_10 heapOf_10 rows_10 x_10 overs_10 costs_10 ways_10 digits_10 beaten_10 walks_10)) [0, 1, 2, 3, 4, 5, 6, 7, 8, 9, 10, 11, 12, 13, 14, 15] (by decide) rfl
          refine lv_ishr hx hb dX10_scoreWith_33 ?_
          refine k_top (y := nI (S / 2 ^ (mg ml k).2.1)) (k_shr (by omega) (by omega)) ?_
          refine lv_iconst (v := nI 1) hx hb dX10_scoreWith_34 (by decide) ?_
          refine lv_iand hx hb dX10_scoreWith_35 ?_
          refine k_top (y := nI (S / 2 ^ (mg ml k).2.1 % 2)) (k_and1 _ (k_shr_lt (by omega))) ?_
          refine lv_iconst (v := nI 1) hx hb dX10_scoreWith_36 (by decide) ?_
          refine lv_icmp_ne (tgt := 53) hx hb dX10_scoreWith_37 (by decide) (fun c_37 => ?_) (fun c_37 => ?_)
          · skip
            have c_37 := k_ne (by omega) (by omega) c_37
            exact hJ_53 _ (by first | (rw [if_pos ⟨c_23, c_37⟩]; done) | (rw [if_neg (fun z => by first | exact c_23 z.1 | exact c_37 z.2), Int32.add_zero]; done)) H locs hP hD hS ls (lv_sub hl [0, 1, 2, 3, 4] rfl)
          · skip
            have c_37 := k_ne_n (by omega) (by omega) c_37
            refine lv_iload_n hx hb dX10_scoreWith_40 rfl (lv_at hl 3 rfl) ?_
            refine lv_aload_n hx hb dX10_scoreWith_41 rfl (lv_at hl 0 rfl) ?_
            refine lv_aload_n hx hb dX10_scoreWith_42 rfl (lv_at hl 0 rfl) ?_
            refine lv_iload hx hb dX10_scoreWith_43 (lv_at hl 4 rfl) ?_
            have hs_45 : kSplit (wX10 q10 cI cJ cB st_10 kept_10 undoable_10 newest_10 tape_10 taped_10 marks_10 order_10 reach_10 heapOf_10 rows_10 x_10 overs_10 costs_10 ways_10 digits_10 beaten_10 walks_10) (wX10 q10 cI cJ cB st_10 kept_10 undoable_10 newest_10 tape_10 taped_10 marks_10 order_10 reach_10 heapOf_10 rows_10 x_10 overs_10 costs_10 ways_10 digits_10 beaten_10 walks_10) ([] : va_W) [0, 1, 2, 3, 4, 5, 6, 7, 8, 9, 10, 11, 12, 13, 14, 15] [] := ⟨rfl, rfl, rfl, rfl, rfl, by decide⟩
            refine kc_i hP hD hS hA hs_45 (kV (As := [.int (nI k)]) (rest := [.ref (q10 0), .int v]) hx hb hml hown hts hKW hP hD hs_45 (c_X10_more l D cI cJ cB q10 st_10 kept_10 undoable_10 newest_10 tape_10 taped_10 marks_10 order_10 reach_10 heapOf_10 rows_10 x_10 overs_10 costs_10 ways_10 digits_10 beaten_10 walks_10 n ml nx ks rr k (by first | assumption | omega) (by first | assumption | omega) (by first | assumption | omega)) (cwV 1 hts gX10_scoreWith_X10_more rfl rfl rfl (by decide +kernel) ⟨Nat.le_of_ble_eq_true rfl, Nat.le_of_ble_eq_true rfl⟩) 0 10 rfl rfl rfl rfl hl.1 rfl (Nat.le_of_ble_eq_true rfl) dX10_scoreWith_45 ⟨Nat.zero_le _, Nat.zero_le _⟩) (fun r_45 u_45 H locs hw_45 hP hD hS => ?_)
            have er_45 := hw_45
            subst er_45
            have hP : va_P D vwCl (wX10 q10 cI cJ cB st_10 kept_10 undoable_10 newest_10 tape_10 taped_10 marks_10 order_10 reach_10 heapOf_10 rows_10 x_10 overs_10 costs_10 ways_10 digits_10 beaten_10 walks_10) H := hP.sub (ws' := (wX10 q10 cI cJ cB st_10 kept_10 undoable_10 newest_10 tape_10 taped_10 marks_10 order_10 reach_10 heapOf_10 rows_10 x_10 overs_10 costs_10 ways_10 digits_10 beaten_10 walks_10)) [0, 1, 2, 3, 4, 5, 6, 7, 8, 9, 10, 11, 12, 13, 14, 15] rfl
            have hD : va_D A (wX10 q10 cI cJ cB st_10 kept_10 undoable_10 newest_10 tape_10 taped_10 marks_10 order_10 reach_10 heapOf_10 rows_10 x_10 overs_10 costs_10 ways_10 digits_10 beaten_10 walks_10) := hD.sub (ws' := (wX10 q10 cI cJ cB st_10 kept_10 undoable_10 newest_10 tape_10 taped_10 marks_10 order_10 reach_10 heapOf_10 rows_10 x_10 overs_10 costs_10 ways_10 digits_10 beaten_10 walks_10)) [0, 1, 2, 3, 4, 5, 6, 7, 8, 9, 10, 11, 12, 13, 14, 15] (by decide) rfl
            have hs_48 : kSplit (wX10 q10 cI cJ cB st_10 kept_10 undoable_10 newest_10 tape_10 taped_10 marks_10 order_10 reach_10 heapOf_10 rows_10 x_10 overs_10 costs_10 ways_10 digits_10 beaten_10 walks_10) (wX10 q10 cI cJ cB st_10 kept_10 undoable_10 newest_10 tape_10 taped_10 marks_10 order_10 reach_10 heapOf_10 rows_10 x_10 overs_10 costs_10 ways_10 digits_10 beaten_10 walks_10) ([] : va_W) [0, 1, 2, 3, 4, 5, 6, 7, 8, 9, 10, 11, 12, 13, 14, 15] [] := ⟨rfl, rfl, rfl, rfl, rfl, by decide⟩
            refine kc_i hP hD hS hA hs_48 (kV (As := [.int (nI (mg ml k).2.2.1 - nI (mg ml k).2.2.2)]) (rest := [.int v]) hx hb hml hown hts hKW hP hD hs_48 (c_X10_by l D cI cJ cB q10 st_10 kept_10 undoable_10 newest_10 tape_10 taped_10 marks_10 order_10 reach_10 heapOf_10 rows_10 x_10 overs_10 costs_10 ways_10 digits_10 beaten_10 walks_10 n ml nx ks rr ((mg ml k).2.2.1) ((mg ml k).2.2.2) (by first | assumption | omega) (by first | assumption | omega) (by first | assumption | omega) (by first | assumption | omega)) (cwV 1 hts gX10_scoreWith_X10_by rfl rfl rfl (by decide +kernel) ⟨Nat.le_of_ble_eq_true rfl, Nat.le_of_ble_eq_true rfl⟩) 0 10 rfl rfl rfl rfl hl.1 rfl (Nat.le_of_ble_eq_true rfl) dX10_scoreWith_48 ⟨Nat.zero_le _, Nat.zero_le _⟩) (fun r_48 u_48 H locs hw_48 hP hD hS => ?_)
            have er_48 := hw_48
            subst er_48
            have hP : va_P D vwCl (wX10 q10 cI cJ cB st_10 kept_10 undoable_10 newest_10 tape_10 taped_10 marks_10 order_10 reach_10 heapOf_10 rows_10 x_10 overs_10 costs_10 ways_10 digits_10 beaten_10 walks_10) H := hP.sub (ws' := (wX10 q10 cI cJ cB st_10 kept_10 undoable_10 newest_10 tape_10 taped_10 marks_10 order_10 reach_10 heapOf_10 rows_10 x_10 overs_10 costs_10 ways_10 digits_10 beaten_10 walks_10)) [0, 1, 2, 3, 4, 5, 6, 7, 8, 9, 10, 11, 12, 13, 14, 15] rfl
            have hD : va_D A (wX10 q10 cI cJ cB st_10 kept_10 undoable_10 newest_10 tape_10 taped_10 marks_10 order_10 reach_10 heapOf_10 rows_10 x_10 overs_10 costs_10 ways_10 digits_10 beaten_10 walks_10) := hD.sub (ws' := (wX10 q10 cI cJ cB st_10 kept_10 undoable_10 newest_10 tape_10 taped_10 marks_10 order_10 reach_10 heapOf_10 rows_10 x_10 overs_10 costs_10 ways_10 digits_10 beaten_10 walks_10)) [0, 1, 2, 3, 4, 5, 6, 7, 8, 9, 10, 11, 12, 13, 14, 15] (by decide) rfl
            refine lv_iadd hx hb dX10_scoreWith_51 ?_
            refine lv_istore_n (lv' := [(3, .int (v + (byX rr ((mg ml k).2.2.1) ((mg ml k).2.2.2)))), (0, .ref (q10 0)), (1, .int (nI p1)), (2, .int (nI S)), (4, .int (nI k))]) hx hb dX10_scoreWith_52 rfl hl (by decide) rfl (fun ls hl => ?_)
            exact hJ_53 _ (by first | (rw [if_pos ⟨c_23, c_37⟩]; done) | (rw [if_neg (fun z => by first | exact c_23 z.1 | exact c_37 z.2), Int32.add_zero]; done)) H locs hP hD hS ls (lv_sub hl [1, 2, 3, 0, 4] rfl)
  exact hL_5 _ 0 0 (Nat.zero_le _) rfl (Nat.lt_succ_self _) _ _ hP hD hS ls (lv_sub hl [2, 3, 4, 1, 0] rfl)
def rmX10_scoreOf : Room := { frames := 2, cells := 0, slots := 0, locals := 45 }
set_option maxHeartbeats 4000000 in
set_option maxRecDepth 100000 in
theorem c_X10_scoreOf (l : Launch) (D : va_G) (cI cJ cB : ClassId) (q10 : Nat → Nat) (st_10 : Nat → Int32) (kept_10 : Nat → Int32) (undoable_10 : Int32) (newest_10 : Int32) (tape_10 : Nat → Int32) (taped_10 : Int32) (marks_10 : Nat → Int32) (order_10 : Nat → Int32) (reach_10 : Nat → Int32) (heapOf_10 : Nat → Int32) (rows_10 : Nat → Int64) (x_10 : Nat → Int64) (overs_10 : Nat → Int32) (costs_10 : Nat → Int32) (ways_10 : Nat → Int32) (digits_10 : Nat → Int32) (beaten_10 : Nat → Int32) (walks_10 : Nat → Int32) (n : Nat) (ml : List Mt) (nx : List (Nat × Nat)) (ks : List Nat) (rr : Int32 × Int32 × Int32) (p1 : Nat) (hR : RS st_10 n ml nx ks rr) (hV : VS n ml nx ks) (hp1 : p1 < 10) : ∀ sz, Met l yX10_scoreOf wsX10_scoreOf rmX10_scoreOf (va_Pc [.ref (q10 0), .int (nI p1)] (PW D (kT cI cJ cB) sz (wX10 q10 cI cJ cB st_10 kept_10 undoable_10 newest_10 tape_10 taped_10 marks_10 order_10 reach_10 heapOf_10 rows_10 x_10 overs_10 costs_10 ways_10 digits_10 beaten_10 walks_10))) (va_Qi (S := Unit) (fun r _ => r = scF rr ml p1 1023) (QW D sz (wX10 q10 cI cJ cB st_10 kept_10 undoable_10 newest_10 tape_10 taped_10 marks_10 order_10 reach_10 heapOf_10 rows_10 x_10 overs_10 costs_10 ways_10 digits_10 beaten_10 walks_10) (fun _ => (wX10 q10 cI cJ cB st_10 kept_10 undoable_10 newest_10 tape_10 taped_10 marks_10 order_10 reach_10 heapOf_10 rows_10 x_10 overs_10 costs_10 ways_10 digits_10 beaten_10 walks_10))) (va_A (wX10 q10 cI cJ cB st_10 kept_10 undoable_10 newest_10 tape_10 taped_10 marks_10 order_10 reach_10 heapOf_10 rows_10 x_10 overs_10 costs_10 ways_10 digits_10 beaten_10 walks_10) sz)) 0 0 (va_A (wX10 q10 cI cJ cB st_10 kept_10 undoable_10 newest_10 tape_10 taped_10 marks_10 order_10 reach_10 heapOf_10 rows_10 x_10 overs_10 costs_10 ways_10 digits_10 beaten_10 walks_10) sz) := by
  intro sz
  refine Met.ofW (cc := cX10_scoreOf) (maxL := 2) (ret := (some .int)) (by decide) rfl ?_
  intro p e s m args below meth c s₁ B hml hv
  obtain ⟨hav, hsz, hP, hKW, hD0⟩ := hv
  have hx := B.exec
  have hb := B.bytes
  have hr := B.returns
  have hts := atoms_spec (ws := wsX10_scoreOf) B.pre
  have hown : s.vm.findClass RX10 = some m.cls := findClass_of_methodNamed B.named
  have hlocks := B.notSynchronized
  subst hsz
  have hD := hD0.self (sz := s.heap.size)
  obtain ⟨A, hAe⟩ : ∃ A : Nat → Prop, A = va_A (wX10 q10 cI cJ cB st_10 kept_10 undoable_10 newest_10 tape_10 taped_10 marks_10 order_10 reach_10 heapOf_10 rows_10 x_10 overs_10 costs_10 ways_10 digits_10 beaten_10 walks_10) s.heap.size := ⟨_, rfl⟩
  rw [← hAe] at hD
  have hA : ∀ q : Nat, s.heap.size ≤ q → A q := fun q h => by rw [hAe]; exact Or.inr h
  have hS : va_S A s.heap s.heap [] := va_S.rf
  refine k_gen (fun Q hQ => ?_)
  have hl := lv_entry ([.ref (q10 0), .int (nI p1)]) (n := 2) (Nat.le_of_ble_eq_true rfl)
  refine k_entry hav (lg_entry_eq ..) ?_
  generalize (lg_sl ([.ref (q10 0), .int (nI p1)]) ++ List.replicate (2 - (lg_sl ([.ref (q10 0), .int (nI p1)])).length) Slot.unset).toArray = ls at hl ⊢
  have hl : lv_has ls 2 [(0, .ref (q10 0)), (1, .int (nI p1))] := hl
  have hn1 := hV.1
  have hn10 := hV.2.1
  have hm120 := hV.2.2.1
  have hx40 := hV.2.2.2.2.1
  have hk4 := hV.2.2.2.2.2.2.1
  refine lv_aload_n hx hb dX10_scoreOf_0 rfl (lv_at hl 0 rfl) ?_
  refine lv_iload_n hx hb dX10_scoreOf_1 rfl (lv_at hl 1 rfl) ?_
  refine lv_sipush (v := nI 1023) hx hb dX10_scoreOf_2 (by decide) ?_
  have hs_5 : kSplit (wX10 q10 cI cJ cB st_10 kept_10 undoable_10 newest_10 tape_10 taped_10 marks_10 order_10 reach_10 heapOf_10 rows_10 x_10 overs_10 costs_10 ways_10 digits_10 beaten_10 walks_10) (wX10 q10 cI cJ cB st_10 kept_10 undoable_10 newest_10 tape_10 taped_10 marks_10 order_10 reach_10 heapOf_10 rows_10 x_10 overs_10 costs_10 ways_10 digits_10 beaten_10 walks_10) ([] : va_W) [0, 1, 2, 3, 4, 5, 6, 7, 8, 9, 10, 11, 12, 13, 14, 15] [] := ⟨rfl, rfl, rfl, rfl, rfl, by decide⟩
  refine kc_i hP hD hS hA hs_5 (kV (As := [.int (nI p1), .int (nI 1023)]) (rest := []) hx hb hml hown hts hKW hP hD hs_5 (c_X10_scoreWith l D cI cJ cB q10 st_10 kept_10 undoable_10 newest_10 tape_10 taped_10 marks_10 order_10 reach_10 heapOf_10 rows_10 x_10 overs_10 costs_10 ways_10 digits_10 beaten_10 walks_10 n ml nx ks rr p1 1023 (by first | assumption | omega) (by first | assumption | omega) (by first | assumption | omega) (by first | assumption | omega)) (cwV 2 hts gX10_scoreOf_X10_scoreWith rfl rfl rfl (by decide +kernel) ⟨Nat.le_of_ble_eq_true rfl, Nat.le_of_ble_eq_true rfl⟩) 0 10 rfl rfl rfl rfl hl.1 rfl (Nat.le_of_ble_eq_true rfl) dX10_scoreOf_5 ⟨Nat.zero_le _, Nat.zero_le _⟩) (fun r_5 u_5 H locs hw_5 hP hD hS => ?_)
  have er_5 := hw_5
  subst er_5
  have hP : va_P D vwCl (wX10 q10 cI cJ cB st_10 kept_10 undoable_10 newest_10 tape_10 taped_10 marks_10 order_10 reach_10 heapOf_10 rows_10 x_10 overs_10 costs_10 ways_10 digits_10 beaten_10 walks_10) H := hP.sub (ws' := (wX10 q10 cI cJ cB st_10 kept_10 undoable_10 newest_10 tape_10 taped_10 marks_10 order_10 reach_10 heapOf_10 rows_10 x_10 overs_10 costs_10 ways_10 digits_10 beaten_10 walks_10)) [0, 1, 2, 3, 4, 5, 6, 7, 8, 9, 10, 11, 12, 13, 14, 15] rfl
  have hD : va_D A (wX10 q10 cI cJ cB st_10 kept_10 undoable_10 newest_10 tape_10 taped_10 marks_10 order_10 reach_10 heapOf_10 rows_10 x_10 overs_10 costs_10 ways_10 digits_10 beaten_10 walks_10) := hD.sub (ws' := (wX10 q10 cI cJ cB st_10 kept_10 undoable_10 newest_10 tape_10 taped_10 marks_10 order_10 reach_10 heapOf_10 rows_10 x_10 overs_10 costs_10 ways_10 digits_10 beaten_10 walks_10)) [0, 1, 2, 3, 4, 5, 6, 7, 8, 9, 10, 11, 12, 13, 14, 15] (by decide) rfl
  subst hQ; subst hAe
  exact W.iret (v := scF rr ml p1 1023) hx hb hr (fun t ht _ => ⟨⟨scF rr ml p1 1023, (), rfl, rfl, by rw [ht]; exact hP, hD⟩, hS.F ht⟩) hS.2.2 dX10_scoreOf_8
def rmX10_score : Room := { frames := 3, cells := 0, slots := 0, locals := 66 }
set_option maxHeartbeats 4000000 in
set_option maxRecDepth 100000 in
theorem c_X10_score (l : Launch) (D : va_G) (cI cJ cB : ClassId) (q10 : Nat → Nat) (st_10 : Nat → Int32) (kept_10 : Nat → Int32) (undoable_10 : Int32) (newest_10 : Int32) (tape_10 : Nat → Int32) (taped_10 : Int32) (marks_10 : Nat → Int32) (order_10 : Nat → Int32) (reach_10 : Nat → Int32) (heapOf_10 : Nat → Int32) (rows_10 : Nat → Int64) (x_10 : Nat → Int64) (overs_10 : Nat → Int32) (costs_10 : Nat → Int32) (ways_10 : Nat → Int32) (digits_10 : Nat → Int32) (beaten_10 : Nat → Int32) (walks_10 : Nat → Int32) (n : Nat) (ml : List Mt) (nx : List (Nat × Nat)) (ks : List Nat) (rr : Int32 × Int32 × Int32) (x : Int32) (hR : RS st_10 n ml nx ks rr) (hV : VS n ml nx ks) : ∀ sz, Met l yX10_score wsX10_score rmX10_score (va_Pc [.ref (q10 0), .int x] (PW D (kT cI cJ cB) sz (wX10 q10 cI cJ cB st_10 kept_10 undoable_10 newest_10 tape_10 taped_10 marks_10 order_10 reach_10 heapOf_10 rows_10 x_10 overs_10 costs_10 ways_10 digits_10 beaten_10 walks_10))) (va_Qi (S := Unit) (fun r _ => r = if kIn x n then scF rr ml x.toInt.toNat 1023 else 0) (QW D sz (wX10 q10 cI cJ cB st_10 kept_10 undoable_10 newest_10 tape_10 taped_10 marks_10 order_10 reach_10 heapOf_10 rows_10 x_10 overs_10 costs_10 ways_10 digits_10 beaten_10 walks_10) (fun _ => (wX10 q10 cI cJ cB st_10 kept_10 undoable_10 newest_10 tape_10 taped_10 marks_10 order_10 reach_10 heapOf_10 rows_10 x_10 overs_10 costs_10 ways_10 digits_10 beaten_10 walks_10))) (va_A (wX10 q10 cI cJ cB st_10 kept_10 undoable_10 newest_10 tape_10 taped_10 marks_10 order_10 reach_10 heapOf_10 rows_10 x_10 overs_10 costs_10 ways_10 digits_10 beaten_10 walks_10) sz)) 0 0 (va_A (wX10 q10 cI cJ cB st_10 kept_10 undoable_10 newest_10 tape_10 taped_10 marks_10 order_10 reach_10 heapOf_10 rows_10 x_10 overs_10 costs_10 ways_10 digits_10 beaten_10 walks_10) sz) := by
  intro sz
  refine Met.ofW (cc := cX10_score) (maxL := 2) (ret := (some .int)) (by decide) rfl ?_
  intro p e s m args below meth c s₁ B hml hv
  obtain ⟨hav, hsz, hP, hKW, hD0⟩ := hv
  have hx := B.exec
  have hb := B.bytes
  have hr := B.returns
  have hts := atoms_spec (ws := wsX10_score) B.pre
  have hown : s.vm.findClass RX10 = some m.cls := findClass_of_methodNamed B.named
  have hlocks := B.notSynchronized
  subst hsz
  have hD := hD0.self (sz := s.heap.size)
  obtain ⟨A, hAe⟩ : ∃ A : Nat → Prop, A = va_A (wX10 q10 cI cJ cB st_10 kept_10 undoable_10 newest_10 tape_10 taped_10 marks_10 order_10 reach_10 heapOf_10 rows_10 x_10 overs_10 costs_10 ways_10 digits_10 beaten_10 walks_10) s.heap.size := ⟨_, rfl⟩
  rw [← hAe] at hD
  have hA : ∀ q : Nat, s.heap.size ≤ q → A q := fun q h => by rw [hAe]; exact Or.inr h
  have hS : va_S A s.heap s.heap [] := va_S.rf
  refine k_gen (fun Q hQ => ?_)
  have hl := lv_entry ([.ref (q10 0), .int x]) (n := 2) (Nat.le_of_ble_eq_true rfl)
  refine k_entry hav (lg_entry_eq ..) ?_
  generalize (lg_sl ([.ref (q10 0), .int x]) ++ List.replicate (2 - (lg_sl ([.ref (q10 0), .int x])).length) Slot.unset).toArray = ls at hl ⊢
  have hl : lv_has ls 2 [(0, .ref (q10 0)), (1, .int x)] := hl
  have hn1 := hV.1
  have hn10 := hV.2.1
  have hm120 := hV.2.2.1
  have hx40 := hV.2.2.2.2.1
  have hk4 := hV.2.2.2.2.2.2.1
  refine lv_aload_n hx hb dX10_score_0 rfl (lv_at hl 0 rfl) ?_
  refine lv_iload_n hx hb dX10_score_1 rfl (lv_at hl 1 rfl) ?_
  have hs_2 : kSplit (wX10 q10 cI cJ cB st_10 kept_10 undoable_10 newest_10 tape_10 taped_10 marks_10 order_10 reach_10 heapOf_10 rows_10 x_10 overs_10 costs_10 ways_10 digits_10 beaten_10 walks_10) (wX10 q10 cI cJ cB st_10 kept_10 undoable_10 newest_10 tape_10 taped_10 marks_10 order_10 reach_10 heapOf_10 rows_10 x_10 overs_10 costs_10 ways_10 digits_10 beaten_10 walks_10) ([] : va_W) [0, 1, 2, 3, 4, 5, 6, 7, 8, 9, 10, 11, 12, 13, 14, 15] [] := ⟨rfl, rfl, rfl, rfl, rfl, by decide⟩
  refine kc_i hP hD hS hA hs_2 (kV (As := [.int x]) (rest := []) hx hb hml hown hts hKW hP hD hs_2 (c_X10_isPlayer l D cI cJ cB q10 st_10 kept_10 undoable_10 newest_10 tape_10 taped_10 marks_10 order_10 reach_10 heapOf_10 rows_10 x_10 overs_10 costs_10 ways_10 digits_10 beaten_10 walks_10 n ml nx ks rr x (by first | assumption | omega) (by first | assumption | omega)) (cwV 1 hts gX10_score_X10_isPlayer rfl rfl rfl (by decide +kernel) ⟨Nat.le_of_ble_eq_true rfl, Nat.le_of_ble_eq_true rfl⟩) 0 10 rfl rfl rfl rfl hl.1 rfl (Nat.le_of_ble_eq_true rfl) dX10_score_2 ⟨Nat.zero_le _, Nat.zero_le _⟩) (fun r_2 u_2 H locs hw_2 hP hD hS => ?_)
  have er_2 := hw_2
  subst er_2
  have hP : va_P D vwCl (wX10 q10 cI cJ cB st_10 kept_10 undoable_10 newest_10 tape_10 taped_10 marks_10 order_10 reach_10 heapOf_10 rows_10 x_10 overs_10 costs_10 ways_10 digits_10 beaten_10 walks_10) H := hP.sub (ws' := (wX10 q10 cI cJ cB st_10 kept_10 undoable_10 newest_10 tape_10 taped_10 marks_10 order_10 reach_10 heapOf_10 rows_10 x_10 overs_10 costs_10 ways_10 digits_10 beaten_10 walks_10)) [0, 1, 2, 3, 4, 5, 6, 7, 8, 9, 10, 11, 12, 13, 14, 15] rfl
  have hD : va_D A (wX10 q10 cI cJ cB st_10 kept_10 undoable_10 newest_10 tape_10 taped_10 marks_10 order_10 reach_10 heapOf_10 rows_10 x_10 overs_10 costs_10 ways_10 digits_10 beaten_10 walks_10) := hD.sub (ws' := (wX10 q10 cI cJ cB st_10 kept_10 undoable_10 newest_10 tape_10 taped_10 marks_10 order_10 reach_10 heapOf_10 rows_10 x_10 overs_10 costs_10 ways_10 digits_10 beaten_10 walks_10)) [0, 1, 2, 3, 4, 5, 6, 7, 8, 9, 10, 11, 12, 13, 14, 15] (by decide) rfl
  refine lv_if_eq (tgt := 16) hx hb dX10_score_5 (by decide) (fun c_5 => ?_) (fun c_5 => ?_)
  · skip
    have c_5 := k_b0 c_5
    refine lv_iconst (v := nI 0) hx hb dX10_score_16 (by decide) ?_
    subst hQ; subst hAe
    exact W.iret (v := nI 0) hx hb hr (fun t ht _ => ⟨⟨nI 0, (), rfl, by first | (rw [if_pos ((kIn_nI (by omega)).mpr hx2), k_tt (by omega)]; done) | exact (if_neg c_5).symm, by rw [ht]; exact hP, hD⟩, hS.F ht⟩) hS.2.2 dX10_score_17
  · skip
    have c_5 := k_b1 c_5
    obtain ⟨x, hx2, rfl⟩ := kIn_nat c_5
    refine lv_aload_n hx hb dX10_score_8 rfl (lv_at hl 0 rfl) ?_
    refine lv_iload_n hx hb dX10_score_9 rfl (lv_at hl 1 rfl) ?_
    have hs_10 : kSplit (wX10 q10 cI cJ cB st_10 kept_10 undoable_10 newest_10 tape_10 taped_10 marks_10 order_10 reach_10 heapOf_10 rows_10 x_10 overs_10 costs_10 ways_10 digits_10 beaten_10 walks_10) (wX10 q10 cI cJ cB st_10 kept_10 undoable_10 newest_10 tape_10 taped_10 marks_10 order_10 reach_10 heapOf_10 rows_10 x_10 overs_10 costs_10 ways_10 digits_10 beaten_10 walks_10) ([] : va_W) [0, 1, 2, 3, 4, 5, 6, 7, 8, 9, 10, 11, 12, 13, 14, 15] [] := ⟨rfl, rfl, rfl, rfl, rfl, by decide⟩
    refine kc_i hP hD hS hA hs_10 (kV (As := [.int (nI x)]) (rest := []) hx hb hml hown hts hKW hP hD hs_10 (c_X10_scoreOf l D cI cJ cB q10 st_10 kept_10 undoable_10 newest_10 tape_10 taped_10 marks_10 order_10 reach_10 heapOf_10 rows_10 x_10 overs_10 costs_10 ways_10 digits_10 beaten_10 walks_10 n ml nx ks rr x (by first | assumption | omega) (by first | assumption | omega) (by first | assumption | omega)) (cwV 1 hts gX10_score_X10_scoreOf rfl rfl rfl (by decide +kernel) ⟨Nat.le_of_ble_eq_true rfl, Nat.le_of_ble_eq_true rfl⟩) 0 10 rfl rfl rfl rfl hl.1 rfl (Nat.le_of_ble_eq_true rfl) dX10_score_10 ⟨Nat.zero_le _, Nat.zero_le _⟩) (fun r_10 u_10 H locs hw_10 hP hD hS => ?_)
    have er_10 := hw_10
    subst er_10
    have hP : va_P D vwCl (wX10 q10 cI cJ cB st_10 kept_10 undoable_10 newest_10 tape_10 taped_10 marks_10 order_10 reach_10 heapOf_10 rows_10 x_10 overs_10 costs_10 ways_10 digits_10 beaten_10 walks_10) H := hP.sub (ws' := (wX10 q10 cI cJ cB st_10 kept_10 undoable_10 newest_10 tape_10 taped_10 marks_10 order_10 reach_10 heapOf_10 rows_10 x_10 overs_10 costs_10 ways_10 digits_10 beaten_10 walks_10)) [0, 1, 2, 3, 4, 5, 6, 7, 8, 9, 10, 11, 12, 13, 14, 15] rfl
    have hD : va_D A (wX10 q10 cI cJ cB st_10 kept_10 undoable_10 newest_10 tape_10 taped_10 marks_10 order_10 reach_10 heapOf_10 rows_10 x_10 overs_10 costs_10 ways_10 digits_10 beaten_10 walks_10) := hD.sub (ws' := (wX10 q10 cI cJ cB st_10 kept_10 undoable_10 newest_10 tape_10 taped_10 marks_10 order_10 reach_10 heapOf_10 rows_10 x_10 overs_10 costs_10 ways_10 digits_10 beaten_10 walks_10)) [0, 1, 2, 3, 4, 5, 6, 7, 8, 9, 10, 11, 12, 13, 14, 15] (by decide) rfl
    refine lv_goto (tgt := 17) hx hb dX10_score_13 (by decide) ?_
    subst hQ; subst hAe
    exact W.iret (v := scF rr ml x 1023) hx hb hr (fun t ht _ => ⟨⟨scF rr ml x 1023, (), rfl, by first | (rw [if_pos ((kIn_nI (by omega)).mpr hx2), k_tt (by omega)]; done) | exact (if_neg c_5).symm, by rw [ht]; exact hP, hD⟩, hS.F ht⟩) hS.2.2 dX10_score_17
def rmX10_numberOf : Room := { frames := 3, cells := 0, slots := 0, locals := 66 }
set_option maxHeartbeats 4000000 in
set_option maxRecDepth 100000 in
theorem c_X10_numberOf (l : Launch) (D : va_G) (cI cJ cB : ClassId) (q10 : Nat → Nat) (st_10 : Nat → Int32) (kept_10 : Nat → Int32) (undoable_10 : Int32) (newest_10 : Int32) (tape_10 : Nat → Int32) (taped_10 : Int32) (marks_10 : Nat → Int32) (order_10 : Nat → Int32) (reach_10 : Nat → Int32) (heapOf_10 : Nat → Int32) (rows_10 : Nat → Int64) (x_10 : Nat → Int64) (overs_10 : Nat → Int32) (costs_10 : Nat → Int32) (ways_10 : Nat → Int32) (digits_10 : Nat → Int32) (beaten_10 : Nat → Int32) (walks_10 : Nat → Int32) (n : Nat) (ml : List Mt) (nx : List (Nat × Nat)) (ks : List Nat) (rr : Int32 × Int32 × Int32) (kd : Nat) (p1 : Nat) (S : Nat) (hR : RS st_10 n ml nx ks rr) (hV : VS n ml nx ks) (hkd : kd < 6) (hp1 : p1 < 10) (hS10 : S < 1024) : ∀ sz, Met l yX10_numberOf wsX10_numberOf rmX10_numberOf (va_Pc [.ref (q10 0), .int (nI kd), .int (nI p1), .int (nI S)] (PW D (kT cI cJ cB) sz (wX10 q10 cI cJ cB st_10 kept_10 undoable_10 newest_10 tape_10 taped_10 marks_10 order_10 reach_10 heapOf_10 rows_10 x_10 overs_10 costs_10 ways_10 digits_10 beaten_10 walks_10))) (va_Qi (S := Unit) (fun r _ => r = numF rr ml kd p1 S) (QW D sz (wX10 q10 cI cJ cB st_10 kept_10 undoable_10 newest_10 tape_10 taped_10 marks_10 order_10 reach_10 heapOf_10 rows_10 x_10 overs_10 costs_10 ways_10 digits_10 beaten_10 walks_10) (fun _ => (wX10 q10 cI cJ cB st_10 kept_10 undoable_10 newest_10 tape_10 taped_10 marks_10 order_10 reach_10 heapOf_10 rows_10 x_10 overs_10 costs_10 ways_10 digits_10 beaten_10 walks_10))) (va_A (wX10 q10 cI cJ cB st_10 kept_10 undoable_10 newest_10 tape_10 taped_10 marks_10 order_10 reach_10 heapOf_10 rows_10 x_10 overs_10 costs_10 ways_10 digits_10 beaten_10 walks_10) sz)) 0 0 (va_A (wX10 q10 cI cJ cB st_10 kept_10 undoable_10 newest_10 tape_10 taped_10 marks_10 order_10 reach_10 heapOf_10 rows_10 x_10 overs_10 costs_10 ways_10 digits_10 beaten_10 walks_10) sz) := by
  intro sz
  refine Met.ofW (cc := cX10_numberOf) (maxL := 9) (ret := (some .int)) (by decide) rfl ?_
  intro p e s m args below meth c s₁ B hml hv
  obtain ⟨hav, hsz, hP, hKW, hD0⟩ := hv
  have hx := B.exec
  have hb := B.bytes
  have hr := B.returns
  have hts := atoms_spec (ws := wsX10_numberOf) B.pre
  have hown : s.vm.findClass RX10 = some m.cls := findClass_of_methodNamed B.named
  have hlocks := B.notSynchronized
  subst hsz
  have hD := hD0.self (sz := s.heap.size)
  obtain ⟨A, hAe⟩ : ∃ A : Nat → Prop, A = va_A (wX10 q10 cI cJ cB st_10 kept_10 undoable_10 newest_10 tape_10 taped_10 marks_10 order_10 reach_10 heapOf_10 rows_10 x_10 overs_10 costs_10 ways_10 digits_10 beaten_10 walks_10) s.heap.size := ⟨_, rfl⟩
  rw [← hAe] at hD
  have hA : ∀ q : Nat, s.heap.size ≤ q → A q := fun q h => by rw [hAe]; exact Or.inr h
  have hS : va_S A s.heap s.heap [] := va_S.rf
  refine k_gen (fun Q hQ => ?_)
  have hl := lv_entry ([.ref (q10 0), .int (nI kd), .int (nI p1), .int (nI S)]) (n := 9) (Nat.le_of_ble_eq_true rfl)
  refine k_entry hav (lg_entry_eq ..) ?_
  generalize (lg_sl ([.ref (q10 0), .int (nI kd), .int (nI p1), .int (nI S)]) ++ List.replicate (9 - (lg_sl ([.ref (q10 0), .int (nI kd), .int (nI p1), .int (nI S)])).length) Slot.unset).toArray = ls at hl ⊢
  have hl : lv_has ls 9 [(0, .ref (q10 0)), (1, .int (nI kd)), (2, .int (nI p1)), (3, .int (nI S))] := hl
  have hu_10 : ∀ w ∈ u_ws RX10 TX10 18, w ∈ wsX10_numberOf := by decide +kernel
  have hf_7 : Cond.fieldLink RX10 7 "MeetingRanksModel" "st" "[I" ∈ wsX10_numberOf := by decide +kernel
  have hn1 := hV.1
  have hn10 := hV.2.1
  have hm120 := hV.2.2.1
  have hx40 := hV.2.2.2.2.1
  have hk4 := hV.2.2.2.2.2.2.1
  refine lv_iload_n hx hb dX10_numberOf_0 rfl (lv_at hl 1 rfl) ?_
  refine lv_iconst (v := nI 5) hx hb dX10_numberOf_1 (by decide) ?_
  refine lv_icmp_ne (tgt := 12) hx hb dX10_numberOf_2 (by decide) (fun c_2 => ?_) (fun c_2 => ?_)
  · skip
    have c_2 := k_ne (by omega) (by omega) c_2
    refine lv_iconst (v := nI 0) hx hb dX10_numberOf_12 (by decide) ?_
    refine lv_istore (lv' := [(4, .int (nI 0)), (0, .ref (q10 0)), (1, .int (nI kd)), (2, .int (nI p1)), (3, .int (nI S))]) hx hb dX10_numberOf_13 hl (by decide) rfl (fun ls hl => ?_)
    refine lv_iconst (v := nI 0) hx hb dX10_numberOf_15 (by decide) ?_
    refine lv_istore (lv' := [(5, .int (nI 0)), (4, .int (nI 0)), (0, .ref (q10 0)), (1, .int (nI kd)), (2, .int (nI p1)), (3, .int (nI S))]) hx hb dX10_numberOf_16 hl (by decide) rfl (fun ls hl => ?_)
    have hL_18 : ∀ (fu : Nat) (k : Nat) (v : Int32) (hk : k ≤ ml.length) (hv : v = lsI (nbX rr ml kd p1) (ml.take k)), ml.length - k < fu → ∀ (H : Heap) (locs : List Loc), va_P D vwCl (wX10 q10 cI cJ cB st_10 kept_10 undoable_10 newest_10 tape_10 taped_10 marks_10 order_10 reach_10 heapOf_10 rows_10 x_10 overs_10 costs_10 ways_10 digits_10 beaten_10 walks_10) H → va_D A (wX10 q10 cI cJ cB st_10 kept_10 undoable_10 newest_10 tape_10 taped_10 marks_10 order_10 reach_10 heapOf_10 rows_10 x_10 overs_10 costs_10 ways_10 digits_10 beaten_10 walks_10) → va_S A s.heap H locs → ∀ (ls : Array Slot), lv_has ls 9 [(0, .ref (q10 0)), (1, .int (nI kd)), (2, .int (nI p1)), (3, .int (nI S)), (4, .int v), (5, .int (nI k))] → W p l e (headSpec wsX10_numberOf rmX10_numberOf).room s m args below meth c H locs 0 0 Q (F0 m 18 ls []) := by
      intro fu
      induction fu with
      | zero => intro k v hk hv hfu; exact absurd hfu (Nat.not_lt_zero _)
      | succ fu ih_18 =>
        intro k v hk hv hfu H locs hP hD hS ls hl
        refine lv_iload hx hb dX10_numberOf_18 (lv_at hl 5 rfl) ?_
        refine lv_aload_n hx hb dX10_numberOf_20 rfl (lv_at hl 0 rfl) ?_
        refine k_get (ci := 10) (v := .ref (q10 1)) (C := RX10) (Tb := TX10) (N := 18) hx hb hts hu_10 hown hKW hP 0 rfl rfl 0 (by decide) hf_7 rfl rfl dX10_numberOf_21 ?_
        refine lv_iconst (v := nI 1) hx hb dX10_numberOf_24 (by decide) ?_
        refine k_iald (n := 600) (i := 1) hx hb hKW hP 1 0 rfl rfl (by omega) (by omega) dX10_numberOf_25 ?_
        refine k_top (y := nI ml.length) (hR.2.1) ?_
        refine lv_icmp_ge (tgt := 262) hx hb dX10_numberOf_26 (by decide) (fun c_26 => ?_) (fun c_26 => ?_)
        · skip
          have c_26 := k_ge (by omega) (by omega) c_26
          obtain rfl : k = ml.length := by omega
          refine lv_iload hx hb dX10_numberOf_262 (lv_at hl 4 rfl) ?_
          subst hQ; subst hAe
          exact W.iret (v := v) hx hb hr (fun t ht _ => ⟨⟨v, (), rfl, by rw [hv, List.take_length]; unfold numF; rw [if_neg c_2], by rw [ht]; exact hP, hD⟩, hS.F ht⟩) hS.2.2 dX10_numberOf_264
        · skip
          have c_26 := k_ge_n (by omega) (by omega) c_26
          obtain ⟨hx1, hx2, hx3, hx4, hx5⟩ := hV.m c_26
          have hpp := ppX_le (p := p1) (hV.m c_26)
          have hfo := foeX_lt (p := p1) (hV.m c_26)
          have hJ_256 : ∀ (v2 : Int32) (hv2 : v2 = v + nbX rr ml kd p1 (mg ml k)), ∀ (H : Heap) (locs : List Loc), va_P D vwCl (wX10 q10 cI cJ cB st_10 kept_10 undoable_10 newest_10 tape_10 taped_10 marks_10 order_10 reach_10 heapOf_10 rows_10 x_10 overs_10 costs_10 ways_10 digits_10 beaten_10 walks_10) H → va_D A (wX10 q10 cI cJ cB st_10 kept_10 undoable_10 newest_10 tape_10 taped_10 marks_10 order_10 reach_10 heapOf_10 rows_10 x_10 overs_10 costs_10 ways_10 digits_10 beaten_10 walks_10) → va_S A s.heap H locs → ∀ (ls : Array Slot), lv_has ls 9 [(0, .ref (q10 0)), (1, .int (nI kd)), (2, .int (nI p1)), (3, .int (nI S)), (4, .int v2), (5, .int (nI k))] → W p l e (headSpec wsX10_numberOf rmX10_numberOf).room s m args below meth c H locs 0 0 Q (F0 m 256 ls []) := by
            intro v2 hv2 H locs hP hD hS ls hl
            refine lv_iinc (v := nI (k + 1)) (lv' := [(5, .int (nI (k + 1))), (0, .ref (q10 0)), (1, .int (nI kd)), (2, .int (nI p1)), (3, .int (nI S)), (4, .int v2)]) hx hb dX10_numberOf_256 hl (k := 5) rfl (nI_add _ _) (by decide) rfl (fun ls hl => ?_)
            refine lv_goto (tgt := 18) hx hb dX10_numberOf_259 (by decide) ?_
            exact ih_18 _ _ (by omega) (by rw [lsI_take _ c_26, ← hv, hv2]) (by omega) _ _ hP hD hS ls (lv_sub hl [1, 2, 3, 4, 5, 0] rfl)
          have hJ_52 : ∀  (hpm : (mg ml k).1 = p1 ∨ (mg ml k).2.1 = p1), ∀ (H : Heap) (locs : List Loc), va_P D vwCl (wX10 q10 cI cJ cB st_10 kept_10 undoable_10 newest_10 tape_10 taped_10 marks_10 order_10 reach_10 heapOf_10 rows_10 x_10 overs_10 costs_10 ways_10 digits_10 beaten_10 walks_10) H → va_D A (wX10 q10 cI cJ cB st_10 kept_10 undoable_10 newest_10 tape_10 taped_10 marks_10 order_10 reach_10 heapOf_10 rows_10 x_10 overs_10 costs_10 ways_10 digits_10 beaten_10 walks_10) → va_S A s.heap H locs → ∀ (ls : Array Slot), lv_has ls 9 [(0, .ref (q10 0)), (1, .int (nI kd)), (2, .int (nI p1)), (3, .int (nI S)), (4, .int v), (5, .int (nI k))] → W p l e (headSpec wsX10_numberOf rmX10_numberOf).room s m args below meth c H locs 0 0 Q (F0 m 52 ls []) := by
            intro hpm H locs hP hD hS ls hl
            have hJ_78 : ∀ (H : Heap) (locs : List Loc), va_P D vwCl (wX10 q10 cI cJ cB st_10 kept_10 undoable_10 newest_10 tape_10 taped_10 marks_10 order_10 reach_10 heapOf_10 rows_10 x_10 overs_10 costs_10 ways_10 digits_10 beaten_10 walks_10) H → va_D A (wX10 q10 cI cJ cB st_10 kept_10 undoable_10 newest_10 tape_10 taped_10 marks_10 order_10 reach_10 heapOf_10 rows_10 x_10 overs_10 costs_10 ways_10 digits_10 beaten_10 walks_10) → va_S A s.heap H locs → ∀ (ls : Array Slot), lv_has ls 9 [(0, .ref (q10 0)), (1, .int (nI kd)), (2, .int (nI p1)), (3, .int (nI S)), (4, .int v), (5, .int (nI k))] → W p l e (headSpec wsX10_numberOf rmX10_numberOf).room s m args below meth c H locs 0 0 Q (F0 m 78 ls [.int (nI (ppX p1 (mg ml k)) - nI (pqX p1 (mg ml k)))]) := by
              intro  H locs hP hD hS ls hl
              refine lv_istore (lv' := [(6, .int (nI (ppX p1 (mg ml k)) - nI (pqX p1 (mg ml k)))), (0, .ref (q10 0)), (1, .int (nI kd)), (2, .int (nI p1)), (3, .int (nI S)), (4, .int v), (5, .int (nI k))]) hx hb dX10_numberOf_78 hl (by decide) rfl (fun ls hl => ?_)
              have hJ_105 : ∀ (H : Heap) (locs : List Loc), va_P D vwCl (wX10 q10 cI cJ cB st_10 kept_10 undoable_10 newest_10 tape_10 taped_10 marks_10 order_10 reach_10 heapOf_10 rows_10 x_10 overs_10 costs_10 ways_10 digits_10 beaten_10 walks_10) H → va_D A (wX10 q10 cI cJ cB st_10 kept_10 undoable_10 newest_10 tape_10 taped_10 marks_10 order_10 reach_10 heapOf_10 rows_10 x_10 overs_10 costs_10 ways_10 digits_10 beaten_10 walks_10) → va_S A s.heap H locs → ∀ (ls : Array Slot), lv_has ls 9 [(0, .ref (q10 0)), (1, .int (nI kd)), (2, .int (nI p1)), (3, .int (nI S)), (4, .int v), (5, .int (nI k)), (6, .int (nI (ppX p1 (mg ml k)) - nI (pqX p1 (mg ml k))))] → W p l e (headSpec wsX10_numberOf rmX10_numberOf).room s m args below meth c H locs 0 0 Q (F0 m 105 ls [.int (nI (foeX p1 (mg ml k)))]) := by
                intro  H locs hP hD hS ls hl
                refine lv_istore (lv' := [(7, .int (nI (foeX p1 (mg ml k)))), (0, .ref (q10 0)), (1, .int (nI kd)), (2, .int (nI p1)), (3, .int (nI S)), (4, .int v), (5, .int (nI k)), (6, .int (nI (ppX p1 (mg ml k)) - nI (pqX p1 (mg ml k))))]) hx hb dX10_numberOf_105 hl (by decide) rfl (fun ls hl => ?_)
                have hJ_137 : ∀ (H : Heap) (locs : List Loc), va_P D vwCl (wX10 q10 cI cJ cB st_10 kept_10 undoable_10 newest_10 tape_10 taped_10 marks_10 order_10 reach_10 heapOf_10 rows_10 x_10 overs_10 costs_10 ways_10 digits_10 beaten_10 walks_10) H → va_D A (wX10 q10 cI cJ cB st_10 kept_10 undoable_10 newest_10 tape_10 taped_10 marks_10 order_10 reach_10 heapOf_10 rows_10 x_10 overs_10 costs_10 ways_10 digits_10 beaten_10 walks_10) → va_S A s.heap H locs → ∀ (ls : Array Slot), lv_has ls 9 [(0, .ref (q10 0)), (1, .int (nI kd)), (2, .int (nI p1)), (3, .int (nI S)), (4, .int v), (5, .int (nI k)), (6, .int (nI (ppX p1 (mg ml k)) - nI (pqX p1 (mg ml k)))), (7, .int (nI (foeX p1 (mg ml k)))), (8, .int (nI (ppX p1 (mg ml k))))] → W p l e (headSpec wsX10_numberOf rmX10_numberOf).room s m args below meth c H locs 0 0 Q (F0 m 137 ls []) := by
                  intro  H locs hP hD hS ls hl
                  refine lv_iload_n hx hb dX10_numberOf_137 rfl (lv_at hl 1 rfl) ?_
                  rcases (show kd = 0 ∨ kd = 1 ∨ kd = 2 ∨ kd = 3 ∨ 4 ≤ kd by omega) with rfl | rfl | rfl | rfl | hk4b
                  · skip
                    refine lv_tableIn (off := 30) (tgt := 168) hx hb dX10_numberOf_138 (by decide) (by decide) (by decide) (by decide) ?_
                    refine lv_iload hx hb dX10_numberOf_168 (lv_at hl 4 rfl) ?_
                    refine lv_iload hx hb dX10_numberOf_170 (lv_at hl 6 rfl) ?_
                    refine lv_if_le (tgt := 179) hx hb dX10_numberOf_172 (by decide) (fun c_172 => ?_) (fun c_172 => ?_)
                    · skip
                      have c_172 := mo_le (by omega) (by omega) c_172
                      refine lv_iconst (v := nI 0) hx hb dX10_numberOf_179 (by decide) ?_
                      refine lv_iadd hx hb dX10_numberOf_180 ?_
                      refine lv_istore (lv' := [(4, .int (v + (nI 0))), (0, .ref (q10 0)), (1, .int (nI 0)), (2, .int (nI p1)), (3, .int (nI S)), (5, .int (nI k)), (6, .int (nI (ppX p1 (mg ml k)) - nI (pqX p1 (mg ml k)))), (7, .int (nI (foeX p1 (mg ml k)))), (8, .int (nI (ppX p1 (mg ml k))))]) hx hb dX10_numberOf_181 hl (by decide) rfl (fun ls hl => ?_)
                      refine lv_goto (tgt := 256) hx hb dX10_numberOf_183 (by decide) ?_
                      exact hJ_256 _ (by unfold nbX; first | (rw [if_neg (by omega), Int32.add_zero]; done) | (rw [if_pos (by omega)]; first | rfl | (rw [if_pos rfl, if_pos c_172]; rfl) | (rw [if_pos rfl, if_neg (by omega)]; rfl) | (rw [if_neg (by omega), if_neg (by omega), if_neg (by omega), if_neg (by omega), if_pos c_224]; rfl) | (rw [if_neg (by omega), if_neg (by omega), if_neg (by omega), if_neg (by omega), if_neg (by omega), if_pos c_240]; done) | (rw [if_neg (by omega), if_neg (by omega), if_neg (by omega), if_neg (by omega), if_neg (by omega), if_neg (by omega)]; rfl))) H locs hP hD hS ls (lv_sub hl [1, 2, 3, 4, 0, 5] rfl)
                    · skip
                      have c_172 := mo_le_n (by omega) (by omega) c_172
                      refine lv_iconst (v := nI 1) hx hb dX10_numberOf_175 (by decide) ?_
                      refine lv_goto (tgt := 180) hx hb dX10_numberOf_176 (by decide) ?_
                      refine lv_iadd hx hb dX10_numberOf_180 ?_
                      refine lv_istore (lv' := [(4, .int (v + (nI 1))), (0, .ref (q10 0)), (1, .int (nI 0)), (2, .int (nI p1)), (3, .int (nI S)), (5, .int (nI k)), (6, .int (nI (ppX p1 (mg ml k)) - nI (pqX p1 (mg ml k)))), (7, .int (nI (foeX p1 (mg ml k)))), (8, .int (nI (ppX p1 (mg ml k))))]) hx hb dX10_numberOf_181 hl (by decide) rfl (fun ls hl => ?_)
                      refine lv_goto (tgt := 256) hx hb dX10_numberOf_183 (by decide) ?_
                      exact hJ_256 _ (by unfold nbX; first | (rw [if_neg (by omega), Int32.add_zero]; done) | (rw [if_pos (by omega)]; first | rfl | (rw [if_pos rfl, if_pos c_172]; rfl) | (rw [if_pos rfl, if_neg (by omega)]; rfl) | (rw [if_neg (by omega), if_neg (by omega), if_neg (by omega), if_neg (by omega), if_pos c_224]; rfl) | (rw [if_neg (by omega), if_neg (by omega), if_neg (by omega), if_neg (by omega), if_neg (by omega), if_pos c_240]; done) | (rw [if_neg (by omega), if_neg (by omega), if_neg (by omega), if_neg (by omega), if_neg (by omega), if_neg (by omega)]; rfl))) H locs hP hD hS ls (lv_sub hl [1, 2, 3, 4, 0, 5] rfl)
                  · skip
                    refine lv_tableIn (off := 48) (tgt := 186) hx hb dX10_numberOf_138 (by decide) (by decide) (by decide) (by decide) ?_
                    refine lv_iload hx hb dX10_numberOf_186 (lv_at hl 4 rfl) ?_
                    refine lv_iload hx hb dX10_numberOf_188 (lv_at hl 6 rfl) ?_
                    refine lv_iadd hx hb dX10_numberOf_190 ?_
                    refine lv_istore (lv' := [(4, .int (v + (nI (ppX p1 (mg ml k)) - nI (pqX p1 (mg ml k))))), (0, .ref (q10 0)), (1, .int (nI 1)), (2, .int (nI p1)), (3, .int (nI S)), (5, .int (nI k)), (6, .int (nI (ppX p1 (mg ml k)) - nI (pqX p1 (mg ml k)))), (7, .int (nI (foeX p1 (mg ml k)))), (8, .int (nI (ppX p1 (mg ml k))))]) hx hb dX10_numberOf_191 hl (by decide) rfl (fun ls hl => ?_)
                    refine lv_goto (tgt := 256) hx hb dX10_numberOf_193 (by decide) ?_
                    exact hJ_256 _ (by unfold nbX; first | (rw [if_neg (by omega), Int32.add_zero]; done) | (rw [if_pos (by omega)]; first | rfl | (rw [if_pos rfl, if_pos c_172]; rfl) | (rw [if_pos rfl, if_neg (by omega)]; rfl) | (rw [if_neg (by omega), if_neg (by omega), if_neg (by omega), if_neg (by omega), if_pos c_224]; rfl) | (rw [if_neg (by omega), if_neg (by omega), if_neg (by omega), if_neg (by omega), if_neg (by omega), if_pos c_240]; done) | (rw [if_neg (by omega), if_neg (by omega), if_neg (by omega), if_neg (by omega), if_neg (by omega), if_neg (by omega)]; rfl))) H locs hP hD hS ls (lv_sub hl [1, 2, 3, 4, 0, 5] rfl)
                  · skip
                    refine lv_tableIn (off := 58) (tgt := 196) hx hb dX10_numberOf_138 (by decide) (by decide) (by decide) (by decide) ?_
                    refine lv_iload hx hb dX10_numberOf_196 (lv_at hl 4 rfl) ?_
                    refine lv_iload hx hb dX10_numberOf_198 (lv_at hl 8 rfl) ?_
                    refine lv_iadd hx hb dX10_numberOf_200 ?_
                    refine lv_istore (lv' := [(4, .int (v + (nI (ppX p1 (mg ml k))))), (0, .ref (q10 0)), (1, .int (nI 2)), (2, .int (nI p1)), (3, .int (nI S)), (5, .int (nI k)), (6, .int (nI (ppX p1 (mg ml k)) - nI (pqX p1 (mg ml k)))), (7, .int (nI (foeX p1 (mg ml k)))), (8, .int (nI (ppX p1 (mg ml k))))]) hx hb dX10_numberOf_201 hl (by decide) rfl (fun ls hl => ?_)
                    refine lv_goto (tgt := 256) hx hb dX10_numberOf_203 (by decide) ?_
                    exact hJ_256 _ (by unfold nbX; first | (rw [if_neg (by omega), Int32.add_zero]; done) | (rw [if_pos (by omega)]; first | rfl | (rw [if_pos rfl, if_pos c_172]; rfl) | (rw [if_pos rfl, if_neg (by omega)]; rfl) | (rw [if_neg (by omega), if_neg (by omega), if_neg (by omega), if_neg (by omega), if_pos c_224]; rfl) | (rw [if_neg (by omega), if_neg (by omega), if_neg (by omega), if_neg (by omega), if_neg (by omega), if_pos c_240]; done) | (rw [if_neg (by omega), if_neg (by omega), if_neg (by omega), if_neg (by omega), if_neg (by omega), if_neg (by omega)]; rfl))) H locs hP hD hS ls (lv_sub hl [1, 2, 3, 4, 0, 5] rfl)
                  · skip
                    refine lv_tableIn (off := 68) (tgt := 206) hx hb dX10_numberOf_138 (by decide) (by decide) (by decide) (by decide) ?_
                    refine lv_iload hx hb dX10_numberOf_206 (lv_at hl 4 rfl) ?_
                    refine lv_aload_n hx hb dX10_numberOf_208 rfl (lv_at hl 0 rfl) ?_
                    refine lv_iload hx hb dX10_numberOf_209 (lv_at hl 7 rfl) ?_
                    have hs_211 : kSplit (wX10 q10 cI cJ cB st_10 kept_10 undoable_10 newest_10 tape_10 taped_10 marks_10 order_10 reach_10 heapOf_10 rows_10 x_10 overs_10 costs_10 ways_10 digits_10 beaten_10 walks_10) (wX10 q10 cI cJ cB st_10 kept_10 undoable_10 newest_10 tape_10 taped_10 marks_10 order_10 reach_10 heapOf_10 rows_10 x_10 overs_10 costs_10 ways_10 digits_10 beaten_10 walks_10) ([] : va_W) [0, 1, 2, 3, 4, 5, 6, 7, 8, 9, 10, 11, 12, 13, 14, 15] [] := ⟨rfl, rfl, rfl, rfl, rfl, by decide⟩
                    refine kc_i hP hD hS hA hs_211 (kV (As := [.int (nI (foeX p1 (mg ml k)))]) (rest := [.int v]) hx hb hml hown hts hKW hP hD hs_211 (c_X10_scoreOf l D cI cJ cB q10 st_10 kept_10 undoable_10 newest_10 tape_10 taped_10 marks_10 order_10 reach_10 heapOf_10 rows_10 x_10 overs_10 costs_10 ways_10 digits_10 beaten_10 walks_10 n ml nx ks rr (foeX p1 (mg ml k)) (by first | assumption | omega) (by first | assumption | omega) (by first | assumption | omega)) (cwV 1 hts gX10_numberOf_X10_scoreOf rfl rfl rfl (by decide +kernel) ⟨Nat.le_of_ble_eq_true rfl, Nat.le_of_ble_eq_true rfl⟩) 0 10 rfl rfl rfl rfl hl.1 rfl (Nat.le_of_ble_eq_true rfl) dX10_numberOf_211 ⟨Nat.zero_le _, Nat.zero_le _⟩) (fun r_211 u_211 H locs hw_211 hP hD hS => ?_)
                    have er_211 := hw_211
                    subst er_211
                    have hP : va_P D vwCl (wX10 q10 cI cJ cB st_10 kept_10 undoable_10 newest_10 tape_10 taped_10 marks_10 order_10 reach_10 heapOf_10 rows_10 x_10 overs_10 costs_10 ways_10 digits_10 beaten_10 walks_10) H := hP.sub (ws' := (wX10 q10 cI cJ cB st_10 kept_10 undoable_10 newest_10 tape_10 taped_10 marks_10 order_10 reach_10 heapOf_10 rows_10 x_10 overs_10 costs_10 ways_10 digits_10 beaten_10 walks_10)) [0, 1, 2, 3, 4, 5, 6, 7, 8, 9, 10, 11, 12, 13, 14, 15] rfl
                    have hD : va_D A (wX10 q10 cI cJ cB st_10 kept_10 undoable_10 newest_10 tape_10 taped_10 marks_10 order_10 reach_10 heapOf_10 rows_10 x_10 overs_10 costs_10 ways_10 digits_10 beaten_10 walks_10) := hD.sub (ws' := (wX10 q10 cI cJ cB st_10 kept_10 undoable_10 newest_10 tape_10 taped_10 marks_10 order_10 reach_10 heapOf_10 rows_10 x_10 overs_10 costs_10 ways_10 digits_10 beaten_10 walks_10)) [0, 1, 2, 3, 4, 5, 6, 7, 8, 9, 10, 11, 12, 13, 14, 15] (by decide) rfl
                    refine lv_iadd hx hb dX10_numberOf_214 ?_
                    refine lv_istore (lv' := [(4, .int (v + (scF rr ml (foeX p1 (mg ml k)) 1023))), (0, .ref (q10 0)), (1, .int (nI 3)), (2, .int (nI p1)), (3, .int (nI S)), (5, .int (nI k)), (6, .int (nI (ppX p1 (mg ml k)) - nI (pqX p1 (mg ml k)))), (7, .int (nI (foeX p1 (mg ml k)))), (8, .int (nI (ppX p1 (mg ml k))))]) hx hb dX10_numberOf_215 hl (by decide) rfl (fun ls hl => ?_)
                    refine lv_goto (tgt := 256) hx hb dX10_numberOf_217 (by decide) ?_
                    exact hJ_256 _ (by unfold nbX; first | (rw [if_neg (by omega), Int32.add_zero]; done) | (rw [if_pos (by omega)]; first | rfl | (rw [if_pos rfl, if_pos c_172]; rfl) | (rw [if_pos rfl, if_neg (by omega)]; rfl) | (rw [if_neg (by omega), if_neg (by omega), if_neg (by omega), if_neg (by omega), if_pos c_224]; rfl) | (rw [if_neg (by omega), if_neg (by omega), if_neg (by omega), if_neg (by omega), if_neg (by omega), if_pos c_240]; done) | (rw [if_neg (by omega), if_neg (by omega), if_neg (by omega), if_neg (by omega), if_neg (by omega), if_neg (by omega)]; rfl))) H locs hP hD hS ls (lv_sub hl [1, 2, 3, 4, 0, 5] rfl)
                  · skip
                    refine lv_tableOut (tgt := 220) hx hb dX10_numberOf_138 (Or.inr (by rw [nI_toInt (by omega)]; omega)) (by decide) ?_
                    refine lv_iload hx hb dX10_numberOf_220 (lv_at hl 4 rfl) ?_
                    refine lv_iload hx hb dX10_numberOf_222 (lv_at hl 6 rfl) ?_
                    refine lv_if_le (tgt := 238) hx hb dX10_numberOf_224 (by decide) (fun c_224 => ?_) (fun c_224 => ?_)
                    · skip
                      have c_224 := mo_le (by omega) (by omega) c_224
                      refine lv_iload hx hb dX10_numberOf_238 (lv_at hl 6 rfl) ?_
                      refine lv_if_ne (tgt := 252) hx hb dX10_numberOf_240 (by decide) (fun c_240 => ?_) (fun c_240 => ?_)
                      · skip
                        have c_240 := mo_ne (by omega) (by omega) c_240
                        refine lv_iconst (v := nI 0) hx hb dX10_numberOf_252 (by decide) ?_
                        refine lv_iadd hx hb dX10_numberOf_253 ?_
                        refine lv_istore (lv' := [(4, .int (v + (nI 0))), (0, .ref (q10 0)), (1, .int (nI kd)), (2, .int (nI p1)), (3, .int (nI S)), (5, .int (nI k)), (6, .int (nI (ppX p1 (mg ml k)) - nI (pqX p1 (mg ml k)))), (7, .int (nI (foeX p1 (mg ml k)))), (8, .int (nI (ppX p1 (mg ml k))))]) hx hb dX10_numberOf_254 hl (by decide) rfl (fun ls hl => ?_)
                        exact hJ_256 _ (by unfold nbX; first | (rw [if_neg (by omega), Int32.add_zero]; done) | (rw [if_pos (by omega)]; first | rfl | (rw [if_pos rfl, if_pos c_172]; rfl) | (rw [if_pos rfl, if_neg (by omega)]; rfl) | (rw [if_neg (by omega), if_neg (by omega), if_neg (by omega), if_neg (by omega), if_pos c_224]; rfl) | (rw [if_neg (by omega), if_neg (by omega), if_neg (by omega), if_neg (by omega), if_neg (by omega), if_pos c_240]; done) | (rw [if_neg (by omega), if_neg (by omega), if_neg (by omega), if_neg (by omega), if_neg (by omega), if_neg (by omega)]; rfl))) H locs hP hD hS ls (lv_sub hl [1, 2, 3, 4, 0, 5] rfl)
                      · skip
                        have c_240 := mo_ne_n (by omega) (by omega) c_240
                        refine lv_aload_n hx hb dX10_numberOf_243 rfl (lv_at hl 0 rfl) ?_
                        refine lv_iload hx hb dX10_numberOf_244 (lv_at hl 7 rfl) ?_
                        have hs_246 : kSplit (wX10 q10 cI cJ cB st_10 kept_10 undoable_10 newest_10 tape_10 taped_10 marks_10 order_10 reach_10 heapOf_10 rows_10 x_10 overs_10 costs_10 ways_10 digits_10 beaten_10 walks_10) (wX10 q10 cI cJ cB st_10 kept_10 undoable_10 newest_10 tape_10 taped_10 marks_10 order_10 reach_10 heapOf_10 rows_10 x_10 overs_10 costs_10 ways_10 digits_10 beaten_10 walks_10) ([] : va_W) [0, 1, 2, 3, 4, 5, 6, 7, 8, 9, 10, 11, 12, 13, 14, 15] [] := ⟨rfl, rfl, rfl, rfl, rfl, by decide⟩
                        refine kc_i hP hD hS hA hs_246 (kV (As := [.int (nI (foeX p1 (mg ml k)))]) (rest := [.int v]) hx hb hml hown hts hKW hP hD hs_246 (c_X10_scoreOf l D cI cJ cB q10 st_10 kept_10 undoable_10 newest_10 tape_10 taped_10 marks_10 order_10 reach_10 heapOf_10 rows_10 x_10 overs_10 costs_10 ways_10 digits_10 beaten_10 walks_10 n ml nx ks rr (foeX p1 (mg ml k)) (by first | assumption | omega) (by first | assumption | omega) (by first | assumption | omega)) (cwV 1 hts gX10_numberOf_X10_scoreOf rfl rfl rfl (by decide +kernel) ⟨Nat.le_of_ble_eq_true rfl, Nat.le_of_ble_eq_true rfl⟩) 0 10 rfl rfl rfl rfl hl.1 rfl (Nat.le_of_ble_eq_true rfl) dX10_numberOf_246 ⟨Nat.zero_le _, Nat.zero_le _⟩) (fun r_246 u_246 H locs hw_246 hP hD hS => ?_)
                        have er_246 := hw_246
                        subst er_246
                        have hP : va_P D vwCl (wX10 q10 cI cJ cB st_10 kept_10 undoable_10 newest_10 tape_10 taped_10 marks_10 order_10 reach_10 heapOf_10 rows_10 x_10 overs_10 costs_10 ways_10 digits_10 beaten_10 walks_10) H := hP.sub (ws' := (wX10 q10 cI cJ cB st_10 kept_10 undoable_10 newest_10 tape_10 taped_10 marks_10 order_10 reach_10 heapOf_10 rows_10 x_10 overs_10 costs_10 ways_10 digits_10 beaten_10 walks_10)) [0, 1, 2, 3, 4, 5, 6, 7, 8, 9, 10, 11, 12, 13, 14, 15] rfl
                        have hD : va_D A (wX10 q10 cI cJ cB st_10 kept_10 undoable_10 newest_10 tape_10 taped_10 marks_10 order_10 reach_10 heapOf_10 rows_10 x_10 overs_10 costs_10 ways_10 digits_10 beaten_10 walks_10) := hD.sub (ws' := (wX10 q10 cI cJ cB st_10 kept_10 undoable_10 newest_10 tape_10 taped_10 marks_10 order_10 reach_10 heapOf_10 rows_10 x_10 overs_10 costs_10 ways_10 digits_10 beaten_10 walks_10)) [0, 1, 2, 3, 4, 5, 6, 7, 8, 9, 10, 11, 12, 13, 14, 15] (by decide) rfl
                        refine lv_goto (tgt := 253) hx hb dX10_numberOf_249 (by decide) ?_
                        refine lv_iadd hx hb dX10_numberOf_253 ?_
                        refine lv_istore (lv' := [(4, .int (v + (scF rr ml (foeX p1 (mg ml k)) 1023))), (0, .ref (q10 0)), (1, .int (nI kd)), (2, .int (nI p1)), (3, .int (nI S)), (5, .int (nI k)), (6, .int (nI (ppX p1 (mg ml k)) - nI (pqX p1 (mg ml k)))), (7, .int (nI (foeX p1 (mg ml k)))), (8, .int (nI (ppX p1 (mg ml k))))]) hx hb dX10_numberOf_254 hl (by decide) rfl (fun ls hl => ?_)
                        exact hJ_256 _ (by unfold nbX; first | (rw [if_neg (by omega), Int32.add_zero]; done) | (rw [if_pos (by omega)]; first | rfl | (rw [if_pos rfl, if_pos c_172]; rfl) | (rw [if_pos rfl, if_neg (by omega)]; rfl) | (rw [if_neg (by omega), if_neg (by omega), if_neg (by omega), if_neg (by omega), if_pos c_224]; rfl) | (rw [if_neg (by omega), if_neg (by omega), if_neg (by omega), if_neg (by omega), if_neg (by omega), if_pos c_240]; done) | (rw [if_neg (by omega), if_neg (by omega), if_neg (by omega), if_neg (by omega), if_neg (by omega), if_neg (by omega)]; rfl))) H locs hP hD hS ls (lv_sub hl [1, 2, 3, 4, 0, 5] rfl)
                    · skip
                      have c_224 := mo_le_n (by omega) (by omega) c_224
                      refine lv_iconst (v := nI 2) hx hb dX10_numberOf_227 (by decide) ?_
                      refine lv_aload_n hx hb dX10_numberOf_228 rfl (lv_at hl 0 rfl) ?_
                      refine lv_iload hx hb dX10_numberOf_229 (lv_at hl 7 rfl) ?_
                      have hs_231 : kSplit (wX10 q10 cI cJ cB st_10 kept_10 undoable_10 newest_10 tape_10 taped_10 marks_10 order_10 reach_10 heapOf_10 rows_10 x_10 overs_10 costs_10 ways_10 digits_10 beaten_10 walks_10) (wX10 q10 cI cJ cB st_10 kept_10 undoable_10 newest_10 tape_10 taped_10 marks_10 order_10 reach_10 heapOf_10 rows_10 x_10 overs_10 costs_10 ways_10 digits_10 beaten_10 walks_10) ([] : va_W) [0, 1, 2, 3, 4, 5, 6, 7, 8, 9, 10, 11, 12, 13, 14, 15] [] := ⟨rfl, rfl, rfl, rfl, rfl, by decide⟩
                      refine kc_i hP hD hS hA hs_231 (kV (As := [.int (nI (foeX p1 (mg ml k)))]) (rest := [.int (nI 2), .int v]) hx hb hml hown hts hKW hP hD hs_231 (c_X10_scoreOf l D cI cJ cB q10 st_10 kept_10 undoable_10 newest_10 tape_10 taped_10 marks_10 order_10 reach_10 heapOf_10 rows_10 x_10 overs_10 costs_10 ways_10 digits_10 beaten_10 walks_10 n ml nx ks rr (foeX p1 (mg ml k)) (by first | assumption | omega) (by first | assumption | omega) (by first | assumption | omega)) (cwV 1 hts gX10_numberOf_X10_scoreOf rfl rfl rfl (by decide +kernel) ⟨Nat.le_of_ble_eq_true rfl, Nat.le_of_ble_eq_true rfl⟩) 0 10 rfl rfl rfl rfl hl.1 rfl (Nat.le_of_ble_eq_true rfl) dX10_numberOf_231 ⟨Nat.zero_le _, Nat.zero_le _⟩) (fun r_231 u_231 H locs hw_231 hP hD hS => ?_)
                      have er_231 := hw_231
                      subst er_231
                      have hP : va_P D vwCl (wX10 q10 cI cJ cB st_10 kept_10 undoable_10 newest_10 tape_10 taped_10 marks_10 order_10 reach_10 heapOf_10 rows_10 x_10 overs_10 costs_10 ways_10 digits_10 beaten_10 walks_10) H := hP.sub (ws' := (wX10 q10 cI cJ cB st_10 kept_10 undoable_10 newest_10 tape_10 taped_10 marks_10 order_10 reach_10 heapOf_10 rows_10 x_10 overs_10 costs_10 ways_10 digits_10 beaten_10 walks_10)) [0, 1, 2, 3, 4, 5, 6, 7, 8, 9, 10, 11, 12, 13, 14, 15] rfl
                      have hD : va_D A (wX10 q10 cI cJ cB st_10 kept_10 undoable_10 newest_10 tape_10 taped_10 marks_10 order_10 reach_10 heapOf_10 rows_10 x_10 overs_10 costs_10 ways_10 digits_10 beaten_10 walks_10) := hD.sub (ws' := (wX10 q10 cI cJ cB st_10 kept_10 undoable_10 newest_10 tape_10 taped_10 marks_10 order_10 reach_10 heapOf_10 rows_10 x_10 overs_10 costs_10 ways_10 digits_10 beaten_10 walks_10)) [0, 1, 2, 3, 4, 5, 6, 7, 8, 9, 10, 11, 12, 13, 14, 15] (by decide) rfl
                      refine lv_imul hx hb dX10_numberOf_234 ?_
                      refine lv_goto (tgt := 253) hx hb dX10_numberOf_235 (by decide) ?_
                      refine lv_iadd hx hb dX10_numberOf_253 ?_
                      refine lv_istore (lv' := [(4, .int (v + ((nI 2) * (scF rr ml (foeX p1 (mg ml k)) 1023)))), (0, .ref (q10 0)), (1, .int (nI kd)), (2, .int (nI p1)), (3, .int (nI S)), (5, .int (nI k)), (6, .int (nI (ppX p1 (mg ml k)) - nI (pqX p1 (mg ml k)))), (7, .int (nI (foeX p1 (mg ml k)))), (8, .int (nI (ppX p1 (mg ml k))))]) hx hb dX10_numberOf_254 hl (by decide) rfl (fun ls hl => ?_)
                      exact hJ_256 _ (by unfold nbX; first | (rw [if_neg (by omega), Int32.add_zero]; done) | (rw [if_pos (by omega)]; first | rfl | (rw [if_pos rfl, if_pos c_172]; rfl) | (rw [if_pos rfl, if_neg (by omega)]; rfl) | (rw [if_neg (by omega), if_neg (by omega), if_neg (by omega), if_neg (by omega), if_pos c_224]; rfl) | (rw [if_neg (by omega), if_neg (by omega), if_neg (by omega), if_neg (by omega), if_neg (by omega), if_pos c_240]; done) | (rw [if_neg (by omega), if_neg (by omega), if_neg (by omega), if_neg (by omega), if_neg (by omega), if_neg (by omega)]; rfl))) H locs hP hD hS ls (lv_sub hl [1, 2, 3, 4, 0, 5] rfl)
                refine lv_aload_n hx hb dX10_numberOf_107 rfl (lv_at hl 1 rfl) ?_
                refine k_get (ci := 10) (v := .ref (q10 1)) (C := RX10) (Tb := TX10) (N := 18) hx hb hts hu_10 hown hKW hP 0 rfl rfl 0 (by decide) hf_7 rfl rfl dX10_numberOf_108 ?_
                refine lv_bipush (v := nI 11) hx hb dX10_numberOf_111 (by decide) ?_
                refine lv_iconst (v := nI 4) hx hb dX10_numberOf_113 (by decide) ?_
                refine lv_iload hx hb dX10_numberOf_114 (lv_at hl 6 rfl) ?_
                refine k_imul hx hb dX10_numberOf_116 ?_
                refine k_iadd hx hb dX10_numberOf_117 ?_
                refine lv_aload_n hx hb dX10_numberOf_118 rfl (lv_at hl 1 rfl) ?_
                refine lv_iload hx hb dX10_numberOf_119 (lv_at hl 6 rfl) ?_
                have hs_121 : kSplit (wX10 q10 cI cJ cB st_10 kept_10 undoable_10 newest_10 tape_10 taped_10 marks_10 order_10 reach_10 heapOf_10 rows_10 x_10 overs_10 costs_10 ways_10 digits_10 beaten_10 walks_10) (wX10 q10 cI cJ cB st_10 kept_10 undoable_10 newest_10 tape_10 taped_10 marks_10 order_10 reach_10 heapOf_10 rows_10 x_10 overs_10 costs_10 ways_10 digits_10 beaten_10 walks_10) ([] : va_W) [0, 1, 2, 3, 4, 5, 6, 7, 8, 9, 10, 11, 12, 13, 14, 15] [] := ⟨rfl, rfl, rfl, rfl, rfl, by decide⟩
                refine kc_i hP hD hS hA hs_121 (kV (As := [.int (nI k)]) (rest := [.int (nI (11 + (4 * k))), .ref (q10 1)]) hx hb hml hown hts hKW hP hD hs_121 (c_X10_one l D cI cJ cB q10 st_10 kept_10 undoable_10 newest_10 tape_10 taped_10 marks_10 order_10 reach_10 heapOf_10 rows_10 x_10 overs_10 costs_10 ways_10 digits_10 beaten_10 walks_10 n ml nx ks rr k (by first | assumption | omega) (by first | assumption | omega) (by first | assumption | omega)) (cwV 1 hts gX10_numberOf_X10_one rfl rfl rfl (by decide +kernel) ⟨Nat.le_of_ble_eq_true rfl, Nat.le_of_ble_eq_true rfl⟩) 0 10 rfl rfl rfl rfl hl.1 rfl (Nat.le_of_ble_eq_true rfl) dX10_numberOf_121 ⟨Nat.zero_le _, Nat.zero_le _⟩) (fun r_121 u_121 H locs hw_121 hP hD hS => ?_)
                have er_121 := hw_121
                subst er_121
                have hP : va_P D vwCl (wX10 q10 cI cJ cB st_10 kept_10 undoable_10 newest_10 tape_10 taped_10 marks_10 order_10 reach_10 heapOf_10 rows_10 x_10 overs_10 costs_10 ways_10 digits_10 beaten_10 walks_10) H := hP.sub (ws' := (wX10 q10 cI cJ cB st_10 kept_10 undoable_10 newest_10 tape_10 taped_10 marks_10 order_10 reach_10 heapOf_10 rows_10 x_10 overs_10 costs_10 ways_10 digits_10 beaten_10 walks_10)) [0, 1, 2, 3, 4, 5, 6, 7, 8, 9, 10, 11, 12, 13, 14, 15] rfl
                have hD : va_D A (wX10 q10 cI cJ cB st_10 kept_10 undoable_10 newest_10 tape_10 taped_10 marks_10 order_10 reach_10 heapOf_10 rows_10 x_10 overs_10 costs_10 ways_10 digits_10 beaten_10 walks_10) := hD.sub (ws' := (wX10 q10 cI cJ cB st_10 kept_10 undoable_10 newest_10 tape_10 taped_10 marks_10 order_10 reach_10 heapOf_10 rows_10 x_10 overs_10 costs_10 ways_10 digits_10 beaten_10 walks_10)) [0, 1, 2, 3, 4, 5, 6, 7, 8, 9, 10, 11, 12, 13, 14, 15] (by decide) rfl
                refine lv_iload_n hx hb dX10_numberOf_124 rfl (lv_at hl 3 rfl) ?_
                refine lv_icmp_ne (tgt := 132) hx hb dX10_numberOf_125 (by decide) (fun c_125 => ?_) (fun c_125 => ?_)
                · skip
                  have c_125 := k_ne (by omega) (by omega) c_125
                  refine lv_iconst (v := nI 3) hx hb dX10_numberOf_132 (by decide) ?_
                  refine k_iadd hx hb dX10_numberOf_133 ?_
                  refine k_iald (n := 600) (i := (11 + (4 * k)) + 3) hx hb hKW hP 1 0 rfl rfl (by omega) (by omega) dX10_numberOf_134 ?_
                  refine k_top (y := nI (ppX p1 (mg ml k))) (by unfold ppX; first | (rw [if_pos c_125]; exact (hR.2.2.2.2.2.2.2.2.1 k c_26).2.2.1) | (rw [if_neg c_125]; exact (hR.2.2.2.2.2.2.2.2.1 k c_26).2.2.2)) ?_
                  refine lv_istore (lv' := [(8, .int (nI (ppX p1 (mg ml k)))), (7, .int (nI (foeX p1 (mg ml k)))), (0, .ref (q10 0)), (1, .int (nI kd)), (2, .int (nI p1)), (3, .int (nI S)), (4, .int v), (5, .int (nI k)), (6, .int (nI (ppX p1 (mg ml k)) - nI (pqX p1 (mg ml k))))]) hx hb dX10_numberOf_135 hl (by decide) rfl (fun ls hl => ?_)
                  exact hJ_137  H locs hP hD hS ls (lv_sub hl [2, 3, 4, 5, 6, 7, 8, 1, 0] rfl)
                · skip
                  have c_125 := k_ne_n (by omega) (by omega) c_125
                  refine lv_iconst (v := nI 2) hx hb dX10_numberOf_128 (by decide) ?_
                  refine lv_goto (tgt := 133) hx hb dX10_numberOf_129 (by decide) ?_
                  refine k_iadd hx hb dX10_numberOf_133 ?_
                  refine k_iald (n := 600) (i := (11 + (4 * k)) + 2) hx hb hKW hP 1 0 rfl rfl (by omega) (by omega) dX10_numberOf_134 ?_
                  refine k_top (y := nI (ppX p1 (mg ml k))) (by unfold ppX; first | (rw [if_pos c_125]; exact (hR.2.2.2.2.2.2.2.2.1 k c_26).2.2.1) | (rw [if_neg c_125]; exact (hR.2.2.2.2.2.2.2.2.1 k c_26).2.2.2)) ?_
                  refine lv_istore (lv' := [(8, .int (nI (ppX p1 (mg ml k)))), (7, .int (nI (foeX p1 (mg ml k)))), (0, .ref (q10 0)), (1, .int (nI kd)), (2, .int (nI p1)), (3, .int (nI S)), (4, .int v), (5, .int (nI k)), (6, .int (nI (ppX p1 (mg ml k)) - nI (pqX p1 (mg ml k))))]) hx hb dX10_numberOf_135 hl (by decide) rfl (fun ls hl => ?_)
                  exact hJ_137  H locs hP hD hS ls (lv_sub hl [2, 3, 4, 5, 6, 7, 8, 1, 0] rfl)
              refine lv_aload_n hx hb dX10_numberOf_80 rfl (lv_at hl 1 rfl) ?_
              refine lv_iload hx hb dX10_numberOf_81 (lv_at hl 6 rfl) ?_
              have hs_83 : kSplit (wX10 q10 cI cJ cB st_10 kept_10 undoable_10 newest_10 tape_10 taped_10 marks_10 order_10 reach_10 heapOf_10 rows_10 x_10 overs_10 costs_10 ways_10 digits_10 beaten_10 walks_10) (wX10 q10 cI cJ cB st_10 kept_10 undoable_10 newest_10 tape_10 taped_10 marks_10 order_10 reach_10 heapOf_10 rows_10 x_10 overs_10 costs_10 ways_10 digits_10 beaten_10 walks_10) ([] : va_W) [0, 1, 2, 3, 4, 5, 6, 7, 8, 9, 10, 11, 12, 13, 14, 15] [] := ⟨rfl, rfl, rfl, rfl, rfl, by decide⟩
              refine kc_i hP hD hS hA hs_83 (kV (As := [.int (nI k)]) (rest := []) hx hb hml hown hts hKW hP hD hs_83 (c_X10_one l D cI cJ cB q10 st_10 kept_10 undoable_10 newest_10 tape_10 taped_10 marks_10 order_10 reach_10 heapOf_10 rows_10 x_10 overs_10 costs_10 ways_10 digits_10 beaten_10 walks_10 n ml nx ks rr k (by first | assumption | omega) (by first | assumption | omega) (by first | assumption | omega)) (cwV 1 hts gX10_numberOf_X10_one rfl rfl rfl (by decide +kernel) ⟨Nat.le_of_ble_eq_true rfl, Nat.le_of_ble_eq_true rfl⟩) 0 10 rfl rfl rfl rfl hl.1 rfl (Nat.le_of_ble_eq_true rfl) dX10_numberOf_83 ⟨Nat.zero_le _, Nat.zero_le _⟩) (fun r_83 u_83 H locs hw_83 hP hD hS => ?_)
              have er_83 := hw_83
              subst er_83
              have hP : va_P D vwCl (wX10 q10 cI cJ cB st_10 kept_10 undoable_10 newest_10 tape_10 taped_10 marks_10 order_10 reach_10 heapOf_10 rows_10 x_10 overs_10 costs_10 ways_10 digits_10 beaten_10 walks_10) H := hP.sub (ws' := (wX10 q10 cI cJ cB st_10 kept_10 undoable_10 newest_10 tape_10 taped_10 marks_10 order_10 reach_10 heapOf_10 rows_10 x_10 overs_10 costs_10 ways_10 digits_10 beaten_10 walks_10)) [0, 1, 2, 3, 4, 5, 6, 7, 8, 9, 10, 11, 12, 13, 14, 15] rfl
              have hD : va_D A (wX10 q10 cI cJ cB st_10 kept_10 undoable_10 newest_10 tape_10 taped_10 marks_10 order_10 reach_10 heapOf_10 rows_10 x_10 overs_10 costs_10 ways_10 digits_10 beaten_10 walks_10) := hD.sub (ws' := (wX10 q10 cI cJ cB st_10 kept_10 undoable_10 newest_10 tape_10 taped_10 marks_10 order_10 reach_10 heapOf_10 rows_10 x_10 overs_10 costs_10 ways_10 digits_10 beaten_10 walks_10)) [0, 1, 2, 3, 4, 5, 6, 7, 8, 9, 10, 11, 12, 13, 14, 15] (by decide) rfl
              refine lv_iload_n hx hb dX10_numberOf_86 rfl (lv_at hl 3 rfl) ?_
              refine lv_icmp_ne (tgt := 99) hx hb dX10_numberOf_87 (by decide) (fun c_87 => ?_) (fun c_87 => ?_)
              · skip
                have c_87 := k_ne (by omega) (by omega) c_87
                refine lv_aload_n hx hb dX10_numberOf_99 rfl (lv_at hl 1 rfl) ?_
                refine lv_iload hx hb dX10_numberOf_100 (lv_at hl 6 rfl) ?_
                have hs_102 : kSplit (wX10 q10 cI cJ cB st_10 kept_10 undoable_10 newest_10 tape_10 taped_10 marks_10 order_10 reach_10 heapOf_10 rows_10 x_10 overs_10 costs_10 ways_10 digits_10 beaten_10 walks_10) (wX10 q10 cI cJ cB st_10 kept_10 undoable_10 newest_10 tape_10 taped_10 marks_10 order_10 reach_10 heapOf_10 rows_10 x_10 overs_10 costs_10 ways_10 digits_10 beaten_10 walks_10) ([] : va_W) [0, 1, 2, 3, 4, 5, 6, 7, 8, 9, 10, 11, 12, 13, 14, 15] [] := ⟨rfl, rfl, rfl, rfl, rfl, by decide⟩
                refine kc_i hP hD hS hA hs_102 (kV (As := [.int (nI k)]) (rest := []) hx hb hml hown hts hKW hP hD hs_102 (c_X10_one l D cI cJ cB q10 st_10 kept_10 undoable_10 newest_10 tape_10 taped_10 marks_10 order_10 reach_10 heapOf_10 rows_10 x_10 overs_10 costs_10 ways_10 digits_10 beaten_10 walks_10 n ml nx ks rr k (by first | assumption | omega) (by first | assumption | omega) (by first | assumption | omega)) (cwV 1 hts gX10_numberOf_X10_one rfl rfl rfl (by decide +kernel) ⟨Nat.le_of_ble_eq_true rfl, Nat.le_of_ble_eq_true rfl⟩) 0 10 rfl rfl rfl rfl hl.1 rfl (Nat.le_of_ble_eq_true rfl) dX10_numberOf_102 ⟨Nat.zero_le _, Nat.zero_le _⟩) (fun r_102 u_102 H locs hw_102 hP hD hS => ?_)
                have er_102 := hw_102
                subst er_102
                have hP : va_P D vwCl (wX10 q10 cI cJ cB st_10 kept_10 undoable_10 newest_10 tape_10 taped_10 marks_10 order_10 reach_10 heapOf_10 rows_10 x_10 overs_10 costs_10 ways_10 digits_10 beaten_10 walks_10) H := hP.sub (ws' := (wX10 q10 cI cJ cB st_10 kept_10 undoable_10 newest_10 tape_10 taped_10 marks_10 order_10 reach_10 heapOf_10 rows_10 x_10 overs_10 costs_10 ways_10 digits_10 beaten_10 walks_10)) [0, 1, 2, 3, 4, 5, 6, 7, 8, 9, 10, 11, 12, 13, 14, 15] rfl
                have hD : va_D A (wX10 q10 cI cJ cB st_10 kept_10 undoable_10 newest_10 tape_10 taped_10 marks_10 order_10 reach_10 heapOf_10 rows_10 x_10 overs_10 costs_10 ways_10 digits_10 beaten_10 walks_10) := hD.sub (ws' := (wX10 q10 cI cJ cB st_10 kept_10 undoable_10 newest_10 tape_10 taped_10 marks_10 order_10 reach_10 heapOf_10 rows_10 x_10 overs_10 costs_10 ways_10 digits_10 beaten_10 walks_10)) [0, 1, 2, 3, 4, 5, 6, 7, 8, 9, 10, 11, 12, 13, 14, 15] (by decide) rfl
                refine k_top (y := nI (foeX p1 (mg ml k))) (by unfold foeX; rw [if_neg c_87]) ?_
                exact hJ_105  H locs hP hD hS ls (lv_sub hl [1, 2, 3, 4, 5, 6, 0] rfl)
              · skip
                have c_87 := k_ne_n (by omega) (by omega) c_87
                refine lv_aload_n hx hb dX10_numberOf_90 rfl (lv_at hl 1 rfl) ?_
                refine lv_iload hx hb dX10_numberOf_91 (lv_at hl 6 rfl) ?_
                have hs_93 : kSplit (wX10 q10 cI cJ cB st_10 kept_10 undoable_10 newest_10 tape_10 taped_10 marks_10 order_10 reach_10 heapOf_10 rows_10 x_10 overs_10 costs_10 ways_10 digits_10 beaten_10 walks_10) (wX10 q10 cI cJ cB st_10 kept_10 undoable_10 newest_10 tape_10 taped_10 marks_10 order_10 reach_10 heapOf_10 rows_10 x_10 overs_10 costs_10 ways_10 digits_10 beaten_10 walks_10) ([] : va_W) [0, 1, 2, 3, 4, 5, 6, 7, 8, 9, 10, 11, 12, 13, 14, 15] [] := ⟨rfl, rfl, rfl, rfl, rfl, by decide⟩
                refine kc_i hP hD hS hA hs_93 (kV (As := [.int (nI k)]) (rest := []) hx hb hml hown hts hKW hP hD hs_93 (c_X10_two l D cI cJ cB q10 st_10 kept_10 undoable_10 newest_10 tape_10 taped_10 marks_10 order_10 reach_10 heapOf_10 rows_10 x_10 overs_10 costs_10 ways_10 digits_10 beaten_10 walks_10 n ml nx ks rr k (by first | assumption | omega) (by first | assumption | omega) (by first | assumption | omega)) (cwV 1 hts gX10_numberOf_X10_two rfl rfl rfl (by decide +kernel) ⟨Nat.le_of_ble_eq_true rfl, Nat.le_of_ble_eq_true rfl⟩) 0 10 rfl rfl rfl rfl hl.1 rfl (Nat.le_of_ble_eq_true rfl) dX10_numberOf_93 ⟨Nat.zero_le _, Nat.zero_le _⟩) (fun r_93 u_93 H locs hw_93 hP hD hS => ?_)
                have er_93 := hw_93
                subst er_93
                have hP : va_P D vwCl (wX10 q10 cI cJ cB st_10 kept_10 undoable_10 newest_10 tape_10 taped_10 marks_10 order_10 reach_10 heapOf_10 rows_10 x_10 overs_10 costs_10 ways_10 digits_10 beaten_10 walks_10) H := hP.sub (ws' := (wX10 q10 cI cJ cB st_10 kept_10 undoable_10 newest_10 tape_10 taped_10 marks_10 order_10 reach_10 heapOf_10 rows_10 x_10 overs_10 costs_10 ways_10 digits_10 beaten_10 walks_10)) [0, 1, 2, 3, 4, 5, 6, 7, 8, 9, 10, 11, 12, 13, 14, 15] rfl
                have hD : va_D A (wX10 q10 cI cJ cB st_10 kept_10 undoable_10 newest_10 tape_10 taped_10 marks_10 order_10 reach_10 heapOf_10 rows_10 x_10 overs_10 costs_10 ways_10 digits_10 beaten_10 walks_10) := hD.sub (ws' := (wX10 q10 cI cJ cB st_10 kept_10 undoable_10 newest_10 tape_10 taped_10 marks_10 order_10 reach_10 heapOf_10 rows_10 x_10 overs_10 costs_10 ways_10 digits_10 beaten_10 walks_10)) [0, 1, 2, 3, 4, 5, 6, 7, 8, 9, 10, 11, 12, 13, 14, 15] (by decide) rfl
                refine k_top (y := nI (foeX p1 (mg ml k))) (by unfold foeX; rw [if_pos c_87]) ?_
                refine lv_goto (tgt := 105) hx hb dX10_numberOf_96 (by decide) ?_
                exact hJ_105  H locs hP hD hS ls (lv_sub hl [1, 2, 3, 4, 5, 6, 0] rfl)
            refine lv_aload_n hx hb dX10_numberOf_52 rfl (lv_at hl 0 rfl) ?_
            refine lv_iload hx hb dX10_numberOf_53 (lv_at hl 5 rfl) ?_
            have hs_55 : kSplit (wX10 q10 cI cJ cB st_10 kept_10 undoable_10 newest_10 tape_10 taped_10 marks_10 order_10 reach_10 heapOf_10 rows_10 x_10 overs_10 costs_10 ways_10 digits_10 beaten_10 walks_10) (wX10 q10 cI cJ cB st_10 kept_10 undoable_10 newest_10 tape_10 taped_10 marks_10 order_10 reach_10 heapOf_10 rows_10 x_10 overs_10 costs_10 ways_10 digits_10 beaten_10 walks_10) ([] : va_W) [0, 1, 2, 3, 4, 5, 6, 7, 8, 9, 10, 11, 12, 13, 14, 15] [] := ⟨rfl, rfl, rfl, rfl, rfl, by decide⟩
            refine kc_i hP hD hS hA hs_55 (kV (As := [.int (nI k)]) (rest := []) hx hb hml hown hts hKW hP hD hs_55 (c_X10_one l D cI cJ cB q10 st_10 kept_10 undoable_10 newest_10 tape_10 taped_10 marks_10 order_10 reach_10 heapOf_10 rows_10 x_10 overs_10 costs_10 ways_10 digits_10 beaten_10 walks_10 n ml nx ks rr k (by first | assumption | omega) (by first | assumption | omega) (by first | assumption | omega)) (cwV 1 hts gX10_numberOf_X10_one rfl rfl rfl (by decide +kernel) ⟨Nat.le_of_ble_eq_true rfl, Nat.le_of_ble_eq_true rfl⟩) 0 10 rfl rfl rfl rfl hl.1 rfl (Nat.le_of_ble_eq_true rfl) dX10_numberOf_55 ⟨Nat.zero_le _, Nat.zero_le _⟩) (fun r_55 u_55 H locs hw_55 hP hD hS => ?_)
            have er_55 := hw_55
            subst er_55
            have hP : va_P D vwCl (wX10 q10 cI cJ cB st_10 kept_10 undoable_10 newest_10 tape_10 taped_10 marks_10 order_10 reach_10 heapOf_10 rows_10 x_10 overs_10 costs_10 ways_10 digits_10 beaten_10 walks_10) H := hP.sub (ws' := (wX10 q10 cI cJ cB st_10 kept_10 undoable_10 newest_10 tape_10 taped_10 marks_10 order_10 reach_10 heapOf_10 rows_10 x_10 overs_10 costs_10 ways_10 digits_10 beaten_10 walks_10)) [0, 1, 2, 3, 4, 5, 6, 7, 8, 9, 10, 11, 12, 13, 14, 15] rfl
            have hD : va_D A (wX10 q10 cI cJ cB st_10 kept_10 undoable_10 newest_10 tape_10 taped_10 marks_10 order_10 reach_10 heapOf_10 rows_10 x_10 overs_10 costs_10 ways_10 digits_10 beaten_10 walks_10) := hD.sub (ws' := (wX10 q10 cI cJ cB st_10 kept_10 undoable_10 newest_10 tape_10 taped_10 marks_10 order_10 reach_10 heapOf_10 rows_10 x_10 overs_10 costs_10 ways_10 digits_10 beaten_10 walks_10)) [0, 1, 2, 3, 4, 5, 6, 7, 8, 9, 10, 11, 12, 13, 14, 15] (by decide) rfl
            refine lv_iload_n hx hb dX10_numberOf_58 rfl (lv_at hl 2 rfl) ?_
            refine lv_icmp_ne (tgt := 71) hx hb dX10_numberOf_59 (by decide) (fun c_59 => ?_) (fun c_59 => ?_)
            · skip
              have c_59 := k_ne (by omega) (by omega) c_59
              refine lv_aload_n hx hb dX10_numberOf_71 rfl (lv_at hl 0 rfl) ?_
              refine lv_iload hx hb dX10_numberOf_72 (lv_at hl 5 rfl) ?_
              have hs_74 : kSplit (wX10 q10 cI cJ cB st_10 kept_10 undoable_10 newest_10 tape_10 taped_10 marks_10 order_10 reach_10 heapOf_10 rows_10 x_10 overs_10 costs_10 ways_10 digits_10 beaten_10 walks_10) (wX10 q10 cI cJ cB st_10 kept_10 undoable_10 newest_10 tape_10 taped_10 marks_10 order_10 reach_10 heapOf_10 rows_10 x_10 overs_10 costs_10 ways_10 digits_10 beaten_10 walks_10) ([] : va_W) [0, 1, 2, 3, 4, 5, 6, 7, 8, 9, 10, 11, 12, 13, 14, 15] [] := ⟨rfl, rfl, rfl, rfl, rfl, by decide⟩
              refine kc_i hP hD hS hA hs_74 (kV (As := [.int (nI k)]) (rest := []) hx hb hml hown hts hKW hP hD hs_74 (c_X10_more l D cI cJ cB q10 st_10 kept_10 undoable_10 newest_10 tape_10 taped_10 marks_10 order_10 reach_10 heapOf_10 rows_10 x_10 overs_10 costs_10 ways_10 digits_10 beaten_10 walks_10 n ml nx ks rr k (by first | assumption | omega) (by first | assumption | omega) (by first | assumption | omega)) (cwV 1 hts gX10_numberOf_X10_more rfl rfl rfl (by decide +kernel) ⟨Nat.le_of_ble_eq_true rfl, Nat.le_of_ble_eq_true rfl⟩) 0 10 rfl rfl rfl rfl hl.1 rfl (Nat.le_of_ble_eq_true rfl) dX10_numberOf_74 ⟨Nat.zero_le _, Nat.zero_le _⟩) (fun r_74 u_74 H locs hw_74 hP hD hS => ?_)
              have er_74 := hw_74
              subst er_74
              have hP : va_P D vwCl (wX10 q10 cI cJ cB st_10 kept_10 undoable_10 newest_10 tape_10 taped_10 marks_10 order_10 reach_10 heapOf_10 rows_10 x_10 overs_10 costs_10 ways_10 digits_10 beaten_10 walks_10) H := hP.sub (ws' := (wX10 q10 cI cJ cB st_10 kept_10 undoable_10 newest_10 tape_10 taped_10 marks_10 order_10 reach_10 heapOf_10 rows_10 x_10 overs_10 costs_10 ways_10 digits_10 beaten_10 walks_10)) [0, 1, 2, 3, 4, 5, 6, 7, 8, 9, 10, 11, 12, 13, 14, 15] rfl
              have hD : va_D A (wX10 q10 cI cJ cB st_10 kept_10 undoable_10 newest_10 tape_10 taped_10 marks_10 order_10 reach_10 heapOf_10 rows_10 x_10 overs_10 costs_10 ways_10 digits_10 beaten_10 walks_10) := hD.sub (ws' := (wX10 q10 cI cJ cB st_10 kept_10 undoable_10 newest_10 tape_10 taped_10 marks_10 order_10 reach_10 heapOf_10 rows_10 x_10 overs_10 costs_10 ways_10 digits_10 beaten_10 walks_10)) [0, 1, 2, 3, 4, 5, 6, 7, 8, 9, 10, 11, 12, 13, 14, 15] (by decide) rfl
              refine lv_ineg hx hb dX10_numberOf_77 ?_
              refine k_top (y := nI (ppX p1 (mg ml k)) - nI (pqX p1 (mg ml k))) (by unfold ppX pqX; rw [if_neg c_59, if_neg c_59]; exact k_negsub _ _) ?_
              exact hJ_78  H locs hP hD hS ls (lv_sub hl [0, 1, 2, 3, 4, 5] rfl)
            · skip
              have c_59 := k_ne_n (by omega) (by omega) c_59
              refine lv_aload_n hx hb dX10_numberOf_62 rfl (lv_at hl 0 rfl) ?_
              refine lv_iload hx hb dX10_numberOf_63 (lv_at hl 5 rfl) ?_
              have hs_65 : kSplit (wX10 q10 cI cJ cB st_10 kept_10 undoable_10 newest_10 tape_10 taped_10 marks_10 order_10 reach_10 heapOf_10 rows_10 x_10 overs_10 costs_10 ways_10 digits_10 beaten_10 walks_10) (wX10 q10 cI cJ cB st_10 kept_10 undoable_10 newest_10 tape_10 taped_10 marks_10 order_10 reach_10 heapOf_10 rows_10 x_10 overs_10 costs_10 ways_10 digits_10 beaten_10 walks_10) ([] : va_W) [0, 1, 2, 3, 4, 5, 6, 7, 8, 9, 10, 11, 12, 13, 14, 15] [] := ⟨rfl, rfl, rfl, rfl, rfl, by decide⟩
              refine kc_i hP hD hS hA hs_65 (kV (As := [.int (nI k)]) (rest := []) hx hb hml hown hts hKW hP hD hs_65 (c_X10_more l D cI cJ cB q10 st_10 kept_10 undoable_10 newest_10 tape_10 taped_10 marks_10 order_10 reach_10 heapOf_10 rows_10 x_10 overs_10 costs_10 ways_10 digits_10 beaten_10 walks_10 n ml nx ks rr k (by first | assumption | omega) (by first | assumption | omega) (by first | assumption | omega)) (cwV 1 hts gX10_numberOf_X10_more rfl rfl rfl (by decide +kernel) ⟨Nat.le_of_ble_eq_true rfl, Nat.le_of_ble_eq_true rfl⟩) 0 10 rfl rfl rfl rfl hl.1 rfl (Nat.le_of_ble_eq_true rfl) dX10_numberOf_65 ⟨Nat.zero_le _, Nat.zero_le _⟩) (fun r_65 u_65 H locs hw_65 hP hD hS => ?_)
              have er_65 := hw_65
              subst er_65
              have hP : va_P D vwCl (wX10 q10 cI cJ cB st_10 kept_10 undoable_10 newest_10 tape_10 taped_10 marks_10 order_10 reach_10 heapOf_10 rows_10 x_10 overs_10 costs_10 ways_10 digits_10 beaten_10 walks_10) H := hP.sub (ws' := (wX10 q10 cI cJ cB st_10 kept_10 undoable_10 newest_10 tape_10 taped_10 marks_10 order_10 reach_10 heapOf_10 rows_10 x_10 overs_10 costs_10 ways_10 digits_10 beaten_10 walks_10)) [0, 1, 2, 3, 4, 5, 6, 7, 8, 9, 10, 11, 12, 13, 14, 15] rfl
              have hD : va_D A (wX10 q10 cI cJ cB st_10 kept_10 undoable_10 newest_10 tape_10 taped_10 marks_10 order_10 reach_10 heapOf_10 rows_10 x_10 overs_10 costs_10 ways_10 digits_10 beaten_10 walks_10) := hD.sub (ws' := (wX10 q10 cI cJ cB st_10 kept_10 undoable_10 newest_10 tape_10 taped_10 marks_10 order_10 reach_10 heapOf_10 rows_10 x_10 overs_10 costs_10 ways_10 digits_10 beaten_10 walks_10)) [0, 1, 2, 3, 4, 5, 6, 7, 8, 9, 10, 11, 12, 13, 14, 15] (by decide) rfl
              refine k_top (y := nI (ppX p1 (mg ml k)) - nI (pqX p1 (mg ml k))) (by unfold ppX pqX; rw [if_pos c_59, if_pos c_59]) ?_
              refine lv_goto (tgt := 78) hx hb dX10_numberOf_68 (by decide) ?_
              exact hJ_78  H locs hP hD hS ls (lv_sub hl [0, 1, 2, 3, 4, 5] rfl)
          refine lv_aload_n hx hb dX10_numberOf_29 rfl (lv_at hl 0 rfl) ?_
          refine lv_iload hx hb dX10_numberOf_30 (lv_at hl 5 rfl) ?_
          have hs_32 : kSplit (wX10 q10 cI cJ cB st_10 kept_10 undoable_10 newest_10 tape_10 taped_10 marks_10 order_10 reach_10 heapOf_10 rows_10 x_10 overs_10 costs_10 ways_10 digits_10 beaten_10 walks_10) (wX10 q10 cI cJ cB st_10 kept_10 undoable_10 newest_10 tape_10 taped_10 marks_10 order_10 reach_10 heapOf_10 rows_10 x_10 overs_10 costs_10 ways_10 digits_10 beaten_10 walks_10) ([] : va_W) [0, 1, 2, 3, 4, 5, 6, 7, 8, 9, 10, 11, 12, 13, 14, 15] [] := ⟨rfl, rfl, rfl, rfl, rfl, by decide⟩
          refine kc_i hP hD hS hA hs_32 (kV (As := [.int (nI k)]) (rest := []) hx hb hml hown hts hKW hP hD hs_32 (c_X10_one l D cI cJ cB q10 st_10 kept_10 undoable_10 newest_10 tape_10 taped_10 marks_10 order_10 reach_10 heapOf_10 rows_10 x_10 overs_10 costs_10 ways_10 digits_10 beaten_10 walks_10 n ml nx ks rr k (by first | assumption | omega) (by first | assumption | omega) (by first | assumption | omega)) (cwV 1 hts gX10_numberOf_X10_one rfl rfl rfl (by decide +kernel) ⟨Nat.le_of_ble_eq_true rfl, Nat.le_of_ble_eq_true rfl⟩) 0 10 rfl rfl rfl rfl hl.1 rfl (Nat.le_of_ble_eq_true rfl) dX10_numberOf_32 ⟨Nat.zero_le _, Nat.zero_le _⟩) (fun r_32 u_32 H locs hw_32 hP hD hS => ?_)
          have er_32 := hw_32
          subst er_32
          have hP : va_P D vwCl (wX10 q10 cI cJ cB st_10 kept_10 undoable_10 newest_10 tape_10 taped_10 marks_10 order_10 reach_10 heapOf_10 rows_10 x_10 overs_10 costs_10 ways_10 digits_10 beaten_10 walks_10) H := hP.sub (ws' := (wX10 q10 cI cJ cB st_10 kept_10 undoable_10 newest_10 tape_10 taped_10 marks_10 order_10 reach_10 heapOf_10 rows_10 x_10 overs_10 costs_10 ways_10 digits_10 beaten_10 walks_10)) [0, 1, 2, 3, 4, 5, 6, 7, 8, 9, 10, 11, 12, 13, 14, 15] rfl
          have hD : va_D A (wX10 q10 cI cJ cB st_10 kept_10 undoable_10 newest_10 tape_10 taped_10 marks_10 order_10 reach_10 heapOf_10 rows_10 x_10 overs_10 costs_10 ways_10 digits_10 beaten_10 walks_10) := hD.sub (ws' := (wX10 q10 cI cJ cB st_10 kept_10 undoable_10 newest_10 tape_10 taped_10 marks_10 order_10 reach_10 heapOf_10 rows_10 x_10 overs_10 costs_10 ways_10 digits_10 beaten_10 walks_10)) [0, 1, 2, 3, 4, 5, 6, 7, 8, 9, 10, 11, 12, 13, 14, 15] (by decide) rfl
          refine lv_iload_n hx hb dX10_numberOf_35 rfl (lv_at hl 2 rfl) ?_
          refine lv_icmp_eq (tgt := 52) hx hb dX10_numberOf_36 (by decide) (fun c_36 => ?_) (fun c_36 => ?_)
          · skip
            have c_36 := k_eq (by omega) (by omega) c_36
            exact hJ_52 (by first | exact Or.inl c_36 | exact Or.inr c_46) H locs hP hD hS ls (lv_sub hl [0, 1, 2, 3, 4, 5] rfl)
          · skip
            have c_36 := k_eq_n (by omega) (by omega) c_36
            refine lv_aload_n hx hb dX10_numberOf_39 rfl (lv_at hl 0 rfl) ?_
            refine lv_iload hx hb dX10_numberOf_40 (lv_at hl 5 rfl) ?_
            have hs_42 : kSplit (wX10 q10 cI cJ cB st_10 kept_10 undoable_10 newest_10 tape_10 taped_10 marks_10 order_10 reach_10 heapOf_10 rows_10 x_10 overs_10 costs_10 ways_10 digits_10 beaten_10 walks_10) (wX10 q10 cI cJ cB st_10 kept_10 undoable_10 newest_10 tape_10 taped_10 marks_10 order_10 reach_10 heapOf_10 rows_10 x_10 overs_10 costs_10 ways_10 digits_10 beaten_10 walks_10) ([] : va_W) [0, 1, 2, 3, 4, 5, 6, 7, 8, 9, 10, 11, 12, 13, 14, 15] [] := ⟨rfl, rfl, rfl, rfl, rfl, by decide⟩
            refine kc_i hP hD hS hA hs_42 (kV (As := [.int (nI k)]) (rest := []) hx hb hml hown hts hKW hP hD hs_42 (c_X10_two l D cI cJ cB q10 st_10 kept_10 undoable_10 newest_10 tape_10 taped_10 marks_10 order_10 reach_10 heapOf_10 rows_10 x_10 overs_10 costs_10 ways_10 digits_10 beaten_10 walks_10 n ml nx ks rr k (by first | assumption | omega) (by first | assumption | omega) (by first | assumption | omega)) (cwV 1 hts gX10_numberOf_X10_two rfl rfl rfl (by decide +kernel) ⟨Nat.le_of_ble_eq_true rfl, Nat.le_of_ble_eq_true rfl⟩) 0 10 rfl rfl rfl rfl hl.1 rfl (Nat.le_of_ble_eq_true rfl) dX10_numberOf_42 ⟨Nat.zero_le _, Nat.zero_le _⟩) (fun r_42 u_42 H locs hw_42 hP hD hS => ?_)
            have er_42 := hw_42
            subst er_42
            have hP : va_P D vwCl (wX10 q10 cI cJ cB st_10 kept_10 undoable_10 newest_10 tape_10 taped_10 marks_10 order_10 reach_10 heapOf_10 rows_10 x_10 overs_10 costs_10 ways_10 digits_10 beaten_10 walks_10) H := hP.sub (ws' := (wX10 q10 cI cJ cB st_10 kept_10 undoable_10 newest_10 tape_10 taped_10 marks_10 order_10 reach_10 heapOf_10 rows_10 x_10 overs_10 costs_10 ways_10 digits_10 beaten_10 walks_10)) [0, 1, 2, 3, 4, 5, 6, 7, 8, 9, 10, 11, 12, 13, 14, 15] rfl
            have hD : va_D A (wX10 q10 cI cJ cB st_10 kept_10 undoable_10 newest_10 tape_10 taped_10 marks_10 order_10 reach_10 heapOf_10 rows_10 x_10 overs_10 costs_10 ways_10 digits_10 beaten_10 walks_10) := hD.sub (ws' := (wX10 q10 cI cJ cB st_10 kept_10 undoable_10 newest_10 tape_10 taped_10 marks_10 order_10 reach_10 heapOf_10 rows_10 x_10 overs_10 costs_10 ways_10 digits_10 beaten_10 walks_10)) [0, 1, 2, 3, 4, 5, 6, 7, 8, 9, 10, 11, 12, 13, 14, 15] (by decide) rfl
            refine lv_iload_n hx hb dX10_numberOf_45 rfl (lv_at hl 2 rfl) ?_
            refine lv_icmp_eq (tgt := 52) hx hb dX10_numberOf_46 (by decide) (fun c_46 => ?_) (fun c_46 => ?_)
            · skip
              have c_46 := k_eq (by omega) (by omega) c_46
              exact hJ_52 (by first | exact Or.inl c_36 | exact Or.inr c_46) H locs hP hD hS ls (lv_sub hl [0, 1, 2, 3, 4, 5] rfl)
            · skip
              have c_46 := k_eq_n (by omega) (by omega) c_46
              refine lv_goto (tgt := 256) hx hb dX10_numberOf_49 (by decide) ?_
              exact hJ_256 _ (by unfold nbX; first | (rw [if_neg (by omega), Int32.add_zero]; done) | (rw [if_pos (by omega)]; first | rfl | (rw [if_pos rfl, if_pos c_172]; rfl) | (rw [if_pos rfl, if_neg (by omega)]; rfl) | (rw [if_neg (by omega), if_neg (by omega), if_neg (by omega), if_neg (by omega), if_pos c_224]; rfl) | (rw [if_neg (by omega), if_neg (by omega), if_neg (by omega), if_neg (by omega), if_neg (by omega), if_pos c_240]; done) | (rw [if_neg (by omega), if_neg (by omega), if_neg (by omega), if_neg (by omega), if_neg (by omega), if_neg (by omega)]; rfl))) H locs hP hD hS ls (lv_sub hl [0, 1, 2, 3, 4, 5] rfl)
    exact hL_18 _ 0 0 (Nat.zero_le _) rfl (Nat.lt_succ_self _) _ _ hP hD hS ls (lv_sub hl [2, 3, 4, 5, 1, 0] rfl)
  · skip
    have c_2 := k_ne_n (by omega) (by omega) c_2
    refine lv_aload_n hx hb dX10_numberOf_5 rfl (lv_at hl 0 rfl) ?_
    refine lv_iload_n hx hb dX10_numberOf_6 rfl (lv_at hl 2 rfl) ?_
    refine lv_iload_n hx hb dX10_numberOf_7 rfl (lv_at hl 3 rfl) ?_
    have hs_8 : kSplit (wX10 q10 cI cJ cB st_10 kept_10 undoable_10 newest_10 tape_10 taped_10 marks_10 order_10 reach_10 heapOf_10 rows_10 x_10 overs_10 costs_10 ways_10 digits_10 beaten_10 walks_10) (wX10 q10 cI cJ cB st_10 kept_10 undoable_10 newest_10 tape_10 taped_10 marks_10 order_10 reach_10 heapOf_10 rows_10 x_10 overs_10 costs_10 ways_10 digits_10 beaten_10 walks_10) ([] : va_W) [0, 1, 2, 3, 4, 5, 6, 7, 8, 9, 10, 11, 12, 13, 14, 15] [] := ⟨rfl, rfl, rfl, rfl, rfl, by decide⟩
    refine kc_i hP hD hS hA hs_8 (kV (As := [.int (nI p1), .int (nI S)]) (rest := []) hx hb hml hown hts hKW hP hD hs_8 (c_X10_scoreWith l D cI cJ cB q10 st_10 kept_10 undoable_10 newest_10 tape_10 taped_10 marks_10 order_10 reach_10 heapOf_10 rows_10 x_10 overs_10 costs_10 ways_10 digits_10 beaten_10 walks_10 n ml nx ks rr p1 S (by first | assumption | omega) (by first | assumption | omega) (by first | assumption | omega) (by first | assumption | omega)) (cwV 2 hts gX10_numberOf_X10_scoreWith rfl rfl rfl (by decide +kernel) ⟨Nat.le_of_ble_eq_true rfl, Nat.le_of_ble_eq_true rfl⟩) 0 10 rfl rfl rfl rfl hl.1 rfl (Nat.le_of_ble_eq_true rfl) dX10_numberOf_8 ⟨Nat.zero_le _, Nat.zero_le _⟩) (fun r_8 u_8 H locs hw_8 hP hD hS => ?_)
    have er_8 := hw_8
    subst er_8
    have hP : va_P D vwCl (wX10 q10 cI cJ cB st_10 kept_10 undoable_10 newest_10 tape_10 taped_10 marks_10 order_10 reach_10 heapOf_10 rows_10 x_10 overs_10 costs_10 ways_10 digits_10 beaten_10 walks_10) H := hP.sub (ws' := (wX10 q10 cI cJ cB st_10 kept_10 undoable_10 newest_10 tape_10 taped_10 marks_10 order_10 reach_10 heapOf_10 rows_10 x_10 overs_10 costs_10 ways_10 digits_10 beaten_10 walks_10)) [0, 1, 2, 3, 4, 5, 6, 7, 8, 9, 10, 11, 12, 13, 14, 15] rfl
    have hD : va_D A (wX10 q10 cI cJ cB st_10 kept_10 undoable_10 newest_10 tape_10 taped_10 marks_10 order_10 reach_10 heapOf_10 rows_10 x_10 overs_10 costs_10 ways_10 digits_10 beaten_10 walks_10) := hD.sub (ws' := (wX10 q10 cI cJ cB st_10 kept_10 undoable_10 newest_10 tape_10 taped_10 marks_10 order_10 reach_10 heapOf_10 rows_10 x_10 overs_10 costs_10 ways_10 digits_10 beaten_10 walks_10)) [0, 1, 2, 3, 4, 5, 6, 7, 8, 9, 10, 11, 12, 13, 14, 15] (by decide) rfl
    subst hQ; subst hAe
    exact W.iret (v := scF rr ml p1 S) hx hb hr (fun t ht _ => ⟨⟨scF rr ml p1 S, (), rfl, by unfold numF; rw [if_pos c_2], by rw [ht]; exact hP, hD⟩, hS.F ht⟩) hS.2.2 dX10_numberOf_11
def rmX10_mark : Room := { frames := 0, cells := 0, slots := 0, locals := 0 }
set_option maxHeartbeats 4000000 in
set_option maxRecDepth 100000 in
theorem c_X10_mark (l : Launch) (D : va_G) (cI cJ cB : ClassId) (q10 : Nat → Nat) (st_10 : Nat → Int32) (kept_10 : Nat → Int32) (undoable_10 : Int32) (newest_10 : Int32) (tape_10 : Nat → Int32) (taped_10 : Int32) (marks_10 : Nat → Int32) (order_10 : Nat → Int32) (reach_10 : Nat → Int32) (heapOf_10 : Nat → Int32) (rows_10 : Nat → Int64) (x_10 : Nat → Int64) (overs_10 : Nat → Int32) (costs_10 : Nat → Int32) (ways_10 : Nat → Int32) (digits_10 : Nat → Int32) (beaten_10 : Nat → Int32) (walks_10 : Nat → Int32) (n : Nat) (ml : List Mt) (nx : List (Nat × Nat)) (ks : List Nat) (rr : Int32 × Int32 × Int32) (p1 : Nat) (j : Nat) (hR : RS st_10 n ml nx ks rr) (hV : VS n ml nx ks) (hp1 : p1 < 10) (hj : j < 5) : ∀ sz, Met l yX10_mark wsX10_mark rmX10_mark (va_Pc [.ref (q10 0), .int (nI p1), .int (nI j)] (PW D (kT cI cJ cB) sz (wX10 q10 cI cJ cB st_10 kept_10 undoable_10 newest_10 tape_10 taped_10 marks_10 order_10 reach_10 heapOf_10 rows_10 x_10 overs_10 costs_10 ways_10 digits_10 beaten_10 walks_10))) (va_Qi (S := Unit) (fun r _ => r = marks_10 (5 * p1 + j)) (QW D sz (wX10 q10 cI cJ cB st_10 kept_10 undoable_10 newest_10 tape_10 taped_10 marks_10 order_10 reach_10 heapOf_10 rows_10 x_10 overs_10 costs_10 ways_10 digits_10 beaten_10 walks_10) (fun _ => (wX10 q10 cI cJ cB st_10 kept_10 undoable_10 newest_10 tape_10 taped_10 marks_10 order_10 reach_10 heapOf_10 rows_10 x_10 overs_10 costs_10 ways_10 digits_10 beaten_10 walks_10))) (va_A (wX10 q10 cI cJ cB st_10 kept_10 undoable_10 newest_10 tape_10 taped_10 marks_10 order_10 reach_10 heapOf_10 rows_10 x_10 overs_10 costs_10 ways_10 digits_10 beaten_10 walks_10) sz)) 0 0 (va_A (wX10 q10 cI cJ cB st_10 kept_10 undoable_10 newest_10 tape_10 taped_10 marks_10 order_10 reach_10 heapOf_10 rows_10 x_10 overs_10 costs_10 ways_10 digits_10 beaten_10 walks_10) sz) := by
  intro sz
  refine Met.ofW (cc := cX10_mark) (maxL := 3) (ret := (some .int)) (by decide) rfl ?_
  intro p e s m args below meth c s₁ B hml hv
  obtain ⟨hav, hsz, hP, hKW, hD0⟩ := hv
  have hx := B.exec
  have hb := B.bytes
  have hr := B.returns
  have hts := atoms_spec (ws := wsX10_mark) B.pre
  have hown : s.vm.findClass RX10 = some m.cls := findClass_of_methodNamed B.named
  have hlocks := B.notSynchronized
  subst hsz
  have hD := hD0.self (sz := s.heap.size)
  obtain ⟨A, hAe⟩ : ∃ A : Nat → Prop, A = va_A (wX10 q10 cI cJ cB st_10 kept_10 undoable_10 newest_10 tape_10 taped_10 marks_10 order_10 reach_10 heapOf_10 rows_10 x_10 overs_10 costs_10 ways_10 digits_10 beaten_10 walks_10) s.heap.size := ⟨_, rfl⟩
  rw [← hAe] at hD
  have hA : ∀ q : Nat, s.heap.size ≤ q → A q := fun q h => by rw [hAe]; exact Or.inr h
  have hS : va_S A s.heap s.heap [] := va_S.rf
  refine k_gen (fun Q hQ => ?_)
  have hl := lv_entry ([.ref (q10 0), .int (nI p1), .int (nI j)]) (n := 3) (Nat.le_of_ble_eq_true rfl)
  refine k_entry hav (lg_entry_eq ..) ?_
  generalize (lg_sl ([.ref (q10 0), .int (nI p1), .int (nI j)]) ++ List.replicate (3 - (lg_sl ([.ref (q10 0), .int (nI p1), .int (nI j)])).length) Slot.unset).toArray = ls at hl ⊢
  have hl : lv_has ls 3 [(0, .ref (q10 0)), (1, .int (nI p1)), (2, .int (nI j))] := hl
  have hu_10 : ∀ w ∈ u_ws RX10 TX10 18, w ∈ wsX10_mark := by decide +kernel
  have hf_19 : Cond.fieldLink RX10 19 "MeetingRanksModel" "marks" "[I" ∈ wsX10_mark := by decide +kernel
  have hn1 := hV.1
  have hn10 := hV.2.1
  have hm120 := hV.2.2.1
  have hx40 := hV.2.2.2.2.1
  have hk4 := hV.2.2.2.2.2.2.1
  refine lv_aload_n hx hb dX10_mark_0 rfl (lv_at hl 0 rfl) ?_
  refine k_get (ci := 10) (v := .ref (q10 4)) (C := RX10) (Tb := TX10) (N := 18) hx hb hts hu_10 hown hKW hP 0 rfl rfl 6 (by decide) hf_19 rfl rfl dX10_mark_1 ?_
  refine lv_iconst (v := nI 5) hx hb dX10_mark_4 (by decide) ?_
  refine lv_iload_n hx hb dX10_mark_5 rfl (lv_at hl 1 rfl) ?_
  refine k_imul hx hb dX10_mark_6 ?_
  refine lv_iload_n hx hb dX10_mark_7 rfl (lv_at hl 2 rfl) ?_
  refine k_iadd hx hb dX10_mark_8 ?_
  refine k_iald (n := 50) (i := (5 * p1) + j) hx hb hKW hP 4 0 rfl rfl (by omega) (by omega) dX10_mark_9 ?_
  subst hQ; subst hAe
  exact W.iret (v := marks_10 ((5 * p1) + j)) hx hb hr (fun t ht _ => ⟨⟨marks_10 ((5 * p1) + j), (), rfl, rfl, by rw [ht]; exact hP, hD⟩, hS.F ht⟩) hS.2.2 dX10_mark_10
def rmX10_alike : Room := { frames := 1, cells := 0, slots := 0, locals := 22 }
set_option maxHeartbeats 4000000 in
set_option maxRecDepth 100000 in
theorem c_X10_alike (l : Launch) (D : va_G) (cI cJ cB : ClassId) (q10 : Nat → Nat) (st_10 : Nat → Int32) (kept_10 : Nat → Int32) (undoable_10 : Int32) (newest_10 : Int32) (tape_10 : Nat → Int32) (taped_10 : Int32) (marks_10 : Nat → Int32) (order_10 : Nat → Int32) (reach_10 : Nat → Int32) (heapOf_10 : Nat → Int32) (rows_10 : Nat → Int64) (x_10 : Nat → Int64) (overs_10 : Nat → Int32) (costs_10 : Nat → Int32) (ways_10 : Nat → Int32) (digits_10 : Nat → Int32) (beaten_10 : Nat → Int32) (walks_10 : Nat → Int32) (n : Nat) (ml : List Mt) (nx : List (Nat × Nat)) (ks : List Nat) (rr : Int32 × Int32 × Int32) (p1 : Nat) (j : Nat) (hR : RS st_10 n ml nx ks rr) (hV : VS n ml nx ks) (hp1 : p1 < 10) (hj : j ≤ 5) : ∀ sz, Met l yX10_alike wsX10_alike rmX10_alike (va_Pc [.ref (q10 0), .int (nI p1), .int (nI j)] (PW D (kT cI cJ cB) sz (wX10 q10 cI cJ cB st_10 kept_10 undoable_10 newest_10 tape_10 taped_10 marks_10 order_10 reach_10 heapOf_10 rows_10 x_10 overs_10 costs_10 ways_10 digits_10 beaten_10 walks_10))) (va_Qi (S := Unit) (fun r _ => r = nI (alk marks_10 n p1 j)) (QW D sz (wX10 q10 cI cJ cB st_10 kept_10 undoable_10 newest_10 tape_10 taped_10 marks_10 order_10 reach_10 heapOf_10 rows_10 x_10 overs_10 costs_10 ways_10 digits_10 beaten_10 walks_10) (fun _ => (wX10 q10 cI cJ cB st_10 kept_10 undoable_10 newest_10 tape_10 taped_10 marks_10 order_10 reach_10 heapOf_10 rows_10 x_10 overs_10 costs_10 ways_10 digits_10 beaten_10 walks_10))) (va_A (wX10 q10 cI cJ cB st_10 kept_10 undoable_10 newest_10 tape_10 taped_10 marks_10 order_10 reach_10 heapOf_10 rows_10 x_10 overs_10 costs_10 ways_10 digits_10 beaten_10 walks_10) sz)) 0 0 (va_A (wX10 q10 cI cJ cB st_10 kept_10 undoable_10 newest_10 tape_10 taped_10 marks_10 order_10 reach_10 heapOf_10 rows_10 x_10 overs_10 costs_10 ways_10 digits_10 beaten_10 walks_10) sz) := by
  intro sz
  refine Met.ofW (cc := cX10_alike) (maxL := 7) (ret := (some .int)) (by decide) rfl ?_
  intro p e s m args below meth c s₁ B hml hv
  obtain ⟨hav, hsz, hP, hKW, hD0⟩ := hv
  have hx := B.exec
  have hb := B.bytes
  have hr := B.returns
  have hts := atoms_spec (ws := wsX10_alike) B.pre
  have hown : s.vm.findClass RX10 = some m.cls := findClass_of_methodNamed B.named
  have hlocks := B.notSynchronized
  subst hsz
  have hD := hD0.self (sz := s.heap.size)
  obtain ⟨A, hAe⟩ : ∃ A : Nat → Prop, A = va_A (wX10 q10 cI cJ cB st_10 kept_10 undoable_10 newest_10 tape_10 taped_10 marks_10 order_10 reach_10 heapOf_10 rows_10 x_10 overs_10 costs_10 ways_10 digits_10 beaten_10 walks_10) s.heap.size := ⟨_, rfl⟩
  rw [← hAe] at hD
  have hA : ∀ q : Nat, s.heap.size ≤ q → A q := fun q h => by rw [hAe]; exact Or.inr h
  have hS : va_S A s.heap s.heap [] := va_S.rf
  refine k_gen (fun Q hQ => ?_)
  have hl := lv_entry ([.ref (q10 0), .int (nI p1), .int (nI j)]) (n := 7) (Nat.le_of_ble_eq_true rfl)
  refine k_entry hav (lg_entry_eq ..) ?_
  generalize (lg_sl ([.ref (q10 0), .int (nI p1), .int (nI j)]) ++ List.replicate (7 - (lg_sl ([.ref (q10 0), .int (nI p1), .int (nI j)])).length) Slot.unset).toArray = ls at hl ⊢
  have hl : lv_has ls 7 [(0, .ref (q10 0)), (1, .int (nI p1)), (2, .int (nI j))] := hl
  have hn1 := hV.1
  have hn10 := hV.2.1
  have hm120 := hV.2.2.1
  have hx40 := hV.2.2.2.2.1
  have hk4 := hV.2.2.2.2.2.2.1
  refine lv_iconst (v := nI 0) hx hb dX10_alike_0 (by decide) ?_
  refine lv_istore_n (lv' := [(3, .int (nI 0)), (0, .ref (q10 0)), (1, .int (nI p1)), (2, .int (nI j))]) hx hb dX10_alike_1 rfl hl (by decide) rfl (fun ls hl => ?_)
  refine lv_iconst (v := nI 0) hx hb dX10_alike_2 (by decide) ?_
  refine lv_istore (lv' := [(4, .int (nI 0)), (3, .int (nI 0)), (0, .ref (q10 0)), (1, .int (nI p1)), (2, .int (nI j))]) hx hb dX10_alike_3 hl (by decide) rfl (fun ls hl => ?_)
  have hL_5 : ∀ (fu : Nat) (q : Nat) (hq : q ≤ n), n - q < fu → ∀ (H : Heap) (locs : List Loc), va_P D vwCl (wX10 q10 cI cJ cB st_10 kept_10 undoable_10 newest_10 tape_10 taped_10 marks_10 order_10 reach_10 heapOf_10 rows_10 x_10 overs_10 costs_10 ways_10 digits_10 beaten_10 walks_10) H → va_D A (wX10 q10 cI cJ cB st_10 kept_10 undoable_10 newest_10 tape_10 taped_10 marks_10 order_10 reach_10 heapOf_10 rows_10 x_10 overs_10 costs_10 ways_10 digits_10 beaten_10 walks_10) → va_S A s.heap H locs → ∀ (ls : Array Slot), lv_has ls 7 [(0, .ref (q10 0)), (1, .int (nI p1)), (2, .int (nI j)), (3, .int (nI (bitsOf (fun q => sameB marks_10 q p1 j) q))), (4, .int (nI q))] → W p l e (headSpec wsX10_alike rmX10_alike).room s m args below meth c H locs 0 0 Q (F0 m 5 ls []) := by
    intro fu
    induction fu with
    | zero => intro q hq hfu; exact absurd hfu (Nat.not_lt_zero _)
    | succ fu ih_5 =>
      intro q hq hfu H locs hP hD hS ls hl
      refine lv_iload hx hb dX10_alike_5 (lv_at hl 4 rfl) ?_
      refine lv_aload_n hx hb dX10_alike_7 rfl (lv_at hl 0 rfl) ?_
      have hs_8 : kSplit (wX10 q10 cI cJ cB st_10 kept_10 undoable_10 newest_10 tape_10 taped_10 marks_10 order_10 reach_10 heapOf_10 rows_10 x_10 overs_10 costs_10 ways_10 digits_10 beaten_10 walks_10) (wX10 q10 cI cJ cB st_10 kept_10 undoable_10 newest_10 tape_10 taped_10 marks_10 order_10 reach_10 heapOf_10 rows_10 x_10 overs_10 costs_10 ways_10 digits_10 beaten_10 walks_10) ([] : va_W) [0, 1, 2, 3, 4, 5, 6, 7, 8, 9, 10, 11, 12, 13, 14, 15] [] := ⟨rfl, rfl, rfl, rfl, rfl, by decide⟩
      refine kc_i hP hD hS hA hs_8 (kV (As := []) (rest := [.int (nI q)]) hx hb hml hown hts hKW hP hD hs_8 (c_X10_n l D cI cJ cB q10 st_10 kept_10 undoable_10 newest_10 tape_10 taped_10 marks_10 order_10 reach_10 heapOf_10 rows_10 x_10 overs_10 costs_10 ways_10 digits_10 beaten_10 walks_10 n ml nx ks rr (by first | assumption | omega) (by first | assumption | omega)) (cwV 0 hts gX10_alike_X10_n rfl rfl rfl (by decide +kernel) ⟨Nat.le_of_ble_eq_true rfl, Nat.le_of_ble_eq_true rfl⟩) 0 10 rfl rfl rfl rfl hl.1 rfl (Nat.le_of_ble_eq_true rfl) dX10_alike_8 ⟨Nat.zero_le _, Nat.zero_le _⟩) (fun r_8 u_8 H locs hw_8 hP hD hS => ?_)
      have er_8 := hw_8
      subst er_8
      have hP : va_P D vwCl (wX10 q10 cI cJ cB st_10 kept_10 undoable_10 newest_10 tape_10 taped_10 marks_10 order_10 reach_10 heapOf_10 rows_10 x_10 overs_10 costs_10 ways_10 digits_10 beaten_10 walks_10) H := hP.sub (ws' := (wX10 q10 cI cJ cB st_10 kept_10 undoable_10 newest_10 tape_10 taped_10 marks_10 order_10 reach_10 heapOf_10 rows_10 x_10 overs_10 costs_10 ways_10 digits_10 beaten_10 walks_10)) [0, 1, 2, 3, 4, 5, 6, 7, 8, 9, 10, 11, 12, 13, 14, 15] rfl
      have hD : va_D A (wX10 q10 cI cJ cB st_10 kept_10 undoable_10 newest_10 tape_10 taped_10 marks_10 order_10 reach_10 heapOf_10 rows_10 x_10 overs_10 costs_10 ways_10 digits_10 beaten_10 walks_10) := hD.sub (ws' := (wX10 q10 cI cJ cB st_10 kept_10 undoable_10 newest_10 tape_10 taped_10 marks_10 order_10 reach_10 heapOf_10 rows_10 x_10 overs_10 costs_10 ways_10 digits_10 beaten_10 walks_10)) [0, 1, 2, 3, 4, 5, 6, 7, 8, 9, 10, 11, 12, 13, 14, 15] (by decide) rfl
      refine lv_icmp_ge (tgt := 84) hx hb dX10_alike_11 (by decide) (fun c_11 => ?_) (fun c_11 => ?_)
      · skip
        have c_11 := k_ge (by omega) (by omega) c_11
        obtain rfl : q = n := by omega
        refine lv_iload_n hx hb dX10_alike_84 rfl (lv_at hl 3 rfl) ?_
        subst hQ; subst hAe
        exact W.iret (v := nI (bitsOf (fun q => sameB marks_10 q p1 j) q)) hx hb hr (fun t ht _ => ⟨⟨nI (bitsOf (fun q => sameB marks_10 q p1 j) q), (), rfl, rfl, by rw [ht]; exact hP, hD⟩, hS.F ht⟩) hS.2.2 dX10_alike_85
      · skip
        have c_11 := k_ge_n (by omega) (by omega) c_11
        refine lv_iconst (v := nI 1) hx hb dX10_alike_14 (by decide) ?_
        refine lv_istore (lv' := [(5, .int (nI 1)), (0, .ref (q10 0)), (1, .int (nI p1)), (2, .int (nI j)), (3, .int (nI (bitsOf (fun q => sameB marks_10 q p1 j) q))), (4, .int (nI q))]) hx hb dX10_alike_15 hl (by decide) rfl (fun ls hl => ?_)
        have hJ_62 : ∀ (t : Nat) (ht : t = if sameB marks_10 q p1 j = true then 1 else 0), ∀ (H : Heap) (locs : List Loc), va_P D vwCl (wX10 q10 cI cJ cB st_10 kept_10 undoable_10 newest_10 tape_10 taped_10 marks_10 order_10 reach_10 heapOf_10 rows_10 x_10 overs_10 costs_10 ways_10 digits_10 beaten_10 walks_10) H → va_D A (wX10 q10 cI cJ cB st_10 kept_10 undoable_10 newest_10 tape_10 taped_10 marks_10 order_10 reach_10 heapOf_10 rows_10 x_10 overs_10 costs_10 ways_10 digits_10 beaten_10 walks_10) → va_S A s.heap H locs → ∀ (ls : Array Slot), lv_has ls 7 [(0, .ref (q10 0)), (1, .int (nI p1)), (2, .int (nI j)), (3, .int (nI (bitsOf (fun q => sameB marks_10 q p1 j) q))), (4, .int (nI q)), (5, .int (nI t))] → W p l e (headSpec wsX10_alike rmX10_alike).room s m args below meth c H locs 0 0 Q (F0 m 62 ls []) := by
          intro t ht H locs hP hD hS ls hl
          have ht1 : t ≤ 1 := by rw [ht]; split <;> omega
          have hJ_76 : ∀ (z : Nat) (hz : z = if sameB marks_10 q p1 j = true then 2 ^ q else 0), ∀ (H : Heap) (locs : List Loc), va_P D vwCl (wX10 q10 cI cJ cB st_10 kept_10 undoable_10 newest_10 tape_10 taped_10 marks_10 order_10 reach_10 heapOf_10 rows_10 x_10 overs_10 costs_10 ways_10 digits_10 beaten_10 walks_10) H → va_D A (wX10 q10 cI cJ cB st_10 kept_10 undoable_10 newest_10 tape_10 taped_10 marks_10 order_10 reach_10 heapOf_10 rows_10 x_10 overs_10 costs_10 ways_10 digits_10 beaten_10 walks_10) → va_S A s.heap H locs → ∀ (ls : Array Slot), lv_has ls 7 [(0, .ref (q10 0)), (1, .int (nI p1)), (2, .int (nI j)), (3, .int (nI (bitsOf (fun q => sameB marks_10 q p1 j) q))), (4, .int (nI q)), (5, .int (nI t))] → W p l e (headSpec wsX10_alike rmX10_alike).room s m args below meth c H locs 0 0 Q (F0 m 76 ls [.int (nI z), .int (nI (bitsOf (fun q => sameB marks_10 q p1 j) q))]) := by
            intro z hz H locs hP hD hS ls hl
            refine lv_ior hx hb dX10_alike_76 ?_
            refine k_top (y := nI (bitsOf (fun q => sameB marks_10 q p1 j) q ||| z)) (k_or _ _) ?_
            refine lv_istore_n (lv' := [(3, .int (nI (bitsOf (fun q => sameB marks_10 q p1 j) q ||| z))), (0, .ref (q10 0)), (1, .int (nI p1)), (2, .int (nI j)), (4, .int (nI q)), (5, .int (nI t))]) hx hb dX10_alike_77 rfl hl (by decide) rfl (fun ls hl => ?_)
            refine lv_iinc (v := nI (q + 1)) (lv' := [(4, .int (nI (q + 1))), (3, .int (nI (bitsOf (fun q => sameB marks_10 q p1 j) q ||| z))), (0, .ref (q10 0)), (1, .int (nI p1)), (2, .int (nI j)), (5, .int (nI t))]) hx hb dX10_alike_78 hl (k := 4) rfl (nI_add _ _) (by decide) rfl (fun ls hl => ?_)
            refine lv_goto (tgt := 5) hx hb dX10_alike_81 (by decide) ?_
            subst hz
            exact ih_5 (q + 1) (by omega) (by omega) _ _ hP hD hS ls (lv_sub hl [2, 3, 4, 1, 0] rfl)
          refine lv_iload_n hx hb dX10_alike_62 rfl (lv_at hl 3 rfl) ?_
          refine lv_iload hx hb dX10_alike_63 (lv_at hl 5 rfl) ?_
          refine lv_if_eq (tgt := 75) hx hb dX10_alike_65 (by decide) (fun c_65 => ?_) (fun c_65 => ?_)
          · skip
            have c_65 := k0_eq (by omega) c_65
            refine lv_iconst (v := nI 0) hx hb dX10_alike_75 (by decide) ?_
            exact hJ_76 _ (by rw [if_neg (fun h9 => by rw [ht, if_pos h9] at c_65; omega)]) H locs hP hD hS ls (lv_sub hl [0, 1, 2, 3, 4, 5] rfl)
          · skip
            have c_65 := k0_eq_n (by omega) c_65
            refine lv_iconst (v := nI 1) hx hb dX10_alike_68 (by decide) ?_
            refine lv_iload hx hb dX10_alike_69 (lv_at hl 4 rfl) ?_
            refine lv_ishl hx hb dX10_alike_71 ?_
            refine k_top (y := nI (2 ^ q)) (k_shl1 (by omega)) ?_
            refine lv_goto (tgt := 76) hx hb dX10_alike_72 (by decide) ?_
            exact hJ_76 _ (by rw [if_pos ((Bool.eq_false_or_eq_true _).elim id (fun h9 => absurd (by rw [ht, h9]; rfl) c_65))]) H locs hP hD hS ls (lv_sub hl [0, 1, 2, 3, 4, 5] rfl)
        refine lv_iconst (v := nI 0) hx hb dX10_alike_17 (by decide) ?_
        refine lv_istore (lv' := [(6, .int (nI 0)), (5, .int (nI 1)), (0, .ref (q10 0)), (1, .int (nI p1)), (2, .int (nI j)), (3, .int (nI (bitsOf (fun q => sameB marks_10 q p1 j) q))), (4, .int (nI q))]) hx hb dX10_alike_18 hl (by decide) rfl (fun ls hl => ?_)
        have hL_20 : ∀ (fu : Nat) (i : Nat) (t : Nat) (hi : i ≤ j) (ht : t = if sameB marks_10 q p1 i = true then 1 else 0), j - i < fu → ∀ (H : Heap) (locs : List Loc), va_P D vwCl (wX10 q10 cI cJ cB st_10 kept_10 undoable_10 newest_10 tape_10 taped_10 marks_10 order_10 reach_10 heapOf_10 rows_10 x_10 overs_10 costs_10 ways_10 digits_10 beaten_10 walks_10) H → va_D A (wX10 q10 cI cJ cB st_10 kept_10 undoable_10 newest_10 tape_10 taped_10 marks_10 order_10 reach_10 heapOf_10 rows_10 x_10 overs_10 costs_10 ways_10 digits_10 beaten_10 walks_10) → va_S A s.heap H locs → ∀ (ls : Array Slot), lv_has ls 7 [(0, .ref (q10 0)), (1, .int (nI p1)), (2, .int (nI j)), (3, .int (nI (bitsOf (fun q => sameB marks_10 q p1 j) q))), (4, .int (nI q)), (5, .int (nI t)), (6, .int (nI i))] → W p l e (headSpec wsX10_alike rmX10_alike).room s m args below meth c H locs 0 0 Q (F0 m 20 ls []) := by
          intro fu
          induction fu with
          | zero => intro i t hi ht hfu; exact absurd hfu (Nat.not_lt_zero _)
          | succ fu ih_20 =>
            intro i t hi ht hfu H locs hP hD hS ls hl
            have ht1 : t ≤ 1 := by rw [ht]; split <;> omega
            refine lv_iload hx hb dX10_alike_20 (lv_at hl 6 rfl) ?_
            refine lv_iload_n hx hb dX10_alike_22 rfl (lv_at hl 2 rfl) ?_
            refine lv_icmp_ge (tgt := 62) hx hb dX10_alike_23 (by decide) (fun c_23 => ?_) (fun c_23 => ?_)
            · skip
              have c_23 := k_ge (by omega) (by omega) c_23
              exact hJ_62 _ (by have e9 : i = j := (by omega); subst e9; exact ht) H locs hP hD hS ls (lv_sub hl [0, 1, 2, 3, 4, 5] rfl)
            · skip
              have c_23 := k_ge_n (by omega) (by omega) c_23
              refine lv_iload hx hb dX10_alike_26 (lv_at hl 5 rfl) ?_
              refine lv_if_eq (tgt := 62) hx hb dX10_alike_28 (by decide) (fun c_28 => ?_) (fun c_28 => ?_)
              · skip
                have c_28 := k0_eq (by omega) c_28
                exact hJ_62 _ (by have h9 : sameB marks_10 q p1 i = false := Bool.eq_false_iff.mpr (fun h9 => by rw [h9, if_pos rfl] at ht; omega); rw [sameB_no h9 j (by omega), c_28]; rfl) H locs hP hD hS ls (lv_sub hl [0, 1, 2, 3, 4, 5] rfl)
              · skip
                have c_28 := k0_eq_n (by omega) c_28
                have hsi : sameB marks_10 q p1 i = true := (Bool.eq_false_or_eq_true _).elim id (fun h9 => absurd (by rw [ht, h9]; rfl) c_28)
                refine lv_aload_n hx hb dX10_alike_31 rfl (lv_at hl 0 rfl) ?_
                refine lv_iload hx hb dX10_alike_32 (lv_at hl 4 rfl) ?_
                refine lv_iload hx hb dX10_alike_34 (lv_at hl 6 rfl) ?_
                have hs_36 : kSplit (wX10 q10 cI cJ cB st_10 kept_10 undoable_10 newest_10 tape_10 taped_10 marks_10 order_10 reach_10 heapOf_10 rows_10 x_10 overs_10 costs_10 ways_10 digits_10 beaten_10 walks_10) (wX10 q10 cI cJ cB st_10 kept_10 undoable_10 newest_10 tape_10 taped_10 marks_10 order_10 reach_10 heapOf_10 rows_10 x_10 overs_10 costs_10 ways_10 digits_10 beaten_10 walks_10) ([] : va_W) [0, 1, 2, 3, 4, 5, 6, 7, 8, 9, 10, 11, 12, 13, 14, 15] [] := ⟨rfl, rfl, rfl, rfl, rfl, by decide⟩
                refine kc_i hP hD hS hA hs_36 (kV (As := [.int (nI q), .int (nI i)]) (rest := []) hx hb hml hown hts hKW hP hD hs_36 (c_X10_mark l D cI cJ cB q10 st_10 kept_10 undoable_10 newest_10 tape_10 taped_10 marks_10 order_10 reach_10 heapOf_10 rows_10 x_10 overs_10 costs_10 ways_10 digits_10 beaten_10 walks_10 n ml nx ks rr q i (by first | assumption | omega) (by first | assumption | omega) (by first | assumption | omega) (by first | assumption | omega)) (cwV 2 hts gX10_alike_X10_mark rfl rfl rfl (by decide +kernel) ⟨Nat.le_of_ble_eq_true rfl, Nat.le_of_ble_eq_true rfl⟩) 0 10 rfl rfl rfl rfl hl.1 rfl (Nat.le_of_ble_eq_true rfl) dX10_alike_36 ⟨Nat.zero_le _, Nat.zero_le _⟩) (fun r_36 u_36 H locs hw_36 hP hD hS => ?_)
                have er_36 := hw_36
                subst er_36
                have hP : va_P D vwCl (wX10 q10 cI cJ cB st_10 kept_10 undoable_10 newest_10 tape_10 taped_10 marks_10 order_10 reach_10 heapOf_10 rows_10 x_10 overs_10 costs_10 ways_10 digits_10 beaten_10 walks_10) H := hP.sub (ws' := (wX10 q10 cI cJ cB st_10 kept_10 undoable_10 newest_10 tape_10 taped_10 marks_10 order_10 reach_10 heapOf_10 rows_10 x_10 overs_10 costs_10 ways_10 digits_10 beaten_10 walks_10)) [0, 1, 2, 3, 4, 5, 6, 7, 8, 9, 10, 11, 12, 13, 14, 15] rfl
                have hD : va_D A (wX10 q10 cI cJ cB st_10 kept_10 undoable_10 newest_10 tape_10 taped_10 marks_10 order_10 reach_10 heapOf_10 rows_10 x_10 overs_10 costs_10 ways_10 digits_10 beaten_10 walks_10) := hD.sub (ws' := (wX10 q10 cI cJ cB st_10 kept_10 undoable_10 newest_10 tape_10 taped_10 marks_10 order_10 reach_10 heapOf_10 rows_10 x_10 overs_10 costs_10 ways_10 digits_10 beaten_10 walks_10)) [0, 1, 2, 3, 4, 5, 6, 7, 8, 9, 10, 11, 12, 13, 14, 15] (by decide) rfl
                refine lv_aload_n hx hb dX10_alike_39 rfl (lv_at hl 0 rfl) ?_
                refine lv_iload_n hx hb dX10_alike_40 rfl (lv_at hl 1 rfl) ?_
                refine lv_iload hx hb dX10_alike_41 (lv_at hl 6 rfl) ?_
                have hs_43 : kSplit (wX10 q10 cI cJ cB st_10 kept_10 undoable_10 newest_10 tape_10 taped_10 marks_10 order_10 reach_10 heapOf_10 rows_10 x_10 overs_10 costs_10 ways_10 digits_10 beaten_10 walks_10) (wX10 q10 cI cJ cB st_10 kept_10 undoable_10 newest_10 tape_10 taped_10 marks_10 order_10 reach_10 heapOf_10 rows_10 x_10 overs_10 costs_10 ways_10 digits_10 beaten_10 walks_10) ([] : va_W) [0, 1, 2, 3, 4, 5, 6, 7, 8, 9, 10, 11, 12, 13, 14, 15] [] := ⟨rfl, rfl, rfl, rfl, rfl, by decide⟩
                refine kc_i hP hD hS hA hs_43 (kV (As := [.int (nI p1), .int (nI i)]) (rest := [.int (marks_10 (5 * q + i))]) hx hb hml hown hts hKW hP hD hs_43 (c_X10_mark l D cI cJ cB q10 st_10 kept_10 undoable_10 newest_10 tape_10 taped_10 marks_10 order_10 reach_10 heapOf_10 rows_10 x_10 overs_10 costs_10 ways_10 digits_10 beaten_10 walks_10 n ml nx ks rr p1 i (by first | assumption | omega) (by first | assumption | omega) (by first | assumption | omega) (by first | assumption | omega)) (cwV 2 hts gX10_alike_X10_mark rfl rfl rfl (by decide +kernel) ⟨Nat.le_of_ble_eq_true rfl, Nat.le_of_ble_eq_true rfl⟩) 0 10 rfl rfl rfl rfl hl.1 rfl (Nat.le_of_ble_eq_true rfl) dX10_alike_43 ⟨Nat.zero_le _, Nat.zero_le _⟩) (fun r_43 u_43 H locs hw_43 hP hD hS => ?_)
                have er_43 := hw_43
                subst er_43
                have hP : va_P D vwCl (wX10 q10 cI cJ cB st_10 kept_10 undoable_10 newest_10 tape_10 taped_10 marks_10 order_10 reach_10 heapOf_10 rows_10 x_10 overs_10 costs_10 ways_10 digits_10 beaten_10 walks_10) H := hP.sub (ws' := (wX10 q10 cI cJ cB st_10 kept_10 undoable_10 newest_10 tape_10 taped_10 marks_10 order_10 reach_10 heapOf_10 rows_10 x_10 overs_10 costs_10 ways_10 digits_10 beaten_10 walks_10)) [0, 1, 2, 3, 4, 5, 6, 7, 8, 9, 10, 11, 12, 13, 14, 15] rfl
                have hD : va_D A (wX10 q10 cI cJ cB st_10 kept_10 undoable_10 newest_10 tape_10 taped_10 marks_10 order_10 reach_10 heapOf_10 rows_10 x_10 overs_10 costs_10 ways_10 digits_10 beaten_10 walks_10) := hD.sub (ws' := (wX10 q10 cI cJ cB st_10 kept_10 undoable_10 newest_10 tape_10 taped_10 marks_10 order_10 reach_10 heapOf_10 rows_10 x_10 overs_10 costs_10 ways_10 digits_10 beaten_10 walks_10)) [0, 1, 2, 3, 4, 5, 6, 7, 8, 9, 10, 11, 12, 13, 14, 15] (by decide) rfl
                refine lv_icmp_ne (tgt := 53) hx hb dX10_alike_46 (by decide) (fun c_46 => ?_) (fun c_46 => ?_)
                · skip
                  refine lv_iconst (v := nI 0) hx hb dX10_alike_53 (by decide) ?_
                  refine lv_istore (lv' := [(5, .int (nI 0)), (0, .ref (q10 0)), (1, .int (nI p1)), (2, .int (nI j)), (3, .int (nI (bitsOf (fun q => sameB marks_10 q p1 j) q))), (4, .int (nI q)), (6, .int (nI i))]) hx hb dX10_alike_54 hl (by decide) rfl (fun ls hl => ?_)
                  refine lv_iinc (v := nI (i + 1)) (lv' := [(6, .int (nI (i + 1))), (5, .int (nI 0)), (0, .ref (q10 0)), (1, .int (nI p1)), (2, .int (nI j)), (3, .int (nI (bitsOf (fun q => sameB marks_10 q p1 j) q))), (4, .int (nI q))]) hx hb dX10_alike_56 hl (k := 6) rfl (nI_add _ _) (by decide) rfl (fun ls hl => ?_)
                  refine lv_goto (tgt := 20) hx hb dX10_alike_59 (by decide) ?_
                  exact ih_20 _ _ (by omega) (by rw [if_neg (by unfold sameB; rw [decide_eq_false c_46, Bool.and_false]; exact Bool.false_ne_true)]) (by omega) _ _ hP hD hS ls (lv_sub hl [2, 3, 4, 5, 6, 1, 0] rfl)
                · skip
                  refine lv_iconst (v := nI 1) hx hb dX10_alike_49 (by decide) ?_
                  refine lv_goto (tgt := 54) hx hb dX10_alike_50 (by decide) ?_
                  refine lv_istore (lv' := [(5, .int (nI 1)), (0, .ref (q10 0)), (1, .int (nI p1)), (2, .int (nI j)), (3, .int (nI (bitsOf (fun q => sameB marks_10 q p1 j) q))), (4, .int (nI q)), (6, .int (nI i))]) hx hb dX10_alike_54 hl (by decide) rfl (fun ls hl => ?_)
                  refine lv_iinc (v := nI (i + 1)) (lv' := [(6, .int (nI (i + 1))), (5, .int (nI 1)), (0, .ref (q10 0)), (1, .int (nI p1)), (2, .int (nI j)), (3, .int (nI (bitsOf (fun q => sameB marks_10 q p1 j) q))), (4, .int (nI q))]) hx hb dX10_alike_56 hl (k := 6) rfl (nI_add _ _) (by decide) rfl (fun ls hl => ?_)
                  refine lv_goto (tgt := 20) hx hb dX10_alike_59 (by decide) ?_
                  exact ih_20 _ _ (by omega) (by rw [if_pos (by unfold sameB; rw [hsi, Bool.true_and]; exact decide_eq_true c_46)]) (by omega) _ _ hP hD hS ls (lv_sub hl [2, 3, 4, 5, 6, 1, 0] rfl)
        exact hL_20 _ 0 1 (Nat.zero_le _) rfl (Nat.lt_succ_self _) _ _ hP hD hS ls (lv_sub hl [2, 3, 4, 5, 6, 1, 0] rfl)
  exact hL_5 _ 0 (Nat.zero_le _) (Nat.lt_succ_self _) _ _ hP hD hS ls (lv_sub hl [2, 3, 4, 1, 0] rfl)
def rmX10_isAhead : Room := { frames := 1, cells := 0, slots := 0, locals := 22 }
set_option maxHeartbeats 4000000 in
set_option maxRecDepth 100000 in
theorem c_X10_isAhead (l : Launch) (D : va_G) (cI cJ cB : ClassId) (q10 : Nat → Nat) (st_10 : Nat → Int32) (kept_10 : Nat → Int32) (undoable_10 : Int32) (newest_10 : Int32) (tape_10 : Nat → Int32) (taped_10 : Int32) (marks_10 : Nat → Int32) (order_10 : Nat → Int32) (reach_10 : Nat → Int32) (heapOf_10 : Nat → Int32) (rows_10 : Nat → Int64) (x_10 : Nat → Int64) (overs_10 : Nat → Int32) (costs_10 : Nat → Int32) (ways_10 : Nat → Int32) (digits_10 : Nat → Int32) (beaten_10 : Nat → Int32) (walks_10 : Nat → Int32) (n : Nat) (ml : List Mt) (nx : List (Nat × Nat)) (ks : List Nat) (rr : Int32 × Int32 × Int32) (p1 : Nat) (q2 : Nat) (hR : RS st_10 n ml nx ks rr) (hV : VS n ml nx ks) (hp1 : p1 < 10) (hq2 : q2 < 10) : ∀ sz, Met l yX10_isAhead wsX10_isAhead rmX10_isAhead (va_Pc [.ref (q10 0), .int (nI p1), .int (nI q2)] (PW D (kT cI cJ cB) sz (wX10 q10 cI cJ cB st_10 kept_10 undoable_10 newest_10 tape_10 taped_10 marks_10 order_10 reach_10 heapOf_10 rows_10 x_10 overs_10 costs_10 ways_10 digits_10 beaten_10 walks_10))) (va_Qi (S := Unit) (fun r _ => r = if ahd marks_10 p1 q2 0 (ks.length + 1) = true then 1 else 0) (QW D sz (wX10 q10 cI cJ cB st_10 kept_10 undoable_10 newest_10 tape_10 taped_10 marks_10 order_10 reach_10 heapOf_10 rows_10 x_10 overs_10 costs_10 ways_10 digits_10 beaten_10 walks_10) (fun _ => (wX10 q10 cI cJ cB st_10 kept_10 undoable_10 newest_10 tape_10 taped_10 marks_10 order_10 reach_10 heapOf_10 rows_10 x_10 overs_10 costs_10 ways_10 digits_10 beaten_10 walks_10))) (va_A (wX10 q10 cI cJ cB st_10 kept_10 undoable_10 newest_10 tape_10 taped_10 marks_10 order_10 reach_10 heapOf_10 rows_10 x_10 overs_10 costs_10 ways_10 digits_10 beaten_10 walks_10) sz)) 0 0 (va_A (wX10 q10 cI cJ cB st_10 kept_10 undoable_10 newest_10 tape_10 taped_10 marks_10 order_10 reach_10 heapOf_10 rows_10 x_10 overs_10 costs_10 ways_10 digits_10 beaten_10 walks_10) sz) := by
  intro sz
  refine Met.ofW (cc := cX10_isAhead) (maxL := 4) (ret := (some .boolean)) (by decide) rfl ?_
  intro p e s m args below meth c s₁ B hml hv
  obtain ⟨hav, hsz, hP, hKW, hD0⟩ := hv
  have hx := B.exec
  have hb := B.bytes
  have hr := B.returns
  have hts := atoms_spec (ws := wsX10_isAhead) B.pre
  have hown : s.vm.findClass RX10 = some m.cls := findClass_of_methodNamed B.named
  have hlocks := B.notSynchronized
  subst hsz
  have hD := hD0.self (sz := s.heap.size)
  obtain ⟨A, hAe⟩ : ∃ A : Nat → Prop, A = va_A (wX10 q10 cI cJ cB st_10 kept_10 undoable_10 newest_10 tape_10 taped_10 marks_10 order_10 reach_10 heapOf_10 rows_10 x_10 overs_10 costs_10 ways_10 digits_10 beaten_10 walks_10) s.heap.size := ⟨_, rfl⟩
  rw [← hAe] at hD
  have hA : ∀ q : Nat, s.heap.size ≤ q → A q := fun q h => by rw [hAe]; exact Or.inr h
  have hS : va_S A s.heap s.heap [] := va_S.rf
  refine k_gen (fun Q hQ => ?_)
  have hl := lv_entry ([.ref (q10 0), .int (nI p1), .int (nI q2)]) (n := 4) (Nat.le_of_ble_eq_true rfl)
  refine k_entry hav (lg_entry_eq ..) ?_
  generalize (lg_sl ([.ref (q10 0), .int (nI p1), .int (nI q2)]) ++ List.replicate (4 - (lg_sl ([.ref (q10 0), .int (nI p1), .int (nI q2)])).length) Slot.unset).toArray = ls at hl ⊢
  have hl : lv_has ls 4 [(0, .ref (q10 0)), (1, .int (nI p1)), (2, .int (nI q2))] := hl
  have hu_10 : ∀ w ∈ u_ws RX10 TX10 18, w ∈ wsX10_isAhead := by decide +kernel
  have hf_7 : Cond.fieldLink RX10 7 "MeetingRanksModel" "st" "[I" ∈ wsX10_isAhead := by decide +kernel
  have hn1 := hV.1
  have hn10 := hV.2.1
  have hm120 := hV.2.2.1
  have hx40 := hV.2.2.2.2.1
  have hk4 := hV.2.2.2.2.2.2.1
  refine lv_iconst (v := nI 0) hx hb dX10_isAhead_0 (by decide) ?_
  refine lv_istore_n (lv' := [(3, .int (nI 0)), (0, .ref (q10 0)), (1, .int (nI p1)), (2, .int (nI q2))]) hx hb dX10_isAhead_1 rfl hl (by decide) rfl (fun ls hl => ?_)
  have hL_2 : ∀ (fu : Nat) (j : Nat) (hj : j ≤ ks.length + 1) (ha : ahd marks_10 p1 q2 0 (ks.length + 1) = ahd marks_10 p1 q2 j (ks.length + 1 - j)), ks.length + 1 - j < fu → ∀ (H : Heap) (locs : List Loc), va_P D vwCl (wX10 q10 cI cJ cB st_10 kept_10 undoable_10 newest_10 tape_10 taped_10 marks_10 order_10 reach_10 heapOf_10 rows_10 x_10 overs_10 costs_10 ways_10 digits_10 beaten_10 walks_10) H → va_D A (wX10 q10 cI cJ cB st_10 kept_10 undoable_10 newest_10 tape_10 taped_10 marks_10 order_10 reach_10 heapOf_10 rows_10 x_10 overs_10 costs_10 ways_10 digits_10 beaten_10 walks_10) → va_S A s.heap H locs → ∀ (ls : Array Slot), lv_has ls 4 [(0, .ref (q10 0)), (1, .int (nI p1)), (2, .int (nI q2)), (3, .int (nI j))] → W p l e (headSpec wsX10_isAhead rmX10_isAhead).room s m args below meth c H locs 0 0 Q (F0 m 2 ls []) := by
    intro fu
    induction fu with
    | zero => intro j hj ha hfu; exact absurd hfu (Nat.not_lt_zero _)
    | succ fu ih_2 =>
      intro j hj ha hfu H locs hP hD hS ls hl
      refine lv_iload_n hx hb dX10_isAhead_2 rfl (lv_at hl 3 rfl) ?_
      refine lv_aload_n hx hb dX10_isAhead_3 rfl (lv_at hl 0 rfl) ?_
      refine k_get (ci := 10) (v := .ref (q10 1)) (C := RX10) (Tb := TX10) (N := 18) hx hb hts hu_10 hown hKW hP 0 rfl rfl 0 (by decide) hf_7 rfl rfl dX10_isAhead_4 ?_
      refine lv_iconst (v := nI 3) hx hb dX10_isAhead_7 (by decide) ?_
      refine k_iald (n := 600) (i := 3) hx hb hKW hP 1 0 rfl rfl (by omega) (by omega) dX10_isAhead_8 ?_
      refine k_top (y := nI ks.length) (hR.2.2.2.1) ?_
      refine lv_icmp_gt (tgt := 54) hx hb dX10_isAhead_9 (by decide) (fun c_9 => ?_) (fun c_9 => ?_)
      · skip
        have c_9 := k_gt (by omega) (by omega) c_9
        refine lv_iconst (v := nI 0) hx hb dX10_isAhead_54 (by decide) ?_
        subst hQ; subst hAe
        exact W.zret (v := nI 0) (ty := .boolean) hx hb hr (by decide) (fun t ht _ => ⟨⟨nI 0, (), rfl, by rw [ha, show ks.length + 1 - j = 0 by omega]; rfl, by rw [ht]; exact hP, hD⟩, hS.F ht⟩) hS.2.2 dX10_isAhead_55
      · skip
        have c_9 := k_gt_n (by omega) (by omega) c_9
        refine lv_aload_n hx hb dX10_isAhead_12 rfl (lv_at hl 0 rfl) ?_
        refine lv_iload_n hx hb dX10_isAhead_13 rfl (lv_at hl 1 rfl) ?_
        refine lv_iload_n hx hb dX10_isAhead_14 rfl (lv_at hl 3 rfl) ?_
        have hs_15 : kSplit (wX10 q10 cI cJ cB st_10 kept_10 undoable_10 newest_10 tape_10 taped_10 marks_10 order_10 reach_10 heapOf_10 rows_10 x_10 overs_10 costs_10 ways_10 digits_10 beaten_10 walks_10) (wX10 q10 cI cJ cB st_10 kept_10 undoable_10 newest_10 tape_10 taped_10 marks_10 order_10 reach_10 heapOf_10 rows_10 x_10 overs_10 costs_10 ways_10 digits_10 beaten_10 walks_10) ([] : va_W) [0, 1, 2, 3, 4, 5, 6, 7, 8, 9, 10, 11, 12, 13, 14, 15] [] := ⟨rfl, rfl, rfl, rfl, rfl, by decide⟩
        refine kc_i hP hD hS hA hs_15 (kV (As := [.int (nI p1), .int (nI j)]) (rest := []) hx hb hml hown hts hKW hP hD hs_15 (c_X10_mark l D cI cJ cB q10 st_10 kept_10 undoable_10 newest_10 tape_10 taped_10 marks_10 order_10 reach_10 heapOf_10 rows_10 x_10 overs_10 costs_10 ways_10 digits_10 beaten_10 walks_10 n ml nx ks rr p1 j (by first | assumption | omega) (by first | assumption | omega) (by first | assumption | omega) (by first | assumption | omega)) (cwV 2 hts gX10_isAhead_X10_mark rfl rfl rfl (by decide +kernel) ⟨Nat.le_of_ble_eq_true rfl, Nat.le_of_ble_eq_true rfl⟩) 0 10 rfl rfl rfl rfl hl.1 rfl (Nat.le_of_ble_eq_true rfl) dX10_isAhead_15 ⟨Nat.zero_le _, Nat.zero_le _⟩) (fun r_15 u_15 H locs hw_15 hP hD hS => ?_)
        have er_15 := hw_15
        subst er_15
        have hP : va_P D vwCl (wX10 q10 cI cJ cB st_10 kept_10 undoable_10 newest_10 tape_10 taped_10 marks_10 order_10 reach_10 heapOf_10 rows_10 x_10 overs_10 costs_10 ways_10 digits_10 beaten_10 walks_10) H := hP.sub (ws' := (wX10 q10 cI cJ cB st_10 kept_10 undoable_10 newest_10 tape_10 taped_10 marks_10 order_10 reach_10 heapOf_10 rows_10 x_10 overs_10 costs_10 ways_10 digits_10 beaten_10 walks_10)) [0, 1, 2, 3, 4, 5, 6, 7, 8, 9, 10, 11, 12, 13, 14, 15] rfl
        have hD : va_D A (wX10 q10 cI cJ cB st_10 kept_10 undoable_10 newest_10 tape_10 taped_10 marks_10 order_10 reach_10 heapOf_10 rows_10 x_10 overs_10 costs_10 ways_10 digits_10 beaten_10 walks_10) := hD.sub (ws' := (wX10 q10 cI cJ cB st_10 kept_10 undoable_10 newest_10 tape_10 taped_10 marks_10 order_10 reach_10 heapOf_10 rows_10 x_10 overs_10 costs_10 ways_10 digits_10 beaten_10 walks_10)) [0, 1, 2, 3, 4, 5, 6, 7, 8, 9, 10, 11, 12, 13, 14, 15] (by decide) rfl
        refine lv_aload_n hx hb dX10_isAhead_18 rfl (lv_at hl 0 rfl) ?_
        refine lv_iload_n hx hb dX10_isAhead_19 rfl (lv_at hl 2 rfl) ?_
        refine lv_iload_n hx hb dX10_isAhead_20 rfl (lv_at hl 3 rfl) ?_
        have hs_21 : kSplit (wX10 q10 cI cJ cB st_10 kept_10 undoable_10 newest_10 tape_10 taped_10 marks_10 order_10 reach_10 heapOf_10 rows_10 x_10 overs_10 costs_10 ways_10 digits_10 beaten_10 walks_10) (wX10 q10 cI cJ cB st_10 kept_10 undoable_10 newest_10 tape_10 taped_10 marks_10 order_10 reach_10 heapOf_10 rows_10 x_10 overs_10 costs_10 ways_10 digits_10 beaten_10 walks_10) ([] : va_W) [0, 1, 2, 3, 4, 5, 6, 7, 8, 9, 10, 11, 12, 13, 14, 15] [] := ⟨rfl, rfl, rfl, rfl, rfl, by decide⟩
        refine kc_i hP hD hS hA hs_21 (kV (As := [.int (nI q2), .int (nI j)]) (rest := [.int (marks_10 (5 * p1 + j))]) hx hb hml hown hts hKW hP hD hs_21 (c_X10_mark l D cI cJ cB q10 st_10 kept_10 undoable_10 newest_10 tape_10 taped_10 marks_10 order_10 reach_10 heapOf_10 rows_10 x_10 overs_10 costs_10 ways_10 digits_10 beaten_10 walks_10 n ml nx ks rr q2 j (by first | assumption | omega) (by first | assumption | omega) (by first | assumption | omega) (by first | assumption | omega)) (cwV 2 hts gX10_isAhead_X10_mark rfl rfl rfl (by decide +kernel) ⟨Nat.le_of_ble_eq_true rfl, Nat.le_of_ble_eq_true rfl⟩) 0 10 rfl rfl rfl rfl hl.1 rfl (Nat.le_of_ble_eq_true rfl) dX10_isAhead_21 ⟨Nat.zero_le _, Nat.zero_le _⟩) (fun r_21 u_21 H locs hw_21 hP hD hS => ?_)
        have er_21 := hw_21
        subst er_21
        have hP : va_P D vwCl (wX10 q10 cI cJ cB st_10 kept_10 undoable_10 newest_10 tape_10 taped_10 marks_10 order_10 reach_10 heapOf_10 rows_10 x_10 overs_10 costs_10 ways_10 digits_10 beaten_10 walks_10) H := hP.sub (ws' := (wX10 q10 cI cJ cB st_10 kept_10 undoable_10 newest_10 tape_10 taped_10 marks_10 order_10 reach_10 heapOf_10 rows_10 x_10 overs_10 costs_10 ways_10 digits_10 beaten_10 walks_10)) [0, 1, 2, 3, 4, 5, 6, 7, 8, 9, 10, 11, 12, 13, 14, 15] rfl
        have hD : va_D A (wX10 q10 cI cJ cB st_10 kept_10 undoable_10 newest_10 tape_10 taped_10 marks_10 order_10 reach_10 heapOf_10 rows_10 x_10 overs_10 costs_10 ways_10 digits_10 beaten_10 walks_10) := hD.sub (ws' := (wX10 q10 cI cJ cB st_10 kept_10 undoable_10 newest_10 tape_10 taped_10 marks_10 order_10 reach_10 heapOf_10 rows_10 x_10 overs_10 costs_10 ways_10 digits_10 beaten_10 walks_10)) [0, 1, 2, 3, 4, 5, 6, 7, 8, 9, 10, 11, 12, 13, 14, 15] (by decide) rfl
        refine lv_icmp_eq (tgt := 48) hx hb dX10_isAhead_24 (by decide) (fun c_24 => ?_) (fun c_24 => ?_)
        · skip
          refine lv_iinc (v := nI (j + 1)) (lv' := [(3, .int (nI (j + 1))), (0, .ref (q10 0)), (1, .int (nI p1)), (2, .int (nI q2))]) hx hb dX10_isAhead_48 hl (k := 3) rfl (nI_add _ _) (by decide) rfl (fun ls hl => ?_)
          refine lv_goto (tgt := 2) hx hb dX10_isAhead_51 (by decide) ?_
          exact ih_2 _ (by omega) (by rw [ha, show ks.length + 1 - j = (ks.length + 1 - (j + 1)) + 1 by omega]; show (if _ then _ else _) = _; rw [if_pos c_24]) (by omega) _ _ hP hD hS ls (lv_sub hl [1, 2, 3, 0] rfl)
        · skip
          refine lv_aload_n hx hb dX10_isAhead_27 rfl (lv_at hl 0 rfl) ?_
          refine lv_iload_n hx hb dX10_isAhead_28 rfl (lv_at hl 1 rfl) ?_
          refine lv_iload_n hx hb dX10_isAhead_29 rfl (lv_at hl 3 rfl) ?_
          have hs_30 : kSplit (wX10 q10 cI cJ cB st_10 kept_10 undoable_10 newest_10 tape_10 taped_10 marks_10 order_10 reach_10 heapOf_10 rows_10 x_10 overs_10 costs_10 ways_10 digits_10 beaten_10 walks_10) (wX10 q10 cI cJ cB st_10 kept_10 undoable_10 newest_10 tape_10 taped_10 marks_10 order_10 reach_10 heapOf_10 rows_10 x_10 overs_10 costs_10 ways_10 digits_10 beaten_10 walks_10) ([] : va_W) [0, 1, 2, 3, 4, 5, 6, 7, 8, 9, 10, 11, 12, 13, 14, 15] [] := ⟨rfl, rfl, rfl, rfl, rfl, by decide⟩
          refine kc_i hP hD hS hA hs_30 (kV (As := [.int (nI p1), .int (nI j)]) (rest := []) hx hb hml hown hts hKW hP hD hs_30 (c_X10_mark l D cI cJ cB q10 st_10 kept_10 undoable_10 newest_10 tape_10 taped_10 marks_10 order_10 reach_10 heapOf_10 rows_10 x_10 overs_10 costs_10 ways_10 digits_10 beaten_10 walks_10 n ml nx ks rr p1 j (by first | assumption | omega) (by first | assumption | omega) (by first | assumption | omega) (by first | assumption | omega)) (cwV 2 hts gX10_isAhead_X10_mark rfl rfl rfl (by decide +kernel) ⟨Nat.le_of_ble_eq_true rfl, Nat.le_of_ble_eq_true rfl⟩) 0 10 rfl rfl rfl rfl hl.1 rfl (Nat.le_of_ble_eq_true rfl) dX10_isAhead_30 ⟨Nat.zero_le _, Nat.zero_le _⟩) (fun r_30 u_30 H locs hw_30 hP hD hS => ?_)
          have er_30 := hw_30
          subst er_30
          have hP : va_P D vwCl (wX10 q10 cI cJ cB st_10 kept_10 undoable_10 newest_10 tape_10 taped_10 marks_10 order_10 reach_10 heapOf_10 rows_10 x_10 overs_10 costs_10 ways_10 digits_10 beaten_10 walks_10) H := hP.sub (ws' := (wX10 q10 cI cJ cB st_10 kept_10 undoable_10 newest_10 tape_10 taped_10 marks_10 order_10 reach_10 heapOf_10 rows_10 x_10 overs_10 costs_10 ways_10 digits_10 beaten_10 walks_10)) [0, 1, 2, 3, 4, 5, 6, 7, 8, 9, 10, 11, 12, 13, 14, 15] rfl
          have hD : va_D A (wX10 q10 cI cJ cB st_10 kept_10 undoable_10 newest_10 tape_10 taped_10 marks_10 order_10 reach_10 heapOf_10 rows_10 x_10 overs_10 costs_10 ways_10 digits_10 beaten_10 walks_10) := hD.sub (ws' := (wX10 q10 cI cJ cB st_10 kept_10 undoable_10 newest_10 tape_10 taped_10 marks_10 order_10 reach_10 heapOf_10 rows_10 x_10 overs_10 costs_10 ways_10 digits_10 beaten_10 walks_10)) [0, 1, 2, 3, 4, 5, 6, 7, 8, 9, 10, 11, 12, 13, 14, 15] (by decide) rfl
          refine lv_aload_n hx hb dX10_isAhead_33 rfl (lv_at hl 0 rfl) ?_
          refine lv_iload_n hx hb dX10_isAhead_34 rfl (lv_at hl 2 rfl) ?_
          refine lv_iload_n hx hb dX10_isAhead_35 rfl (lv_at hl 3 rfl) ?_
          have hs_36 : kSplit (wX10 q10 cI cJ cB st_10 kept_10 undoable_10 newest_10 tape_10 taped_10 marks_10 order_10 reach_10 heapOf_10 rows_10 x_10 overs_10 costs_10 ways_10 digits_10 beaten_10 walks_10) (wX10 q10 cI cJ cB st_10 kept_10 undoable_10 newest_10 tape_10 taped_10 marks_10 order_10 reach_10 heapOf_10 rows_10 x_10 overs_10 costs_10 ways_10 digits_10 beaten_10 walks_10) ([] : va_W) [0, 1, 2, 3, 4, 5, 6, 7, 8, 9, 10, 11, 12, 13, 14, 15] [] := ⟨rfl, rfl, rfl, rfl, rfl, by decide⟩
          refine kc_i hP hD hS hA hs_36 (kV (As := [.int (nI q2), .int (nI j)]) (rest := [.int (marks_10 (5 * p1 + j))]) hx hb hml hown hts hKW hP hD hs_36 (c_X10_mark l D cI cJ cB q10 st_10 kept_10 undoable_10 newest_10 tape_10 taped_10 marks_10 order_10 reach_10 heapOf_10 rows_10 x_10 overs_10 costs_10 ways_10 digits_10 beaten_10 walks_10 n ml nx ks rr q2 j (by first | assumption | omega) (by first | assumption | omega) (by first | assumption | omega) (by first | assumption | omega)) (cwV 2 hts gX10_isAhead_X10_mark rfl rfl rfl (by decide +kernel) ⟨Nat.le_of_ble_eq_true rfl, Nat.le_of_ble_eq_true rfl⟩) 0 10 rfl rfl rfl rfl hl.1 rfl (Nat.le_of_ble_eq_true rfl) dX10_isAhead_36 ⟨Nat.zero_le _, Nat.zero_le _⟩) (fun r_36 u_36 H locs hw_36 hP hD hS => ?_)
          have er_36 := hw_36
          subst er_36
          have hP : va_P D vwCl (wX10 q10 cI cJ cB st_10 kept_10 undoable_10 newest_10 tape_10 taped_10 marks_10 order_10 reach_10 heapOf_10 rows_10 x_10 overs_10 costs_10 ways_10 digits_10 beaten_10 walks_10) H := hP.sub (ws' := (wX10 q10 cI cJ cB st_10 kept_10 undoable_10 newest_10 tape_10 taped_10 marks_10 order_10 reach_10 heapOf_10 rows_10 x_10 overs_10 costs_10 ways_10 digits_10 beaten_10 walks_10)) [0, 1, 2, 3, 4, 5, 6, 7, 8, 9, 10, 11, 12, 13, 14, 15] rfl
          have hD : va_D A (wX10 q10 cI cJ cB st_10 kept_10 undoable_10 newest_10 tape_10 taped_10 marks_10 order_10 reach_10 heapOf_10 rows_10 x_10 overs_10 costs_10 ways_10 digits_10 beaten_10 walks_10) := hD.sub (ws' := (wX10 q10 cI cJ cB st_10 kept_10 undoable_10 newest_10 tape_10 taped_10 marks_10 order_10 reach_10 heapOf_10 rows_10 x_10 overs_10 costs_10 ways_10 digits_10 beaten_10 walks_10)) [0, 1, 2, 3, 4, 5, 6, 7, 8, 9, 10, 11, 12, 13, 14, 15] (by decide) rfl
          refine lv_icmp_le (tgt := 46) hx hb dX10_isAhead_39 (by decide) (fun c_39 => ?_) (fun c_39 => ?_)
          · skip
            refine lv_iconst (v := nI 0) hx hb dX10_isAhead_46 (by decide) ?_
            subst hQ; subst hAe
            exact W.zret (v := nI 0) (ty := .boolean) hx hb hr (by decide) (fun t ht _ => ⟨⟨nI 0, (), rfl, by rw [ha, show ks.length + 1 - j = (ks.length - j) + 1 by omega]; unfold ahd; rw [if_neg c_24]; first | exact k_if1 (decide_eq_true (by rw [Int32.lt_iff_toInt_lt]; rw [Int32.le_iff_toInt_le] at c_39; omega)) | exact k_if0 (by rw [decide_eq_true_eq, Int32.lt_iff_toInt_lt]; rw [Int32.le_iff_toInt_le] at c_39; omega), by rw [ht]; exact hP, hD⟩, hS.F ht⟩) hS.2.2 dX10_isAhead_47
          · skip
            refine lv_iconst (v := nI 1) hx hb dX10_isAhead_42 (by decide) ?_
            refine lv_goto (tgt := 47) hx hb dX10_isAhead_43 (by decide) ?_
            subst hQ; subst hAe
            exact W.zret (v := nI 1) (ty := .boolean) hx hb hr (by decide) (fun t ht _ => ⟨⟨nI 1, (), rfl, by rw [ha, show ks.length + 1 - j = (ks.length - j) + 1 by omega]; unfold ahd; rw [if_neg c_24]; first | exact k_if1 (decide_eq_true (by rw [Int32.lt_iff_toInt_lt]; rw [Int32.le_iff_toInt_le] at c_39; omega)) | exact k_if0 (by rw [decide_eq_true_eq, Int32.lt_iff_toInt_lt]; rw [Int32.le_iff_toInt_le] at c_39; omega), by rw [ht]; exact hP, hD⟩, hS.F ht⟩) hS.2.2 dX10_isAhead_47
  exact hL_2 _ 0 (Nat.zero_le _) rfl (Nat.lt_succ_self _) _ _ hP hD hS ls (lv_sub hl [1, 2, 3, 0] rfl)
