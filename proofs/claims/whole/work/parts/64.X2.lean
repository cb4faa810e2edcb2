def rmX2_fillRow : Room := { frames := 2, cells := 0, slots := 0, locals := 44 }
set_option maxHeartbeats 4000000 in
set_option maxRecDepth 100000 in
theorem c_X2_fillRow (l : Launch) (D : va_G) (cI cJ cB : ClassId) (q2 : Nat → Nat) (q4 : Nat → Nat) (cells_2 : Nat → Int64) (determinant_2 : Int64) (parts_4 : Nat → Int32) (wins_4 : Nat → Int32) (draws_4 : Nat → Int32) (points_4 : Nat → Int32) (count_4 : Int32) (changes_4 : Int32) (ml : List Mt) (n : Nat) (i : Nat) (hM : MR parts_4 wins_4 draws_4 points_4 ml) (hn6 : n ≤ 6) (hi : i + 1 < n) : ∀ sz, Met l yX2_fillRow wsX2_fillRow rmX2_fillRow (va_Pc [.ref (q2 0), .ref (q4 0), .int (nI n), .int (nI i)] (PW D (kT cI cJ cB) sz (wX2 q2 cI cJ cB cells_2 determinant_2 ++ wX4 q4 cI cJ cB parts_4 wins_4 draws_4 points_4 count_4 changes_4))) (va_Qv (S := (Nat → Int64)) (fun cells_2' => cells_2' = frW ml n cells_2 i) (QW D sz (wX2 q2 cI cJ cB cells_2 determinant_2 ++ wX4 q4 cI cJ cB parts_4 wins_4 draws_4 points_4 count_4 changes_4) (fun cells_2' => (wX2 q2 cI cJ cB cells_2' determinant_2 ++ wX4 q4 cI cJ cB parts_4 wins_4 draws_4 points_4 count_4 changes_4))) (va_A (wX2 q2 cI cJ cB cells_2 determinant_2 ++ wX4 q4 cI cJ cB parts_4 wins_4 draws_4 points_4 count_4 changes_4) sz)) 0 0 (va_A (wX2 q2 cI cJ cB cells_2 determinant_2 ++ wX4 q4 cI cJ cB parts_4 wins_4 draws_4 points_4 count_4 changes_4) sz) := by
  intro sz
  refine Met.ofW (cc := cX2_fillRow) (maxL := 8) (ret := none) (by decide) rfl ?_
  intro p e s m args below meth c s₁ B hml hv
  obtain ⟨hav, hsz, hP, hKW, hD0⟩ := hv
  have hx := B.exec
  have hb := B.bytes
  have hr := B.returns
  have hts := atoms_spec (ws := wsX2_fillRow) B.pre
  have hown : s.vm.findClass RX2 = some m.cls := findClass_of_methodNamed B.named
  have hlocks := B.notSynchronized
  subst hsz
  have hD := hD0.self (sz := s.heap.size)
  obtain ⟨A, hAe⟩ : ∃ A : Nat → Prop, A = va_A (wX2 q2 cI cJ cB cells_2 determinant_2 ++ wX4 q4 cI cJ cB parts_4 wins_4 draws_4 points_4 count_4 changes_4) s.heap.size := ⟨_, rfl⟩
  rw [← hAe] at hD
  have hA : ∀ q : Nat, s.heap.size ≤ q → A q := fun q h => by rw [hAe]; exact Or.inr h
  have hS : va_S A s.heap s.heap [] := va_S.rf
  refine k_gen (fun Q hQ => ?_)
  have hl := lv_entry ([.ref (q2 0), .ref (q4 0), .int (nI n), .int (nI i)]) (n := 8) (Nat.le_of_ble_eq_true rfl)
  refine k_entry hav (lg_entry_eq ..) ?_
  generalize (lg_sl ([.ref (q2 0), .ref (q4 0), .int (nI n), .int (nI i)]) ++ List.replicate (8 - (lg_sl ([.ref (q2 0), .ref (q4 0), .int (nI n), .int (nI i)])).length) Slot.unset).toArray = ls at hl ⊢
  have hl : lv_has ls 8 [(0, .ref (q2 0)), (1, .ref (q4 0)), (2, .int (nI n)), (3, .int (nI i))] := hl
  have hu_2 : ∀ w ∈ u_ws RX2 TX2 2, w ∈ wsX2_fillRow := by decide +kernel
  have hf_11 : Cond.fieldLink RX2 11 "MeetingRanks$GapSolver" "cells" "[J" ∈ wsX2_fillRow := by decide +kernel
  refine lv_iload_n hx hb dX2_fillRow_0 rfl (lv_at hl 3 rfl) ?_
  refine lv_iconst (v := nI 1) hx hb dX2_fillRow_1 (by decide) ?_
  refine k_iadd hx hb dX2_fillRow_2 ?_
  refine lv_istore (lv' := [(4, .int (nI (i + 1))), (0, .ref (q2 0)), (1, .ref (q4 0)), (2, .int (nI n)), (3, .int (nI i))]) hx hb dX2_fillRow_3 hl (by decide) rfl (fun ls hl => ?_)
  refine lv_iconst (v := nI 0) hx hb dX2_fillRow_5 (by decide) ?_
  refine lv_istore (lv' := [(5, .int (nI 0)), (4, .int (nI (i + 1))), (0, .ref (q2 0)), (1, .ref (q4 0)), (2, .int (nI n)), (3, .int (nI i))]) hx hb dX2_fillRow_6 hl (by decide) rfl (fun ls hl => ?_)
  refine lv_iconst (v := nI 0) hx hb dX2_fillRow_8 (by decide) ?_
  refine lv_istore (lv' := [(6, .int (nI 0)), (5, .int (nI 0)), (4, .int (nI (i + 1))), (0, .ref (q2 0)), (1, .ref (q4 0)), (2, .int (nI n)), (3, .int (nI i))]) hx hb dX2_fillRow_9 hl (by decide) rfl (fun ls hl => ?_)
  refine lv_iconst (v := nI 0) hx hb dX2_fillRow_11 (by decide) ?_
  refine lv_istore (lv' := [(7, .int (nI 0)), (6, .int (nI 0)), (5, .int (nI 0)), (4, .int (nI (i + 1))), (0, .ref (q2 0)), (1, .ref (q4 0)), (2, .int (nI n)), (3, .int (nI i))]) hx hb dX2_fillRow_12 hl (by decide) rfl (fun ls hl => ?_)
  have hL_14 : ∀ (fu : Nat) (b : Nat) (dv : Int32) (lv : Int32) (hb2 : b ≤ n) (hdv : dv = dgI ml (i + 1) b) (hlv : lv = ldI ml (i + 1) b), n - b < fu → ∀ (H : Heap) (locs : List Loc), va_P D vwCl (wX2 q2 cI cJ cB (frP ml cells_2 i b) determinant_2 ++ wX4 q4 cI cJ cB parts_4 wins_4 draws_4 points_4 count_4 changes_4) H → va_D A (wX2 q2 cI cJ cB (frP ml cells_2 i b) determinant_2 ++ wX4 q4 cI cJ cB parts_4 wins_4 draws_4 points_4 count_4 changes_4) → va_S A s.heap H locs → ∀ (ls : Array Slot), lv_has ls 8 [(0, .ref (q2 0)), (1, .ref (q4 0)), (2, .int (nI n)), (3, .int (nI i)), (4, .int (nI (i + 1))), (5, .int dv), (6, .int lv), (7, .int (nI b))] → W p l e (headSpec wsX2_fillRow rmX2_fillRow).room s m args below meth c H locs 0 0 Q (F0 m 14 ls []) := by
    intro fu
    induction fu with
    | zero => intro b dv lv hb2 hdv hlv hfu; exact absurd hfu (Nat.not_lt_zero _)
    | succ fu ih_14 =>
      intro b dv lv hb2 hdv hlv hfu H locs hP hD hS ls hl
      refine lv_iload hx hb dX2_fillRow_14 (lv_at hl 7 rfl) ?_
      refine lv_iload_n hx hb dX2_fillRow_16 rfl (lv_at hl 2 rfl) ?_
      refine lv_icmp_ge (tgt := 90) hx hb dX2_fillRow_17 (by decide) (fun c_17 => ?_) (fun c_17 => ?_)
      · skip
        have c_17 := k_ge (by omega) (by omega) c_17
        obtain rfl : n = b := by omega
        subst hdv
        subst hlv
        refine lv_aload_n hx hb dX2_fillRow_90 rfl (lv_at hl 0 rfl) ?_
        refine k_get (ci := 2) (v := .ref (q2 1)) (C := RX2) (Tb := TX2) (N := 2) hx hb hts hu_2 hown hKW hP 0 rfl rfl 0 (by decide) hf_11 rfl rfl dX2_fillRow_91 ?_
        refine lv_iload_n hx hb dX2_fillRow_94 rfl (lv_at hl 3 rfl) ?_
        refine lv_bipush (v := nI 6) hx hb dX2_fillRow_95 (by decide) ?_
        refine k_imul hx hb dX2_fillRow_97 ?_
        refine lv_iload_n hx hb dX2_fillRow_98 rfl (lv_at hl 3 rfl) ?_
        refine k_iadd hx hb dX2_fillRow_99 ?_
        refine lv_iload hx hb dX2_fillRow_100 (lv_at hl 5 rfl) ?_
        refine lv_i2l (v := (dgI ml (i + 1) n).toInt64) hx hb dX2_fillRow_102 rfl ?_
        refine k_last (n := 30) (i := (i * 6) + i) (x := (dgI ml (i + 1) n).toInt64) (w' := (wX2 q2 cI cJ cB (vp_updL (frP ml cells_2 i n) ((i * 6) + i) ((dgI ml (i + 1) n).toInt64)) determinant_2 ++ wX4 q4 cI cJ cB parts_4 wins_4 draws_4 points_4 count_4 changes_4)) hx hb hKW hP hD hS 1 1 rfl rfl (by omega) (by omega) dX2_fillRow_103 rfl (fun H locs hP hD hS => ?_)
        refine lv_aload_n hx hb dX2_fillRow_104 rfl (lv_at hl 0 rfl) ?_
        refine k_get (ci := 2) (v := .ref (q2 1)) (C := RX2) (Tb := TX2) (N := 2) hx hb hts hu_2 hown hKW hP 0 rfl rfl 0 (by decide) hf_11 rfl rfl dX2_fillRow_105 ?_
        refine lv_iload_n hx hb dX2_fillRow_108 rfl (lv_at hl 3 rfl) ?_
        refine lv_bipush (v := nI 6) hx hb dX2_fillRow_109 (by decide) ?_
        refine k_imul hx hb dX2_fillRow_111 ?_
        refine lv_iload_n hx hb dX2_fillRow_112 rfl (lv_at hl 2 rfl) ?_
        refine k_iadd hx hb dX2_fillRow_113 ?_
        refine lv_iconst (v := nI 1) hx hb dX2_fillRow_114 (by decide) ?_
        refine k_isub hx hb (by omega) dX2_fillRow_115 ?_
        refine lv_iload hx hb dX2_fillRow_116 (lv_at hl 6 rfl) ?_
        refine lv_i2l (v := (ldI ml (i + 1) n).toInt64) hx hb dX2_fillRow_118 rfl ?_
        refine k_last (n := 30) (i := ((i * 6) + n) - 1) (x := (ldI ml (i + 1) n).toInt64) (w' := (wX2 q2 cI cJ cB (vp_updL (vp_updL (frP ml cells_2 i n) ((i * 6) + i) ((dgI ml (i + 1) n).toInt64)) (((i * 6) + n) - 1) ((ldI ml (i + 1) n).toInt64)) determinant_2 ++ wX4 q4 cI cJ cB parts_4 wins_4 draws_4 points_4 count_4 changes_4)) hx hb hKW hP hD hS 1 1 rfl rfl (by omega) (by omega) dX2_fillRow_119 rfl (fun H locs hP hD hS => ?_)
        subst hQ; subst hAe
        exact W.vret hx hb hr (fun tt9 ht9 _ => ⟨⟨(vp_updL (vp_updL (frP ml cells_2 i n) ((i * 6) + i) ((dgI ml (i + 1) n).toInt64)) (((i * 6) + n) - 1) ((ldI ml (i + 1) n).toInt64)), rfl, rfl, by rw [ht9]; exact hP, hD⟩, hS.F ht9⟩) hS.2.2 dX2_fillRow_120
      · skip
        have c_17 := k_ge_n (by omega) (by omega) c_17
        refine lv_iload hx hb dX2_fillRow_20 (lv_at hl 5 rfl) ?_
        refine lv_aload_n hx hb dX2_fillRow_22 rfl (lv_at hl 1 rfl) ?_
        refine lv_iload hx hb dX2_fillRow_23 (lv_at hl 4 rfl) ?_
        refine lv_iload hx hb dX2_fillRow_25 (lv_at hl 7 rfl) ?_
        have hs_27 : kSplit (wX2 q2 cI cJ cB (frP ml cells_2 i b) determinant_2 ++ wX4 q4 cI cJ cB parts_4 wins_4 draws_4 points_4 count_4 changes_4) (wX4 q4 cI cJ cB parts_4 wins_4 draws_4 points_4 count_4 changes_4) (wX2 q2 cI cJ cB (frP ml cells_2 i b) determinant_2) [2, 3, 4, 5, 6] [0, 1] := ⟨rfl, rfl, rfl, rfl, rfl, by decide⟩
        refine kc_i hP hD hS hA hs_27 (kV (As := [.int (nI (i + 1)), .int (nI b)]) (rest := [.int dv]) hx hb hml hown hts hKW hP hD hs_27 (c_X4_times l D cI cJ cB q4 parts_4 wins_4 draws_4 points_4 count_4 changes_4 (i + 1) b (by first | assumption | omega) (by first | assumption | omega)) (cwV 2 hts gX2_fillRow_X4_times rfl rfl rfl (by decide +kernel) ⟨Nat.le_of_ble_eq_true rfl, Nat.le_of_ble_eq_true rfl⟩) 0 4 rfl rfl rfl rfl hl.1 rfl (Nat.le_of_ble_eq_true rfl) dX2_fillRow_27 ⟨Nat.zero_le _, Nat.zero_le _⟩) (fun r_27 u_27 H locs hw_27 hP hD hS => ?_)
        have er_27 := hw_27
        have er_27 := er_27.symm
        subst er_27
        have hP : va_P D vwCl (wX2 q2 cI cJ cB (frP ml cells_2 i b) determinant_2 ++ wX4 q4 cI cJ cB parts_4 wins_4 draws_4 points_4 count_4 changes_4) H := hP.sub (ws' := (wX2 q2 cI cJ cB (frP ml cells_2 i b) determinant_2 ++ wX4 q4 cI cJ cB parts_4 wins_4 draws_4 points_4 count_4 changes_4)) [0, 1, 2, 3, 4, 5, 6] rfl
        have hD : va_D A (wX2 q2 cI cJ cB (frP ml cells_2 i b) determinant_2 ++ wX4 q4 cI cJ cB parts_4 wins_4 draws_4 points_4 count_4 changes_4) := hD.sub (ws' := (wX2 q2 cI cJ cB (frP ml cells_2 i b) determinant_2 ++ wX4 q4 cI cJ cB parts_4 wins_4 draws_4 points_4 count_4 changes_4)) [0, 1, 2, 3, 4, 5, 6] (by decide) rfl
        refine k_top (y := nI (tmN ml (i + 1) b)) (by rw [(hM.2 (i + 1) b (by omega) (by omega)).1, (hM.2 (i + 1) b (by omega) (by omega)).2.1, (hM.2 b (i + 1) (by omega) (by omega)).1, nI_add, nI_add]) ?_
        refine lv_iadd hx hb dX2_fillRow_30 ?_
        refine lv_istore (lv' := [(5, .int (dv + (nI (tmN ml (i + 1) b)))), (0, .ref (q2 0)), (1, .ref (q4 0)), (2, .int (nI n)), (3, .int (nI i)), (4, .int (nI (i + 1))), (6, .int lv), (7, .int (nI b))]) hx hb dX2_fillRow_31 hl (by decide) rfl (fun ls hl => ?_)
        refine lv_iload hx hb dX2_fillRow_33 (lv_at hl 6 rfl) ?_
        refine lv_aload_n hx hb dX2_fillRow_35 rfl (lv_at hl 2 rfl) ?_
        refine lv_iload hx hb dX2_fillRow_36 (lv_at hl 5 rfl) ?_
        refine lv_iload hx hb dX2_fillRow_38 (lv_at hl 7 rfl) ?_
        have hs_40 : kSplit (wX2 q2 cI cJ cB (frP ml cells_2 i b) determinant_2 ++ wX4 q4 cI cJ cB parts_4 wins_4 draws_4 points_4 count_4 changes_4) (wX4 q4 cI cJ cB parts_4 wins_4 draws_4 points_4 count_4 changes_4) (wX2 q2 cI cJ cB (frP ml cells_2 i b) determinant_2) [2, 3, 4, 5, 6] [0, 1] := ⟨rfl, rfl, rfl, rfl, rfl, by decide⟩
        refine kc_i hP hD hS hA hs_40 (kV (As := [.int (nI (i + 1)), .int (nI b)]) (rest := [.int lv]) hx hb hml hown hts hKW hP hD hs_40 (c_X4_points l D cI cJ cB q4 parts_4 wins_4 draws_4 points_4 count_4 changes_4 (i + 1) b (by first | assumption | omega) (by first | assumption | omega)) (cwV 2 hts gX2_fillRow_X4_points rfl rfl rfl (by decide +kernel) ⟨Nat.le_of_ble_eq_true rfl, Nat.le_of_ble_eq_true rfl⟩) 0 4 rfl rfl rfl rfl hl.1 rfl (Nat.le_of_ble_eq_true rfl) dX2_fillRow_40 ⟨Nat.zero_le _, Nat.zero_le _⟩) (fun r_40 u_40 H locs hw_40 hP hD hS => ?_)
        have er_40 := hw_40
        have er_40 := er_40.symm
        subst er_40
        have hP : va_P D vwCl (wX2 q2 cI cJ cB (frP ml cells_2 i b) determinant_2 ++ wX4 q4 cI cJ cB parts_4 wins_4 draws_4 points_4 count_4 changes_4) H := hP.sub (ws' := (wX2 q2 cI cJ cB (frP ml cells_2 i b) determinant_2 ++ wX4 q4 cI cJ cB parts_4 wins_4 draws_4 points_4 count_4 changes_4)) [0, 1, 2, 3, 4, 5, 6] rfl
        have hD : va_D A (wX2 q2 cI cJ cB (frP ml cells_2 i b) determinant_2 ++ wX4 q4 cI cJ cB parts_4 wins_4 draws_4 points_4 count_4 changes_4) := hD.sub (ws' := (wX2 q2 cI cJ cB (frP ml cells_2 i b) determinant_2 ++ wX4 q4 cI cJ cB parts_4 wins_4 draws_4 points_4 count_4 changes_4)) [0, 1, 2, 3, 4, 5, 6] (by decide) rfl
        refine k_top (y := nI (pt ml (i + 1) b)) ((hM.2 (i + 1) b (by omega) (by omega)).2.2) ?_
        refine lv_aload_n hx hb dX2_fillRow_43 rfl (lv_at hl 2 rfl) ?_
        refine lv_iload hx hb dX2_fillRow_44 (lv_at hl 7 rfl) ?_
        refine lv_iload hx hb dX2_fillRow_46 (lv_at hl 5 rfl) ?_
        have hs_48 : kSplit (wX2 q2 cI cJ cB (frP ml cells_2 i b) determinant_2 ++ wX4 q4 cI cJ cB parts_4 wins_4 draws_4 points_4 count_4 changes_4) (wX4 q4 cI cJ cB parts_4 wins_4 draws_4 points_4 count_4 changes_4) (wX2 q2 cI cJ cB (frP ml cells_2 i b) determinant_2) [2, 3, 4, 5, 6] [0, 1] := ⟨rfl, rfl, rfl, rfl, rfl, by decide⟩
        refine kc_i hP hD hS hA hs_48 (kV (As := [.int (nI b), .int (nI (i + 1))]) (rest := [.int (nI (pt ml (i + 1) b)), .int lv]) hx hb hml hown hts hKW hP hD hs_48 (c_X4_points l D cI cJ cB q4 parts_4 wins_4 draws_4 points_4 count_4 changes_4 b (i + 1) (by first | assumption | omega) (by first | assumption | omega)) (cwV 2 hts gX2_fillRow_X4_points rfl rfl rfl (by decide +kernel) ⟨Nat.le_of_ble_eq_true rfl, Nat.le_of_ble_eq_true rfl⟩) 0 4 rfl rfl rfl rfl hl.1 rfl (Nat.le_of_ble_eq_true rfl) dX2_fillRow_48 ⟨Nat.zero_le _, Nat.zero_le _⟩) (fun r_48 u_48 H locs hw_48 hP hD hS => ?_)
        have er_48 := hw_48
        have er_48 := er_48.symm
        subst er_48
        have hP : va_P D vwCl (wX2 q2 cI cJ cB (frP ml cells_2 i b) determinant_2 ++ wX4 q4 cI cJ cB parts_4 wins_4 draws_4 points_4 count_4 changes_4) H := hP.sub (ws' := (wX2 q2 cI cJ cB (frP ml cells_2 i b) determinant_2 ++ wX4 q4 cI cJ cB parts_4 wins_4 draws_4 points_4 count_4 changes_4)) [0, 1, 2, 3, 4, 5, 6] rfl
        have hD : va_D A (wX2 q2 cI cJ cB (frP ml cells_2 i b) determinant_2 ++ wX4 q4 cI cJ cB parts_4 wins_4 draws_4 points_4 count_4 changes_4) := hD.sub (ws' := (wX2 q2 cI cJ cB (frP ml cells_2 i b) determinant_2 ++ wX4 q4 cI cJ cB parts_4 wins_4 draws_4 points_4 count_4 changes_4)) [0, 1, 2, 3, 4, 5, 6] (by decide) rfl
        refine k_top (y := nI (pt ml b (i + 1))) ((hM.2 b (i + 1) (by omega) (by omega)).2.2) ?_
        refine lv_isub hx hb dX2_fillRow_51 ?_
        refine lv_iadd hx hb dX2_fillRow_52 ?_
        refine lv_istore (lv' := [(6, .int (lv + ((nI (pt ml (i + 1) b)) - (nI (pt ml b (i + 1)))))), (5, .int (dv + (nI (tmN ml (i + 1) b)))), (0, .ref (q2 0)), (1, .ref (q4 0)), (2, .int (nI n)), (3, .int (nI i)), (4, .int (nI (i + 1))), (7, .int (nI b))]) hx hb dX2_fillRow_53 hl (by decide) rfl (fun ls hl => ?_)
        refine lv_iload hx hb dX2_fillRow_55 (lv_at hl 7 rfl) ?_
        refine lv_if_le (tgt := 84) hx hb dX2_fillRow_57 (by decide) (fun c_57 => ?_) (fun c_57 => ?_)
        · skip
          have c_57 := k0_le (by omega) c_57
          refine lv_iinc (v := nI (b + 1)) (lv' := [(7, .int (nI (b + 1))), (6, .int (lv + ((nI (pt ml (i + 1) b)) - (nI (pt ml b (i + 1)))))), (5, .int (dv + (nI (tmN ml (i + 1) b)))), (0, .ref (q2 0)), (1, .ref (q4 0)), (2, .int (nI n)), (3, .int (nI i)), (4, .int (nI (i + 1)))]) hx hb dX2_fillRow_84 hl (k := 7) rfl (nI_add _ _) (by decide) rfl (fun ls hl => ?_)
          refine lv_goto (tgt := 14) hx hb dX2_fillRow_87 (by decide) ?_
          rw [frP_z c_57] at hP hD
          exact ih_14 _ _ _ (by omega) (by rw [hdv]; rfl) (by rw [hlv]; rfl) (by omega) _ _ hP hD hS ls (lv_sub hl [3, 4, 5, 6, 7, 2, 1, 0] rfl)
        · skip
          have c_57 := k0_le_n (by omega) c_57
          refine lv_aload_n hx hb dX2_fillRow_60 rfl (lv_at hl 2 rfl) ?_
          refine k_get (ci := 2) (v := .ref (q2 1)) (C := RX2) (Tb := TX2) (N := 2) hx hb hts hu_2 hown hKW hP 0 rfl rfl 0 (by decide) hf_11 rfl rfl dX2_fillRow_61 ?_
          refine lv_iload_n hx hb dX2_fillRow_64 rfl (lv_at hl 5 rfl) ?_
          refine lv_bipush (v := nI 6) hx hb dX2_fillRow_65 (by decide) ?_
          refine k_imul hx hb dX2_fillRow_67 ?_
          refine lv_iload hx hb dX2_fillRow_68 (lv_at hl 7 rfl) ?_
          refine k_iadd hx hb dX2_fillRow_70 ?_
          refine lv_iconst (v := nI 1) hx hb dX2_fillRow_71 (by decide) ?_
          refine k_isub hx hb (by omega) dX2_fillRow_72 ?_
          refine lv_aload_n hx hb dX2_fillRow_73 rfl (lv_at hl 3 rfl) ?_
          refine lv_iload hx hb dX2_fillRow_74 (lv_at hl 6 rfl) ?_
          refine lv_iload hx hb dX2_fillRow_76 (lv_at hl 7 rfl) ?_
          have hs_78 : kSplit (wX2 q2 cI cJ cB (frP ml cells_2 i b) determinant_2 ++ wX4 q4 cI cJ cB parts_4 wins_4 draws_4 points_4 count_4 changes_4) (wX4 q4 cI cJ cB parts_4 wins_4 draws_4 points_4 count_4 changes_4) (wX2 q2 cI cJ cB (frP ml cells_2 i b) determinant_2) [2, 3, 4, 5, 6] [0, 1] := ⟨rfl, rfl, rfl, rfl, rfl, by decide⟩
          refine kc_i hP hD hS hA hs_78 (kV (As := [.int (nI (i + 1)), .int (nI b)]) (rest := [.int (nI (((i * 6) + b) - 1)), .ref (q2 1)]) hx hb hml hown hts hKW hP hD hs_78 (c_X4_times l D cI cJ cB q4 parts_4 wins_4 draws_4 points_4 count_4 changes_4 (i + 1) b (by first | assumption | omega) (by first | assumption | omega)) (cwV 2 hts gX2_fillRow_X4_times rfl rfl rfl (by decide +kernel) ⟨Nat.le_of_ble_eq_true rfl, Nat.le_of_ble_eq_true rfl⟩) 0 4 rfl rfl rfl rfl hl.1 rfl (Nat.le_of_ble_eq_true rfl) dX2_fillRow_78 ⟨Nat.zero_le _, Nat.zero_le _⟩) (fun r_78 u_78 H locs hw_78 hP hD hS => ?_)
          have er_78 := hw_78
          have er_78 := er_78.symm
          subst er_78
          have hP : va_P D vwCl (wX2 q2 cI cJ cB (frP ml cells_2 i b) determinant_2 ++ wX4 q4 cI cJ cB parts_4 wins_4 draws_4 points_4 count_4 changes_4) H := hP.sub (ws' := (wX2 q2 cI cJ cB (frP ml cells_2 i b) determinant_2 ++ wX4 q4 cI cJ cB parts_4 wins_4 draws_4 points_4 count_4 changes_4)) [0, 1, 2, 3, 4, 5, 6] rfl
          have hD : va_D A (wX2 q2 cI cJ cB (frP ml cells_2 i b) determinant_2 ++ wX4 q4 cI cJ cB parts_4 wins_4 draws_4 points_4 count_4 changes_4) := hD.sub (ws' := (wX2 q2 cI cJ cB (frP ml cells_2 i b) determinant_2 ++ wX4 q4 cI cJ cB parts_4 wins_4 draws_4 points_4 count_4 changes_4)) [0, 1, 2, 3, 4, 5, 6] (by decide) rfl
          refine k_top (y := nI (tmN ml (i + 1) b)) (by rw [(hM.2 (i + 1) b (by omega) (by omega)).1, (hM.2 (i + 1) b (by omega) (by omega)).2.1, (hM.2 b (i + 1) (by omega) (by omega)).1, nI_add, nI_add]) ?_
          refine lv_ineg hx hb dX2_fillRow_81 ?_
          refine lv_i2l (v := (-(nI (tmN ml (i + 1) b))).toInt64) hx hb dX2_fillRow_82 rfl ?_
          refine k_last (n := 30) (i := ((i * 6) + b) - 1) (x := (-(nI (tmN ml (i + 1) b))).toInt64) (w' := (wX2 q2 cI cJ cB (vp_updL (frP ml cells_2 i b) (((i * 6) + b) - 1) ((-(nI (tmN ml (i + 1) b))).toInt64)) determinant_2 ++ wX4 q4 cI cJ cB parts_4 wins_4 draws_4 points_4 count_4 changes_4)) hx hb hKW hP hD hS 1 1 rfl rfl (by omega) (by omega) dX2_fillRow_83 rfl (fun H locs hP hD hS => ?_)
          refine lv_iinc (v := nI (b + 1)) (lv' := [(7, .int (nI (b + 1))), (6, .int (lv + ((nI (pt ml (i + 1) b)) - (nI (pt ml b (i + 1)))))), (5, .int (dv + (nI (tmN ml (i + 1) b)))), (0, .ref (q2 0)), (1, .ref (q4 0)), (2, .int (nI n)), (3, .int (nI i)), (4, .int (nI (i + 1)))]) hx hb dX2_fillRow_84 hl (k := 7) rfl (nI_add _ _) (by decide) rfl (fun ls hl => ?_)
          refine lv_goto (tgt := 14) hx hb dX2_fillRow_87 (by decide) ?_
          rw [frP_s (by omega) (by omega) rfl] at hP hD
          exact ih_14 _ _ _ (by omega) (by rw [hdv]; rfl) (by rw [hlv]; rfl) (by omega) _ _ hP hD hS ls (lv_sub hl [3, 4, 5, 6, 7, 2, 1, 0] rfl)
  exact hL_14 _ 0 _ _ (Nat.zero_le _) rfl rfl (Nat.lt_succ_self _) _ _ (by rw [frP_0]; exact hP) (by rw [frP_0]; exact hD) hS ls (lv_sub hl [4, 5, 6, 7, 3, 2, 1, 0] rfl)
def rmX2_clearColumn : Room := { frames := 0, cells := 0, slots := 0, locals := 0 }
set_option maxHeartbeats 4000000 in
set_option maxRecDepth 100000 in
theorem c_X2_clearColumn (l : Launch) (D : va_G) (cI cJ cB : ClassId) (q2 : Nat → Nat) (cells_2 : Nat → Int64) (determinant_2 : Int64) (z5 : Nat) (k : Nat) (hz5 : z5 ≤ 5) (hk : k < z5) (hd0 : ¬ determinant_2 = 0) (hp0 : ¬ cells_2 (6 * k + k) = 0) : ∀ sz, Met l yX2_clearColumn wsX2_clearColumn rmX2_clearColumn (va_Pc [.ref (q2 0), .int (nI z5), .int (nI k)] (PW D (kT cI cJ cB) sz (wX2 q2 cI cJ cB cells_2 determinant_2))) (va_Qi (S := (Nat → Int64) × Int64) (fun r uu => match uu with | (cells_2', determinant_2') => r = nI 1 ∧ cells_2' = gjP cells_2 k z5 determinant_2 z5 0 ∧ determinant_2' = cells_2 (6 * k + k)) (QW D sz (wX2 q2 cI cJ cB cells_2 determinant_2) (fun uu => match uu with | (cells_2', determinant_2') => (wX2 q2 cI cJ cB cells_2' determinant_2'))) (va_A (wX2 q2 cI cJ cB cells_2 determinant_2) sz)) 0 0 (va_A (wX2 q2 cI cJ cB cells_2 determinant_2) sz) := by
  intro sz
  refine Met.ofW (cc := cX2_clearColumn) (maxL := 13) (ret := (some .boolean)) (by decide) rfl ?_
  intro p e s m args below meth c s₁ B hml hv
  obtain ⟨hav, hsz, hP, hKW, hD0⟩ := hv
  have hx := B.exec
  have hb := B.bytes
  have hr := B.returns
  have hts := atoms_spec (ws := wsX2_clearColumn) B.pre
  have hown : s.vm.findClass RX2 = some m.cls := findClass_of_methodNamed B.named
  have hlocks := B.notSynchronized
  subst hsz
  have hD := hD0.self (sz := s.heap.size)
  obtain ⟨A, hAe⟩ : ∃ A : Nat → Prop, A = va_A (wX2 q2 cI cJ cB cells_2 determinant_2) s.heap.size := ⟨_, rfl⟩
  rw [← hAe] at hD
  have hA : ∀ q : Nat, s.heap.size ≤ q → A q := fun q h => by rw [hAe]; exact Or.inr h
  have hS : va_S A s.heap s.heap [] := va_S.rf
  refine k_gen (fun Q hQ => ?_)
  have hl := lv_entry ([.ref (q2 0), .int (nI z5), .int (nI k)]) (n := 13) (Nat.le_of_ble_eq_true rfl)
  refine k_entry hav (lg_entry_eq ..) ?_
  generalize (lg_sl ([.ref (q2 0), .int (nI z5), .int (nI k)]) ++ List.replicate (13 - (lg_sl ([.ref (q2 0), .int (nI z5), .int (nI k)])).length) Slot.unset).toArray = ls at hl ⊢
  have hl : lv_has ls 13 [(0, .ref (q2 0)), (1, .int (nI z5)), (2, .int (nI k))] := hl
  have hu_2 : ∀ w ∈ u_ws RX2 TX2 2, w ∈ wsX2_clearColumn := by decide +kernel
  have hf_11 : Cond.fieldLink RX2 11 "MeetingRanks$GapSolver" "cells" "[J" ∈ wsX2_clearColumn := by decide +kernel
  have hf_15 : Cond.fieldLink RX2 15 "MeetingRanks$GapSolver" "determinant" "J" ∈ wsX2_clearColumn := by decide +kernel
  refine lv_aload_n hx hb dX2_clearColumn_0 rfl (lv_at hl 0 rfl) ?_
  refine k_get (ci := 2) (v := .long determinant_2) (C := RX2) (Tb := TX2) (N := 2) hx hb hts hu_2 hown hKW hP 0 rfl rfl 1 (by decide) hf_15 rfl rfl dX2_clearColumn_1 ?_
  refine lv_lstore_n (lv' := [(3, .long determinant_2), (0, .ref (q2 0)), (1, .int (nI z5)), (2, .int (nI k))]) hx hb dX2_clearColumn_4 rfl hl (by decide) rfl (fun ls hl => ?_)
  refine lv_aload_n hx hb dX2_clearColumn_5 rfl (lv_at hl 1 rfl) ?_
  refine k_get (ci := 2) (v := .ref (q2 1)) (C := RX2) (Tb := TX2) (N := 2) hx hb hts hu_2 hown hKW hP 0 rfl rfl 0 (by decide) hf_11 rfl rfl dX2_clearColumn_6 ?_
  refine lv_iload_n hx hb dX2_clearColumn_9 rfl (lv_at hl 3 rfl) ?_
  refine lv_bipush (v := nI 6) hx hb dX2_clearColumn_10 (by decide) ?_
  refine k_imul hx hb dX2_clearColumn_12 ?_
  refine lv_iload_n hx hb dX2_clearColumn_13 rfl (lv_at hl 3 rfl) ?_
  refine k_iadd hx hb dX2_clearColumn_14 ?_
  refine k_lald (n := 30) (i := (k * 6) + k) hx hb hKW hP 1 1 rfl rfl (by omega) (by omega) dX2_clearColumn_15 ?_
  refine k_topl (y := cells_2 (6 * k + k)) (by rw [i66]) ?_
  refine lv_lstore (lv' := [(5, .long (cells_2 (6 * k + k))), (3, .long determinant_2), (0, .ref (q2 0)), (1, .int (nI z5)), (2, .int (nI k))]) hx hb dX2_clearColumn_16 hl (by decide) rfl (fun ls hl => ?_)
  refine lv_lload_n hx hb dX2_clearColumn_18 rfl (lv_at hl 1 rfl) ?_
  refine lv_lconst (v := 0) hx hb dX2_clearColumn_19 (by decide) ?_
  refine W.lcmp hx hb dX2_clearColumn_20 ?_
  refine lv_if_eq (tgt := 31) hx hb dX2_clearColumn_21 (by decide) (fun c_21 => ?_) (fun c_21 => ?_)
  · skip
    have c_21 := k_lc_eq c_21
    exact absurd c_21 hd0
  · skip
    have c_21 := k_lc_eq_n c_21
    refine lv_lload hx hb dX2_clearColumn_24 (lv_at hl 0 rfl) ?_
    refine lv_lconst (v := 0) hx hb dX2_clearColumn_26 (by decide) ?_
    refine W.lcmp hx hb dX2_clearColumn_27 ?_
    refine lv_if_ne (tgt := 33) hx hb dX2_clearColumn_28 (by decide) (fun c_28 => ?_) (fun c_28 => ?_)
    · skip
      have c_28 := k_lc_ne c_28
      refine lv_iconst (v := nI 0) hx hb dX2_clearColumn_33 (by decide) ?_
      refine lv_istore (lv' := [(7, .int (nI 0)), (5, .long (cells_2 (6 * k + k))), (3, .long determinant_2), (0, .ref (q2 0)), (1, .int (nI z5)), (2, .int (nI k))]) hx hb dX2_clearColumn_34 hl (by decide) rfl (fun ls hl => ?_)
      have hL_36 : ∀ (fu : Nat) (i : Nat) (hi : i ≤ z5), z5 - i < fu → ∀ (H : Heap) (locs : List Loc), va_P D vwCl (wX2 q2 cI cJ cB (gjP cells_2 k z5 determinant_2 i 0) determinant_2) H → va_D A (wX2 q2 cI cJ cB (gjP cells_2 k z5 determinant_2 i 0) determinant_2) → va_S A s.heap H locs → ∀ (ls : Array Slot), lv_has ls 13 [(0, .ref (q2 0)), (1, .int (nI z5)), (2, .int (nI k)), (3, .long determinant_2), (5, .long (cells_2 (6 * k + k))), (7, .int (nI i))] → W p l e (headSpec wsX2_clearColumn rmX2_clearColumn).room s m args below meth c H locs 0 0 Q (F0 m 36 ls []) := by
        intro fu
        induction fu with
        | zero => intro i hi hfu; exact absurd hfu (Nat.not_lt_zero _)
        | succ fu ih_36 =>
          intro i hi hfu H locs hP hD hS ls hl
          refine lv_iload hx hb dX2_clearColumn_36 (lv_at hl 5 rfl) ?_
          refine lv_iload_n hx hb dX2_clearColumn_38 rfl (lv_at hl 1 rfl) ?_
          refine lv_icmp_ge (tgt := 134) hx hb dX2_clearColumn_39 (by decide) (fun c_39 => ?_) (fun c_39 => ?_)
          · skip
            have c_39 := k_ge (by omega) (by omega) c_39
            obtain rfl : i = z5 := by omega
            refine lv_aload_n hx hb dX2_clearColumn_134 rfl (lv_at hl 0 rfl) ?_
            refine lv_lload hx hb dX2_clearColumn_135 (lv_at hl 4 rfl) ?_
            refine k_put (ci := 2) (ty := .long) (v := .long (cells_2 (6 * k + k))) (C := RX2) (Tb := TX2) (N := 2) (w' := (wX2 q2 cI cJ cB (gjP cells_2 k i determinant_2 i 0) (cells_2 (6 * k + k)))) hx hb hts hu_2 tyX2 tyX2_ok nmX2 hown hKW hP hD hS 0 rfl rfl 1 (by decide) hf_15 rfl rfl (by decide +kernel) rfl rfl (Nat.le_of_ble_eq_true rfl) dX2_clearColumn_137 rfl (fun H locs hP hD hS => ?_)
            refine lv_iconst (v := nI 1) hx hb dX2_clearColumn_140 (by decide) ?_
            subst hQ; subst hAe
            exact W.zret (v := nI 1) (ty := .boolean) hx hb hr (by decide) (fun tt9 ht9 _ => ⟨⟨nI 1, (gjP cells_2 k i determinant_2 i 0, cells_2 (6 * k + k)), rfl, ⟨rfl, rfl, rfl⟩, by rw [ht9]; exact hP, hD⟩, hS.F ht9⟩) hS.2.2 dX2_clearColumn_141
          · skip
            have c_39 := k_ge_n (by omega) (by omega) c_39
            refine lv_iload hx hb dX2_clearColumn_42 (lv_at hl 5 rfl) ?_
            refine lv_iload_n hx hb dX2_clearColumn_44 rfl (lv_at hl 2 rfl) ?_
            refine lv_icmp_eq (tgt := 128) hx hb dX2_clearColumn_45 (by decide) (fun c_45 => ?_) (fun c_45 => ?_)
            · skip
              have c_45 := k_eq (by omega) (by omega) c_45
              refine lv_iinc (v := nI (i + 1)) (lv' := [(7, .int (nI (i + 1))), (0, .ref (q2 0)), (1, .int (nI z5)), (2, .int (nI k)), (3, .long determinant_2), (5, .long (cells_2 (6 * k + k)))]) hx hb dX2_clearColumn_128 hl (k := 5) rfl (nI_add _ _) (by decide) rfl (fun ls hl => ?_)
              refine lv_goto (tgt := 36) hx hb dX2_clearColumn_131 (by decide) ?_
              rw [gj_ke c_45] at hP hD
              exact ih_36 _ (by omega) (by omega) _ _ hP hD hS ls (lv_sub hl [1, 2, 3, 4, 5, 0] rfl)
            · skip
              have c_45 := k_eq_n (by omega) (by omega) c_45
              refine lv_aload_n hx hb dX2_clearColumn_48 rfl (lv_at hl 0 rfl) ?_
              refine k_get (ci := 2) (v := .ref (q2 1)) (C := RX2) (Tb := TX2) (N := 2) hx hb hts hu_2 hown hKW hP 0 rfl rfl 0 (by decide) hf_11 rfl rfl dX2_clearColumn_49 ?_
              refine lv_iload hx hb dX2_clearColumn_52 (lv_at hl 5 rfl) ?_
              refine lv_bipush (v := nI 6) hx hb dX2_clearColumn_54 (by decide) ?_
              refine k_imul hx hb dX2_clearColumn_56 ?_
              refine lv_iload_n hx hb dX2_clearColumn_57 rfl (lv_at hl 2 rfl) ?_
              refine k_iadd hx hb dX2_clearColumn_58 ?_
              refine k_lald (n := 30) (i := (i * 6) + k) hx hb hKW hP 1 1 rfl rfl (by omega) (by omega) dX2_clearColumn_59 ?_
              refine k_topl (y := cells_2 (6 * i + k)) (by rw [i6]; exact gj_rd (by omega)) ?_
              refine lv_lstore (lv' := [(8, .long (cells_2 (6 * i + k))), (0, .ref (q2 0)), (1, .int (nI z5)), (2, .int (nI k)), (3, .long determinant_2), (5, .long (cells_2 (6 * k + k))), (7, .int (nI i))]) hx hb dX2_clearColumn_60 hl (by decide) rfl (fun ls hl => ?_)
              refine lv_iconst (v := nI 0) hx hb dX2_clearColumn_62 (by decide) ?_
              refine lv_istore (lv' := [(10, .int (nI 0)), (8, .long (cells_2 (6 * i + k))), (0, .ref (q2 0)), (1, .int (nI z5)), (2, .int (nI k)), (3, .long determinant_2), (5, .long (cells_2 (6 * k + k))), (7, .int (nI i))]) hx hb dX2_clearColumn_63 hl (by decide) rfl (fun ls hl => ?_)
              have hL_65 : ∀ (fu : Nat) (j : Nat) (hj : j ≤ z5 + 1), z5 + 1 - j < fu → ∀ (H : Heap) (locs : List Loc), va_P D vwCl (wX2 q2 cI cJ cB (gjP cells_2 k z5 determinant_2 i j) determinant_2) H → va_D A (wX2 q2 cI cJ cB (gjP cells_2 k z5 determinant_2 i j) determinant_2) → va_S A s.heap H locs → ∀ (ls : Array Slot), lv_has ls 13 [(0, .ref (q2 0)), (1, .int (nI z5)), (2, .int (nI k)), (3, .long determinant_2), (5, .long (cells_2 (6 * k + k))), (7, .int (nI i)), (8, .long (cells_2 (6 * i + k))), (10, .int (nI j))] → W p l e (headSpec wsX2_clearColumn rmX2_clearColumn).room s m args below meth c H locs 0 0 Q (F0 m 65 ls []) := by
                intro fu
                induction fu with
                | zero => intro j hj hfu; exact absurd hfu (Nat.not_lt_zero _)
                | succ fu ih_65 =>
                  intro j hj hfu H locs hP hD hS ls hl
                  refine lv_iload hx hb dX2_clearColumn_65 (lv_at hl 7 rfl) ?_
                  refine lv_iload_n hx hb dX2_clearColumn_67 rfl (lv_at hl 1 rfl) ?_
                  refine lv_icmp_gt (tgt := 128) hx hb dX2_clearColumn_68 (by decide) (fun c_68 => ?_) (fun c_68 => ?_)
                  · skip
                    have c_68 := k_gt (by omega) (by omega) c_68
                    obtain rfl : j = z5 + 1 := by omega
                    refine lv_iinc (v := nI (i + 1)) (lv' := [(7, .int (nI (i + 1))), (0, .ref (q2 0)), (1, .int (nI z5)), (2, .int (nI k)), (3, .long determinant_2), (5, .long (cells_2 (6 * k + k))), (8, .long (cells_2 (6 * i + k))), (10, .int (nI (z5 + 1)))]) hx hb dX2_clearColumn_128 hl (k := 5) rfl (nI_add _ _) (by decide) rfl (fun ls hl => ?_)
                    refine lv_goto (tgt := 36) hx hb dX2_clearColumn_131 (by decide) ?_
                    rw [gj_row] at hP hD
                    exact ih_36 _ (by omega) (by omega) _ _ hP hD hS ls (lv_sub hl [1, 2, 3, 4, 5, 0] rfl)
                  · skip
                    have c_68 := k_gt_n (by omega) (by omega) c_68
                    refine lv_lload hx hb dX2_clearColumn_71 (lv_at hl 4 rfl) ?_
                    refine lv_aload_n hx hb dX2_clearColumn_73 rfl (lv_at hl 0 rfl) ?_
                    refine k_get (ci := 2) (v := .ref (q2 1)) (C := RX2) (Tb := TX2) (N := 2) hx hb hts hu_2 hown hKW hP 0 rfl rfl 0 (by decide) hf_11 rfl rfl dX2_clearColumn_74 ?_
                    refine lv_iload hx hb dX2_clearColumn_77 (lv_at hl 5 rfl) ?_
                    refine lv_bipush (v := nI 6) hx hb dX2_clearColumn_79 (by decide) ?_
                    refine k_imul hx hb dX2_clearColumn_81 ?_
                    refine lv_iload hx hb dX2_clearColumn_82 (lv_at hl 7 rfl) ?_
                    refine k_iadd hx hb dX2_clearColumn_84 ?_
                    refine k_lald (n := 30) (i := (i * 6) + j) hx hb hKW hP 1 1 rfl rfl (by omega) (by omega) dX2_clearColumn_85 ?_
                    refine k_topl (y := cells_2 (6 * i + j)) (by rw [i6]; exact gj_rd (by omega)) ?_
                    refine lv_lmul hx hb dX2_clearColumn_86 ?_
                    refine lv_lload hx hb dX2_clearColumn_87 (lv_at hl 6 rfl) ?_
                    refine lv_aload_n hx hb dX2_clearColumn_89 rfl (lv_at hl 0 rfl) ?_
                    refine k_get (ci := 2) (v := .ref (q2 1)) (C := RX2) (Tb := TX2) (N := 2) hx hb hts hu_2 hown hKW hP 0 rfl rfl 0 (by decide) hf_11 rfl rfl dX2_clearColumn_90 ?_
                    refine lv_iload_n hx hb dX2_clearColumn_93 rfl (lv_at hl 2 rfl) ?_
                    refine lv_bipush (v := nI 6) hx hb dX2_clearColumn_94 (by decide) ?_
                    refine k_imul hx hb dX2_clearColumn_96 ?_
                    refine lv_iload hx hb dX2_clearColumn_97 (lv_at hl 7 rfl) ?_
                    refine k_iadd hx hb dX2_clearColumn_99 ?_
                    refine k_lald (n := 30) (i := (k * 6) + j) hx hb hKW hP 1 1 rfl rfl (by omega) (by omega) dX2_clearColumn_100 ?_
                    refine k_topl (y := cells_2 (6 * k + j)) (by rw [i6]; exact gj_rd (by omega)) ?_
                    refine lv_lmul hx hb dX2_clearColumn_101 ?_
                    refine lv_lsub hx hb dX2_clearColumn_102 ?_
                    refine lv_lstore (lv' := [(11, .long (((cells_2 (6 * k + k)) * (cells_2 (6 * i + j))) - ((cells_2 (6 * i + k)) * (cells_2 (6 * k + j))))), (0, .ref (q2 0)), (1, .int (nI z5)), (2, .int (nI k)), (3, .long determinant_2), (5, .long (cells_2 (6 * k + k))), (7, .int (nI i)), (8, .long (cells_2 (6 * i + k))), (10, .int (nI j))]) hx hb dX2_clearColumn_103 hl (by decide) rfl (fun ls hl => ?_)
                    refine lv_aload_n hx hb dX2_clearColumn_105 rfl (lv_at hl 1 rfl) ?_
                    refine k_get (ci := 2) (v := .ref (q2 1)) (C := RX2) (Tb := TX2) (N := 2) hx hb hts hu_2 hown hKW hP 0 rfl rfl 0 (by decide) hf_11 rfl rfl dX2_clearColumn_106 ?_
                    refine lv_iload hx hb dX2_clearColumn_109 (lv_at hl 6 rfl) ?_
                    refine lv_bipush (v := nI 6) hx hb dX2_clearColumn_111 (by decide) ?_
                    refine k_imul hx hb dX2_clearColumn_113 ?_
                    refine lv_iload hx hb dX2_clearColumn_114 (lv_at hl 8 rfl) ?_
                    refine k_iadd hx hb dX2_clearColumn_116 ?_
                    refine lv_lload hx hb dX2_clearColumn_117 (lv_at hl 0 rfl) ?_
                    refine lv_lload_n hx hb dX2_clearColumn_119 rfl (lv_at hl 4 rfl) ?_
                    refine lv_ldiv hx hb dX2_clearColumn_120 (hd0) ?_
                    refine k_last (n := 30) (i := (i * 6) + j) (x := (((cells_2 (6 * k + k)) * (cells_2 (6 * i + j))) - ((cells_2 (6 * i + k)) * (cells_2 (6 * k + j)))) / determinant_2) (w' := (wX2 q2 cI cJ cB (vp_updL (gjP cells_2 k z5 determinant_2 i j) ((i * 6) + j) ((((cells_2 (6 * k + k)) * (cells_2 (6 * i + j))) - ((cells_2 (6 * i + k)) * (cells_2 (6 * k + j)))) / determinant_2)) determinant_2)) hx hb hKW hP hD hS 1 1 rfl rfl (by omega) (by omega) dX2_clearColumn_121 rfl (fun H locs hP hD hS => ?_)
                    refine lv_iinc (v := nI (j + 1)) (lv' := [(10, .int (nI (j + 1))), (11, .long (((cells_2 (6 * k + k)) * (cells_2 (6 * i + j))) - ((cells_2 (6 * i + k)) * (cells_2 (6 * k + j))))), (0, .ref (q2 0)), (1, .int (nI z5)), (2, .int (nI k)), (3, .long determinant_2), (5, .long (cells_2 (6 * k + k))), (7, .int (nI i)), (8, .long (cells_2 (6 * i + k)))]) hx hb dX2_clearColumn_122 hl (k := 8) rfl (nI_add _ _) (by decide) rfl (fun ls hl => ?_)
                    refine lv_goto (tgt := 65) hx hb dX2_clearColumn_125 (by decide) ?_
                    have hg9 := gj_step (c := cells_2) (k := k) (cb := z5) (be := determinant_2) (I := i) (J := j) (ix := i * 6 + j) (by omega) (by omega) (by omega) c_45 rfl
                    unfold gjE at hg9
                    rw [hg9] at hP hD
                    exact ih_65 _ (by omega) (by omega) _ _ hP hD hS ls (lv_sub hl [2, 3, 4, 5, 6, 7, 8, 0] rfl)
              exact hL_65 _ 0 (Nat.zero_le _) (Nat.lt_succ_self _) _ _ hP hD hS ls (lv_sub hl [2, 3, 4, 5, 6, 7, 1, 0] rfl)
      exact hL_36 _ 0 (Nat.zero_le _) (Nat.lt_succ_self _) _ _ (by rw [gj_0]; exact hP) (by rw [gj_0]; exact hD) hS ls (lv_sub hl [3, 4, 5, 2, 1, 0] rfl)
    · skip
      have c_28 := k_lc_ne_n c_28
      exact absurd c_28 hp0
def rmX2_solve : Room := { frames := 3, cells := 0, slots := 0, locals := 71 }
set_option maxHeartbeats 4000000 in
set_option maxRecDepth 100000 in
theorem c_X2_solve (l : Launch) (D : va_G) (cI cJ cB : ClassId) (q2 : Nat → Nat) (q4 : Nat → Nat) (cells_2 : Nat → Int64) (determinant_2 : Int64) (parts_4 : Nat → Int32) (wins_4 : Nat → Int32) (draws_4 : Nat → Int32) (points_4 : Nat → Int32) (count_4 : Int32) (changes_4 : Int32) (ml : List Mt) (n : Nat) (hM : MR parts_4 wins_4 draws_4 points_4 ml) (hn1 : 1 ≤ n) (hn6 : n ≤ 6) (hG : ∀ k, k ≤ n - 1 → 0 < (gjR (flC ml n cells_2 (n - 1)) (n - 1) (n - 1) k).2) : ∀ sz, Met l yX2_solve wsX2_solve rmX2_solve (va_Pc [.ref (q2 0), .ref (q4 0), .int (nI n)] (PW D (kT cI cJ cB) sz (wX2 q2 cI cJ cB cells_2 determinant_2 ++ wX4 q4 cI cJ cB parts_4 wins_4 draws_4 points_4 count_4 changes_4))) (va_Qi (S := (Nat → Int64) × Int64) (fun r uu => match uu with | (cells_2', determinant_2') => r = nI 1 ∧ cells_2' = (gjR (flC ml n cells_2 (n - 1)) (n - 1) (n - 1) (n - 1)).1 ∧ determinant_2' = (gjR (flC ml n cells_2 (n - 1)) (n - 1) (n - 1) (n - 1)).2) (QW D sz (wX2 q2 cI cJ cB cells_2 determinant_2 ++ wX4 q4 cI cJ cB parts_4 wins_4 draws_4 points_4 count_4 changes_4) (fun uu => match uu with | (cells_2', determinant_2') => (wX2 q2 cI cJ cB cells_2' determinant_2' ++ wX4 q4 cI cJ cB parts_4 wins_4 draws_4 points_4 count_4 changes_4))) (va_A (wX2 q2 cI cJ cB cells_2 determinant_2 ++ wX4 q4 cI cJ cB parts_4 wins_4 draws_4 points_4 count_4 changes_4) sz)) 0 0 (va_A (wX2 q2 cI cJ cB cells_2 determinant_2 ++ wX4 q4 cI cJ cB parts_4 wins_4 draws_4 points_4 count_4 changes_4) sz) := by
  intro sz
  refine Met.ofW (cc := cX2_solve) (maxL := 5) (ret := (some .boolean)) (by decide) rfl ?_
  intro p e s m args below meth c s₁ B hml hv
  obtain ⟨hav, hsz, hP, hKW, hD0⟩ := hv
  have hx := B.exec
  have hb := B.bytes
  have hr := B.returns
  have hts := atoms_spec (ws := wsX2_solve) B.pre
  have hown : s.vm.findClass RX2 = some m.cls := findClass_of_methodNamed B.named
  have hlocks := B.notSynchronized
  subst hsz
  have hD := hD0.self (sz := s.heap.size)
  obtain ⟨A, hAe⟩ : ∃ A : Nat → Prop, A = va_A (wX2 q2 cI cJ cB cells_2 determinant_2 ++ wX4 q4 cI cJ cB parts_4 wins_4 draws_4 points_4 count_4 changes_4) s.heap.size := ⟨_, rfl⟩
  rw [← hAe] at hD
  have hA : ∀ q : Nat, s.heap.size ≤ q → A q := fun q h => by rw [hAe]; exact Or.inr h
  have hS : va_S A s.heap s.heap [] := va_S.rf
  refine k_gen (fun Q hQ => ?_)
  have hl := lv_entry ([.ref (q2 0), .ref (q4 0), .int (nI n)]) (n := 5) (Nat.le_of_ble_eq_true rfl)
  refine k_entry hav (lg_entry_eq ..) ?_
  generalize (lg_sl ([.ref (q2 0), .ref (q4 0), .int (nI n)]) ++ List.replicate (5 - (lg_sl ([.ref (q2 0), .ref (q4 0), .int (nI n)])).length) Slot.unset).toArray = ls at hl ⊢
  have hl : lv_has ls 5 [(0, .ref (q2 0)), (1, .ref (q4 0)), (2, .int (nI n))] := hl
  have hu_2 : ∀ w ∈ u_ws RX2 TX2 2, w ∈ wsX2_solve := by decide +kernel
  have hf_15 : Cond.fieldLink RX2 15 "MeetingRanks$GapSolver" "determinant" "J" ∈ wsX2_solve := by decide +kernel
  refine lv_iload_n hx hb dX2_solve_0 rfl (lv_at hl 2 rfl) ?_
  refine lv_iconst (v := nI 1) hx hb dX2_solve_1 (by decide) ?_
  refine k_isub hx hb (by omega) dX2_solve_2 ?_
  refine lv_istore_n (lv' := [(3, .int (nI (n - 1))), (0, .ref (q2 0)), (1, .ref (q4 0)), (2, .int (nI n))]) hx hb dX2_solve_3 rfl hl (by decide) rfl (fun ls hl => ?_)
  refine lv_iconst (v := nI 0) hx hb dX2_solve_4 (by decide) ?_
  refine lv_istore (lv' := [(4, .int (nI 0)), (3, .int (nI (n - 1))), (0, .ref (q2 0)), (1, .ref (q4 0)), (2, .int (nI n))]) hx hb dX2_solve_5 hl (by decide) rfl (fun ls hl => ?_)
  have hL_7 : ∀ (fu : Nat) (i : Nat) (hi : i ≤ n - 1), n - 1 - i < fu → ∀ (H : Heap) (locs : List Loc), va_P D vwCl (wX2 q2 cI cJ cB (flC ml n cells_2 i) determinant_2 ++ wX4 q4 cI cJ cB parts_4 wins_4 draws_4 points_4 count_4 changes_4) H → va_D A (wX2 q2 cI cJ cB (flC ml n cells_2 i) determinant_2 ++ wX4 q4 cI cJ cB parts_4 wins_4 draws_4 points_4 count_4 changes_4) → va_S A s.heap H locs → ∀ (ls : Array Slot), lv_has ls 5 [(0, .ref (q2 0)), (1, .ref (q4 0)), (2, .int (nI n)), (3, .int (nI (n - 1))), (4, .int (nI i))] → W p l e (headSpec wsX2_solve rmX2_solve).room s m args below meth c H locs 0 0 Q (F0 m 7 ls []) := by
    intro fu
    induction fu with
    | zero => intro i hi hfu; exact absurd hfu (Nat.not_lt_zero _)
    | succ fu ih_7 =>
      intro i hi hfu H locs hP hD hS ls hl
      refine lv_iload hx hb dX2_solve_7 (lv_at hl 4 rfl) ?_
      refine lv_iload_n hx hb dX2_solve_9 rfl (lv_at hl 3 rfl) ?_
      refine lv_icmp_ge (tgt := 27) hx hb dX2_solve_10 (by decide) (fun c_10 => ?_) (fun c_10 => ?_)
      · skip
        have c_10 := k_ge (by omega) (by omega) c_10
        obtain rfl : i = n - 1 := by omega
        refine lv_aload_n hx hb dX2_solve_27 rfl (lv_at hl 0 rfl) ?_
        refine lv_lconst (v := 1) hx hb dX2_solve_28 (by decide) ?_
        refine k_put (ci := 2) (ty := .long) (v := .long (1 : Int64)) (C := RX2) (Tb := TX2) (N := 2) (w' := (wX2 q2 cI cJ cB (flC ml n cells_2 (n - 1)) (1 : Int64) ++ wX4 q4 cI cJ cB parts_4 wins_4 draws_4 points_4 count_4 changes_4)) hx hb hts hu_2 tyX2 tyX2_ok nmX2 hown hKW hP hD hS 0 rfl rfl 1 (by decide) hf_15 rfl rfl (by decide +kernel) rfl rfl (Nat.le_of_ble_eq_true rfl) dX2_solve_29 rfl (fun H locs hP hD hS => ?_)
        refine lv_iconst (v := nI 0) hx hb dX2_solve_32 (by decide) ?_
        refine lv_istore (lv' := [(4, .int (nI 0)), (0, .ref (q2 0)), (1, .ref (q4 0)), (2, .int (nI n)), (3, .int (nI (n - 1)))]) hx hb dX2_solve_33 hl (by decide) rfl (fun ls hl => ?_)
        have hL_35 : ∀ (fu : Nat) (k : Nat) (hk : k ≤ n - 1), n - 1 - k < fu → ∀ (H : Heap) (locs : List Loc), va_P D vwCl (wX2 q2 cI cJ cB ((gjR (flC ml n cells_2 (n - 1)) (n - 1) (n - 1) k).1) ((gjR (flC ml n cells_2 (n - 1)) (n - 1) (n - 1) k).2) ++ wX4 q4 cI cJ cB parts_4 wins_4 draws_4 points_4 count_4 changes_4) H → va_D A (wX2 q2 cI cJ cB ((gjR (flC ml n cells_2 (n - 1)) (n - 1) (n - 1) k).1) ((gjR (flC ml n cells_2 (n - 1)) (n - 1) (n - 1) k).2) ++ wX4 q4 cI cJ cB parts_4 wins_4 draws_4 points_4 count_4 changes_4) → va_S A s.heap H locs → ∀ (ls : Array Slot), lv_has ls 5 [(0, .ref (q2 0)), (1, .ref (q4 0)), (2, .int (nI n)), (3, .int (nI (n - 1))), (4, .int (nI k))] → W p l e (headSpec wsX2_solve rmX2_solve).room s m args below meth c H locs 0 0 Q (F0 m 35 ls []) := by
          intro fu
          induction fu with
          | zero => intro k hk hfu; exact absurd hfu (Nat.not_lt_zero _)
          | succ fu ih_35 =>
            intro k hk hfu H locs hP hD hS ls hl
            refine lv_iload hx hb dX2_solve_35 (lv_at hl 4 rfl) ?_
            refine lv_iload_n hx hb dX2_solve_37 rfl (lv_at hl 3 rfl) ?_
            refine lv_icmp_ge (tgt := 59) hx hb dX2_solve_38 (by decide) (fun c_38 => ?_) (fun c_38 => ?_)
            · skip
              have c_38 := k_ge (by omega) (by omega) c_38
              obtain rfl : k = n - 1 := by omega
              refine lv_aload_n hx hb dX2_solve_59 rfl (lv_at hl 0 rfl) ?_
              refine k_get (ci := 2) (v := .long ((gjR (flC ml n cells_2 (n - 1)) (n - 1) (n - 1) (n - 1)).2)) (C := RX2) (Tb := TX2) (N := 2) hx hb hts hu_2 hown hKW hP 0 rfl rfl 1 (by decide) hf_15 rfl rfl dX2_solve_60 ?_
              refine lv_lconst (v := 0) hx hb dX2_solve_63 (by decide) ?_
              refine W.lcmp hx hb dX2_solve_64 ?_
              refine lv_if_le (tgt := 72) hx hb dX2_solve_65 (by decide) (fun c_65 => ?_) (fun c_65 => ?_)
              · skip
                have c_65 := k_lc_le c_65
                exact absurd c_65 (k_lle (hG (n - 1) (Nat.le_refl _)))
              · skip
                have c_65 := k_lc_le_n c_65
                refine lv_iconst (v := nI 1) hx hb dX2_solve_68 (by decide) ?_
                refine lv_goto (tgt := 73) hx hb dX2_solve_69 (by decide) ?_
                subst hQ; subst hAe
                exact W.zret (v := nI 1) (ty := .boolean) hx hb hr (by decide) (fun tt9 ht9 _ => ⟨⟨nI 1, ((gjR (flC ml n cells_2 (n - 1)) (n - 1) (n - 1) (n - 1)).1, (gjR (flC ml n cells_2 (n - 1)) (n - 1) (n - 1) (n - 1)).2), rfl, ⟨rfl, rfl, rfl⟩, by rw [ht9]; exact hP, hD⟩, hS.F ht9⟩) hS.2.2 dX2_solve_73
            · skip
              have c_38 := k_ge_n (by omega) (by omega) c_38
              refine lv_aload_n hx hb dX2_solve_41 rfl (lv_at hl 0 rfl) ?_
              refine lv_iload_n hx hb dX2_solve_42 rfl (lv_at hl 3 rfl) ?_
              refine lv_iload hx hb dX2_solve_43 (lv_at hl 4 rfl) ?_
              have hs_45 : kSplit (wX2 q2 cI cJ cB ((gjR (flC ml n cells_2 (n - 1)) (n - 1) (n - 1) k).1) ((gjR (flC ml n cells_2 (n - 1)) (n - 1) (n - 1) k).2) ++ wX4 q4 cI cJ cB parts_4 wins_4 draws_4 points_4 count_4 changes_4) (wX2 q2 cI cJ cB ((gjR (flC ml n cells_2 (n - 1)) (n - 1) (n - 1) k).1) ((gjR (flC ml n cells_2 (n - 1)) (n - 1) (n - 1) k).2)) (wX4 q4 cI cJ cB parts_4 wins_4 draws_4 points_4 count_4 changes_4) [0, 1] [2, 3, 4, 5, 6] := ⟨rfl, rfl, rfl, rfl, rfl, by decide⟩
              refine kc_i hP hD hS hA hs_45 (kV (As := [.int (nI (n - 1)), .int (nI k)]) (rest := []) hx hb hml hown hts hKW hP hD hs_45 (c_X2_clearColumn l D cI cJ cB q2 ((gjR (flC ml n cells_2 (n - 1)) (n - 1) (n - 1) k).1) ((gjR (flC ml n cells_2 (n - 1)) (n - 1) (n - 1) k).2) (n - 1) k (by omega) c_38 (k_lpos (hG k (by omega))) (k_lpos (hG (k + 1) (by omega)))) (cwV 2 hts gX2_solve_X2_clearColumn rfl rfl rfl (by decide +kernel) ⟨Nat.le_of_ble_eq_true rfl, Nat.le_of_ble_eq_true rfl⟩) 0 2 rfl rfl rfl rfl hl.1 rfl (Nat.le_of_ble_eq_true rfl) dX2_solve_45 ⟨Nat.zero_le _, Nat.zero_le _⟩) (fun r_45 u_45 H locs hw_45 hP hD hS => ?_)
              obtain ⟨cells_2_45, determinant_2_45⟩ := u_45
              obtain ⟨er_45, e_cells_2_45, e_determinant_2_45⟩ := hw_45
              have er_45 := er_45.symm
              subst er_45
              have e_cells_2_45 := e_cells_2_45.symm
              subst e_cells_2_45
              have e_determinant_2_45 := e_determinant_2_45.symm
              subst e_determinant_2_45
              have hP : va_P D vwCl (wX2 q2 cI cJ cB (gjP ((gjR (flC ml n cells_2 (n - 1)) (n - 1) (n - 1) k).1) k (n - 1) ((gjR (flC ml n cells_2 (n - 1)) (n - 1) (n - 1) k).2) (n - 1) 0) (((gjR (flC ml n cells_2 (n - 1)) (n - 1) (n - 1) k).1) (6 * k + k)) ++ wX4 q4 cI cJ cB parts_4 wins_4 draws_4 points_4 count_4 changes_4) H := hP.sub (ws' := (wX2 q2 cI cJ cB (gjP ((gjR (flC ml n cells_2 (n - 1)) (n - 1) (n - 1) k).1) k (n - 1) ((gjR (flC ml n cells_2 (n - 1)) (n - 1) (n - 1) k).2) (n - 1) 0) (((gjR (flC ml n cells_2 (n - 1)) (n - 1) (n - 1) k).1) (6 * k + k)) ++ wX4 q4 cI cJ cB parts_4 wins_4 draws_4 points_4 count_4 changes_4)) [5, 6, 0, 1, 2, 3, 4] rfl
              have hD : va_D A (wX2 q2 cI cJ cB (gjP ((gjR (flC ml n cells_2 (n - 1)) (n - 1) (n - 1) k).1) k (n - 1) ((gjR (flC ml n cells_2 (n - 1)) (n - 1) (n - 1) k).2) (n - 1) 0) (((gjR (flC ml n cells_2 (n - 1)) (n - 1) (n - 1) k).1) (6 * k + k)) ++ wX4 q4 cI cJ cB parts_4 wins_4 draws_4 points_4 count_4 changes_4) := hD.sub (ws' := (wX2 q2 cI cJ cB (gjP ((gjR (flC ml n cells_2 (n - 1)) (n - 1) (n - 1) k).1) k (n - 1) ((gjR (flC ml n cells_2 (n - 1)) (n - 1) (n - 1) k).2) (n - 1) 0) (((gjR (flC ml n cells_2 (n - 1)) (n - 1) (n - 1) k).1) (6 * k + k)) ++ wX4 q4 cI cJ cB parts_4 wins_4 draws_4 points_4 count_4 changes_4)) [5, 6, 0, 1, 2, 3, 4] (by decide) rfl
              refine lv_if_ne (tgt := 53) hx hb dX2_solve_48 (by decide) (fun c_48 => ?_) (fun c_48 => ?_)
              · skip
                have c_48 := k0_ne (by omega) c_48
                refine lv_iinc (v := nI (k + 1)) (lv' := [(4, .int (nI (k + 1))), (0, .ref (q2 0)), (1, .ref (q4 0)), (2, .int (nI n)), (3, .int (nI (n - 1)))]) hx hb dX2_solve_53 hl (k := 4) rfl (nI_add _ _) (by decide) rfl (fun ls hl => ?_)
                refine lv_goto (tgt := 35) hx hb dX2_solve_56 (by decide) ?_
                exact ih_35 (k + 1) (by omega) (by omega) _ _ hP hD hS ls (lv_sub hl [1, 2, 3, 4, 0] rfl)
              · skip
                have c_48 := k0_ne_n (by omega) c_48
                exact absurd c_48 (by decide)
        exact hL_35 _ 0 (Nat.zero_le _) (Nat.lt_succ_self _) _ _ hP hD hS ls (lv_sub hl [1, 2, 3, 4, 0] rfl)
      · skip
        have c_10 := k_ge_n (by omega) (by omega) c_10
        refine lv_aload_n hx hb dX2_solve_13 rfl (lv_at hl 0 rfl) ?_
        refine lv_aload_n hx hb dX2_solve_14 rfl (lv_at hl 1 rfl) ?_
        refine lv_iload_n hx hb dX2_solve_15 rfl (lv_at hl 2 rfl) ?_
        refine lv_iload hx hb dX2_solve_16 (lv_at hl 4 rfl) ?_
        have hs_18 : kSplit (wX2 q2 cI cJ cB (flC ml n cells_2 i) determinant_2 ++ wX4 q4 cI cJ cB parts_4 wins_4 draws_4 points_4 count_4 changes_4) (wX2 q2 cI cJ cB (flC ml n cells_2 i) determinant_2 ++ wX4 q4 cI cJ cB parts_4 wins_4 draws_4 points_4 count_4 changes_4) ([] : va_W) [0, 1, 2, 3, 4, 5, 6] [] := ⟨rfl, rfl, rfl, rfl, rfl, by decide⟩
        refine kc_v hP hD hS hA hs_18 (kV (As := [.ref (q4 0), .int (nI n), .int (nI i)]) (rest := []) hx hb hml hown hts hKW hP hD hs_18 (c_X2_fillRow l D cI cJ cB q2 q4 (flC ml n cells_2 i) determinant_2 parts_4 wins_4 draws_4 points_4 count_4 changes_4 ml n i (by first | assumption | omega) (by first | assumption | omega) (by omega)) (cwV 3 hts gX2_solve_X2_fillRow rfl rfl rfl (by decide +kernel) ⟨Nat.le_of_ble_eq_true rfl, Nat.le_of_ble_eq_true rfl⟩) 0 2 rfl rfl rfl rfl hl.1 rfl (Nat.le_of_ble_eq_true rfl) dX2_solve_18 ⟨Nat.zero_le _, Nat.zero_le _⟩) (fun u_18 H locs hw_18 hP hD hS => ?_)
        obtain ⟨cells_2_18, rfl⟩ : ∃ z, z = u_18 := ⟨_, rfl⟩
        have e_cells_2_18 := hw_18
        have e_cells_2_18 := e_cells_2_18.symm
        subst e_cells_2_18
        have hP : va_P D vwCl (wX2 q2 cI cJ cB (frW ml n (flC ml n cells_2 i) i) determinant_2 ++ wX4 q4 cI cJ cB parts_4 wins_4 draws_4 points_4 count_4 changes_4) H := hP.sub (ws' := (wX2 q2 cI cJ cB (frW ml n (flC ml n cells_2 i) i) determinant_2 ++ wX4 q4 cI cJ cB parts_4 wins_4 draws_4 points_4 count_4 changes_4)) [0, 1, 2, 3, 4, 5, 6] rfl
        have hD : va_D A (wX2 q2 cI cJ cB (frW ml n (flC ml n cells_2 i) i) determinant_2 ++ wX4 q4 cI cJ cB parts_4 wins_4 draws_4 points_4 count_4 changes_4) := hD.sub (ws' := (wX2 q2 cI cJ cB (frW ml n (flC ml n cells_2 i) i) determinant_2 ++ wX4 q4 cI cJ cB parts_4 wins_4 draws_4 points_4 count_4 changes_4)) [0, 1, 2, 3, 4, 5, 6] (by decide) rfl
        refine lv_iinc (v := nI (i + 1)) (lv' := [(4, .int (nI (i + 1))), (0, .ref (q2 0)), (1, .ref (q4 0)), (2, .int (nI n)), (3, .int (nI (n - 1)))]) hx hb dX2_solve_21 hl (k := 4) rfl (nI_add _ _) (by decide) rfl (fun ls hl => ?_)
        refine lv_goto (tgt := 7) hx hb dX2_solve_24 (by decide) ?_
        exact ih_7 (i + 1) (by omega) (by omega) _ _ hP hD hS ls (lv_sub hl [1, 2, 3, 4, 0] rfl)
  exact hL_7 _ 0 (Nat.zero_le _) (Nat.lt_succ_self _) _ _ hP hD hS ls (lv_sub hl [2, 3, 4, 1, 0] rfl)
def rmX2_top : Room := { frames := 0, cells := 0, slots := 0, locals := 0 }
set_option maxHeartbeats 4000000 in
set_option maxRecDepth 100000 in
theorem c_X2_top (l : Launch) (D : va_G) (cI cJ cB : ClassId) (q2 : Nat → Nat) (cells_2 : Nat → Int64) (determinant_2 : Int64) (n : Nat) (p1 : Nat) (hn1 : 1 ≤ n) (hn6 : n ≤ 6) (hp1 : p1 < n) : ∀ sz, Met l yX2_top wsX2_top rmX2_top (va_Pc [.ref (q2 0), .int (nI n), .int (nI p1)] (PW D (kT cI cJ cB) sz (wX2 q2 cI cJ cB cells_2 determinant_2))) (va_Ql (S := Unit) (fun r _ => r = topF cells_2 n p1) (QW D sz (wX2 q2 cI cJ cB cells_2 determinant_2) (fun _ => (wX2 q2 cI cJ cB cells_2 determinant_2))) (va_A (wX2 q2 cI cJ cB cells_2 determinant_2) sz)) 0 0 (va_A (wX2 q2 cI cJ cB cells_2 determinant_2) sz) := by
  intro sz
  refine Met.ofW (cc := cX2_top) (maxL := 7) (ret := (some .long)) (by decide) rfl ?_
  intro p e s m args below meth c s₁ B hml hv
  obtain ⟨hav, hsz, hP, hKW, hD0⟩ := hv
  have hx := B.exec
  have hb := B.bytes
  have hr := B.returns
  have hts := atoms_spec (ws := wsX2_top) B.pre
  have hown : s.vm.findClass RX2 = some m.cls := findClass_of_methodNamed B.named
  have hlocks := B.notSynchronized
  subst hsz
  have hD := hD0.self (sz := s.heap.size)
  obtain ⟨A, hAe⟩ : ∃ A : Nat → Prop, A = va_A (wX2 q2 cI cJ cB cells_2 determinant_2) s.heap.size := ⟨_, rfl⟩
  rw [← hAe] at hD
  have hA : ∀ q : Nat, s.heap.size ≤ q → A q := fun q h => by rw [hAe]; exact Or.inr h
  have hS : va_S A s.heap s.heap [] := va_S.rf
  refine k_gen (fun Q hQ => ?_)
  have hl := lv_entry ([.ref (q2 0), .int (nI n), .int (nI p1)]) (n := 7) (Nat.le_of_ble_eq_true rfl)
  refine k_entry hav (lg_entry_eq ..) ?_
  generalize (lg_sl ([.ref (q2 0), .int (nI n), .int (nI p1)]) ++ List.replicate (7 - (lg_sl ([.ref (q2 0), .int (nI n), .int (nI p1)])).length) Slot.unset).toArray = ls at hl ⊢
  have hl : lv_has ls 7 [(0, .ref (q2 0)), (1, .int (nI n)), (2, .int (nI p1))] := hl
  have hu_2 : ∀ w ∈ u_ws RX2 TX2 2, w ∈ wsX2_top := by decide +kernel
  have hf_11 : Cond.fieldLink RX2 11 "MeetingRanks$GapSolver" "cells" "[J" ∈ wsX2_top := by decide +kernel
  refine lv_lconst (v := 0) hx hb dX2_top_0 (by decide) ?_
  refine lv_lstore_n (lv' := [(3, .long (0 : Int64)), (0, .ref (q2 0)), (1, .int (nI n)), (2, .int (nI p1))]) hx hb dX2_top_1 rfl hl (by decide) rfl (fun ls hl => ?_)
  refine lv_iconst (v := nI 0) hx hb dX2_top_2 (by decide) ?_
  refine lv_istore (lv' := [(5, .int (nI 0)), (3, .long (0 : Int64)), (0, .ref (q2 0)), (1, .int (nI n)), (2, .int (nI p1))]) hx hb dX2_top_3 hl (by decide) rfl (fun ls hl => ?_)
  have hL_5 : ∀ (fu : Nat) (i : Nat) (sv : Int64) (hi : i ≤ n - 1) (hs : sv = sL (fun i => cells_2 (i * 6 + n - 1)) i), n - 1 - i < fu → ∀ (H : Heap) (locs : List Loc), va_P D vwCl (wX2 q2 cI cJ cB cells_2 determinant_2) H → va_D A (wX2 q2 cI cJ cB cells_2 determinant_2) → va_S A s.heap H locs → ∀ (ls : Array Slot), lv_has ls 7 [(0, .ref (q2 0)), (1, .int (nI n)), (2, .int (nI p1)), (3, .long sv), (5, .int (nI i))] → W p l e (headSpec wsX2_top rmX2_top).room s m args below meth c H locs 0 0 Q (F0 m 5 ls []) := by
    intro fu
    induction fu with
    | zero => intro i sv hi hs hfu; exact absurd hfu (Nat.not_lt_zero _)
    | succ fu ih_5 =>
      intro i sv hi hs hfu H locs hP hD hS ls hl
      refine lv_iload hx hb dX2_top_5 (lv_at hl 4 rfl) ?_
      refine lv_iload_n hx hb dX2_top_7 rfl (lv_at hl 1 rfl) ?_
      refine lv_iconst (v := nI 1) hx hb dX2_top_8 (by decide) ?_
      refine k_isub hx hb (by omega) dX2_top_9 ?_
      refine lv_icmp_ge (tgt := 36) hx hb dX2_top_10 (by decide) (fun c_10 => ?_) (fun c_10 => ?_)
      · skip
        have c_10 := k_ge (by omega) (by omega) c_10
        obtain rfl : i = n - 1 := by omega
        subst hs
        refine lv_iload_n hx hb dX2_top_36 rfl (lv_at hl 2 rfl) ?_
        refine lv_if_ne (tgt := 44) hx hb dX2_top_37 (by decide) (fun c_37 => ?_) (fun c_37 => ?_)
        · skip
          have c_37 := k0_ne (by omega) c_37
          refine lv_aload_n hx hb dX2_top_44 rfl (lv_at hl 0 rfl) ?_
          refine k_get (ci := 2) (v := .ref (q2 1)) (C := RX2) (Tb := TX2) (N := 2) hx hb hts hu_2 hown hKW hP 0 rfl rfl 0 (by decide) hf_11 rfl rfl dX2_top_45 ?_
          refine lv_iload_n hx hb dX2_top_48 rfl (lv_at hl 2 rfl) ?_
          refine lv_iconst (v := nI 1) hx hb dX2_top_49 (by decide) ?_
          refine k_isub hx hb (by omega) dX2_top_50 ?_
          refine lv_bipush (v := nI 6) hx hb dX2_top_51 (by decide) ?_
          refine k_imul hx hb dX2_top_53 ?_
          refine lv_iload_n hx hb dX2_top_54 rfl (lv_at hl 1 rfl) ?_
          refine k_iadd hx hb dX2_top_55 ?_
          refine lv_iconst (v := nI 1) hx hb dX2_top_56 (by decide) ?_
          refine k_isub hx hb (by omega) dX2_top_57 ?_
          refine k_lald (n := 30) (i := (((p1 - 1) * 6) + n) - 1) hx hb hKW hP 1 1 rfl rfl (by omega) (by omega) dX2_top_58 ?_
          refine lv_lstore (lv' := [(5, .long (cells_2 ((((p1 - 1) * 6) + n) - 1))), (0, .ref (q2 0)), (1, .int (nI n)), (2, .int (nI p1)), (3, .long (sL (fun i => cells_2 (i * 6 + n - 1)) (n - 1)))]) hx hb dX2_top_59 hl (by decide) rfl (fun ls hl => ?_)
          refine lv_iload_n hx hb dX2_top_61 rfl (lv_at hl 2 rfl) ?_
          refine lv_i2l (v := (nI n).toInt64) hx hb dX2_top_62 rfl ?_
          refine lv_lload hx hb dX2_top_63 (lv_at hl 0 rfl) ?_
          refine lv_lmul hx hb dX2_top_65 ?_
          refine lv_lload_n hx hb dX2_top_66 rfl (lv_at hl 4 rfl) ?_
          refine lv_lsub hx hb dX2_top_67 ?_
          subst hQ; subst hAe
          exact W.lret (v := (((nI n).toInt64) * (cells_2 ((((p1 - 1) * 6) + n) - 1))) - (sL (fun i => cells_2 (i * 6 + n - 1)) (n - 1))) hx hb hr (fun tt9 ht9 _ => ⟨⟨(((nI n).toInt64) * (cells_2 ((((p1 - 1) * 6) + n) - 1))) - (sL (fun i => cells_2 (i * 6 + n - 1)) (n - 1)), (), rfl, by unfold topF; rw [if_neg c_37], by rw [ht9]; exact hP, hD⟩, hS.F ht9⟩) hS.2.2 dX2_top_68
        · skip
          have c_37 := k0_ne_n (by omega) c_37
          refine lv_lconst (v := 0) hx hb dX2_top_40 (by decide) ?_
          refine lv_goto (tgt := 59) hx hb dX2_top_41 (by decide) ?_
          refine lv_lstore (lv' := [(5, .long (0 : Int64)), (0, .ref (q2 0)), (1, .int (nI n)), (2, .int (nI p1)), (3, .long (sL (fun i => cells_2 (i * 6 + n - 1)) (n - 1)))]) hx hb dX2_top_59 hl (by decide) rfl (fun ls hl => ?_)
          refine lv_iload_n hx hb dX2_top_61 rfl (lv_at hl 2 rfl) ?_
          refine lv_i2l (v := (nI n).toInt64) hx hb dX2_top_62 rfl ?_
          refine lv_lload hx hb dX2_top_63 (lv_at hl 0 rfl) ?_
          refine lv_lmul hx hb dX2_top_65 ?_
          refine lv_lload_n hx hb dX2_top_66 rfl (lv_at hl 4 rfl) ?_
          refine lv_lsub hx hb dX2_top_67 ?_
          subst hQ; subst hAe
          exact W.lret (v := (((nI n).toInt64) * (0 : Int64)) - (sL (fun i => cells_2 (i * 6 + n - 1)) (n - 1))) hx hb hr (fun tt9 ht9 _ => ⟨⟨(((nI n).toInt64) * (0 : Int64)) - (sL (fun i => cells_2 (i * 6 + n - 1)) (n - 1)), (), rfl, by unfold topF; rw [if_pos c_37], by rw [ht9]; exact hP, hD⟩, hS.F ht9⟩) hS.2.2 dX2_top_68
      · skip
        have c_10 := k_ge_n (by omega) (by omega) c_10
        refine lv_lload_n hx hb dX2_top_13 rfl (lv_at hl 3 rfl) ?_
        refine lv_aload_n hx hb dX2_top_14 rfl (lv_at hl 0 rfl) ?_
        refine k_get (ci := 2) (v := .ref (q2 1)) (C := RX2) (Tb := TX2) (N := 2) hx hb hts hu_2 hown hKW hP 0 rfl rfl 0 (by decide) hf_11 rfl rfl dX2_top_15 ?_
        refine lv_iload hx hb dX2_top_18 (lv_at hl 4 rfl) ?_
        refine lv_bipush (v := nI 6) hx hb dX2_top_20 (by decide) ?_
        refine k_imul hx hb dX2_top_22 ?_
        refine lv_iload_n hx hb dX2_top_23 rfl (lv_at hl 1 rfl) ?_
        refine k_iadd hx hb dX2_top_24 ?_
        refine lv_iconst (v := nI 1) hx hb dX2_top_25 (by decide) ?_
        refine k_isub hx hb (by omega) dX2_top_26 ?_
        refine k_lald (n := 30) (i := ((i * 6) + n) - 1) hx hb hKW hP 1 1 rfl rfl (by omega) (by omega) dX2_top_27 ?_
        refine lv_ladd hx hb dX2_top_28 ?_
        refine lv_lstore_n (lv' := [(3, .long (sv + (cells_2 (((i * 6) + n) - 1)))), (0, .ref (q2 0)), (1, .int (nI n)), (2, .int (nI p1)), (5, .int (nI i))]) hx hb dX2_top_29 rfl hl (by decide) rfl (fun ls hl => ?_)
        refine lv_iinc (v := nI (i + 1)) (lv' := [(5, .int (nI (i + 1))), (3, .long (sv + (cells_2 (((i * 6) + n) - 1)))), (0, .ref (q2 0)), (1, .int (nI n)), (2, .int (nI p1))]) hx hb dX2_top_30 hl (k := 4) rfl (nI_add _ _) (by decide) rfl (fun ls hl => ?_)
        refine lv_goto (tgt := 5) hx hb dX2_top_33 (by decide) ?_
        exact ih_5 _ _ (by omega) (by rw [hs]; rfl) (by omega) _ _ hP hD hS ls (lv_sub hl [2, 3, 4, 1, 0] rfl)
  exact hL_5 _ 0 _ (Nat.zero_le _) rfl (Nat.lt_succ_self _) _ _ hP hD hS ls (lv_sub hl [2, 3, 4, 1, 0] rfl)
def rmX2_commonPart : Room := { frames := 1, cells := 0, slots := 0, locals := 40 }
set_option maxHeartbeats 4000000 in
set_option maxRecDepth 100000 in
theorem c_X2_commonPart (l : Launch) (D : va_G) (cI cJ cB : ClassId) (q2 : Nat → Nat) (cells_2 : Nat → Int64) (determinant_2 : Int64) (n : Nat) (p1 : Nat) (Bn : Nat) (hn1 : 1 ≤ n) (hn6 : n ≤ 6) (hp1 : p1 < n) (hB0 : 0 < Bn) (hB63 : Bn < 2 ^ 63) (hdet : (nI n).toInt64 * determinant_2 = lN Bn) (htop : -(2 ^ 63) < (topF cells_2 n p1).toInt) : ∀ sz, Met l yX2_commonPart wsX2_commonPart rmX2_commonPart (va_Pc [.ref (q2 0), .int (nI n), .int (nI p1)] (PW D (kT cI cJ cB) sz (wX2 q2 cI cJ cB cells_2 determinant_2))) (va_Ql (S := Unit) (fun r _ => r = lN (Nat.gcd (topF cells_2 n p1).toInt.natAbs Bn)) (QW D sz (wX2 q2 cI cJ cB cells_2 determinant_2) (fun _ => (wX2 q2 cI cJ cB cells_2 determinant_2))) (va_A (wX2 q2 cI cJ cB cells_2 determinant_2) sz)) 0 0 (va_A (wX2 q2 cI cJ cB cells_2 determinant_2) sz) := by
  intro sz
  refine Met.ofW (cc := cX2_commonPart) (maxL := 10) (ret := (some .long)) (by decide) rfl ?_
  intro p e s m args below meth c s₁ B hml hv
  obtain ⟨hav, hsz, hP, hKW, hD0⟩ := hv
  have hx := B.exec
  have hb := B.bytes
  have hr := B.returns
  have hts := atoms_spec (ws := wsX2_commonPart) B.pre
  have hown : s.vm.findClass RX2 = some m.cls := findClass_of_methodNamed B.named
  have hlocks := B.notSynchronized
  subst hsz
  have hD := hD0.self (sz := s.heap.size)
  obtain ⟨A, hAe⟩ : ∃ A : Nat → Prop, A = va_A (wX2 q2 cI cJ cB cells_2 determinant_2) s.heap.size := ⟨_, rfl⟩
  rw [← hAe] at hD
  have hA : ∀ q : Nat, s.heap.size ≤ q → A q := fun q h => by rw [hAe]; exact Or.inr h
  have hS : va_S A s.heap s.heap [] := va_S.rf
  refine k_gen (fun Q hQ => ?_)
  have hl := lv_entry ([.ref (q2 0), .int (nI n), .int (nI p1)]) (n := 10) (Nat.le_of_ble_eq_true rfl)
  refine k_entry hav (lg_entry_eq ..) ?_
  generalize (lg_sl ([.ref (q2 0), .int (nI n), .int (nI p1)]) ++ List.replicate (10 - (lg_sl ([.ref (q2 0), .int (nI n), .int (nI p1)])).length) Slot.unset).toArray = ls at hl ⊢
  have hl : lv_has ls 10 [(0, .ref (q2 0)), (1, .int (nI n)), (2, .int (nI p1))] := hl
  have hu_2 : ∀ w ∈ u_ws RX2 TX2 2, w ∈ wsX2_commonPart := by decide +kernel
  have hf_15 : Cond.fieldLink RX2 15 "MeetingRanks$GapSolver" "determinant" "J" ∈ wsX2_commonPart := by decide +kernel
  refine lv_aload_n hx hb dX2_commonPart_0 rfl (lv_at hl 0 rfl) ?_
  refine lv_iload_n hx hb dX2_commonPart_1 rfl (lv_at hl 1 rfl) ?_
  refine lv_iload_n hx hb dX2_commonPart_2 rfl (lv_at hl 2 rfl) ?_
  have hs_3 : kSplit (wX2 q2 cI cJ cB cells_2 determinant_2) (wX2 q2 cI cJ cB cells_2 determinant_2) ([] : va_W) [0, 1] [] := ⟨rfl, rfl, rfl, rfl, rfl, by decide⟩
  refine kc_l hP hD hS hA hs_3 (kV (As := [.int (nI n), .int (nI p1)]) (rest := []) hx hb hml hown hts hKW hP hD hs_3 (c_X2_top l D cI cJ cB q2 cells_2 determinant_2 n p1 (by first | assumption | omega) (by first | assumption | omega) (by first | assumption | omega)) (cwV 2 hts gX2_commonPart_X2_top rfl rfl rfl (by decide +kernel) ⟨Nat.le_of_ble_eq_true rfl, Nat.le_of_ble_eq_true rfl⟩) 0 2 rfl rfl rfl rfl hl.1 rfl (Nat.le_of_ble_eq_true rfl) dX2_commonPart_3 ⟨Nat.zero_le _, Nat.zero_le _⟩) (fun r_3 u_3 H locs hw_3 hP hD hS => ?_)
  have er_3 := hw_3
  have er_3 := er_3.symm
  subst er_3
  have hP : va_P D vwCl (wX2 q2 cI cJ cB cells_2 determinant_2) H := hP.sub (ws' := (wX2 q2 cI cJ cB cells_2 determinant_2)) [0, 1] rfl
  have hD : va_D A (wX2 q2 cI cJ cB cells_2 determinant_2) := hD.sub (ws' := (wX2 q2 cI cJ cB cells_2 determinant_2)) [0, 1] (by decide) rfl
  refine va_mabs_long hx hb (hml.trans hl.1.symm) hown (hts (.methodLink RX2 43 Lib.MathLoose.abs_long.x) (by decide +kernel)) (hts (.static Lib.MathLoose.abs_long.x) (by decide +kernel)) (hts (.initialized "java/lang/Math") (by decide +kernel)) (hts (.code Lib.MathLoose.abs_long.x Lib.MathLoose.abs_long.code 2 (some .long)) (by decide +kernel)) (Nat.le_of_ble_eq_true rfl) (Nat.le_of_ble_eq_true rfl) (Nat.zero_le _) (Nat.zero_le _) dX2_commonPart_6 ?_
  refine k_topl (y := lN (topF cells_2 n p1).toInt.natAbs) (k_labs2 htop) ?_
  refine lv_lstore_n (lv' := [(3, .long (lN (topF cells_2 n p1).toInt.natAbs)), (0, .ref (q2 0)), (1, .int (nI n)), (2, .int (nI p1))]) hx hb dX2_commonPart_9 rfl hl (by decide) rfl (fun ls hl => ?_)
  refine lv_iload_n hx hb dX2_commonPart_10 rfl (lv_at hl 2 rfl) ?_
  refine lv_i2l (v := (nI n).toInt64) hx hb dX2_commonPart_11 rfl ?_
  refine lv_aload_n hx hb dX2_commonPart_12 rfl (lv_at hl 1 rfl) ?_
  refine k_get (ci := 2) (v := .long determinant_2) (C := RX2) (Tb := TX2) (N := 2) hx hb hts hu_2 hown hKW hP 0 rfl rfl 1 (by decide) hf_15 rfl rfl dX2_commonPart_13 ?_
  refine lv_lmul hx hb dX2_commonPart_16 ?_
  refine k_topl (y := lN Bn) (hdet) ?_
  refine lv_lstore (lv' := [(5, .long (lN Bn)), (3, .long (lN (topF cells_2 n p1).toInt.natAbs)), (0, .ref (q2 0)), (1, .int (nI n)), (2, .int (nI p1))]) hx hb dX2_commonPart_17 hl (by decide) rfl (fun ls hl => ?_)
  refine lv_iconst (v := nI 0) hx hb dX2_commonPart_19 (by decide) ?_
  refine lv_istore (lv' := [(7, .int (nI 0)), (5, .long (lN Bn)), (3, .long (lN (topF cells_2 n p1).toInt.natAbs)), (0, .ref (q2 0)), (1, .int (nI n)), (2, .int (nI p1))]) hx hb dX2_commonPart_20 hl (by decide) rfl (fun ls hl => ?_)
  have hL_22 : ∀ (fu : Nat) (s2 : Nat) (X : Nat) (Y : Nat) (hs : s2 ≤ 130) (he9 : euI X Y s2) (hg : Nat.gcd X Y = Nat.gcd (topF cells_2 n p1).toInt.natAbs Bn), 130 - s2 < fu → ∀ (H : Heap) (locs : List Loc), va_P D vwCl (wX2 q2 cI cJ cB cells_2 determinant_2) H → va_D A (wX2 q2 cI cJ cB cells_2 determinant_2) → va_S A s.heap H locs → ∀ (ls : Array Slot), lv_has ls 10 [(0, .ref (q2 0)), (1, .int (nI n)), (2, .int (nI p1)), (3, .long (lN X)), (5, .long (lN Y)), (7, .int (nI s2))] → W p l e (headSpec wsX2_commonPart rmX2_commonPart).room s m args below meth c H locs 0 0 Q (F0 m 22 ls []) := by
    intro fu
    induction fu with
    | zero => intro s2 X Y hs he9 hg hfu; exact absurd hfu (Nat.not_lt_zero _)
    | succ fu ih_22 =>
      intro s2 X Y hs he9 hg hfu H locs hP hD hS ls hl
      refine lv_iload hx hb dX2_commonPart_22 (lv_at hl 5 rfl) ?_
      refine lv_sipush (v := nI 130) hx hb dX2_commonPart_24 (by decide) ?_
      refine lv_icmp_ge (tgt := 54) hx hb dX2_commonPart_27 (by decide) (fun c_27 => ?_) (fun c_27 => ?_)
      · skip
        have c_27 := k_ge (by omega) (by omega) c_27
        obtain rfl : s2 = 130 := by omega
        have hX0 : X = 0 := eu_end he9
        refine lv_lload hx hb dX2_commonPart_54 (lv_at hl 4 rfl) ?_
        refine lv_lconst (v := 0) hx hb dX2_commonPart_56 (by decide) ?_
        refine W.lcmp hx hb dX2_commonPart_57 ?_
        refine lv_if_ne (tgt := 65) hx hb dX2_commonPart_58 (by decide) (fun c_58 => ?_) (fun c_58 => ?_)
        · skip
          have c_58 := k_lc_ne c_58
          refine lv_lload hx hb dX2_commonPart_65 (lv_at hl 4 rfl) ?_
          subst hQ; subst hAe
          exact W.lret (v := lN Y) hx hb hr (fun tt9 ht9 _ => ⟨⟨lN Y, (), rfl, by rw [← hg, hX0, Nat.gcd_zero_left], by rw [ht9]; exact hP, hD⟩, hS.F ht9⟩) hS.2.2 dX2_commonPart_67
        · skip
          have c_58 := k_lc_ne_n c_58
          exact absurd c_58 (k_lNne he9.1 he9.2.1)
      · skip
        have c_27 := k_ge_n (by omega) (by omega) c_27
        refine lv_lload_n hx hb dX2_commonPart_30 rfl (lv_at hl 3 rfl) ?_
        refine lv_lconst (v := 0) hx hb dX2_commonPart_31 (by decide) ?_
        refine W.lcmp hx hb dX2_commonPart_32 ?_
        refine lv_if_eq (tgt := 54) hx hb dX2_commonPart_33 (by decide) (fun c_33 => ?_) (fun c_33 => ?_)
        · skip
          have c_33 := k_lc_eq c_33
          have hX0 : X = 0 := k_lN0 he9.2.2.1 c_33
          refine lv_lload hx hb dX2_commonPart_54 (lv_at hl 4 rfl) ?_
          refine lv_lconst (v := 0) hx hb dX2_commonPart_56 (by decide) ?_
          refine W.lcmp hx hb dX2_commonPart_57 ?_
          refine lv_if_ne (tgt := 65) hx hb dX2_commonPart_58 (by decide) (fun c_58 => ?_) (fun c_58 => ?_)
          · skip
            have c_58 := k_lc_ne c_58
            refine lv_lload hx hb dX2_commonPart_65 (lv_at hl 4 rfl) ?_
            subst hQ; subst hAe
            exact W.lret (v := lN Y) hx hb hr (fun tt9 ht9 _ => ⟨⟨lN Y, (), rfl, by rw [← hg, hX0, Nat.gcd_zero_left], by rw [ht9]; exact hP, hD⟩, hS.F ht9⟩) hS.2.2 dX2_commonPart_67
          · skip
            have c_58 := k_lc_ne_n c_58
            exact absurd c_58 (k_lNne he9.1 he9.2.1)
        · skip
          have c_33 := k_lc_eq_n c_33
          have hX9 : ¬ X = 0 := fun z => c_33 (by rw [z]; rfl)
          refine lv_lload hx hb dX2_commonPart_36 (lv_at hl 4 rfl) ?_
          refine lv_lload_n hx hb dX2_commonPart_38 rfl (lv_at hl 3 rfl) ?_
          refine lv_lrem hx hb dX2_commonPart_39 (c_33) ?_
          refine k_topl (y := lN (Y % X)) (pk_lRem he9.2.1 (by omega) he9.2.2.1) ?_
          refine lv_lstore (lv' := [(8, .long (lN (Y % X))), (0, .ref (q2 0)), (1, .int (nI n)), (2, .int (nI p1)), (3, .long (lN X)), (5, .long (lN Y)), (7, .int (nI s2))]) hx hb dX2_commonPart_40 hl (by decide) rfl (fun ls hl => ?_)
          refine lv_lload_n hx hb dX2_commonPart_42 rfl (lv_at hl 4 rfl) ?_
          refine lv_lstore (lv' := [(5, .long (lN X)), (8, .long (lN (Y % X))), (0, .ref (q2 0)), (1, .int (nI n)), (2, .int (nI p1)), (3, .long (lN X)), (7, .int (nI s2))]) hx hb dX2_commonPart_43 hl (by decide) rfl (fun ls hl => ?_)
          refine lv_lload hx hb dX2_commonPart_45 (lv_at hl 1 rfl) ?_
          refine lv_lstore_n (lv' := [(3, .long (lN (Y % X))), (5, .long (lN X)), (8, .long (lN (Y % X))), (0, .ref (q2 0)), (1, .int (nI n)), (2, .int (nI p1)), (7, .int (nI s2))]) hx hb dX2_commonPart_47 rfl hl (by decide) rfl (fun ls hl => ?_)
          refine lv_iinc (v := nI (s2 + 1)) (lv' := [(7, .int (nI (s2 + 1))), (3, .long (lN (Y % X))), (5, .long (lN X)), (8, .long (lN (Y % X))), (0, .ref (q2 0)), (1, .int (nI n)), (2, .int (nI p1))]) hx hb dX2_commonPart_48 hl (k := 6) rfl (nI_add _ _) (by decide) rfl (fun ls hl => ?_)
          refine lv_goto (tgt := 22) hx hb dX2_commonPart_51 (by decide) ?_
          exact ih_22 _ _ _ (by omega) (eu_step he9 hX9) (by rw [gcd_stepM]; exact hg) (by omega) _ _ hP hD hS ls (lv_sub hl [4, 5, 6, 1, 2, 0] rfl)
  exact hL_22 _ 0 _ _ (by omega) (⟨hB0, hB63, k_natAbs_lt htop, fun h => absurd h (by omega)⟩) rfl (Nat.lt_succ_self _) _ _ hP hD hS ls (lv_sub hl [3, 4, 5, 2, 1, 0] rfl)
def rmX2_numerator : Room := { frames := 2, cells := 0, slots := 0, locals := 69 }
set_option maxHeartbeats 4000000 in
set_option maxRecDepth 100000 in
theorem c_X2_numerator (l : Launch) (D : va_G) (cI cJ cB : ClassId) (q2 : Nat → Nat) (cells_2 : Nat → Int64) (determinant_2 : Int64) (n : Nat) (p1 : Nat) (Bn : Nat) (hn1 : 1 ≤ n) (hn6 : n ≤ 6) (hp1 : p1 < n) (hB0 : 0 < Bn) (hB63 : Bn < 2 ^ 63) (hdet : (nI n).toInt64 * determinant_2 = lN Bn) (htop : -(2 ^ 63) < (topF cells_2 n p1).toInt) : ∀ sz, Met l yX2_numerator wsX2_numerator rmX2_numerator (va_Pc [.ref (q2 0), .int (nI n), .int (nI p1)] (PW D (kT cI cJ cB) sz (wX2 q2 cI cJ cB cells_2 determinant_2))) (va_Ql (S := Unit) (fun r _ => r = (topF cells_2 n p1) / (lN (Nat.gcd (topF cells_2 n p1).toInt.natAbs Bn))) (QW D sz (wX2 q2 cI cJ cB cells_2 determinant_2) (fun _ => (wX2 q2 cI cJ cB cells_2 determinant_2))) (va_A (wX2 q2 cI cJ cB cells_2 determinant_2) sz)) 0 0 (va_A (wX2 q2 cI cJ cB cells_2 determinant_2) sz) := by
  intro sz
  refine Met.ofW (cc := cX2_numerator) (maxL := 3) (ret := (some .long)) (by decide) rfl ?_
  intro p e s m args below meth c s₁ B hml hv
  obtain ⟨hav, hsz, hP, hKW, hD0⟩ := hv
  have hx := B.exec
  have hb := B.bytes
  have hr := B.returns
  have hts := atoms_spec (ws := wsX2_numerator) B.pre
  have hown : s.vm.findClass RX2 = some m.cls := findClass_of_methodNamed B.named
  have hlocks := B.notSynchronized
  subst hsz
  have hD := hD0.self (sz := s.heap.size)
  obtain ⟨A, hAe⟩ : ∃ A : Nat → Prop, A = va_A (wX2 q2 cI cJ cB cells_2 determinant_2) s.heap.size := ⟨_, rfl⟩
  rw [← hAe] at hD
  have hA : ∀ q : Nat, s.heap.size ≤ q → A q := fun q h => by rw [hAe]; exact Or.inr h
  have hS : va_S A s.heap s.heap [] := va_S.rf
  refine k_gen (fun Q hQ => ?_)
  have hl := lv_entry ([.ref (q2 0), .int (nI n), .int (nI p1)]) (n := 3) (Nat.le_of_ble_eq_true rfl)
  refine k_entry hav (lg_entry_eq ..) ?_
  generalize (lg_sl ([.ref (q2 0), .int (nI n), .int (nI p1)]) ++ List.replicate (3 - (lg_sl ([.ref (q2 0), .int (nI n), .int (nI p1)])).length) Slot.unset).toArray = ls at hl ⊢
  have hl : lv_has ls 3 [(0, .ref (q2 0)), (1, .int (nI n)), (2, .int (nI p1))] := hl
  refine lv_aload_n hx hb dX2_numerator_0 rfl (lv_at hl 0 rfl) ?_
  refine lv_iload_n hx hb dX2_numerator_1 rfl (lv_at hl 1 rfl) ?_
  refine lv_iload_n hx hb dX2_numerator_2 rfl (lv_at hl 2 rfl) ?_
  have hs_3 : kSplit (wX2 q2 cI cJ cB cells_2 determinant_2) (wX2 q2 cI cJ cB cells_2 determinant_2) ([] : va_W) [0, 1] [] := ⟨rfl, rfl, rfl, rfl, rfl, by decide⟩
  refine kc_l hP hD hS hA hs_3 (kV (As := [.int (nI n), .int (nI p1)]) (rest := []) hx hb hml hown hts hKW hP hD hs_3 (c_X2_top l D cI cJ cB q2 cells_2 determinant_2 n p1 (by first | assumption | omega) (by first | assumption | omega) (by first | assumption | omega)) (cwV 2 hts gX2_numerator_X2_top rfl rfl rfl (by decide +kernel) ⟨Nat.le_of_ble_eq_true rfl, Nat.le_of_ble_eq_true rfl⟩) 0 2 rfl rfl rfl rfl hl.1 rfl (Nat.le_of_ble_eq_true rfl) dX2_numerator_3 ⟨Nat.zero_le _, Nat.zero_le _⟩) (fun r_3 u_3 H locs hw_3 hP hD hS => ?_)
  have er_3 := hw_3
  have er_3 := er_3.symm
  subst er_3
  have hP : va_P D vwCl (wX2 q2 cI cJ cB cells_2 determinant_2) H := hP.sub (ws' := (wX2 q2 cI cJ cB cells_2 determinant_2)) [0, 1] rfl
  have hD : va_D A (wX2 q2 cI cJ cB cells_2 determinant_2) := hD.sub (ws' := (wX2 q2 cI cJ cB cells_2 determinant_2)) [0, 1] (by decide) rfl
  refine lv_aload_n hx hb dX2_numerator_6 rfl (lv_at hl 0 rfl) ?_
  refine lv_iload_n hx hb dX2_numerator_7 rfl (lv_at hl 1 rfl) ?_
  refine lv_iload_n hx hb dX2_numerator_8 rfl (lv_at hl 2 rfl) ?_
  have hs_9 : kSplit (wX2 q2 cI cJ cB cells_2 determinant_2) (wX2 q2 cI cJ cB cells_2 determinant_2) ([] : va_W) [0, 1] [] := ⟨rfl, rfl, rfl, rfl, rfl, by decide⟩
  refine kc_l hP hD hS hA hs_9 (kV (As := [.int (nI n), .int (nI p1)]) (rest := [.long (topF cells_2 n p1)]) hx hb hml hown hts hKW hP hD hs_9 (c_X2_commonPart l D cI cJ cB q2 cells_2 determinant_2 n p1 Bn (by first | assumption | omega) (by first | assumption | omega) (by first | assumption | omega) (by first | assumption | omega) (by first | assumption | omega) (by first | assumption | omega) (by first | assumption | omega)) (cwV 2 hts gX2_numerator_X2_commonPart rfl rfl rfl (by decide +kernel) ⟨Nat.le_of_ble_eq_true rfl, Nat.le_of_ble_eq_true rfl⟩) 0 2 rfl rfl rfl rfl hl.1 rfl (Nat.le_of_ble_eq_true rfl) dX2_numerator_9 ⟨Nat.zero_le _, Nat.zero_le _⟩) (fun r_9 u_9 H locs hw_9 hP hD hS => ?_)
  have er_9 := hw_9
  have er_9 := er_9.symm
  subst er_9
  have hP : va_P D vwCl (wX2 q2 cI cJ cB cells_2 determinant_2) H := hP.sub (ws' := (wX2 q2 cI cJ cB cells_2 determinant_2)) [0, 1] rfl
  have hD : va_D A (wX2 q2 cI cJ cB cells_2 determinant_2) := hD.sub (ws' := (wX2 q2 cI cJ cB cells_2 determinant_2)) [0, 1] (by decide) rfl
  refine lv_ldiv hx hb dX2_numerator_12 (gcd_ne hB0 hB63) ?_
  subst hQ; subst hAe
  exact W.lret (v := (topF cells_2 n p1) / (lN (Nat.gcd (topF cells_2 n p1).toInt.natAbs Bn))) hx hb hr (fun tt9 ht9 _ => ⟨⟨(topF cells_2 n p1) / (lN (Nat.gcd (topF cells_2 n p1).toInt.natAbs Bn)), (), rfl, rfl, by rw [ht9]; exact hP, hD⟩, hS.F ht9⟩) hS.2.2 dX2_numerator_13
def rmX2_denominator : Room := { frames := 2, cells := 0, slots := 0, locals := 69 }
set_option maxHeartbeats 4000000 in
set_option maxRecDepth 100000 in
theorem c_X2_denominator (l : Launch) (D : va_G) (cI cJ cB : ClassId) (q2 : Nat → Nat) (cells_2 : Nat → Int64) (determinant_2 : Int64) (n : Nat) (p1 : Nat) (Bn : Nat) (hn1 : 1 ≤ n) (hn6 : n ≤ 6) (hp1 : p1 < n) (hB0 : 0 < Bn) (hB63 : Bn < 2 ^ 63) (hdet : (nI n).toInt64 * determinant_2 = lN Bn) (htop : -(2 ^ 63) < (topF cells_2 n p1).toInt) : ∀ sz, Met l yX2_denominator wsX2_denominator rmX2_denominator (va_Pc [.ref (q2 0), .int (nI n), .int (nI p1)] (PW D (kT cI cJ cB) sz (wX2 q2 cI cJ cB cells_2 determinant_2))) (va_Ql (S := Unit) (fun r _ => r = ((nI n).toInt64 * determinant_2) / (lN (Nat.gcd (topF cells_2 n p1).toInt.natAbs Bn))) (QW D sz (wX2 q2 cI cJ cB cells_2 determinant_2) (fun _ => (wX2 q2 cI cJ cB cells_2 determinant_2))) (va_A (wX2 q2 cI cJ cB cells_2 determinant_2) sz)) 0 0 (va_A (wX2 q2 cI cJ cB cells_2 determinant_2) sz) := by
  intro sz
  refine Met.ofW (cc := cX2_denominator) (maxL := 3) (ret := (some .long)) (by decide) rfl ?_
  intro p e s m args below meth c s₁ B hml hv
  obtain ⟨hav, hsz, hP, hKW, hD0⟩ := hv
  have hx := B.exec
  have hb := B.bytes
  have hr := B.returns
  have hts := atoms_spec (ws := wsX2_denominator) B.pre
  have hown : s.vm.findClass RX2 = some m.cls := findClass_of_methodNamed B.named
  have hlocks := B.notSynchronized
  subst hsz
  have hD := hD0.self (sz := s.heap.size)
  obtain ⟨A, hAe⟩ : ∃ A : Nat → Prop, A = va_A (wX2 q2 cI cJ cB cells_2 determinant_2) s.heap.size := ⟨_, rfl⟩
  rw [← hAe] at hD
  have hA : ∀ q : Nat, s.heap.size ≤ q → A q := fun q h => by rw [hAe]; exact Or.inr h
  have hS : va_S A s.heap s.heap [] := va_S.rf
  refine k_gen (fun Q hQ => ?_)
  have hl := lv_entry ([.ref (q2 0), .int (nI n), .int (nI p1)]) (n := 3) (Nat.le_of_ble_eq_true rfl)
  refine k_entry hav (lg_entry_eq ..) ?_
  generalize (lg_sl ([.ref (q2 0), .int (nI n), .int (nI p1)]) ++ List.replicate (3 - (lg_sl ([.ref (q2 0), .int (nI n), .int (nI p1)])).length) Slot.unset).toArray = ls at hl ⊢
  have hl : lv_has ls 3 [(0, .ref (q2 0)), (1, .int (nI n)), (2, .int (nI p1))] := hl
  have hu_2 : ∀ w ∈ u_ws RX2 TX2 2, w ∈ wsX2_denominator := by decide +kernel
  have hf_15 : Cond.fieldLink RX2 15 "MeetingRanks$GapSolver" "determinant" "J" ∈ wsX2_denominator := by decide +kernel
  refine lv_iload_n hx hb dX2_denominator_0 rfl (lv_at hl 1 rfl) ?_
  refine lv_i2l (v := (nI n).toInt64) hx hb dX2_denominator_1 rfl ?_
  refine lv_aload_n hx hb dX2_denominator_2 rfl (lv_at hl 0 rfl) ?_
  refine k_get (ci := 2) (v := .long determinant_2) (C := RX2) (Tb := TX2) (N := 2) hx hb hts hu_2 hown hKW hP 0 rfl rfl 1 (by decide) hf_15 rfl rfl dX2_denominator_3 ?_
  refine lv_lmul hx hb dX2_denominator_6 ?_
  refine lv_aload_n hx hb dX2_denominator_7 rfl (lv_at hl 0 rfl) ?_
  refine lv_iload_n hx hb dX2_denominator_8 rfl (lv_at hl 1 rfl) ?_
  refine lv_iload_n hx hb dX2_denominator_9 rfl (lv_at hl 2 rfl) ?_
  have hs_10 : kSplit (wX2 q2 cI cJ cB cells_2 determinant_2) (wX2 q2 cI cJ cB cells_2 determinant_2) ([] : va_W) [0, 1] [] := ⟨rfl, rfl, rfl, rfl, rfl, by decide⟩
  refine kc_l hP hD hS hA hs_10 (kV (As := [.int (nI n), .int (nI p1)]) (rest := [.long (((nI n).toInt64) * determinant_2)]) hx hb hml hown hts hKW hP hD hs_10 (c_X2_commonPart l D cI cJ cB q2 cells_2 determinant_2 n p1 Bn (by first | assumption | omega) (by first | assumption | omega) (by first | assumption | omega) (by first | assumption | omega) (by first | assumption | omega) (by first | assumption | omega) (by first | assumption | omega)) (cwV 2 hts gX2_denominator_X2_commonPart rfl rfl rfl (by decide +kernel) ⟨Nat.le_of_ble_eq_true rfl, Nat.le_of_ble_eq_true rfl⟩) 0 2 rfl rfl rfl rfl hl.1 rfl (Nat.le_of_ble_eq_true rfl) dX2_denominator_10 ⟨Nat.zero_le _, Nat.zero_le _⟩) (fun r_10 u_10 H locs hw_10 hP hD hS => ?_)
  have er_10 := hw_10
  have er_10 := er_10.symm
  subst er_10
  have hP : va_P D vwCl (wX2 q2 cI cJ cB cells_2 determinant_2) H := hP.sub (ws' := (wX2 q2 cI cJ cB cells_2 determinant_2)) [0, 1] rfl
  have hD : va_D A (wX2 q2 cI cJ cB cells_2 determinant_2) := hD.sub (ws' := (wX2 q2 cI cJ cB cells_2 determinant_2)) [0, 1] (by decide) rfl
  refine lv_ldiv hx hb dX2_denominator_13 (gcd_ne hB0 hB63) ?_
  subst hQ; subst hAe
  exact W.lret (v := (((nI n).toInt64) * determinant_2) / (lN (Nat.gcd (topF cells_2 n p1).toInt.natAbs Bn))) hx hb hr (fun tt9 ht9 _ => ⟨⟨(((nI n).toInt64) * determinant_2) / (lN (Nat.gcd (topF cells_2 n p1).toInt.natAbs Bn)), (), rfl, rfl, by rw [ht9]; exact hP, hD⟩, hS.F ht9⟩) hS.2.2 dX2_denominator_14
def rmX9_gap : Room := { frames := 4, cells := 0, slots := 0, locals := 95 }
set_option maxHeartbeats 4000000 in
set_option maxRecDepth 100000 in
theorem c_X9_gap (l : Launch) (D : va_G) (cI cJ cB : ClassId) (q9 : Nat → Nat) (q4 : Nat → Nat) (q7 : Nat → Nat) (q8 : Nat → Nat) (q0 : Nat → Nat) (q6 : Nat → Nat) (q3 : Nat → Nat) (q2 : Nat → Nat) (q5 : Nat → Nat) (q1 : Nat → Nat) (cells_2 : Nat → Int64) (determinant_2 : Int64) (parts_4 : Nat → Int32) (wins_4 : Nat → Int32) (draws_4 : Nat → Int32) (points_4 : Nat → Int32) (count_4 : Int32) (changes_4 : Int32) (ml : List Mt) (n : Nat) (x : Int32) (y : Int32) (hM : MR parts_4 wins_4 draws_4 points_4 ml) (hm120 : ml.length ≤ 120) (hn1 : 1 ≤ n) (hn10 : n ≤ 10) (hG : n ≤ 6 → jcR (foB ml n) n n = 2 ^ n - 1 → GapC ml n cells_2) : ∀ sz, Met l yX9_gap wsX9_gap rmX9_gap (va_Pc [.ref (q9 0), .int x, .int y] (PW D (kT cI cJ cB) sz (wX9 q9 q4 q7 q8 q0 q6 q3 q2 q5 q1 cI cJ cB (nI n) ++ wX2 q2 cI cJ cB cells_2 determinant_2 ++ wX4 q4 cI cJ cB parts_4 wins_4 draws_4 points_4 count_4 changes_4))) (va_Ql (S := (Nat → Int64) × Int64) (fun r uu => match uu with | (cells_2', determinant_2') => r = if kIn x n ∧ (y = 0 ∨ y = nI 1) ∧ n ≤ 6 ∧ jcR (foB ml n) n n = 2 ^ n - 1 then (if y = 0 then (topF (gjR (flC ml n cells_2 (n - 1)) (n - 1) (n - 1) (n - 1)).1 n x.toInt.toNat) / gcF (topF (gjR (flC ml n cells_2 (n - 1)) (n - 1) (n - 1) (n - 1)).1 n x.toInt.toNat) ((nI n).toInt64 * (gjR (flC ml n cells_2 (n - 1)) (n - 1) (n - 1) (n - 1)).2) else ((nI n).toInt64 * (gjR (flC ml n cells_2 (n - 1)) (n - 1) (n - 1) (n - 1)).2) / gcF (topF (gjR (flC ml n cells_2 (n - 1)) (n - 1) (n - 1) (n - 1)).1 n x.toInt.toNat) ((nI n).toInt64 * (gjR (flC ml n cells_2 (n - 1)) (n - 1) (n - 1) (n - 1)).2)) else 0) (QW D sz (wX9 q9 q4 q7 q8 q0 q6 q3 q2 q5 q1 cI cJ cB (nI n) ++ wX2 q2 cI cJ cB cells_2 determinant_2 ++ wX4 q4 cI cJ cB parts_4 wins_4 draws_4 points_4 count_4 changes_4) (fun uu => match uu with | (cells_2', determinant_2') => (wX9 q9 q4 q7 q8 q0 q6 q3 q2 q5 q1 cI cJ cB (nI n) ++ wX2 q2 cI cJ cB cells_2' determinant_2' ++ wX4 q4 cI cJ cB parts_4 wins_4 draws_4 points_4 count_4 changes_4))) (va_A (wX9 q9 q4 q7 q8 q0 q6 q3 q2 q5 q1 cI cJ cB (nI n) ++ wX2 q2 cI cJ cB cells_2 determinant_2 ++ wX4 q4 cI cJ cB parts_4 wins_4 draws_4 points_4 count_4 changes_4) sz)) 0 0 (va_A (wX9 q9 q4 q7 q8 q0 q6 q3 q2 q5 q1 cI cJ cB (nI n) ++ wX2 q2 cI cJ cB cells_2 determinant_2 ++ wX4 q4 cI cJ cB parts_4 wins_4 draws_4 points_4 count_4 changes_4) sz) := by
  intro sz
  refine Met.ofW (cc := cX9_gap) (maxL := 4) (ret := (some .long)) (by decide) rfl ?_
  intro p e s m args below meth c s₁ B hml hv
  obtain ⟨hav, hsz, hP, hKW, hD0⟩ := hv
  have hx := B.exec
  have hb := B.bytes
  have hr := B.returns
  have hts := atoms_spec (ws := wsX9_gap) B.pre
  have hown : s.vm.findClass RX9 = some m.cls := findClass_of_methodNamed B.named
  have hlocks := B.notSynchronized
  subst hsz
  have hD := hD0.self (sz := s.heap.size)
  obtain ⟨A, hAe⟩ : ∃ A : Nat → Prop, A = va_A (wX9 q9 q4 q7 q8 q0 q6 q3 q2 q5 q1 cI cJ cB (nI n) ++ wX2 q2 cI cJ cB cells_2 determinant_2 ++ wX4 q4 cI cJ cB parts_4 wins_4 draws_4 points_4 count_4 changes_4) s.heap.size := ⟨_, rfl⟩
  rw [← hAe] at hD
  have hA : ∀ q : Nat, s.heap.size ≤ q → A q := fun q h => by rw [hAe]; exact Or.inr h
  have hS : va_S A s.heap s.heap [] := va_S.rf
  refine k_gen (fun Q hQ => ?_)
  have hl := lv_entry ([.ref (q9 0), .int x, .int y]) (n := 4) (Nat.le_of_ble_eq_true rfl)
  refine k_entry hav (lg_entry_eq ..) ?_
  generalize (lg_sl ([.ref (q9 0), .int x, .int y]) ++ List.replicate (4 - (lg_sl ([.ref (q9 0), .int x, .int y])).length) Slot.unset).toArray = ls at hl ⊢
  have hl : lv_has ls 4 [(0, .ref (q9 0)), (1, .int x), (2, .int y)] := hl
  have hu_9 : ∀ w ∈ u_ws RX9 TX9 10, w ∈ wsX9_gap := by decide +kernel
  have hf_12 : Cond.fieldLink RX9 12 "MeetingRanks" "meetings" "LMeetingRanks$Meetings;" ∈ wsX9_gap := by decide +kernel
  have hf_54 : Cond.fieldLink RX9 54 "MeetingRanks" "gapSolver" "LMeetingRanks$GapSolver;" ∈ wsX9_gap := by decide +kernel
  have hf_72 : Cond.fieldLink RX9 72 "MeetingRanks" "players" "I" ∈ wsX9_gap := by decide +kernel
  refine lv_aload_n hx hb dX9_gap_0 rfl (lv_at hl 0 rfl) ?_
  refine lv_iload_n hx hb dX9_gap_1 rfl (lv_at hl 1 rfl) ?_
  have hs_2 : kSplit (wX9 q9 q4 q7 q8 q0 q6 q3 q2 q5 q1 cI cJ cB (nI n) ++ wX2 q2 cI cJ cB cells_2 determinant_2 ++ wX4 q4 cI cJ cB parts_4 wins_4 draws_4 points_4 count_4 changes_4) (wX9 q9 q4 q7 q8 q0 q6 q3 q2 q5 q1 cI cJ cB (nI n)) (wX2 q2 cI cJ cB cells_2 determinant_2 ++ wX4 q4 cI cJ cB parts_4 wins_4 draws_4 points_4 count_4 changes_4) [0] [1, 2, 3, 4, 5, 6, 7] := ⟨rfl, rfl, rfl, rfl, rfl, by decide⟩
  refine kc_i hP hD hS hA hs_2 (kV (As := [.int x]) (rest := []) hx hb hml hown hts hKW hP hD hs_2 (c_X9_isPlayer l D cI cJ cB q9 q4 q7 q8 q0 q6 q3 q2 q5 q1 n x (by first | assumption | omega)) (cwV 1 hts gX9_gap_X9_isPlayer rfl rfl rfl (by decide +kernel) ⟨Nat.le_of_ble_eq_true rfl, Nat.le_of_ble_eq_true rfl⟩) 0 9 rfl rfl rfl rfl hl.1 rfl (Nat.le_of_ble_eq_true rfl) dX9_gap_2 ⟨Nat.zero_le _, Nat.zero_le _⟩) (fun r_2 u_2 H locs hw_2 hP hD hS => ?_)
  have er_2 := hw_2
  have er_2 := er_2.symm
  subst er_2
  have hP : va_P D vwCl (wX9 q9 q4 q7 q8 q0 q6 q3 q2 q5 q1 cI cJ cB (nI n) ++ wX2 q2 cI cJ cB cells_2 determinant_2 ++ wX4 q4 cI cJ cB parts_4 wins_4 draws_4 points_4 count_4 changes_4) H := hP.sub (ws' := (wX9 q9 q4 q7 q8 q0 q6 q3 q2 q5 q1 cI cJ cB (nI n) ++ wX2 q2 cI cJ cB cells_2 determinant_2 ++ wX4 q4 cI cJ cB parts_4 wins_4 draws_4 points_4 count_4 changes_4)) [7, 0, 1, 2, 3, 4, 5, 6] rfl
  have hD : va_D A (wX9 q9 q4 q7 q8 q0 q6 q3 q2 q5 q1 cI cJ cB (nI n) ++ wX2 q2 cI cJ cB cells_2 determinant_2 ++ wX4 q4 cI cJ cB parts_4 wins_4 draws_4 points_4 count_4 changes_4) := hD.sub (ws' := (wX9 q9 q4 q7 q8 q0 q6 q3 q2 q5 q1 cI cJ cB (nI n) ++ wX2 q2 cI cJ cB cells_2 determinant_2 ++ wX4 q4 cI cJ cB parts_4 wins_4 draws_4 points_4 count_4 changes_4)) [7, 0, 1, 2, 3, 4, 5, 6] (by decide) rfl
  refine lv_if_eq (tgt := 44) hx hb dX9_gap_5 (by decide) (fun c_5 => ?_) (fun c_5 => ?_)
  · skip
    have c_5 := k_b0 c_5
    refine lv_iconst (v := nI 0) hx hb dX9_gap_44 (by decide) ?_
    refine lv_istore_n (lv' := [(3, .int (nI 0)), (0, .ref (q9 0)), (1, .int x), (2, .int y)]) hx hb dX9_gap_45 rfl hl (by decide) rfl (fun ls hl => ?_)
    refine lv_iload_n hx hb dX9_gap_46 rfl (lv_at hl 0 rfl) ?_
    refine lv_if_eq (tgt := 68) hx hb dX9_gap_47 (by decide) (fun c_47 => ?_) (fun c_47 => ?_)
    · skip
      have c_47 := k0_eq (by omega) c_47
      
      refine lv_lconst (v := 0) hx hb dX9_gap_68 (by decide) ?_
      subst hQ; subst hAe
      exact W.lret (v := (0 : Int64)) hx hb hr (fun tt9 ht9 _ => ⟨⟨(0 : Int64), (cells_2, determinant_2), rfl, (if_neg (fun z => c_5 z.1)).symm, by rw [ht9]; exact hP, hD⟩, hS.F ht9⟩) hS.2.2 dX9_gap_69
    · skip
      have c_47 := k0_eq_n (by omega) c_47
      exact absurd rfl c_47
  · skip
    have c_5 := k_b1 c_5
    obtain ⟨x, hx2, rfl⟩ := kIn_nat c_5
    refine lv_iload_n hx hb dX9_gap_8 rfl (lv_at hl 2 rfl) ?_
    refine lv_if_eq (tgt := 17) hx hb dX9_gap_9 (by decide) (fun c_9 => ?_) (fun c_9 => ?_)
    · skip
      refine lv_aload_n hx hb dX9_gap_17 rfl (lv_at hl 0 rfl) ?_
      refine k_get (ci := 9) (v := .int (nI n)) (C := RX9) (Tb := TX9) (N := 10) hx hb hts hu_9 hown hKW hP 0 rfl rfl 9 (by decide) hf_72 rfl rfl dX9_gap_18 ?_
      refine lv_bipush (v := nI 6) hx hb dX9_gap_21 (by decide) ?_
      refine lv_icmp_gt (tgt := 44) hx hb dX9_gap_23 (by decide) (fun c_23 => ?_) (fun c_23 => ?_)
      · skip
        have c_23 := k_gt (by omega) (by omega) c_23
        refine lv_iconst (v := nI 0) hx hb dX9_gap_44 (by decide) ?_
        refine lv_istore_n (lv' := [(3, .int (nI 0)), (0, .ref (q9 0)), (1, .int (nI x)), (2, .int y)]) hx hb dX9_gap_45 rfl hl (by decide) rfl (fun ls hl => ?_)
        refine lv_iload_n hx hb dX9_gap_46 rfl (lv_at hl 0 rfl) ?_
        refine lv_if_eq (tgt := 68) hx hb dX9_gap_47 (by decide) (fun c_47 => ?_) (fun c_47 => ?_)
        · skip
          have c_47 := k0_eq (by omega) c_47
          
          refine lv_lconst (v := 0) hx hb dX9_gap_68 (by decide) ?_
          subst hQ; subst hAe
          exact W.lret (v := (0 : Int64)) hx hb hr (fun tt9 ht9 _ => ⟨⟨(0 : Int64), (cells_2, determinant_2), rfl, (if_neg (fun z => absurd z.2.2.1 (by omega))).symm, by rw [ht9]; exact hP, hD⟩, hS.F ht9⟩) hS.2.2 dX9_gap_69
        · skip
          have c_47 := k0_eq_n (by omega) c_47
          exact absurd rfl c_47
      · skip
        have c_23 := k_gt_n (by omega) (by omega) c_23
        refine lv_aload_n hx hb dX9_gap_26 rfl (lv_at hl 0 rfl) ?_
        refine k_get (ci := 9) (v := .ref (q4 0)) (C := RX9) (Tb := TX9) (N := 10) hx hb hts hu_9 hown hKW hP 0 rfl rfl 0 (by decide) hf_12 rfl rfl dX9_gap_27 ?_
        refine lv_aload_n hx hb dX9_gap_30 rfl (lv_at hl 0 rfl) ?_
        refine k_get (ci := 9) (v := .int (nI n)) (C := RX9) (Tb := TX9) (N := 10) hx hb hts hu_9 hown hKW hP 0 rfl rfl 9 (by decide) hf_72 rfl rfl dX9_gap_31 ?_
        have hs_34 : kSplit (wX9 q9 q4 q7 q8 q0 q6 q3 q2 q5 q1 cI cJ cB (nI n) ++ wX2 q2 cI cJ cB cells_2 determinant_2 ++ wX4 q4 cI cJ cB parts_4 wins_4 draws_4 points_4 count_4 changes_4) (wX4 q4 cI cJ cB parts_4 wins_4 draws_4 points_4 count_4 changes_4) (wX9 q9 q4 q7 q8 q0 q6 q3 q2 q5 q1 cI cJ cB (nI n) ++ wX2 q2 cI cJ cB cells_2 determinant_2) [3, 4, 5, 6, 7] [0, 1, 2] := ⟨rfl, rfl, rfl, rfl, rfl, by decide⟩
        refine kc_i hP hD hS hA hs_34 (kV (As := [.int (nI n)]) (rest := []) hx hb hml hown hts hKW hP hD hs_34 (c_X4_joinAll l D cI cJ cB q4 parts_4 wins_4 draws_4 points_4 count_4 changes_4 ml n (by first | assumption | omega) (by first | assumption | omega) (by first | assumption | omega)) (cwV 1 hts gX9_gap_X4_joinAll rfl rfl rfl (by decide +kernel) ⟨Nat.le_of_ble_eq_true rfl, Nat.le_of_ble_eq_true rfl⟩) 0 4 rfl rfl rfl rfl hl.1 rfl (Nat.le_of_ble_eq_true rfl) dX9_gap_34 ⟨Nat.zero_le _, Nat.zero_le _⟩) (fun r_34 u_34 H locs hw_34 hP hD hS => ?_)
        have er_34 := hw_34
        have er_34 := er_34.symm
        subst er_34
        have hP : va_P D vwCl (wX9 q9 q4 q7 q8 q0 q6 q3 q2 q5 q1 cI cJ cB (nI n) ++ wX2 q2 cI cJ cB cells_2 determinant_2 ++ wX4 q4 cI cJ cB parts_4 wins_4 draws_4 points_4 count_4 changes_4) H := hP.sub (ws' := (wX9 q9 q4 q7 q8 q0 q6 q3 q2 q5 q1 cI cJ cB (nI n) ++ wX2 q2 cI cJ cB cells_2 determinant_2 ++ wX4 q4 cI cJ cB parts_4 wins_4 draws_4 points_4 count_4 changes_4)) [0, 1, 2, 3, 4, 5, 6, 7] rfl
        have hD : va_D A (wX9 q9 q4 q7 q8 q0 q6 q3 q2 q5 q1 cI cJ cB (nI n) ++ wX2 q2 cI cJ cB cells_2 determinant_2 ++ wX4 q4 cI cJ cB parts_4 wins_4 draws_4 points_4 count_4 changes_4) := hD.sub (ws' := (wX9 q9 q4 q7 q8 q0 q6 q3 q2 q5 q1 cI cJ cB (nI n) ++ wX2 q2 cI cJ cB cells_2 determinant_2 ++ wX4 q4 cI cJ cB parts_4 wins_4 draws_4 points_4 count_4 changes_4)) [0, 1, 2, 3, 4, 5, 6, 7] (by decide) rfl
        refine lv_if_eq (tgt := 44) hx hb dX9_gap_37 (by decide) (fun c_37 => ?_) (fun c_37 => ?_)
        · skip
          have c_37 := k_b0 c_37
          refine lv_iconst (v := nI 0) hx hb dX9_gap_44 (by decide) ?_
          refine lv_istore_n (lv' := [(3, .int (nI 0)), (0, .ref (q9 0)), (1, .int (nI x)), (2, .int y)]) hx hb dX9_gap_45 rfl hl (by decide) rfl (fun ls hl => ?_)
          refine lv_iload_n hx hb dX9_gap_46 rfl (lv_at hl 0 rfl) ?_
          refine lv_if_eq (tgt := 68) hx hb dX9_gap_47 (by decide) (fun c_47 => ?_) (fun c_47 => ?_)
          · skip
            have c_47 := k0_eq (by omega) c_47
            
            refine lv_lconst (v := 0) hx hb dX9_gap_68 (by decide) ?_
            subst hQ; subst hAe
            exact W.lret (v := (0 : Int64)) hx hb hr (fun tt9 ht9 _ => ⟨⟨(0 : Int64), (cells_2, determinant_2), rfl, (if_neg (fun z => c_37 z.2.2.2)).symm, by rw [ht9]; exact hP, hD⟩, hS.F ht9⟩) hS.2.2 dX9_gap_69
          · skip
            have c_47 := k0_eq_n (by omega) c_47
            exact absurd rfl c_47
        · skip
          have c_37 := k_b1 c_37
          refine lv_iconst (v := nI 1) hx hb dX9_gap_40 (by decide) ?_
          refine lv_goto (tgt := 45) hx hb dX9_gap_41 (by decide) ?_
          refine lv_istore_n (lv' := [(3, .int (nI 1)), (0, .ref (q9 0)), (1, .int (nI x)), (2, .int y)]) hx hb dX9_gap_45 rfl hl (by decide) rfl (fun ls hl => ?_)
          refine lv_iload_n hx hb dX9_gap_46 rfl (lv_at hl 0 rfl) ?_
          refine lv_if_eq (tgt := 68) hx hb dX9_gap_47 (by decide) (fun c_47 => ?_) (fun c_47 => ?_)
          · skip
            have c_47 := k0_eq (by omega) c_47
            exact absurd c_47 (by decide)
          · skip
            have c_47 := k0_eq_n (by omega) c_47
            
            refine lv_aload_n hx hb dX9_gap_50 rfl (lv_at hl 1 rfl) ?_
            refine k_get (ci := 9) (v := .ref (q2 0)) (C := RX9) (Tb := TX9) (N := 10) hx hb hts hu_9 hown hKW hP 0 rfl rfl 6 (by decide) hf_54 rfl rfl dX9_gap_51 ?_
            refine lv_aload_n hx hb dX9_gap_54 rfl (lv_at hl 1 rfl) ?_
            refine k_get (ci := 9) (v := .ref (q4 0)) (C := RX9) (Tb := TX9) (N := 10) hx hb hts hu_9 hown hKW hP 0 rfl rfl 0 (by decide) hf_12 rfl rfl dX9_gap_55 ?_
            refine lv_aload_n hx hb dX9_gap_58 rfl (lv_at hl 1 rfl) ?_
            refine k_get (ci := 9) (v := .int (nI n)) (C := RX9) (Tb := TX9) (N := 10) hx hb hts hu_9 hown hKW hP 0 rfl rfl 9 (by decide) hf_72 rfl rfl dX9_gap_59 ?_
            have hs_62 : kSplit (wX9 q9 q4 q7 q8 q0 q6 q3 q2 q5 q1 cI cJ cB (nI n) ++ wX2 q2 cI cJ cB cells_2 determinant_2 ++ wX4 q4 cI cJ cB parts_4 wins_4 draws_4 points_4 count_4 changes_4) (wX2 q2 cI cJ cB cells_2 determinant_2 ++ wX4 q4 cI cJ cB parts_4 wins_4 draws_4 points_4 count_4 changes_4) (wX9 q9 q4 q7 q8 q0 q6 q3 q2 q5 q1 cI cJ cB (nI n)) [1, 2, 3, 4, 5, 6, 7] [0] := ⟨rfl, rfl, rfl, rfl, rfl, by decide⟩
            refine kc_i hP hD hS hA hs_62 (kV (As := [.ref (q4 0), .int (nI n)]) (rest := []) hx hb hml hown hts hKW hP hD hs_62 (c_X2_solve l D cI cJ cB q2 q4 cells_2 determinant_2 parts_4 wins_4 draws_4 points_4 count_4 changes_4 ml n (by first | assumption | omega) (by first | assumption | omega) c_23 ((hG c_23 c_37).1)) (cwV 2 hts gX9_gap_X2_solve rfl rfl rfl (by decide +kernel) ⟨Nat.le_of_ble_eq_true rfl, Nat.le_of_ble_eq_true rfl⟩) 0 2 rfl rfl rfl rfl hl.1 rfl (Nat.le_of_ble_eq_true rfl) dX9_gap_62 ⟨Nat.zero_le _, Nat.zero_le _⟩) (fun r_62 u_62 H locs hw_62 hP hD hS => ?_)
            obtain ⟨cells_2_62, determinant_2_62⟩ := u_62
            obtain ⟨er_62, e_cells_2_62, e_determinant_2_62⟩ := hw_62
            have er_62 := er_62.symm
            subst er_62
            have e_cells_2_62 := e_cells_2_62.symm
            subst e_cells_2_62
            have e_determinant_2_62 := e_determinant_2_62.symm
            subst e_determinant_2_62
            have hP : va_P D vwCl (wX9 q9 q4 q7 q8 q0 q6 q3 q2 q5 q1 cI cJ cB (nI n) ++ wX2 q2 cI cJ cB ((gjR (flC ml n cells_2 (n - 1)) (n - 1) (n - 1) (n - 1)).1) ((gjR (flC ml n cells_2 (n - 1)) (n - 1) (n - 1) (n - 1)).2) ++ wX4 q4 cI cJ cB parts_4 wins_4 draws_4 points_4 count_4 changes_4) H := hP.sub (ws' := (wX9 q9 q4 q7 q8 q0 q6 q3 q2 q5 q1 cI cJ cB (nI n) ++ wX2 q2 cI cJ cB ((gjR (flC ml n cells_2 (n - 1)) (n - 1) (n - 1) (n - 1)).1) ((gjR (flC ml n cells_2 (n - 1)) (n - 1) (n - 1) (n - 1)).2) ++ wX4 q4 cI cJ cB parts_4 wins_4 draws_4 points_4 count_4 changes_4)) [0, 1, 2, 3, 4, 5, 6, 7] rfl
            have hD : va_D A (wX9 q9 q4 q7 q8 q0 q6 q3 q2 q5 q1 cI cJ cB (nI n) ++ wX2 q2 cI cJ cB ((gjR (flC ml n cells_2 (n - 1)) (n - 1) (n - 1) (n - 1)).1) ((gjR (flC ml n cells_2 (n - 1)) (n - 1) (n - 1) (n - 1)).2) ++ wX4 q4 cI cJ cB parts_4 wins_4 draws_4 points_4 count_4 changes_4) := hD.sub (ws' := (wX9 q9 q4 q7 q8 q0 q6 q3 q2 q5 q1 cI cJ cB (nI n) ++ wX2 q2 cI cJ cB ((gjR (flC ml n cells_2 (n - 1)) (n - 1) (n - 1) (n - 1)).1) ((gjR (flC ml n cells_2 (n - 1)) (n - 1) (n - 1) (n - 1)).2) ++ wX4 q4 cI cJ cB parts_4 wins_4 draws_4 points_4 count_4 changes_4)) [0, 1, 2, 3, 4, 5, 6, 7] (by decide) rfl
            obtain ⟨B9, hB0, hB63, hdet⟩ := (hG c_23 c_37).2.1
            refine lv_if_ne (tgt := 70) hx hb dX9_gap_65 (by decide) (fun c_65 => ?_) (fun c_65 => ?_)
            · skip
              have c_65 := k0_ne (by omega) c_65
              refine lv_iload_n hx hb dX9_gap_70 rfl (lv_at hl 3 rfl) ?_
              refine lv_if_ne (tgt := 89) hx hb dX9_gap_71 (by decide) (fun c_71 => ?_) (fun c_71 => ?_)
              · skip
                refine lv_aload_n hx hb dX9_gap_89 rfl (lv_at hl 1 rfl) ?_
                refine k_get (ci := 9) (v := .ref (q2 0)) (C := RX9) (Tb := TX9) (N := 10) hx hb hts hu_9 hown hKW hP 0 rfl rfl 6 (by decide) hf_54 rfl rfl dX9_gap_90 ?_
                refine lv_aload_n hx hb dX9_gap_93 rfl (lv_at hl 1 rfl) ?_
                refine k_get (ci := 9) (v := .int (nI n)) (C := RX9) (Tb := TX9) (N := 10) hx hb hts hu_9 hown hKW hP 0 rfl rfl 9 (by decide) hf_72 rfl rfl dX9_gap_94 ?_
                refine lv_iload_n hx hb dX9_gap_97 rfl (lv_at hl 2 rfl) ?_
                have hs_98 : kSplit (wX9 q9 q4 q7 q8 q0 q6 q3 q2 q5 q1 cI cJ cB (nI n) ++ wX2 q2 cI cJ cB ((gjR (flC ml n cells_2 (n - 1)) (n - 1) (n - 1) (n - 1)).1) ((gjR (flC ml n cells_2 (n - 1)) (n - 1) (n - 1) (n - 1)).2) ++ wX4 q4 cI cJ cB parts_4 wins_4 draws_4 points_4 count_4 changes_4) (wX2 q2 cI cJ cB ((gjR (flC ml n cells_2 (n - 1)) (n - 1) (n - 1) (n - 1)).1) ((gjR (flC ml n cells_2 (n - 1)) (n - 1) (n - 1) (n - 1)).2)) (wX9 q9 q4 q7 q8 q0 q6 q3 q2 q5 q1 cI cJ cB (nI n) ++ wX4 q4 cI cJ cB parts_4 wins_4 draws_4 points_4 count_4 changes_4) [1, 2] [0, 3, 4, 5, 6, 7] := ⟨rfl, rfl, rfl, rfl, rfl, by decide⟩
                refine kc_l hP hD hS hA hs_98 (kV (As := [.int (nI n), .int (nI x)]) (rest := []) hx hb hml hown hts hKW hP hD hs_98 (c_X2_denominator l D cI cJ cB q2 ((gjR (flC ml n cells_2 (n - 1)) (n - 1) (n - 1) (n - 1)).1) ((gjR (flC ml n cells_2 (n - 1)) (n - 1) (n - 1) (n - 1)).2) n x B9 hn1 c_23 hx2 hB0 hB63 hdet ((hG c_23 c_37).2.2 x hx2)) (cwV 2 hts gX9_gap_X2_denominator rfl rfl rfl (by decide +kernel) ⟨Nat.le_of_ble_eq_true rfl, Nat.le_of_ble_eq_true rfl⟩) 0 2 rfl rfl rfl rfl hl.1 rfl (Nat.le_of_ble_eq_true rfl) dX9_gap_98 ⟨Nat.zero_le _, Nat.zero_le _⟩) (fun r_98 u_98 H locs hw_98 hP hD hS => ?_)
                have er_98 := hw_98
                have er_98 := er_98.symm
                subst er_98
                have hP : va_P D vwCl (wX9 q9 q4 q7 q8 q0 q6 q3 q2 q5 q1 cI cJ cB (nI n) ++ wX2 q2 cI cJ cB ((gjR (flC ml n cells_2 (n - 1)) (n - 1) (n - 1) (n - 1)).1) ((gjR (flC ml n cells_2 (n - 1)) (n - 1) (n - 1) (n - 1)).2) ++ wX4 q4 cI cJ cB parts_4 wins_4 draws_4 points_4 count_4 changes_4) H := hP.sub (ws' := (wX9 q9 q4 q7 q8 q0 q6 q3 q2 q5 q1 cI cJ cB (nI n) ++ wX2 q2 cI cJ cB ((gjR (flC ml n cells_2 (n - 1)) (n - 1) (n - 1) (n - 1)).1) ((gjR (flC ml n cells_2 (n - 1)) (n - 1) (n - 1) (n - 1)).2) ++ wX4 q4 cI cJ cB parts_4 wins_4 draws_4 points_4 count_4 changes_4)) [0, 6, 7, 1, 2, 3, 4, 5] rfl
                have hD : va_D A (wX9 q9 q4 q7 q8 q0 q6 q3 q2 q5 q1 cI cJ cB (nI n) ++ wX2 q2 cI cJ cB ((gjR (flC ml n cells_2 (n - 1)) (n - 1) (n - 1) (n - 1)).1) ((gjR (flC ml n cells_2 (n - 1)) (n - 1) (n - 1) (n - 1)).2) ++ wX4 q4 cI cJ cB parts_4 wins_4 draws_4 points_4 count_4 changes_4) := hD.sub (ws' := (wX9 q9 q4 q7 q8 q0 q6 q3 q2 q5 q1 cI cJ cB (nI n) ++ wX2 q2 cI cJ cB ((gjR (flC ml n cells_2 (n - 1)) (n - 1) (n - 1) (n - 1)).1) ((gjR (flC ml n cells_2 (n - 1)) (n - 1) (n - 1) (n - 1)).2) ++ wX4 q4 cI cJ cB parts_4 wins_4 draws_4 points_4 count_4 changes_4)) [0, 6, 7, 1, 2, 3, 4, 5] (by decide) rfl
                subst hQ; subst hAe
                exact W.lret (v := ((nI n).toInt64 * ((gjR (flC ml n cells_2 (n - 1)) (n - 1) (n - 1) (n - 1)).2)) / (lN (Nat.gcd (topF ((gjR (flC ml n cells_2 (n - 1)) (n - 1) (n - 1) (n - 1)).1) n x).toInt.natAbs B9))) hx hb hr (fun tt9 ht9 _ => ⟨⟨((nI n).toInt64 * ((gjR (flC ml n cells_2 (n - 1)) (n - 1) (n - 1) (n - 1)).2)) / (lN (Nat.gcd (topF ((gjR (flC ml n cells_2 (n - 1)) (n - 1) (n - 1) (n - 1)).1) n x).toInt.natAbs B9)), ((gjR (flC ml n cells_2 (n - 1)) (n - 1) (n - 1) (n - 1)).1, (gjR (flC ml n cells_2 (n - 1)) (n - 1) (n - 1) (n - 1)).2), rfl, by rw [if_pos ⟨(kIn_nI (by omega)).mpr hx2, (Or.inl c_9), c_23, c_37⟩, if_neg c_71, hdet, gcF_lN hB63, k_tt (by omega)], by rw [ht9]; exact hP, hD⟩, hS.F ht9⟩) hS.2.2 dX9_gap_101
              · skip
                refine lv_aload_n hx hb dX9_gap_74 rfl (lv_at hl 1 rfl) ?_
                refine k_get (ci := 9) (v := .ref (q2 0)) (C := RX9) (Tb := TX9) (N := 10) hx hb hts hu_9 hown hKW hP 0 rfl rfl 6 (by decide) hf_54 rfl rfl dX9_gap_75 ?_
                refine lv_aload_n hx hb dX9_gap_78 rfl (lv_at hl 1 rfl) ?_
                refine k_get (ci := 9) (v := .int (nI n)) (C := RX9) (Tb := TX9) (N := 10) hx hb hts hu_9 hown hKW hP 0 rfl rfl 9 (by decide) hf_72 rfl rfl dX9_gap_79 ?_
                refine lv_iload_n hx hb dX9_gap_82 rfl (lv_at hl 2 rfl) ?_
                have hs_83 : kSplit (wX9 q9 q4 q7 q8 q0 q6 q3 q2 q5 q1 cI cJ cB (nI n) ++ wX2 q2 cI cJ cB ((gjR (flC ml n cells_2 (n - 1)) (n - 1) (n - 1) (n - 1)).1) ((gjR (flC ml n cells_2 (n - 1)) (n - 1) (n - 1) (n - 1)).2) ++ wX4 q4 cI cJ cB parts_4 wins_4 draws_4 points_4 count_4 changes_4) (wX2 q2 cI cJ cB ((gjR (flC ml n cells_2 (n - 1)) (n - 1) (n - 1) (n - 1)).1) ((gjR (flC ml n cells_2 (n - 1)) (n - 1) (n - 1) (n - 1)).2)) (wX9 q9 q4 q7 q8 q0 q6 q3 q2 q5 q1 cI cJ cB (nI n) ++ wX4 q4 cI cJ cB parts_4 wins_4 draws_4 points_4 count_4 changes_4) [1, 2] [0, 3, 4, 5, 6, 7] := ⟨rfl, rfl, rfl, rfl, rfl, by decide⟩
                refine kc_l hP hD hS hA hs_83 (kV (As := [.int (nI n), .int (nI x)]) (rest := []) hx hb hml hown hts hKW hP hD hs_83 (c_X2_numerator l D cI cJ cB q2 ((gjR (flC ml n cells_2 (n - 1)) (n - 1) (n - 1) (n - 1)).1) ((gjR (flC ml n cells_2 (n - 1)) (n - 1) (n - 1) (n - 1)).2) n x B9 hn1 c_23 hx2 hB0 hB63 hdet ((hG c_23 c_37).2.2 x hx2)) (cwV 2 hts gX9_gap_X2_numerator rfl rfl rfl (by decide +kernel) ⟨Nat.le_of_ble_eq_true rfl, Nat.le_of_ble_eq_true rfl⟩) 0 2 rfl rfl rfl rfl hl.1 rfl (Nat.le_of_ble_eq_true rfl) dX9_gap_83 ⟨Nat.zero_le _, Nat.zero_le _⟩) (fun r_83 u_83 H locs hw_83 hP hD hS => ?_)
                have er_83 := hw_83
                have er_83 := er_83.symm
                subst er_83
                have hP : va_P D vwCl (wX9 q9 q4 q7 q8 q0 q6 q3 q2 q5 q1 cI cJ cB (nI n) ++ wX2 q2 cI cJ cB ((gjR (flC ml n cells_2 (n - 1)) (n - 1) (n - 1) (n - 1)).1) ((gjR (flC ml n cells_2 (n - 1)) (n - 1) (n - 1) (n - 1)).2) ++ wX4 q4 cI cJ cB parts_4 wins_4 draws_4 points_4 count_4 changes_4) H := hP.sub (ws' := (wX9 q9 q4 q7 q8 q0 q6 q3 q2 q5 q1 cI cJ cB (nI n) ++ wX2 q2 cI cJ cB ((gjR (flC ml n cells_2 (n - 1)) (n - 1) (n - 1) (n - 1)).1) ((gjR (flC ml n cells_2 (n - 1)) (n - 1) (n - 1) (n - 1)).2) ++ wX4 q4 cI cJ cB parts_4 wins_4 draws_4 points_4 count_4 changes_4)) [0, 6, 7, 1, 2, 3, 4, 5] rfl
                have hD : va_D A (wX9 q9 q4 q7 q8 q0 q6 q3 q2 q5 q1 cI cJ cB (nI n) ++ wX2 q2 cI cJ cB ((gjR (flC ml n cells_2 (n - 1)) (n - 1) (n - 1) (n - 1)).1) ((gjR (flC ml n cells_2 (n - 1)) (n - 1) (n - 1) (n - 1)).2) ++ wX4 q4 cI cJ cB parts_4 wins_4 draws_4 points_4 count_4 changes_4) := hD.sub (ws' := (wX9 q9 q4 q7 q8 q0 q6 q3 q2 q5 q1 cI cJ cB (nI n) ++ wX2 q2 cI cJ cB ((gjR (flC ml n cells_2 (n - 1)) (n - 1) (n - 1) (n - 1)).1) ((gjR (flC ml n cells_2 (n - 1)) (n - 1) (n - 1) (n - 1)).2) ++ wX4 q4 cI cJ cB parts_4 wins_4 draws_4 points_4 count_4 changes_4)) [0, 6, 7, 1, 2, 3, 4, 5] (by decide) rfl
                refine lv_goto (tgt := 101) hx hb dX9_gap_86 (by decide) ?_
                subst hQ; subst hAe
                exact W.lret (v := (topF ((gjR (flC ml n cells_2 (n - 1)) (n - 1) (n - 1) (n - 1)).1) n x) / (lN (Nat.gcd (topF ((gjR (flC ml n cells_2 (n - 1)) (n - 1) (n - 1) (n - 1)).1) n x).toInt.natAbs B9))) hx hb hr (fun tt9 ht9 _ => ⟨⟨(topF ((gjR (flC ml n cells_2 (n - 1)) (n - 1) (n - 1) (n - 1)).1) n x) / (lN (Nat.gcd (topF ((gjR (flC ml n cells_2 (n - 1)) (n - 1) (n - 1) (n - 1)).1) n x).toInt.natAbs B9)), ((gjR (flC ml n cells_2 (n - 1)) (n - 1) (n - 1) (n - 1)).1, (gjR (flC ml n cells_2 (n - 1)) (n - 1) (n - 1) (n - 1)).2), rfl, by rw [if_pos ⟨(kIn_nI (by omega)).mpr hx2, (Or.inl c_9), c_23, c_37⟩, if_pos c_71, hdet, gcF_lN hB63, k_tt (by omega)], by rw [ht9]; exact hP, hD⟩, hS.F ht9⟩) hS.2.2 dX9_gap_101
            · skip
              have c_65 := k0_ne_n (by omega) c_65
              exact absurd c_65 (by decide)
    · skip
      refine lv_iload_n hx hb dX9_gap_12 rfl (lv_at hl 2 rfl) ?_
      refine lv_iconst (v := nI 1) hx hb dX9_gap_13 (by decide) ?_
      refine lv_icmp_ne (tgt := 44) hx hb dX9_gap_14 (by decide) (fun c_14 => ?_) (fun c_14 => ?_)
      · skip
        refine lv_iconst (v := nI 0) hx hb dX9_gap_44 (by decide) ?_
        refine lv_istore_n (lv' := [(3, .int (nI 0)), (0, .ref (q9 0)), (1, .int (nI x)), (2, .int y)]) hx hb dX9_gap_45 rfl hl (by decide) rfl (fun ls hl => ?_)
        refine lv_iload_n hx hb dX9_gap_46 rfl (lv_at hl 0 rfl) ?_
        refine lv_if_eq (tgt := 68) hx hb dX9_gap_47 (by decide) (fun c_47 => ?_) (fun c_47 => ?_)
        · skip
          have c_47 := k0_eq (by omega) c_47
          
          refine lv_lconst (v := 0) hx hb dX9_gap_68 (by decide) ?_
          subst hQ; subst hAe
          exact W.lret (v := (0 : Int64)) hx hb hr (fun tt9 ht9 _ => ⟨⟨(0 : Int64), (cells_2, determinant_2), rfl, (if_neg (fun z => z.2.1.elim c_9 c_14)).symm, by rw [ht9]; exact hP, hD⟩, hS.F ht9⟩) hS.2.2 dX9_gap_69
        · skip
          have c_47 := k0_eq_n (by omega) c_47
          exact absurd rfl c_47
      · skip
        refine lv_aload_n hx hb dX9_gap_17 rfl (lv_at hl 0 rfl) ?_
        refine k_get (ci := 9) (v := .int (nI n)) (C := RX9) (Tb := TX9) (N := 10) hx hb hts hu_9 hown hKW hP 0 rfl rfl 9 (by decide) hf_72 rfl rfl dX9_gap_18 ?_
        refine lv_bipush (v := nI 6) hx hb dX9_gap_21 (by decide) ?_
        refine lv_icmp_gt (tgt := 44) hx hb dX9_gap_23 (by decide) (fun c_23 => ?_) (fun c_23 => ?_)
        · skip
          have c_23 := k_gt (by omega) (by omega) c_23
          refine lv_iconst (v := nI 0) hx hb dX9_gap_44 (by decide) ?_
          refine lv_istore_n (lv' := [(3, .int (nI 0)), (0, .ref (q9 0)), (1, .int (nI x)), (2, .int y)]) hx hb dX9_gap_45 rfl hl (by decide) rfl (fun ls hl => ?_)
          refine lv_iload_n hx hb dX9_gap_46 rfl (lv_at hl 0 rfl) ?_
          refine lv_if_eq (tgt := 68) hx hb dX9_gap_47 (by decide) (fun c_47 => ?_) (fun c_47 => ?_)
          · skip
            have c_47 := k0_eq (by omega) c_47
            
            refine lv_lconst (v := 0) hx hb dX9_gap_68 (by decide) ?_
            subst hQ; subst hAe
            exact W.lret (v := (0 : Int64)) hx hb hr (fun tt9 ht9 _ => ⟨⟨(0 : Int64), (cells_2, determinant_2), rfl, (if_neg (fun z => absurd z.2.2.1 (by omega))).symm, by rw [ht9]; exact hP, hD⟩, hS.F ht9⟩) hS.2.2 dX9_gap_69
          · skip
            have c_47 := k0_eq_n (by omega) c_47
            exact absurd rfl c_47
        · skip
          have c_23 := k_gt_n (by omega) (by omega) c_23
          refine lv_aload_n hx hb dX9_gap_26 rfl (lv_at hl 0 rfl) ?_
          refine k_get (ci := 9) (v := .ref (q4 0)) (C := RX9) (Tb := TX9) (N := 10) hx hb hts hu_9 hown hKW hP 0 rfl rfl 0 (by decide) hf_12 rfl rfl dX9_gap_27 ?_
          refine lv_aload_n hx hb dX9_gap_30 rfl (lv_at hl 0 rfl) ?_
          refine k_get (ci := 9) (v := .int (nI n)) (C := RX9) (Tb := TX9) (N := 10) hx hb hts hu_9 hown hKW hP 0 rfl rfl 9 (by decide) hf_72 rfl rfl dX9_gap_31 ?_
          have hs_34 : kSplit (wX9 q9 q4 q7 q8 q0 q6 q3 q2 q5 q1 cI cJ cB (nI n) ++ wX2 q2 cI cJ cB cells_2 determinant_2 ++ wX4 q4 cI cJ cB parts_4 wins_4 draws_4 points_4 count_4 changes_4) (wX4 q4 cI cJ cB parts_4 wins_4 draws_4 points_4 count_4 changes_4) (wX9 q9 q4 q7 q8 q0 q6 q3 q2 q5 q1 cI cJ cB (nI n) ++ wX2 q2 cI cJ cB cells_2 determinant_2) [3, 4, 5, 6, 7] [0, 1, 2] := ⟨rfl, rfl, rfl, rfl, rfl, by decide⟩
          refine kc_i hP hD hS hA hs_34 (kV (As := [.int (nI n)]) (rest := []) hx hb hml hown hts hKW hP hD hs_34 (c_X4_joinAll l D cI cJ cB q4 parts_4 wins_4 draws_4 points_4 count_4 changes_4 ml n (by first | assumption | omega) (by first | assumption | omega) (by first | assumption | omega)) (cwV 1 hts gX9_gap_X4_joinAll rfl rfl rfl (by decide +kernel) ⟨Nat.le_of_ble_eq_true rfl, Nat.le_of_ble_eq_true rfl⟩) 0 4 rfl rfl rfl rfl hl.1 rfl (Nat.le_of_ble_eq_true rfl) dX9_gap_34 ⟨Nat.zero_le _, Nat.zero_le _⟩) (fun r_34 u_34 H locs hw_34 hP hD hS => ?_)
          have er_34 := hw_34
          have er_34 := er_34.symm
          subst er_34
          have hP : va_P D vwCl (wX9 q9 q4 q7 q8 q0 q6 q3 q2 q5 q1 cI cJ cB (nI n) ++ wX2 q2 cI cJ cB cells_2 determinant_2 ++ wX4 q4 cI cJ cB parts_4 wins_4 draws_4 points_4 count_4 changes_4) H := hP.sub (ws' := (wX9 q9 q4 q7 q8 q0 q6 q3 q2 q5 q1 cI cJ cB (nI n) ++ wX2 q2 cI cJ cB cells_2 determinant_2 ++ wX4 q4 cI cJ cB parts_4 wins_4 draws_4 points_4 count_4 changes_4)) [0, 1, 2, 3, 4, 5, 6, 7] rfl
          have hD : va_D A (wX9 q9 q4 q7 q8 q0 q6 q3 q2 q5 q1 cI cJ cB (nI n) ++ wX2 q2 cI cJ cB cells_2 determinant_2 ++ wX4 q4 cI cJ cB parts_4 wins_4 draws_4 points_4 count_4 changes_4) := hD.sub (ws' := (wX9 q9 q4 q7 q8 q0 q6 q3 q2 q5 q1 cI cJ cB (nI n) ++ wX2 q2 cI cJ cB cells_2 determinant_2 ++ wX4 q4 cI cJ cB parts_4 wins_4 draws_4 points_4 count_4 changes_4)) [0, 1, 2, 3, 4, 5, 6, 7] (by decide) rfl
          refine lv_if_eq (tgt := 44) hx hb dX9_gap_37 (by decide) (fun c_37 => ?_) (fun c_37 => ?_)
          · skip
            have c_37 := k_b0 c_37
            refine lv_iconst (v := nI 0) hx hb dX9_gap_44 (by decide) ?_
            refine lv_istore_n (lv' := [(3, .int (nI 0)), (0, .ref (q9 0)), (1, .int (nI x)), (2, .int y)]) hx hb dX9_gap_45 rfl hl (by decide) rfl (fun ls hl => ?_)
            refine lv_iload_n hx hb dX9_gap_46 rfl (lv_at hl 0 rfl) ?_
            refine lv_if_eq (tgt := 68) hx hb dX9_gap_47 (by decide) (fun c_47 => ?_) (fun c_47 => ?_)
            · skip
              have c_47 := k0_eq (by omega) c_47
              
              refine lv_lconst (v := 0) hx hb dX9_gap_68 (by decide) ?_
              subst hQ; subst hAe
              exact W.lret (v := (0 : Int64)) hx hb hr (fun tt9 ht9 _ => ⟨⟨(0 : Int64), (cells_2, determinant_2), rfl, (if_neg (fun z => c_37 z.2.2.2)).symm, by rw [ht9]; exact hP, hD⟩, hS.F ht9⟩) hS.2.2 dX9_gap_69
            · skip
              have c_47 := k0_eq_n (by omega) c_47
              exact absurd rfl c_47
          · skip
            have c_37 := k_b1 c_37
            refine lv_iconst (v := nI 1) hx hb dX9_gap_40 (by decide) ?_
            refine lv_goto (tgt := 45) hx hb dX9_gap_41 (by decide) ?_
            refine lv_istore_n (lv' := [(3, .int (nI 1)), (0, .ref (q9 0)), (1, .int (nI x)), (2, .int y)]) hx hb dX9_gap_45 rfl hl (by decide) rfl (fun ls hl => ?_)
            refine lv_iload_n hx hb dX9_gap_46 rfl (lv_at hl 0 rfl) ?_
            refine lv_if_eq (tgt := 68) hx hb dX9_gap_47 (by decide) (fun c_47 => ?_) (fun c_47 => ?_)
            · skip
              have c_47 := k0_eq (by omega) c_47
              exact absurd c_47 (by decide)
            · skip
              have c_47 := k0_eq_n (by omega) c_47
              
              refine lv_aload_n hx hb dX9_gap_50 rfl (lv_at hl 1 rfl) ?_
              refine k_get (ci := 9) (v := .ref (q2 0)) (C := RX9) (Tb := TX9) (N := 10) hx hb hts hu_9 hown hKW hP 0 rfl rfl 6 (by decide) hf_54 rfl rfl dX9_gap_51 ?_
              refine lv_aload_n hx hb dX9_gap_54 rfl (lv_at hl 1 rfl) ?_
              refine k_get (ci := 9) (v := .ref (q4 0)) (C := RX9) (Tb := TX9) (N := 10) hx hb hts hu_9 hown hKW hP 0 rfl rfl 0 (by decide) hf_12 rfl rfl dX9_gap_55 ?_
              refine lv_aload_n hx hb dX9_gap_58 rfl (lv_at hl 1 rfl) ?_
              refine k_get (ci := 9) (v := .int (nI n)) (C := RX9) (Tb := TX9) (N := 10) hx hb hts hu_9 hown hKW hP 0 rfl rfl 9 (by decide) hf_72 rfl rfl dX9_gap_59 ?_
              have hs_62 : kSplit (wX9 q9 q4 q7 q8 q0 q6 q3 q2 q5 q1 cI cJ cB (nI n) ++ wX2 q2 cI cJ cB cells_2 determinant_2 ++ wX4 q4 cI cJ cB parts_4 wins_4 draws_4 points_4 count_4 changes_4) (wX2 q2 cI cJ cB cells_2 determinant_2 ++ wX4 q4 cI cJ cB parts_4 wins_4 draws_4 points_4 count_4 changes_4) (wX9 q9 q4 q7 q8 q0 q6 q3 q2 q5 q1 cI cJ cB (nI n)) [1, 2, 3, 4, 5, 6, 7] [0] := ⟨rfl, rfl, rfl, rfl, rfl, by decide⟩
              refine kc_i hP hD hS hA hs_62 (kV (As := [.ref (q4 0), .int (nI n)]) (rest := []) hx hb hml hown hts hKW hP hD hs_62 (c_X2_solve l D cI cJ cB q2 q4 cells_2 determinant_2 parts_4 wins_4 draws_4 points_4 count_4 changes_4 ml n (by first | assumption | omega) (by first | assumption | omega) c_23 ((hG c_23 c_37).1)) (cwV 2 hts gX9_gap_X2_solve rfl rfl rfl (by decide +kernel) ⟨Nat.le_of_ble_eq_true rfl, Nat.le_of_ble_eq_true rfl⟩) 0 2 rfl rfl rfl rfl hl.1 rfl (Nat.le_of_ble_eq_true rfl) dX9_gap_62 ⟨Nat.zero_le _, Nat.zero_le _⟩) (fun r_62 u_62 H locs hw_62 hP hD hS => ?_)
              obtain ⟨cells_2_62, determinant_2_62⟩ := u_62
              obtain ⟨er_62, e_cells_2_62, e_determinant_2_62⟩ := hw_62
              have er_62 := er_62.symm
              subst er_62
              have e_cells_2_62 := e_cells_2_62.symm
              subst e_cells_2_62
              have e_determinant_2_62 := e_determinant_2_62.symm
              subst e_determinant_2_62
              have hP : va_P D vwCl (wX9 q9 q4 q7 q8 q0 q6 q3 q2 q5 q1 cI cJ cB (nI n) ++ wX2 q2 cI cJ cB ((gjR (flC ml n cells_2 (n - 1)) (n - 1) (n - 1) (n - 1)).1) ((gjR (flC ml n cells_2 (n - 1)) (n - 1) (n - 1) (n - 1)).2) ++ wX4 q4 cI cJ cB parts_4 wins_4 draws_4 points_4 count_4 changes_4) H := hP.sub (ws' := (wX9 q9 q4 q7 q8 q0 q6 q3 q2 q5 q1 cI cJ cB (nI n) ++ wX2 q2 cI cJ cB ((gjR (flC ml n cells_2 (n - 1)) (n - 1) (n - 1) (n - 1)).1) ((gjR (flC ml n cells_2 (n - 1)) (n - 1) (n - 1) (n - 1)).2) ++ wX4 q4 cI cJ cB parts_4 wins_4 draws_4 points_4 count_4 changes_4)) [0, 1, 2, 3, 4, 5, 6, 7] rfl
              have hD : va_D A (wX9 q9 q4 q7 q8 q0 q6 q3 q2 q5 q1 cI cJ cB (nI n) ++ wX2 q2 cI cJ cB ((gjR (flC ml n cells_2 (n - 1)) (n - 1) (n - 1) (n - 1)).1) ((gjR (flC ml n cells_2 (n - 1)) (n - 1) (n - 1) (n - 1)).2) ++ wX4 q4 cI cJ cB parts_4 wins_4 draws_4 points_4 count_4 changes_4) := hD.sub (ws' := (wX9 q9 q4 q7 q8 q0 q6 q3 q2 q5 q1 cI cJ cB (nI n) ++ wX2 q2 cI cJ cB ((gjR (flC ml n cells_2 (n - 1)) (n - 1) (n - 1) (n - 1)).1) ((gjR (flC ml n cells_2 (n - 1)) (n - 1) (n - 1) (n - 1)).2) ++ wX4 q4 cI cJ cB parts_4 wins_4 draws_4 points_4 count_4 changes_4)) [0, 1, 2, 3, 4, 5, 6, 7] (by decide) rfl
              obtain ⟨B9, hB0, hB63, hdet⟩ := (hG c_23 c_37).2.1
              refine lv_if_ne (tgt := 70) hx hb dX9_gap_65 (by decide) (fun c_65 => ?_) (fun c_65 => ?_)
              · skip
                have c_65 := k0_ne (by omega) c_65
                refine lv_iload_n hx hb dX9_gap_70 rfl (lv_at hl 3 rfl) ?_
                refine lv_if_ne (tgt := 89) hx hb dX9_gap_71 (by decide) (fun c_71 => ?_) (fun c_71 => ?_)
                · skip
                  refine lv_aload_n hx hb dX9_gap_89 rfl (lv_at hl 1 rfl) ?_
                  refine k_get (ci := 9) (v := .ref (q2 0)) (C := RX9) (Tb := TX9) (N := 10) hx hb hts hu_9 hown hKW hP 0 rfl rfl 6 (by decide) hf_54 rfl rfl dX9_gap_90 ?_
                  refine lv_aload_n hx hb dX9_gap_93 rfl (lv_at hl 1 rfl) ?_
                  refine k_get (ci := 9) (v := .int (nI n)) (C := RX9) (Tb := TX9) (N := 10) hx hb hts hu_9 hown hKW hP 0 rfl rfl 9 (by decide) hf_72 rfl rfl dX9_gap_94 ?_
                  refine lv_iload_n hx hb dX9_gap_97 rfl (lv_at hl 2 rfl) ?_
                  have hs_98 : kSplit (wX9 q9 q4 q7 q8 q0 q6 q3 q2 q5 q1 cI cJ cB (nI n) ++ wX2 q2 cI cJ cB ((gjR (flC ml n cells_2 (n - 1)) (n - 1) (n - 1) (n - 1)).1) ((gjR (flC ml n cells_2 (n - 1)) (n - 1) (n - 1) (n - 1)).2) ++ wX4 q4 cI cJ cB parts_4 wins_4 draws_4 points_4 count_4 changes_4) (wX2 q2 cI cJ cB ((gjR (flC ml n cells_2 (n - 1)) (n - 1) (n - 1) (n - 1)).1) ((gjR (flC ml n cells_2 (n - 1)) (n - 1) (n - 1) (n - 1)).2)) (wX9 q9 q4 q7 q8 q0 q6 q3 q2 q5 q1 cI cJ cB (nI n) ++ wX4 q4 cI cJ cB parts_4 wins_4 draws_4 points_4 count_4 changes_4) [1, 2] [0, 3, 4, 5, 6, 7] := ⟨rfl, rfl, rfl, rfl, rfl, by decide⟩
                  refine kc_l hP hD hS hA hs_98 (kV (As := [.int (nI n), .int (nI x)]) (rest := []) hx hb hml hown hts hKW hP hD hs_98 (c_X2_denominator l D cI cJ cB q2 ((gjR (flC ml n cells_2 (n - 1)) (n - 1) (n - 1) (n - 1)).1) ((gjR (flC ml n cells_2 (n - 1)) (n - 1) (n - 1) (n - 1)).2) n x B9 hn1 c_23 hx2 hB0 hB63 hdet ((hG c_23 c_37).2.2 x hx2)) (cwV 2 hts gX9_gap_X2_denominator rfl rfl rfl (by decide +kernel) ⟨Nat.le_of_ble_eq_true rfl, Nat.le_of_ble_eq_true rfl⟩) 0 2 rfl rfl rfl rfl hl.1 rfl (Nat.le_of_ble_eq_true rfl) dX9_gap_98 ⟨Nat.zero_le _, Nat.zero_le _⟩) (fun r_98 u_98 H locs hw_98 hP hD hS => ?_)
                  have er_98 := hw_98
                  have er_98 := er_98.symm
                  subst er_98
                  have hP : va_P D vwCl (wX9 q9 q4 q7 q8 q0 q6 q3 q2 q5 q1 cI cJ cB (nI n) ++ wX2 q2 cI cJ cB ((gjR (flC ml n cells_2 (n - 1)) (n - 1) (n - 1) (n - 1)).1) ((gjR (flC ml n cells_2 (n - 1)) (n - 1) (n - 1) (n - 1)).2) ++ wX4 q4 cI cJ cB parts_4 wins_4 draws_4 points_4 count_4 changes_4) H := hP.sub (ws' := (wX9 q9 q4 q7 q8 q0 q6 q3 q2 q5 q1 cI cJ cB (nI n) ++ wX2 q2 cI cJ cB ((gjR (flC ml n cells_2 (n - 1)) (n - 1) (n - 1) (n - 1)).1) ((gjR (flC ml n cells_2 (n - 1)) (n - 1) (n - 1) (n - 1)).2) ++ wX4 q4 cI cJ cB parts_4 wins_4 draws_4 points_4 count_4 changes_4)) [0, 6, 7, 1, 2, 3, 4, 5] rfl
                  have hD : va_D A (wX9 q9 q4 q7 q8 q0 q6 q3 q2 q5 q1 cI cJ cB (nI n) ++ wX2 q2 cI cJ cB ((gjR (flC ml n cells_2 (n - 1)) (n - 1) (n - 1) (n - 1)).1) ((gjR (flC ml n cells_2 (n - 1)) (n - 1) (n - 1) (n - 1)).2) ++ wX4 q4 cI cJ cB parts_4 wins_4 draws_4 points_4 count_4 changes_4) := hD.sub (ws' := (wX9 q9 q4 q7 q8 q0 q6 q3 q2 q5 q1 cI cJ cB (nI n) ++ wX2 q2 cI cJ cB ((gjR (flC ml n cells_2 (n - 1)) (n - 1) (n - 1) (n - 1)).1) ((gjR (flC ml n cells_2 (n - 1)) (n - 1) (n - 1) (n - 1)).2) ++ wX4 q4 cI cJ cB parts_4 wins_4 draws_4 points_4 count_4 changes_4)) [0, 6, 7, 1, 2, 3, 4, 5] (by decide) rfl
                  subst hQ; subst hAe
                  exact W.lret (v := ((nI n).toInt64 * ((gjR (flC ml n cells_2 (n - 1)) (n - 1) (n - 1) (n - 1)).2)) / (lN (Nat.gcd (topF ((gjR (flC ml n cells_2 (n - 1)) (n - 1) (n - 1) (n - 1)).1) n x).toInt.natAbs B9))) hx hb hr (fun tt9 ht9 _ => ⟨⟨((nI n).toInt64 * ((gjR (flC ml n cells_2 (n - 1)) (n - 1) (n - 1) (n - 1)).2)) / (lN (Nat.gcd (topF ((gjR (flC ml n cells_2 (n - 1)) (n - 1) (n - 1) (n - 1)).1) n x).toInt.natAbs B9)), ((gjR (flC ml n cells_2 (n - 1)) (n - 1) (n - 1) (n - 1)).1, (gjR (flC ml n cells_2 (n - 1)) (n - 1) (n - 1) (n - 1)).2), rfl, by rw [if_pos ⟨(kIn_nI (by omega)).mpr hx2, (Or.inr c_14), c_23, c_37⟩, if_neg c_71, hdet, gcF_lN hB63, k_tt (by omega)], by rw [ht9]; exact hP, hD⟩, hS.F ht9⟩) hS.2.2 dX9_gap_101
                · skip
                  refine lv_aload_n hx hb dX9_gap_74 rfl (lv_at hl 1 rfl) ?_
                  refine k_get (ci := 9) (v := .ref (q2 0)) (C := RX9) (Tb := TX9) (N := 10) hx hb hts hu_9 hown hKW hP 0 rfl rfl 6 (by decide) hf_54 rfl rfl dX9_gap_75 ?_
                  refine lv_aload_n hx hb dX9_gap_78 rfl (lv_at hl 1 rfl) ?_
                  refine k_get (ci := 9) (v := .int (nI n)) (C := RX9) (Tb := TX9) (N := 10) hx hb hts hu_9 hown hKW hP 0 rfl rfl 9 (by decide) hf_72 rfl rfl dX9_gap_79 ?_
                  refine lv_iload_n hx hb dX9_gap_82 rfl (lv_at hl 2 rfl) ?_
                  have hs_83 : kSplit (wX9 q9 q4 q7 q8 q0 q6 q3 q2 q5 q1 cI cJ cB (nI n) ++ wX2 q2 cI cJ cB ((gjR (flC ml n cells_2 (n - 1)) (n - 1) (n - 1) (n - 1)).1) ((gjR (flC ml n cells_2 (n - 1)) (n - 1) (n - 1) (n - 1)).2) ++ wX4 q4 cI cJ cB parts_4 wins_4 draws_4 points_4 count_4 changes_4) (wX2 q2 cI cJ cB ((gjR (flC ml n cells_2 (n - 1)) (n - 1) (n - 1) (n - 1)).1) ((gjR (flC ml n cells_2 (n - 1)) (n - 1) (n - 1) (n - 1)).2)) (wX9 q9 q4 q7 q8 q0 q6 q3 q2 q5 q1 cI cJ cB (nI n) ++ wX4 q4 cI cJ cB parts_4 wins_4 draws_4 points_4 count_4 changes_4) [1, 2] [0, 3, 4, 5, 6, 7] := ⟨rfl, rfl, rfl, rfl, rfl, by decide⟩
                  refine kc_l hP hD hS hA hs_83 (kV (As := [.int (nI n), .int (nI x)]) (rest := []) hx hb hml hown hts hKW hP hD hs_83 (c_X2_numerator l D cI cJ cB q2 ((gjR (flC ml n cells_2 (n - 1)) (n - 1) (n - 1) (n - 1)).1) ((gjR (flC ml n cells_2 (n - 1)) (n - 1) (n - 1) (n - 1)).2) n x B9 hn1 c_23 hx2 hB0 hB63 hdet ((hG c_23 c_37).2.2 x hx2)) (cwV 2 hts gX9_gap_X2_numerator rfl rfl rfl (by decide +kernel) ⟨Nat.le_of_ble_eq_true rfl, Nat.le_of_ble_eq_true rfl⟩) 0 2 rfl rfl rfl rfl hl.1 rfl (Nat.le_of_ble_eq_true rfl) dX9_gap_83 ⟨Nat.zero_le _, Nat.zero_le _⟩) (fun r_83 u_83 H locs hw_83 hP hD hS => ?_)
                  have er_83 := hw_83
                  have er_83 := er_83.symm
                  subst er_83
                  have hP : va_P D vwCl (wX9 q9 q4 q7 q8 q0 q6 q3 q2 q5 q1 cI cJ cB (nI n) ++ wX2 q2 cI cJ cB ((gjR (flC ml n cells_2 (n - 1)) (n - 1) (n - 1) (n - 1)).1) ((gjR (flC ml n cells_2 (n - 1)) (n - 1) (n - 1) (n - 1)).2) ++ wX4 q4 cI cJ cB parts_4 wins_4 draws_4 points_4 count_4 changes_4) H := hP.sub (ws' := (wX9 q9 q4 q7 q8 q0 q6 q3 q2 q5 q1 cI cJ cB (nI n) ++ wX2 q2 cI cJ cB ((gjR (flC ml n cells_2 (n - 1)) (n - 1) (n - 1) (n - 1)).1) ((gjR (flC ml n cells_2 (n - 1)) (n - 1) (n - 1) (n - 1)).2) ++ wX4 q4 cI cJ cB parts_4 wins_4 draws_4 points_4 count_4 changes_4)) [0, 6, 7, 1, 2, 3, 4, 5] rfl
                  have hD : va_D A (wX9 q9 q4 q7 q8 q0 q6 q3 q2 q5 q1 cI cJ cB (nI n) ++ wX2 q2 cI cJ cB ((gjR (flC ml n cells_2 (n - 1)) (n - 1) (n - 1) (n - 1)).1) ((gjR (flC ml n cells_2 (n - 1)) (n - 1) (n - 1) (n - 1)).2) ++ wX4 q4 cI cJ cB parts_4 wins_4 draws_4 points_4 count_4 changes_4) := hD.sub (ws' := (wX9 q9 q4 q7 q8 q0 q6 q3 q2 q5 q1 cI cJ cB (nI n) ++ wX2 q2 cI cJ cB ((gjR (flC ml n cells_2 (n - 1)) (n - 1) (n - 1) (n - 1)).1) ((gjR (flC ml n cells_2 (n - 1)) (n - 1) (n - 1) (n - 1)).2) ++ wX4 q4 cI cJ cB parts_4 wins_4 draws_4 points_4 count_4 changes_4)) [0, 6, 7, 1, 2, 3, 4, 5] (by decide) rfl
                  refine lv_goto (tgt := 101) hx hb dX9_gap_86 (by decide) ?_
                  subst hQ; subst hAe
                  exact W.lret (v := (topF ((gjR (flC ml n cells_2 (n - 1)) (n - 1) (n - 1) (n - 1)).1) n x) / (lN (Nat.gcd (topF ((gjR (flC ml n cells_2 (n - 1)) (n - 1) (n - 1) (n - 1)).1) n x).toInt.natAbs B9))) hx hb hr (fun tt9 ht9 _ => ⟨⟨(topF ((gjR (flC ml n cells_2 (n - 1)) (n - 1) (n - 1) (n - 1)).1) n x) / (lN (Nat.gcd (topF ((gjR (flC ml n cells_2 (n - 1)) (n - 1) (n - 1) (n - 1)).1) n x).toInt.natAbs B9)), ((gjR (flC ml n cells_2 (n - 1)) (n - 1) (n - 1) (n - 1)).1, (gjR (flC ml n cells_2 (n - 1)) (n - 1) (n - 1) (n - 1)).2), rfl, by rw [if_pos ⟨(kIn_nI (by omega)).mpr hx2, (Or.inr c_14), c_23, c_37⟩, if_pos c_71, hdet, gcF_lN hB63, k_tt (by omega)], by rw [ht9]; exact hP, hD⟩, hS.F ht9⟩) hS.2.2 dX9_gap_101
              · skip
                have c_65 := k0_ne_n (by omega) c_65
                exact absurd c_65 (by decide)
