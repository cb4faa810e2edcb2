def rmX8_leastHindrance : Room := { frames := 2, cells := 0, slots := 0, locals := 47 }
set_option maxHeartbeats 4000000 in
set_option maxRecDepth 100000 in
theorem c_X8_leastHindrance (l : Launch) (D : va_G) (cI cJ cB : ClassId) (q8 : Nat → Nat) (q4 : Nat → Nat) (games_8 : Nat → Int32) (excess_8 : Nat → Int32) (count_8 : Int32) (parts_4 : Nat → Int32) (wins_4 : Nat → Int32) (draws_4 : Nat → Int32) (points_4 : Nat → Int32) (count_4 : Int32) (changes_4 : Int32) (ml : List Mt) (nx : List (Nat × Nat)) (n : Nat) (p1 : Nat) (hM : MR parts_4 wins_4 draws_4 points_4 ml) (hT : TC games_8 nx) (hn1 : 1 ≤ n) (hn10 : n ≤ 10) (hp1 : p1 < n) : ∀ sz, Met l yX8_leastHindrance wsX8_leastHindrance rmX8_leastHindrance (va_Pc [.ref (q8 0), .ref (q4 0), .int (nI n), .int (nI p1)] (PW D (kT cI cJ cB) sz (wX8 q8 cI cJ cB games_8 excess_8 count_8 ++ wX4 q4 cI cJ cB parts_4 wins_4 draws_4 points_4 count_4 changes_4))) (va_Qi (S := (Nat → Int32)) (fun r excess_8' => ∃ (e9 : Nat → Int32) (a9 : Nat), r = nI a9 ∧ ((a9 = 0 ∧ EXc ml nx n p1 e9 (2 ^ n) ∧ noP p1 e9 (2 ^ n)) ∨ (0 < a9 ∧ a9 < 2 ^ n ∧ EXc ml nx n p1 e9 (a9 + 1) ∧ ¬ a9.testBit p1 = true ∧ 0 < e9 a9 ∧ noP p1 e9 a9))) (QW D sz (wX8 q8 cI cJ cB games_8 excess_8 count_8 ++ wX4 q4 cI cJ cB parts_4 wins_4 draws_4 points_4 count_4 changes_4) (fun excess_8' => (wX8 q8 cI cJ cB games_8 excess_8' count_8 ++ wX4 q4 cI cJ cB parts_4 wins_4 draws_4 points_4 count_4 changes_4))) (va_A (wX8 q8 cI cJ cB games_8 excess_8 count_8 ++ wX4 q4 cI cJ cB parts_4 wins_4 draws_4 points_4 count_4 changes_4) sz)) 0 0 (va_A (wX8 q8 cI cJ cB games_8 excess_8 count_8 ++ wX4 q4 cI cJ cB parts_4 wins_4 draws_4 points_4 count_4 changes_4) sz) := by
  intro sz
  refine Met.ofW (cc := cX8_leastHindrance) (maxL := 8) (ret := (some .int)) (by decide) rfl ?_
  intro p e s m args below meth c s₁ B hml hv
  obtain ⟨hav, hsz, hP, hKW, hD0⟩ := hv
  have hx := B.exec
  have hb := B.bytes
  have hr := B.returns
  have hts := atoms_spec (ws := wsX8_leastHindrance) B.pre
  have hown : s.vm.findClass RX8 = some m.cls := findClass_of_methodNamed B.named
  have hlocks := B.notSynchronized
  subst hsz
  have hD := hD0.self (sz := s.heap.size)
  obtain ⟨A, hAe⟩ : ∃ A : Nat → Prop, A = va_A (wX8 q8 cI cJ cB games_8 excess_8 count_8 ++ wX4 q4 cI cJ cB parts_4 wins_4 draws_4 points_4 count_4 changes_4) s.heap.size := ⟨_, rfl⟩
  rw [← hAe] at hD
  have hA : ∀ q : Nat, s.heap.size ≤ q → A q := fun q h => by rw [hAe]; exact Or.inr h
  have hS : va_S A s.heap s.heap [] := va_S.rf
  refine k_gen (fun Q hQ => ?_)
  have hl := lv_entry ([.ref (q8 0), .ref (q4 0), .int (nI n), .int (nI p1)]) (n := 8) (Nat.le_of_ble_eq_true rfl)
  refine k_entry hav (lg_entry_eq ..) ?_
  generalize (lg_sl ([.ref (q8 0), .ref (q4 0), .int (nI n), .int (nI p1)]) ++ List.replicate (8 - (lg_sl ([.ref (q8 0), .ref (q4 0), .int (nI n), .int (nI p1)])).length) Slot.unset).toArray = ls at hl ⊢
  have hl : lv_has ls 8 [(0, .ref (q8 0)), (1, .ref (q4 0)), (2, .int (nI n)), (3, .int (nI p1))] := hl
  have hu_8 : ∀ w ∈ u_ws RX8 TX8 3, w ∈ wsX8_leastHindrance := by decide +kernel
  have hf_15 : Cond.fieldLink RX8 15 "MeetingRanks$ToCome" "excess" "[I" ∈ wsX8_leastHindrance := by decide +kernel
  have h2n := pow_le_1024 hn10
  have h2p := Nat.two_pow_pos n
  refine lv_aload_n hx hb dX8_leastHindrance_0 rfl (lv_at hl 0 rfl) ?_
  refine lv_aload_n hx hb dX8_leastHindrance_1 rfl (lv_at hl 1 rfl) ?_
  refine lv_iload_n hx hb dX8_leastHindrance_2 rfl (lv_at hl 2 rfl) ?_
  refine lv_iload_n hx hb dX8_leastHindrance_3 rfl (lv_at hl 3 rfl) ?_
  have hs_4 : kSplit (wX8 q8 cI cJ cB games_8 excess_8 count_8 ++ wX4 q4 cI cJ cB parts_4 wins_4 draws_4 points_4 count_4 changes_4) (wX8 q8 cI cJ cB games_8 excess_8 count_8 ++ wX4 q4 cI cJ cB parts_4 wins_4 draws_4 points_4 count_4 changes_4) ([] : va_W) [0, 1, 2, 3, 4, 5, 6, 7] [] := ⟨rfl, rfl, rfl, rfl, rfl, by decide⟩
  refine kc_i hP hD hS hA hs_4 (kV (As := [.ref (q4 0), .int (nI n), .int (nI p1)]) (rest := []) hx hb hml hown hts hKW hP hD hs_4 (c_X8_pointsOf l D cI cJ cB q8 q4 games_8 excess_8 count_8 parts_4 wins_4 draws_4 points_4 count_4 changes_4 ml n p1 (by first | assumption | omega) (by first | assumption | omega) (by first | assumption | omega)) (cwV 3 hts gX8_leastHindrance_X8_pointsOf rfl rfl rfl (by decide +kernel) ⟨Nat.le_of_ble_eq_true rfl, Nat.le_of_ble_eq_true rfl⟩) 0 8 rfl rfl rfl rfl hl.1 rfl (Nat.le_of_ble_eq_true rfl) dX8_leastHindrance_4 ⟨Nat.zero_le _, Nat.zero_le _⟩) (fun r_4 u_4 H locs hw_4 hP hD hS => ?_)
  have er_4 := hw_4
  have er_4 := er_4.symm
  subst er_4
  have hP : va_P D vwCl (wX8 q8 cI cJ cB games_8 excess_8 count_8 ++ wX4 q4 cI cJ cB parts_4 wins_4 draws_4 points_4 count_4 changes_4) H := hP.sub (ws' := (wX8 q8 cI cJ cB games_8 excess_8 count_8 ++ wX4 q4 cI cJ cB parts_4 wins_4 draws_4 points_4 count_4 changes_4)) [0, 1, 2, 3, 4, 5, 6, 7] rfl
  have hD : va_D A (wX8 q8 cI cJ cB games_8 excess_8 count_8 ++ wX4 q4 cI cJ cB parts_4 wins_4 draws_4 points_4 count_4 changes_4) := hD.sub (ws' := (wX8 q8 cI cJ cB games_8 excess_8 count_8 ++ wX4 q4 cI cJ cB parts_4 wins_4 draws_4 points_4 count_4 changes_4)) [0, 1, 2, 3, 4, 5, 6, 7] (by decide) rfl
  refine lv_iconst (v := nI 2) hx hb dX8_leastHindrance_7 (by decide) ?_
  refine lv_aload_n hx hb dX8_leastHindrance_8 rfl (lv_at hl 0 rfl) ?_
  refine lv_iload_n hx hb dX8_leastHindrance_9 rfl (lv_at hl 3 rfl) ?_
  refine lv_iload_n hx hb dX8_leastHindrance_10 rfl (lv_at hl 2 rfl) ?_
  have hs_11 : kSplit (wX8 q8 cI cJ cB games_8 excess_8 count_8 ++ wX4 q4 cI cJ cB parts_4 wins_4 draws_4 points_4 count_4 changes_4) ([] : va_W) (wX8 q8 cI cJ cB games_8 excess_8 count_8 ++ wX4 q4 cI cJ cB parts_4 wins_4 draws_4 points_4 count_4 changes_4) [] [0, 1, 2, 3, 4, 5, 6, 7] := ⟨rfl, rfl, rfl, rfl, rfl, by decide⟩
  refine kc_i hP hD hS hA hs_11 (kSN (n := 1) (As := [.int (nI n)]) (rest := [.int (nI p1), .ref (q8 0), .int (nI 2), .int (hpI ml n p1)]) (host := "MeetingRanks") hx hb hml hown hts hKW hP hD hs_11 (c_X9_everyone l D cI cJ cB n (by first | assumption | omega)) gX8_leastHindrance_X9_everyone_n26 rfl rfl rfl (by decide +kernel) (by decide +kernel) (by decide +kernel) (by decide +kernel) ⟨Nat.le_of_ble_eq_true rfl, Nat.le_of_ble_eq_true rfl⟩ rfl hl.1 rfl (Nat.le_of_ble_eq_true rfl) dX8_leastHindrance_11 ⟨Nat.zero_le _, Nat.zero_le _⟩) (fun r_11 u_11 H locs hw_11 hP hD hS => ?_)
  have er_11 := hw_11
  have er_11 := er_11.symm
  subst er_11
  have hP : va_P D vwCl (wX8 q8 cI cJ cB games_8 excess_8 count_8 ++ wX4 q4 cI cJ cB parts_4 wins_4 draws_4 points_4 count_4 changes_4) H := hP.sub (ws' := (wX8 q8 cI cJ cB games_8 excess_8 count_8 ++ wX4 q4 cI cJ cB parts_4 wins_4 draws_4 points_4 count_4 changes_4)) [0, 1, 2, 3, 4, 5, 6, 7] rfl
  have hD : va_D A (wX8 q8 cI cJ cB games_8 excess_8 count_8 ++ wX4 q4 cI cJ cB parts_4 wins_4 draws_4 points_4 count_4 changes_4) := hD.sub (ws' := (wX8 q8 cI cJ cB games_8 excess_8 count_8 ++ wX4 q4 cI cJ cB parts_4 wins_4 draws_4 points_4 count_4 changes_4)) [0, 1, 2, 3, 4, 5, 6, 7] (by decide) rfl
  refine lv_iload_n hx hb dX8_leastHindrance_14 rfl (lv_at hl 2 rfl) ?_
  have hs_15 : kSplit (wX8 q8 cI cJ cB games_8 excess_8 count_8 ++ wX4 q4 cI cJ cB parts_4 wins_4 draws_4 points_4 count_4 changes_4) (wX8 q8 cI cJ cB games_8 excess_8 count_8) (wX4 q4 cI cJ cB parts_4 wins_4 draws_4 points_4 count_4 changes_4) [0, 1, 2] [3, 4, 5, 6, 7] := ⟨rfl, rfl, rfl, rfl, rfl, by decide⟩
  refine kc_i hP hD hS hA hs_15 (kV (As := [.int (nI p1), .int (nI (2 ^ n - 1)), .int (nI n)]) (rest := [.int (nI 2), .int (hpI ml n p1)]) hx hb hml hown hts hKW hP hD hs_15 (c_X8_gamesWith l D cI cJ cB q8 games_8 excess_8 count_8 nx p1 (2 ^ n - 1) n (by first | assumption | omega) (by first | assumption | omega) (by first | assumption | omega) (by omega)) (cwV 3 hts gX8_leastHindrance_X8_gamesWith rfl rfl rfl (by decide +kernel) ⟨Nat.le_of_ble_eq_true rfl, Nat.le_of_ble_eq_true rfl⟩) 0 8 rfl rfl rfl rfl hl.1 rfl (Nat.le_of_ble_eq_true rfl) dX8_leastHindrance_15 ⟨Nat.zero_le _, Nat.zero_le _⟩) (fun r_15 u_15 H locs hw_15 hP hD hS => ?_)
  have er_15 := hw_15
  have er_15 := er_15.symm
  subst er_15
  have hP : va_P D vwCl (wX8 q8 cI cJ cB games_8 excess_8 count_8 ++ wX4 q4 cI cJ cB parts_4 wins_4 draws_4 points_4 count_4 changes_4) H := hP.sub (ws' := (wX8 q8 cI cJ cB games_8 excess_8 count_8 ++ wX4 q4 cI cJ cB parts_4 wins_4 draws_4 points_4 count_4 changes_4)) [5, 6, 7, 0, 1, 2, 3, 4] rfl
  have hD : va_D A (wX8 q8 cI cJ cB games_8 excess_8 count_8 ++ wX4 q4 cI cJ cB parts_4 wins_4 draws_4 points_4 count_4 changes_4) := hD.sub (ws' := (wX8 q8 cI cJ cB games_8 excess_8 count_8 ++ wX4 q4 cI cJ cB parts_4 wins_4 draws_4 points_4 count_4 changes_4)) [5, 6, 7, 0, 1, 2, 3, 4] (by decide) rfl
  refine lv_imul hx hb dX8_leastHindrance_18 ?_
  refine lv_iadd hx hb dX8_leastHindrance_19 ?_
  refine k_top (y := lmN ml nx n p1) (rfl) ?_
  refine lv_istore (lv' := [(4, .int (lmN ml nx n p1)), (0, .ref (q8 0)), (1, .ref (q4 0)), (2, .int (nI n)), (3, .int (nI p1))]) hx hb dX8_leastHindrance_20 hl (by decide) rfl (fun ls hl => ?_)
  refine lv_aload_n hx hb dX8_leastHindrance_22 rfl (lv_at hl 1 rfl) ?_
  refine k_get (ci := 8) (v := .ref (q8 2)) (C := RX8) (Tb := TX8) (N := 3) hx hb hts hu_8 hown hKW hP 0 rfl rfl 1 (by decide) hf_15 rfl rfl dX8_leastHindrance_23 ?_
  refine lv_iconst (v := nI 0) hx hb dX8_leastHindrance_26 (by decide) ?_
  refine lv_iconst (v := nI 0) hx hb dX8_leastHindrance_27 (by decide) ?_
  refine k_iast (n := 1024) (i := 0) (x := nI 0) (w' := (wX8 q8 cI cJ cB games_8 (upd excess_8 0 (nI 0)) count_8 ++ wX4 q4 cI cJ cB parts_4 wins_4 draws_4 points_4 count_4 changes_4)) hx hb hKW hP hD hS 2 0 rfl rfl (by omega) (by omega) dX8_leastHindrance_28 rfl (fun H locs hP hD hS => ?_)
  refine lv_iconst (v := nI 1) hx hb dX8_leastHindrance_29 (by decide) ?_
  refine lv_istore (lv' := [(5, .int (nI 1)), (4, .int (lmN ml nx n p1)), (0, .ref (q8 0)), (1, .ref (q4 0)), (2, .int (nI n)), (3, .int (nI p1))]) hx hb dX8_leastHindrance_30 hl (by decide) rfl (fun ls hl => ?_)
  have hL_32 : ∀ (fu : Nat) (S : Nat) (f : Nat → Int32) (hS1 : 1 ≤ S) (hS2 : S ≤ 2 ^ n) (hE : EXc ml nx n p1 f S) (hN : noP p1 f S), 2 ^ n - S < fu → ∀ (H : Heap) (locs : List Loc), va_P D vwCl (wX8 q8 cI cJ cB games_8 f count_8 ++ wX4 q4 cI cJ cB parts_4 wins_4 draws_4 points_4 count_4 changes_4) H → va_D A (wX8 q8 cI cJ cB games_8 f count_8 ++ wX4 q4 cI cJ cB parts_4 wins_4 draws_4 points_4 count_4 changes_4) → va_S A s.heap H locs → ∀ (ls : Array Slot), lv_has ls 8 [(0, .ref (q8 0)), (1, .ref (q4 0)), (2, .int (nI n)), (3, .int (nI p1)), (4, .int (lmN ml nx n p1)), (5, .int (nI S))] → W p l e (headSpec wsX8_leastHindrance rmX8_leastHindrance).room s m args below meth c H locs 0 0 Q (F0 m 32 ls []) := by
    intro fu
    induction fu with
    | zero => intro S f hS1 hS2 hE hN hfu; exact absurd hfu (Nat.not_lt_zero _)
    | succ fu ih_32 =>
      intro S f hS1 hS2 hE hN hfu H locs hP hD hS ls hl
      refine lv_iload hx hb dX8_leastHindrance_32 (lv_at hl 5 rfl) ?_
      refine lv_iload_n hx hb dX8_leastHindrance_34 rfl (lv_at hl 2 rfl) ?_
      have hs_35 : kSplit (wX8 q8 cI cJ cB games_8 f count_8 ++ wX4 q4 cI cJ cB parts_4 wins_4 draws_4 points_4 count_4 changes_4) ([] : va_W) (wX8 q8 cI cJ cB games_8 f count_8 ++ wX4 q4 cI cJ cB parts_4 wins_4 draws_4 points_4 count_4 changes_4) [] [0, 1, 2, 3, 4, 5, 6, 7] := ⟨rfl, rfl, rfl, rfl, rfl, by decide⟩
      refine kc_i hP hD hS hA hs_35 (kSN (n := 1) (As := [.int (nI n)]) (rest := [.int (nI S)]) (host := "MeetingRanks") hx hb hml hown hts hKW hP hD hs_35 (c_X9_everyone l D cI cJ cB n (by first | assumption | omega)) gX8_leastHindrance_X9_everyone_n26 rfl rfl rfl (by decide +kernel) (by decide +kernel) (by decide +kernel) (by decide +kernel) ⟨Nat.le_of_ble_eq_true rfl, Nat.le_of_ble_eq_true rfl⟩ rfl hl.1 rfl (Nat.le_of_ble_eq_true rfl) dX8_leastHindrance_35 ⟨Nat.zero_le _, Nat.zero_le _⟩) (fun r_35 u_35 H locs hw_35 hP hD hS => ?_)
      have er_35 := hw_35
      have er_35 := er_35.symm
      subst er_35
      have hP : va_P D vwCl (wX8 q8 cI cJ cB games_8 f count_8 ++ wX4 q4 cI cJ cB parts_4 wins_4 draws_4 points_4 count_4 changes_4) H := hP.sub (ws' := (wX8 q8 cI cJ cB games_8 f count_8 ++ wX4 q4 cI cJ cB parts_4 wins_4 draws_4 points_4 count_4 changes_4)) [0, 1, 2, 3, 4, 5, 6, 7] rfl
      have hD : va_D A (wX8 q8 cI cJ cB games_8 f count_8 ++ wX4 q4 cI cJ cB parts_4 wins_4 draws_4 points_4 count_4 changes_4) := hD.sub (ws' := (wX8 q8 cI cJ cB games_8 f count_8 ++ wX4 q4 cI cJ cB parts_4 wins_4 draws_4 points_4 count_4 changes_4)) [0, 1, 2, 3, 4, 5, 6, 7] (by decide) rfl
      refine lv_icmp_gt (tgt := 123) hx hb dX8_leastHindrance_38 (by decide) (fun c_38 => ?_) (fun c_38 => ?_)
      · skip
        have c_38 := k_gt (by omega) (by omega) c_38
        obtain rfl : S = 2 ^ n := by omega
        refine lv_iconst (v := nI 0) hx hb dX8_leastHindrance_123 (by decide) ?_
        subst hQ; subst hAe
        exact W.iret (v := nI 0) hx hb hr (fun tt9 ht9 _ => ⟨⟨nI 0, (f), rfl, ⟨f, 0, rfl, Or.inl ⟨rfl, hE, hN⟩⟩, by rw [ht9]; exact hP, hD⟩, hS.F ht9⟩) hS.2.2 dX8_leastHindrance_124
      · skip
        have c_38 := k_gt_n (by omega) (by omega) c_38
        have htz9 := tzF_lt (S := S) (n := n) (by omega) (by omega) hn10
        have han9 := and_lt (S := S) (by omega)
        refine lv_iload hx hb dX8_leastHindrance_41 (lv_at hl 5 rfl) ?_
        refine lv_iload_n hx hb dX8_leastHindrance_43 rfl (lv_at hl 3 rfl) ?_
        have hs_44 : kSplit (wX8 q8 cI cJ cB games_8 f count_8 ++ wX4 q4 cI cJ cB parts_4 wins_4 draws_4 points_4 count_4 changes_4) ([] : va_W) (wX8 q8 cI cJ cB games_8 f count_8 ++ wX4 q4 cI cJ cB parts_4 wins_4 draws_4 points_4 count_4 changes_4) [] [0, 1, 2, 3, 4, 5, 6, 7] := ⟨rfl, rfl, rfl, rfl, rfl, by decide⟩
        refine kc_i hP hD hS hA hs_44 (kSN (n := 2) (As := [.int (nI S), .int (nI p1)]) (rest := []) (host := "MeetingRanks") hx hb hml hown hts hKW hP hD hs_44 (c_X9_isIn l D cI cJ cB S p1 (by omega) (by omega)) gX8_leastHindrance_X9_isIn_n34 rfl rfl rfl (by decide +kernel) (by decide +kernel) (by decide +kernel) (by decide +kernel) ⟨Nat.le_of_ble_eq_true rfl, Nat.le_of_ble_eq_true rfl⟩ rfl hl.1 rfl (Nat.le_of_ble_eq_true rfl) dX8_leastHindrance_44 ⟨Nat.zero_le _, Nat.zero_le _⟩) (fun r_44 u_44 H locs hw_44 hP hD hS => ?_)
        have er_44 := hw_44
        have er_44 := er_44.symm
        subst er_44
        have hP : va_P D vwCl (wX8 q8 cI cJ cB games_8 f count_8 ++ wX4 q4 cI cJ cB parts_4 wins_4 draws_4 points_4 count_4 changes_4) H := hP.sub (ws' := (wX8 q8 cI cJ cB games_8 f count_8 ++ wX4 q4 cI cJ cB parts_4 wins_4 draws_4 points_4 count_4 changes_4)) [0, 1, 2, 3, 4, 5, 6, 7] rfl
        have hD : va_D A (wX8 q8 cI cJ cB games_8 f count_8 ++ wX4 q4 cI cJ cB parts_4 wins_4 draws_4 points_4 count_4 changes_4) := hD.sub (ws' := (wX8 q8 cI cJ cB games_8 f count_8 ++ wX4 q4 cI cJ cB parts_4 wins_4 draws_4 points_4 count_4 changes_4)) [0, 1, 2, 3, 4, 5, 6, 7] (by decide) rfl
        refine lv_if_ne (tgt := 117) hx hb dX8_leastHindrance_47 (by decide) (fun c_47 => ?_) (fun c_47 => ?_)
        · skip
          have c_47 := k_b1 c_47
          refine lv_iinc (v := nI (S + 1)) (lv' := [(5, .int (nI (S + 1))), (0, .ref (q8 0)), (1, .ref (q4 0)), (2, .int (nI n)), (3, .int (nI p1)), (4, .int (lmN ml nx n p1))]) hx hb dX8_leastHindrance_117 hl (k := 5) rfl (nI_add _ _) (by decide) rfl (fun ls hl => ?_)
          refine lv_goto (tgt := 32) hx hb dX8_leastHindrance_120 (by decide) ?_
          exact ih_32 _ _ (by omega) (by omega) (EXc_skip c_47 hE) (noP_skip c_47 hN) (by omega) _ _ hP hD hS ls (lv_sub hl [1, 2, 3, 4, 5, 0] rfl)
        · skip
          have c_47 := k_b0 c_47
          refine lv_iload hx hb dX8_leastHindrance_50 (lv_at hl 5 rfl) ?_
          have hs_52 : kSplit (wX8 q8 cI cJ cB games_8 f count_8 ++ wX4 q4 cI cJ cB parts_4 wins_4 draws_4 points_4 count_4 changes_4) ([] : va_W) (wX8 q8 cI cJ cB games_8 f count_8 ++ wX4 q4 cI cJ cB parts_4 wins_4 draws_4 points_4 count_4 changes_4) [] [0, 1, 2, 3, 4, 5, 6, 7] := ⟨rfl, rfl, rfl, rfl, rfl, by decide⟩
          refine kc_i hP hD hS hA hs_52 (kS (As := [.int (nI S)]) (rest := []) hx hb hml hown hts hKW hP hD hs_52 (c_J6_numberOfTrailingZeros_0f7a4 l D cI cJ cB S (by omega) (by omega)) (va_cwS 1 hts gX8_leastHindrance_J6_numberOfTrailingZeros_0f7a4 rfl rfl rfl (by decide +kernel) ⟨Nat.le_of_ble_eq_true rfl, Nat.le_of_ble_eq_true rfl⟩) rfl hl.1 rfl (Nat.le_of_ble_eq_true rfl) dX8_leastHindrance_52 ⟨Nat.zero_le _, Nat.zero_le _⟩) (fun r_52 u_52 H locs hw_52 hP hD hS => ?_)
          have er_52 := hw_52
          have er_52 := er_52.symm
          subst er_52
          have hP : va_P D vwCl (wX8 q8 cI cJ cB games_8 f count_8 ++ wX4 q4 cI cJ cB parts_4 wins_4 draws_4 points_4 count_4 changes_4) H := hP.sub (ws' := (wX8 q8 cI cJ cB games_8 f count_8 ++ wX4 q4 cI cJ cB parts_4 wins_4 draws_4 points_4 count_4 changes_4)) [0, 1, 2, 3, 4, 5, 6, 7] rfl
          have hD : va_D A (wX8 q8 cI cJ cB games_8 f count_8 ++ wX4 q4 cI cJ cB parts_4 wins_4 draws_4 points_4 count_4 changes_4) := hD.sub (ws' := (wX8 q8 cI cJ cB games_8 f count_8 ++ wX4 q4 cI cJ cB parts_4 wins_4 draws_4 points_4 count_4 changes_4)) [0, 1, 2, 3, 4, 5, 6, 7] (by decide) rfl
          refine lv_istore (lv' := [(6, .int (nI (tzF S))), (0, .ref (q8 0)), (1, .ref (q4 0)), (2, .int (nI n)), (3, .int (nI p1)), (4, .int (lmN ml nx n p1)), (5, .int (nI S))]) hx hb dX8_leastHindrance_55 hl (by decide) rfl (fun ls hl => ?_)
          refine lv_iload hx hb dX8_leastHindrance_57 (lv_at hl 6 rfl) ?_
          refine lv_iload hx hb dX8_leastHindrance_59 (lv_at hl 6 rfl) ?_
          refine lv_iconst (v := nI 1) hx hb dX8_leastHindrance_61 (by decide) ?_
          refine k_isub hx hb (by omega) dX8_leastHindrance_62 ?_
          refine lv_iand hx hb dX8_leastHindrance_63 ?_
          refine k_top (y := nI (S &&& (S - 1))) (k_and _ _) ?_
          refine lv_istore (lv' := [(7, .int (nI (S &&& (S - 1)))), (6, .int (nI (tzF S))), (0, .ref (q8 0)), (1, .ref (q4 0)), (2, .int (nI n)), (3, .int (nI p1)), (4, .int (lmN ml nx n p1)), (5, .int (nI S))]) hx hb dX8_leastHindrance_64 hl (by decide) rfl (fun ls hl => ?_)
          refine lv_aload_n hx hb dX8_leastHindrance_66 rfl (lv_at hl 2 rfl) ?_
          refine k_get (ci := 8) (v := .ref (q8 2)) (C := RX8) (Tb := TX8) (N := 3) hx hb hts hu_8 hown hKW hP 0 rfl rfl 1 (by decide) hf_15 rfl rfl dX8_leastHindrance_67 ?_
          refine lv_iload hx hb dX8_leastHindrance_70 (lv_at hl 7 rfl) ?_
          refine lv_aload_n hx hb dX8_leastHindrance_72 rfl (lv_at hl 2 rfl) ?_
          refine k_get (ci := 8) (v := .ref (q8 2)) (C := RX8) (Tb := TX8) (N := 3) hx hb hts hu_8 hown hKW hP 0 rfl rfl 1 (by decide) hf_15 rfl rfl dX8_leastHindrance_73 ?_
          refine lv_iload hx hb dX8_leastHindrance_76 (lv_at hl 0 rfl) ?_
          refine k_iald (n := 1024) (i := S &&& (S - 1)) hx hb hKW hP 2 0 rfl rfl (by omega) (by omega) dX8_leastHindrance_78 ?_
          refine lv_aload_n hx hb dX8_leastHindrance_79 rfl (lv_at hl 2 rfl) ?_
          refine lv_aload_n hx hb dX8_leastHindrance_80 rfl (lv_at hl 3 rfl) ?_
          refine lv_iload_n hx hb dX8_leastHindrance_81 rfl (lv_at hl 4 rfl) ?_
          refine lv_iload hx hb dX8_leastHindrance_82 (lv_at hl 1 rfl) ?_
          have hs_84 : kSplit (wX8 q8 cI cJ cB games_8 f count_8 ++ wX4 q4 cI cJ cB parts_4 wins_4 draws_4 points_4 count_4 changes_4) (wX8 q8 cI cJ cB games_8 f count_8 ++ wX4 q4 cI cJ cB parts_4 wins_4 draws_4 points_4 count_4 changes_4) ([] : va_W) [0, 1, 2, 3, 4, 5, 6, 7] [] := ⟨rfl, rfl, rfl, rfl, rfl, by decide⟩
          refine kc_i hP hD hS hA hs_84 (kV (As := [.ref (q4 0), .int (nI n), .int (nI (tzF S))]) (rest := [.int (f (S &&& (S - 1))), .int (nI S), .ref (q8 2)]) hx hb hml hown hts hKW hP hD hs_84 (c_X8_pointsOf l D cI cJ cB q8 q4 games_8 f count_8 parts_4 wins_4 draws_4 points_4 count_4 changes_4 ml n (tzF S) (by first | assumption | omega) (by first | assumption | omega) (by omega)) (cwV 3 hts gX8_leastHindrance_X8_pointsOf rfl rfl rfl (by decide +kernel) ⟨Nat.le_of_ble_eq_true rfl, Nat.le_of_ble_eq_true rfl⟩) 0 8 rfl rfl rfl rfl hl.1 rfl (Nat.le_of_ble_eq_true rfl) dX8_leastHindrance_84 ⟨Nat.zero_le _, Nat.zero_le _⟩) (fun r_84 u_84 H locs hw_84 hP hD hS => ?_)
          have er_84 := hw_84
          have er_84 := er_84.symm
          subst er_84
          have hP : va_P D vwCl (wX8 q8 cI cJ cB games_8 f count_8 ++ wX4 q4 cI cJ cB parts_4 wins_4 draws_4 points_4 count_4 changes_4) H := hP.sub (ws' := (wX8 q8 cI cJ cB games_8 f count_8 ++ wX4 q4 cI cJ cB parts_4 wins_4 draws_4 points_4 count_4 changes_4)) [0, 1, 2, 3, 4, 5, 6, 7] rfl
          have hD : va_D A (wX8 q8 cI cJ cB games_8 f count_8 ++ wX4 q4 cI cJ cB parts_4 wins_4 draws_4 points_4 count_4 changes_4) := hD.sub (ws' := (wX8 q8 cI cJ cB games_8 f count_8 ++ wX4 q4 cI cJ cB parts_4 wins_4 draws_4 points_4 count_4 changes_4)) [0, 1, 2, 3, 4, 5, 6, 7] (by decide) rfl
          refine lv_iadd hx hb dX8_leastHindrance_87 ?_
          refine lv_iload hx hb dX8_leastHindrance_88 (lv_at hl 6 rfl) ?_
          refine lv_isub hx hb dX8_leastHindrance_90 ?_
          refine lv_iconst (v := nI 2) hx hb dX8_leastHindrance_91 (by decide) ?_
          refine lv_aload_n hx hb dX8_leastHindrance_92 rfl (lv_at hl 2 rfl) ?_
          refine lv_iload hx hb dX8_leastHindrance_93 (lv_at hl 1 rfl) ?_
          refine lv_iload hx hb dX8_leastHindrance_95 (lv_at hl 0 rfl) ?_
          refine lv_iload_n hx hb dX8_leastHindrance_97 rfl (lv_at hl 4 rfl) ?_
          have hs_98 : kSplit (wX8 q8 cI cJ cB games_8 f count_8 ++ wX4 q4 cI cJ cB parts_4 wins_4 draws_4 points_4 count_4 changes_4) (wX8 q8 cI cJ cB games_8 f count_8) (wX4 q4 cI cJ cB parts_4 wins_4 draws_4 points_4 count_4 changes_4) [0, 1, 2] [3, 4, 5, 6, 7] := ⟨rfl, rfl, rfl, rfl, rfl, by decide⟩
          refine kc_i hP hD hS hA hs_98 (kV (As := [.int (nI (tzF S)), .int (nI (S &&& (S - 1))), .int (nI n)]) (rest := [.int (nI 2), .int (((f (S &&& (S - 1))) + (hpI ml n (tzF S))) - (lmN ml nx n p1)), .int (nI S), .ref (q8 2)]) hx hb hml hown hts hKW hP hD hs_98 (c_X8_gamesWith l D cI cJ cB q8 games_8 f count_8 nx (tzF S) (S &&& (S - 1)) n (by first | assumption | omega) (by first | assumption | omega) (by omega) (by omega)) (cwV 3 hts gX8_leastHindrance_X8_gamesWith rfl rfl rfl (by decide +kernel) ⟨Nat.le_of_ble_eq_true rfl, Nat.le_of_ble_eq_true rfl⟩) 0 8 rfl rfl rfl rfl hl.1 rfl (Nat.le_of_ble_eq_true rfl) dX8_leastHindrance_98 ⟨Nat.zero_le _, Nat.zero_le _⟩) (fun r_98 u_98 H locs hw_98 hP hD hS => ?_)
          have er_98 := hw_98
          have er_98 := er_98.symm
          subst er_98
          have hP : va_P D vwCl (wX8 q8 cI cJ cB games_8 f count_8 ++ wX4 q4 cI cJ cB parts_4 wins_4 draws_4 points_4 count_4 changes_4) H := hP.sub (ws' := (wX8 q8 cI cJ cB games_8 f count_8 ++ wX4 q4 cI cJ cB parts_4 wins_4 draws_4 points_4 count_4 changes_4)) [5, 6, 7, 0, 1, 2, 3, 4] rfl
          have hD : va_D A (wX8 q8 cI cJ cB games_8 f count_8 ++ wX4 q4 cI cJ cB parts_4 wins_4 draws_4 points_4 count_4 changes_4) := hD.sub (ws' := (wX8 q8 cI cJ cB games_8 f count_8 ++ wX4 q4 cI cJ cB parts_4 wins_4 draws_4 points_4 count_4 changes_4)) [5, 6, 7, 0, 1, 2, 3, 4] (by decide) rfl
          refine lv_imul hx hb dX8_leastHindrance_101 ?_
          refine lv_iadd hx hb dX8_leastHindrance_102 ?_
          refine k_top (y := exN ml nx n p1 f S) (rfl) ?_
          refine k_iast (n := 1024) (i := S) (x := exN ml nx n p1 f S) (w' := (wX8 q8 cI cJ cB games_8 (upd f S (exN ml nx n p1 f S)) count_8 ++ wX4 q4 cI cJ cB parts_4 wins_4 draws_4 points_4 count_4 changes_4)) hx hb hKW hP hD hS 2 0 rfl rfl (by omega) (by omega) dX8_leastHindrance_103 rfl (fun H locs hP hD hS => ?_)
          refine lv_aload_n hx hb dX8_leastHindrance_104 rfl (lv_at hl 2 rfl) ?_
          refine k_get (ci := 8) (v := .ref (q8 2)) (C := RX8) (Tb := TX8) (N := 3) hx hb hts hu_8 hown hKW hP 0 rfl rfl 1 (by decide) hf_15 rfl rfl dX8_leastHindrance_105 ?_
          refine lv_iload hx hb dX8_leastHindrance_108 (lv_at hl 7 rfl) ?_
          refine k_iald (n := 1024) (i := S) hx hb hKW hP 2 0 rfl rfl (by omega) (by omega) dX8_leastHindrance_110 ?_
          refine k_top (y := exN ml nx n p1 f S) (pk_us) ?_
          refine lv_if_le (tgt := 117) hx hb dX8_leastHindrance_111 (by decide) (fun c_111 => ?_) (fun c_111 => ?_)
          · skip
            refine lv_iinc (v := nI (S + 1)) (lv' := [(5, .int (nI (S + 1))), (7, .int (nI (S &&& (S - 1)))), (6, .int (nI (tzF S))), (0, .ref (q8 0)), (1, .ref (q4 0)), (2, .int (nI n)), (3, .int (nI p1)), (4, .int (lmN ml nx n p1))]) hx hb dX8_leastHindrance_117 hl (k := 7) rfl (nI_add _ _) (by decide) rfl (fun ls hl => ?_)
            refine lv_goto (tgt := 32) hx hb dX8_leastHindrance_120 (by decide) ?_
            exact ih_32 _ _ (by omega) (by omega) (EXc_upd (by omega) hE) (noP_upd (k_nlt c_111) hN) (by omega) _ _ hP hD hS ls (lv_sub hl [3, 4, 5, 6, 7, 0] rfl)
          · skip
            refine lv_iload hx hb dX8_leastHindrance_114 (lv_at hl 7 rfl) ?_
            subst hQ; subst hAe
            exact W.iret (v := nI S) hx hb hr (fun tt9 ht9 _ => ⟨⟨nI S, (upd f S (exN ml nx n p1 f S)), rfl, ⟨_, S, rfl, Or.inr ⟨by omega, by omega, EXc_upd (by omega) hE, c_47, by rw [pk_us]; exact k_nle c_111, noP_upd0 hN⟩⟩, by rw [ht9]; exact hP, hD⟩, hS.F ht9⟩) hS.2.2 dX8_leastHindrance_116
  exact hL_32 _ 1 _ (Nat.le_refl _) (by omega) (⟨pk_us, fun T h1 h2 => absurd h1 (by omega)⟩) (fun T h1 h2 => absurd h1 (by omega)) (Nat.lt_succ_self _) _ _ hP hD hS ls (lv_sub hl [2, 3, 4, 5, 1, 0] rfl)
