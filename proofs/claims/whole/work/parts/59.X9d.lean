def rmX9_may : Room := { frames := 3, cells := 0, slots := 0, locals := 74 }
set_option maxHeartbeats 4000000 in
set_option maxRecDepth 100000 in
theorem c_X9_may (l : Launch) (D : va_G) (cI cJ cB : ClassId) (q9 : Nat → Nat) (q4 : Nat → Nat) (q7 : Nat → Nat) (q8 : Nat → Nat) (q0 : Nat → Nat) (q6 : Nat → Nat) (q3 : Nat → Nat) (q2 : Nat → Nat) (q5 : Nat → Nat) (q1 : Nat → Nat) (games_8 : Nat → Int32) (excess_8 : Nat → Int32) (count_8 : Int32) (parts_4 : Nat → Int32) (wins_4 : Nat → Int32) (draws_4 : Nat → Int32) (points_4 : Nat → Int32) (count_4 : Int32) (changes_4 : Int32) (ml : List Mt) (n : Nat) (nx : List (Nat × Nat)) (x : Int32) (hM : MR parts_4 wins_4 draws_4 points_4 ml) (hm120 : ml.length ≤ 120) (hn1 : 1 ≤ n) (hn10 : n ≤ 10) (hT : TC games_8 nx) : ∀ sz, Met l yX9_may wsX9_may rmX9_may (va_Pc [.ref (q9 0), .int x] (PW D (kT cI cJ cB) sz (wX9 q9 q4 q7 q8 q0 q6 q3 q2 q5 q1 cI cJ cB (nI n) ++ wX8 q8 cI cJ cB games_8 excess_8 count_8 ++ wX4 q4 cI cJ cB parts_4 wins_4 draws_4 points_4 count_4 changes_4))) (va_Qi (S := (Nat → Int32)) (fun r excess_8' => ∃ (e9 : Nat → Int32) (a9 : Nat), r = (if kIn x n then (if a9 = 0 then 1 else 0) else -1) ∧ (kIn x n → ((a9 = 0 ∧ EXc ml nx n x.toInt.toNat e9 (2 ^ n) ∧ noP x.toInt.toNat e9 (2 ^ n)) ∨ (0 < a9 ∧ a9 < 2 ^ n ∧ EXc ml nx n x.toInt.toNat e9 (a9 + 1) ∧ ¬ a9.testBit x.toInt.toNat = true ∧ 0 < e9 a9 ∧ noP x.toInt.toNat e9 a9)))) (QW D sz (wX9 q9 q4 q7 q8 q0 q6 q3 q2 q5 q1 cI cJ cB (nI n) ++ wX8 q8 cI cJ cB games_8 excess_8 count_8 ++ wX4 q4 cI cJ cB parts_4 wins_4 draws_4 points_4 count_4 changes_4) (fun excess_8' => (wX9 q9 q4 q7 q8 q0 q6 q3 q2 q5 q1 cI cJ cB (nI n) ++ wX8 q8 cI cJ cB games_8 excess_8' count_8 ++ wX4 q4 cI cJ cB parts_4 wins_4 draws_4 points_4 count_4 changes_4))) (va_A (wX9 q9 q4 q7 q8 q0 q6 q3 q2 q5 q1 cI cJ cB (nI n) ++ wX8 q8 cI cJ cB games_8 excess_8 count_8 ++ wX4 q4 cI cJ cB parts_4 wins_4 draws_4 points_4 count_4 changes_4) sz)) 0 0 (va_A (wX9 q9 q4 q7 q8 q0 q6 q3 q2 q5 q1 cI cJ cB (nI n) ++ wX8 q8 cI cJ cB games_8 excess_8 count_8 ++ wX4 q4 cI cJ cB parts_4 wins_4 draws_4 points_4 count_4 changes_4) sz) := by
  intro sz
  refine Met.ofW (cc := cX9_may) (maxL := 2) (ret := (some .int)) (by decide) rfl ?_
  intro p e s m args below meth c s₁ B hml hv
  obtain ⟨hav, hsz, hP, hKW, hD0⟩ := hv
  have hx := B.exec
  have hb := B.bytes
  have hr := B.returns
  have hts := atoms_spec (ws := wsX9_may) B.pre
  have hown : s.vm.findClass RX9 = some m.cls := findClass_of_methodNamed B.named
  have hlocks := B.notSynchronized
  subst hsz
  have hD := hD0.self (sz := s.heap.size)
  obtain ⟨A, hAe⟩ : ∃ A : Nat → Prop, A = va_A (wX9 q9 q4 q7 q8 q0 q6 q3 q2 q5 q1 cI cJ cB (nI n) ++ wX8 q8 cI cJ cB games_8 excess_8 count_8 ++ wX4 q4 cI cJ cB parts_4 wins_4 draws_4 points_4 count_4 changes_4) s.heap.size := ⟨_, rfl⟩
  rw [← hAe] at hD
  have hA : ∀ q : Nat, s.heap.size ≤ q → A q := fun q h => by rw [hAe]; exact Or.inr h
  have hS : va_S A s.heap s.heap [] := va_S.rf
  refine k_gen (fun Q hQ => ?_)
  have hl := lv_entry ([.ref (q9 0), .int x]) (n := 2) (Nat.le_of_ble_eq_true rfl)
  refine k_entry hav (lg_entry_eq ..) ?_
  generalize (lg_sl ([.ref (q9 0), .int x]) ++ List.replicate (2 - (lg_sl ([.ref (q9 0), .int x])).length) Slot.unset).toArray = ls at hl ⊢
  have hl : lv_has ls 2 [(0, .ref (q9 0)), (1, .int x)] := hl
  have hu_9 : ∀ w ∈ u_ws RX9 TX9 10, w ∈ wsX9_may := by decide +kernel
  have hf_12 : Cond.fieldLink RX9 12 "MeetingRanks" "meetings" "LMeetingRanks$Meetings;" ∈ wsX9_may := by decide +kernel
  have hf_26 : Cond.fieldLink RX9 26 "MeetingRanks" "toCome" "LMeetingRanks$ToCome;" ∈ wsX9_may := by decide +kernel
  have hf_72 : Cond.fieldLink RX9 72 "MeetingRanks" "players" "I" ∈ wsX9_may := by decide +kernel
  refine lv_aload_n hx hb dX9_may_0 rfl (lv_at hl 0 rfl) ?_
  refine lv_iload_n hx hb dX9_may_1 rfl (lv_at hl 1 rfl) ?_
  have hs_2 : kSplit (wX9 q9 q4 q7 q8 q0 q6 q3 q2 q5 q1 cI cJ cB (nI n) ++ wX8 q8 cI cJ cB games_8 excess_8 count_8 ++ wX4 q4 cI cJ cB parts_4 wins_4 draws_4 points_4 count_4 changes_4) (wX9 q9 q4 q7 q8 q0 q6 q3 q2 q5 q1 cI cJ cB (nI n)) (wX8 q8 cI cJ cB games_8 excess_8 count_8 ++ wX4 q4 cI cJ cB parts_4 wins_4 draws_4 points_4 count_4 changes_4) [0] [1, 2, 3, 4, 5, 6, 7, 8] := ⟨rfl, rfl, rfl, rfl, rfl, by decide⟩
  refine kc_i hP hD hS hA hs_2 (kV (As := [.int x]) (rest := []) hx hb hml hown hts hKW hP hD hs_2 (c_X9_isPlayer l D cI cJ cB q9 q4 q7 q8 q0 q6 q3 q2 q5 q1 n x (by first | assumption | omega)) (cwV 1 hts gX9_may_X9_isPlayer rfl rfl rfl (by decide +kernel) ⟨Nat.le_of_ble_eq_true rfl, Nat.le_of_ble_eq_true rfl⟩) 0 9 rfl rfl rfl rfl hl.1 rfl (Nat.le_of_ble_eq_true rfl) dX9_may_2 ⟨Nat.zero_le _, Nat.zero_le _⟩) (fun r_2 u_2 H locs hw_2 hP hD hS => ?_)
  have er_2 := hw_2
  have er_2 := er_2.symm
  subst er_2
  have hP : va_P D vwCl (wX9 q9 q4 q7 q8 q0 q6 q3 q2 q5 q1 cI cJ cB (nI n) ++ wX8 q8 cI cJ cB games_8 excess_8 count_8 ++ wX4 q4 cI cJ cB parts_4 wins_4 draws_4 points_4 count_4 changes_4) H := hP.sub (ws' := (wX9 q9 q4 q7 q8 q0 q6 q3 q2 q5 q1 cI cJ cB (nI n) ++ wX8 q8 cI cJ cB games_8 excess_8 count_8 ++ wX4 q4 cI cJ cB parts_4 wins_4 draws_4 points_4 count_4 changes_4)) [8, 0, 1, 2, 3, 4, 5, 6, 7] rfl
  have hD : va_D A (wX9 q9 q4 q7 q8 q0 q6 q3 q2 q5 q1 cI cJ cB (nI n) ++ wX8 q8 cI cJ cB games_8 excess_8 count_8 ++ wX4 q4 cI cJ cB parts_4 wins_4 draws_4 points_4 count_4 changes_4) := hD.sub (ws' := (wX9 q9 q4 q7 q8 q0 q6 q3 q2 q5 q1 cI cJ cB (nI n) ++ wX8 q8 cI cJ cB games_8 excess_8 count_8 ++ wX4 q4 cI cJ cB parts_4 wins_4 draws_4 points_4 count_4 changes_4)) [8, 0, 1, 2, 3, 4, 5, 6, 7] (by decide) rfl
  refine lv_if_ne (tgt := 10) hx hb dX9_may_5 (by decide) (fun c_5 => ?_) (fun c_5 => ?_)
  · skip
    have c_5 := k_b1 c_5
    obtain ⟨x, hx2, rfl⟩ := kIn_nat c_5
    refine lv_aload_n hx hb dX9_may_10 rfl (lv_at hl 0 rfl) ?_
    refine k_get (ci := 9) (v := .ref (q8 0)) (C := RX9) (Tb := TX9) (N := 10) hx hb hts hu_9 hown hKW hP 0 rfl rfl 2 (by decide) hf_26 rfl rfl dX9_may_11 ?_
    refine lv_aload_n hx hb dX9_may_14 rfl (lv_at hl 0 rfl) ?_
    refine k_get (ci := 9) (v := .ref (q4 0)) (C := RX9) (Tb := TX9) (N := 10) hx hb hts hu_9 hown hKW hP 0 rfl rfl 0 (by decide) hf_12 rfl rfl dX9_may_15 ?_
    refine lv_aload_n hx hb dX9_may_18 rfl (lv_at hl 0 rfl) ?_
    refine k_get (ci := 9) (v := .int (nI n)) (C := RX9) (Tb := TX9) (N := 10) hx hb hts hu_9 hown hKW hP 0 rfl rfl 9 (by decide) hf_72 rfl rfl dX9_may_19 ?_
    refine lv_iload_n hx hb dX9_may_22 rfl (lv_at hl 1 rfl) ?_
    have hs_23 : kSplit (wX9 q9 q4 q7 q8 q0 q6 q3 q2 q5 q1 cI cJ cB (nI n) ++ wX8 q8 cI cJ cB games_8 excess_8 count_8 ++ wX4 q4 cI cJ cB parts_4 wins_4 draws_4 points_4 count_4 changes_4) (wX8 q8 cI cJ cB games_8 excess_8 count_8 ++ wX4 q4 cI cJ cB parts_4 wins_4 draws_4 points_4 count_4 changes_4) (wX9 q9 q4 q7 q8 q0 q6 q3 q2 q5 q1 cI cJ cB (nI n)) [1, 2, 3, 4, 5, 6, 7, 8] [0] := ⟨rfl, rfl, rfl, rfl, rfl, by decide⟩
    refine kc_i hP hD hS hA hs_23 (kV (As := [.ref (q4 0), .int (nI n), .int (nI x)]) (rest := []) hx hb hml hown hts hKW hP hD hs_23 (c_X8_leastHindrance l D cI cJ cB q8 q4 games_8 excess_8 count_8 parts_4 wins_4 draws_4 points_4 count_4 changes_4 ml nx n x (by first | assumption | omega) (by first | assumption | omega) (by first | assumption | omega) (by first | assumption | omega) (by first | assumption | omega)) (cwV 3 hts gX9_may_X8_leastHindrance rfl rfl rfl (by decide +kernel) ⟨Nat.le_of_ble_eq_true rfl, Nat.le_of_ble_eq_true rfl⟩) 0 8 rfl rfl rfl rfl hl.1 rfl (Nat.le_of_ble_eq_true rfl) dX9_may_23 ⟨Nat.zero_le _, Nat.zero_le _⟩) (fun r_23 u_23 H locs hw_23 hP hD hS => ?_)
    obtain ⟨excess_8_23, rfl⟩ : ∃ z, z = u_23 := ⟨_, rfl⟩
    have hP : va_P D vwCl (wX9 q9 q4 q7 q8 q0 q6 q3 q2 q5 q1 cI cJ cB (nI n) ++ wX8 q8 cI cJ cB games_8 excess_8_23 count_8 ++ wX4 q4 cI cJ cB parts_4 wins_4 draws_4 points_4 count_4 changes_4) H := hP.sub (ws' := (wX9 q9 q4 q7 q8 q0 q6 q3 q2 q5 q1 cI cJ cB (nI n) ++ wX8 q8 cI cJ cB games_8 excess_8_23 count_8 ++ wX4 q4 cI cJ cB parts_4 wins_4 draws_4 points_4 count_4 changes_4)) [0, 1, 2, 3, 4, 5, 6, 7, 8] rfl
    have hD : va_D A (wX9 q9 q4 q7 q8 q0 q6 q3 q2 q5 q1 cI cJ cB (nI n) ++ wX8 q8 cI cJ cB games_8 excess_8_23 count_8 ++ wX4 q4 cI cJ cB parts_4 wins_4 draws_4 points_4 count_4 changes_4) := hD.sub (ws' := (wX9 q9 q4 q7 q8 q0 q6 q3 q2 q5 q1 cI cJ cB (nI n) ++ wX8 q8 cI cJ cB games_8 excess_8_23 count_8 ++ wX4 q4 cI cJ cB parts_4 wins_4 draws_4 points_4 count_4 changes_4)) [0, 1, 2, 3, 4, 5, 6, 7, 8] (by decide) rfl
    refine lv_if_ne (tgt := 33) hx hb dX9_may_26 (by decide) (fun c_26 => ?_) (fun c_26 => ?_)
    · skip
      refine lv_iconst (v := nI 0) hx hb dX9_may_33 (by decide) ?_
      subst hQ; subst hAe
      exact W.iret (v := nI 0) hx hb hr (fun tt9 ht9 _ => ⟨⟨nI 0, (excess_8_23), rfl, by obtain ⟨e9, a9, h1, h2⟩ := hw_23; have hlt9 : a9 < 2 ^ 31 := (by have := pow_le_1024 hn10; rcases h2 with h | h <;> omega); exact ⟨e9, a9, by rw [if_pos ((kIn_nI (by omega)).mpr hx2), if_neg (fun z => c_26 (by rw [h1, z]; rfl))]; rfl, fun _ => by rw [k_tt (by omega)]; exact h2⟩, by rw [ht9]; exact hP, hD⟩, hS.F ht9⟩) hS.2.2 dX9_may_34
    · skip
      refine lv_iconst (v := nI 1) hx hb dX9_may_29 (by decide) ?_
      refine lv_goto (tgt := 34) hx hb dX9_may_30 (by decide) ?_
      subst hQ; subst hAe
      exact W.iret (v := nI 1) hx hb hr (fun tt9 ht9 _ => ⟨⟨nI 1, (excess_8_23), rfl, by obtain ⟨e9, a9, h1, h2⟩ := hw_23; have hlt9 : a9 < 2 ^ 31 := (by have := pow_le_1024 hn10; rcases h2 with h | h <;> omega); exact ⟨e9, a9, by rw [if_pos ((kIn_nI (by omega)).mpr hx2), if_pos (k0_eq hlt9 (by rw [← h1]; exact c_26))]; rfl, fun _ => by rw [k_tt (by omega)]; exact h2⟩, by rw [ht9]; exact hP, hD⟩, hS.F ht9⟩) hS.2.2 dX9_may_34
  · skip
    have c_5 := k_b0 c_5
    refine lv_iconst (v := (-1)) hx hb dX9_may_8 (by decide) ?_
    subst hQ; subst hAe
    exact W.iret (v := (-1)) hx hb hr (fun tt9 ht9 _ => ⟨⟨(-1), (excess_8), rfl, ⟨fun _ => 0, 0, (if_neg c_5).symm, fun z => absurd z c_5⟩, by rw [ht9]; exact hP, hD⟩, hS.F ht9⟩) hS.2.2 dX9_may_9
def rmX9_table : Room := { frames := 5, cells := 0, slots := 0, locals := 122 }
set_option maxHeartbeats 4000000 in
set_option maxRecDepth 100000 in
theorem c_X9_table (l : Launch) (D : va_G) (cI cJ cB : ClassId) (q9 : Nat → Nat) (q4 : Nat → Nat) (q7 : Nat → Nat) (q8 : Nat → Nat) (q0 : Nat → Nat) (q6 : Nat → Nat) (q3 : Nat → Nat) (q2 : Nat → Nat) (q5 : Nat → Nat) (q1 : Nat → Nat) (kinds_6 : Nat → Int32) (keys_6 : Nat → Int32) (places_6 : Nat → Int32) (worthWon_6 : Int32) (worthDrawn_6 : Int32) (worthLost_6 : Int32) (parts_4 : Nat → Int32) (wins_4 : Nat → Int32) (draws_4 : Nat → Int32) (points_4 : Nat → Int32) (count_4 : Int32) (changes_4 : Int32) (ml : List Mt) (n : Nat) (ks : List Nat) (x : Int32) (hM : MR parts_4 wins_4 draws_4 points_4 ml) (hm120 : ml.length ≤ 120) (hn1 : 1 ≤ n) (hn10 : n ≤ 10) (hki : ∀ j, j < ks.length → kinds_6 j = nI (ks.getD j 0)) (hk4 : ks.length ≤ 4) (hk6 : ∀ k ∈ ks, k < 6) : ∀ sz, Met l yX9_table wsX9_table rmX9_table (va_Pc [.ref (q9 0), .int x] (PW D (kT cI cJ cB) sz (wX9 q9 q4 q7 q8 q0 q6 q3 q2 q5 q1 cI cJ cB (nI n) ++ wX6 q6 cI cJ cB kinds_6 keys_6 places_6 (nI ks.length) worthWon_6 worthDrawn_6 worthLost_6 ++ wX4 q4 cI cJ cB parts_4 wins_4 draws_4 points_4 count_4 changes_4))) (va_Qi (S := (Nat → Int32) × (Nat → Int32)) (fun r uu => match uu with | (keys_6', places_6') => ∃ (ky : Nat → Int32) (o0 : Nat → Int32), (kIn x n → KM (worthWon_6, worthDrawn_6, worthLost_6) ml ks n ky ks.length) ∧ r = if kIn x n then ordF (fun p q => decide (0 < cmpK ky p q 0 (1 + ks.length))) o0 n x.toInt.toNat else -1) (QW D sz (wX9 q9 q4 q7 q8 q0 q6 q3 q2 q5 q1 cI cJ cB (nI n) ++ wX6 q6 cI cJ cB kinds_6 keys_6 places_6 (nI ks.length) worthWon_6 worthDrawn_6 worthLost_6 ++ wX4 q4 cI cJ cB parts_4 wins_4 draws_4 points_4 count_4 changes_4) (fun uu => match uu with | (keys_6', places_6') => (wX9 q9 q4 q7 q8 q0 q6 q3 q2 q5 q1 cI cJ cB (nI n) ++ wX6 q6 cI cJ cB kinds_6 keys_6' places_6' (nI ks.length) worthWon_6 worthDrawn_6 worthLost_6 ++ wX4 q4 cI cJ cB parts_4 wins_4 draws_4 points_4 count_4 changes_4))) (va_A (wX9 q9 q4 q7 q8 q0 q6 q3 q2 q5 q1 cI cJ cB (nI n) ++ wX6 q6 cI cJ cB kinds_6 keys_6 places_6 (nI ks.length) worthWon_6 worthDrawn_6 worthLost_6 ++ wX4 q4 cI cJ cB parts_4 wins_4 draws_4 points_4 count_4 changes_4) sz)) 0 0 (va_A (wX9 q9 q4 q7 q8 q0 q6 q3 q2 q5 q1 cI cJ cB (nI n) ++ wX6 q6 cI cJ cB kinds_6 keys_6 places_6 (nI ks.length) worthWon_6 worthDrawn_6 worthLost_6 ++ wX4 q4 cI cJ cB parts_4 wins_4 draws_4 points_4 count_4 changes_4) sz) := by
  intro sz
  refine Met.ofW (cc := cX9_table) (maxL := 2) (ret := (some .int)) (by decide) rfl ?_
  intro p e s m args below meth c s₁ B hml hv
  obtain ⟨hav, hsz, hP, hKW, hD0⟩ := hv
  have hx := B.exec
  have hb := B.bytes
  have hr := B.returns
  have hts := atoms_spec (ws := wsX9_table) B.pre
  have hown : s.vm.findClass RX9 = some m.cls := findClass_of_methodNamed B.named
  have hlocks := B.notSynchronized
  subst hsz
  have hD := hD0.self (sz := s.heap.size)
  obtain ⟨A, hAe⟩ : ∃ A : Nat → Prop, A = va_A (wX9 q9 q4 q7 q8 q0 q6 q3 q2 q5 q1 cI cJ cB (nI n) ++ wX6 q6 cI cJ cB kinds_6 keys_6 places_6 (nI ks.length) worthWon_6 worthDrawn_6 worthLost_6 ++ wX4 q4 cI cJ cB parts_4 wins_4 draws_4 points_4 count_4 changes_4) s.heap.size := ⟨_, rfl⟩
  rw [← hAe] at hD
  have hA : ∀ q : Nat, s.heap.size ≤ q → A q := fun q h => by rw [hAe]; exact Or.inr h
  have hS : va_S A s.heap s.heap [] := va_S.rf
  refine k_gen (fun Q hQ => ?_)
  have hl := lv_entry ([.ref (q9 0), .int x]) (n := 2) (Nat.le_of_ble_eq_true rfl)
  refine k_entry hav (lg_entry_eq ..) ?_
  generalize (lg_sl ([.ref (q9 0), .int x]) ++ List.replicate (2 - (lg_sl ([.ref (q9 0), .int x])).length) Slot.unset).toArray = ls at hl ⊢
  have hl : lv_has ls 2 [(0, .ref (q9 0)), (1, .int x)] := hl
  have hu_9 : ∀ w ∈ u_ws RX9 TX9 10, w ∈ wsX9_table := by decide +kernel
  have hf_12 : Cond.fieldLink RX9 12 "MeetingRanks" "meetings" "LMeetingRanks$Meetings;" ∈ wsX9_table := by decide +kernel
  have hf_40 : Cond.fieldLink RX9 40 "MeetingRanks" "standings" "LMeetingRanks$Standings;" ∈ wsX9_table := by decide +kernel
  have hf_72 : Cond.fieldLink RX9 72 "MeetingRanks" "players" "I" ∈ wsX9_table := by decide +kernel
  refine lv_aload_n hx hb dX9_table_0 rfl (lv_at hl 0 rfl) ?_
  refine lv_iload_n hx hb dX9_table_1 rfl (lv_at hl 1 rfl) ?_
  have hs_2 : kSplit (wX9 q9 q4 q7 q8 q0 q6 q3 q2 q5 q1 cI cJ cB (nI n) ++ wX6 q6 cI cJ cB kinds_6 keys_6 places_6 (nI ks.length) worthWon_6 worthDrawn_6 worthLost_6 ++ wX4 q4 cI cJ cB parts_4 wins_4 draws_4 points_4 count_4 changes_4) (wX9 q9 q4 q7 q8 q0 q6 q3 q2 q5 q1 cI cJ cB (nI n)) (wX6 q6 cI cJ cB kinds_6 keys_6 places_6 (nI ks.length) worthWon_6 worthDrawn_6 worthLost_6 ++ wX4 q4 cI cJ cB parts_4 wins_4 draws_4 points_4 count_4 changes_4) [0] [1, 2, 3, 4, 5, 6, 7, 8, 9] := ⟨rfl, rfl, rfl, rfl, rfl, by decide⟩
  refine kc_i hP hD hS hA hs_2 (kV (As := [.int x]) (rest := []) hx hb hml hown hts hKW hP hD hs_2 (c_X9_isPlayer l D cI cJ cB q9 q4 q7 q8 q0 q6 q3 q2 q5 q1 n x (by first | assumption | omega)) (cwV 1 hts gX9_table_X9_isPlayer rfl rfl rfl (by decide +kernel) ⟨Nat.le_of_ble_eq_true rfl, Nat.le_of_ble_eq_true rfl⟩) 0 9 rfl rfl rfl rfl hl.1 rfl (Nat.le_of_ble_eq_true rfl) dX9_table_2 ⟨Nat.zero_le _, Nat.zero_le _⟩) (fun r_2 u_2 H locs hw_2 hP hD hS => ?_)
  have er_2 := hw_2
  have er_2 := er_2.symm
  subst er_2
  have hP : va_P D vwCl (wX9 q9 q4 q7 q8 q0 q6 q3 q2 q5 q1 cI cJ cB (nI n) ++ wX6 q6 cI cJ cB kinds_6 keys_6 places_6 (nI ks.length) worthWon_6 worthDrawn_6 worthLost_6 ++ wX4 q4 cI cJ cB parts_4 wins_4 draws_4 points_4 count_4 changes_4) H := hP.sub (ws' := (wX9 q9 q4 q7 q8 q0 q6 q3 q2 q5 q1 cI cJ cB (nI n) ++ wX6 q6 cI cJ cB kinds_6 keys_6 places_6 (nI ks.length) worthWon_6 worthDrawn_6 worthLost_6 ++ wX4 q4 cI cJ cB parts_4 wins_4 draws_4 points_4 count_4 changes_4)) [9, 0, 1, 2, 3, 4, 5, 6, 7, 8] rfl
  have hD : va_D A (wX9 q9 q4 q7 q8 q0 q6 q3 q2 q5 q1 cI cJ cB (nI n) ++ wX6 q6 cI cJ cB kinds_6 keys_6 places_6 (nI ks.length) worthWon_6 worthDrawn_6 worthLost_6 ++ wX4 q4 cI cJ cB parts_4 wins_4 draws_4 points_4 count_4 changes_4) := hD.sub (ws' := (wX9 q9 q4 q7 q8 q0 q6 q3 q2 q5 q1 cI cJ cB (nI n) ++ wX6 q6 cI cJ cB kinds_6 keys_6 places_6 (nI ks.length) worthWon_6 worthDrawn_6 worthLost_6 ++ wX4 q4 cI cJ cB parts_4 wins_4 draws_4 points_4 count_4 changes_4)) [9, 0, 1, 2, 3, 4, 5, 6, 7, 8] (by decide) rfl
  refine lv_if_ne (tgt := 10) hx hb dX9_table_5 (by decide) (fun c_5 => ?_) (fun c_5 => ?_)
  · skip
    have c_5 := k_b1 c_5
    obtain ⟨x, hx2, rfl⟩ := kIn_nat c_5
    refine lv_aload_n hx hb dX9_table_10 rfl (lv_at hl 0 rfl) ?_
    refine k_get (ci := 9) (v := .ref (q6 0)) (C := RX9) (Tb := TX9) (N := 10) hx hb hts hu_9 hown hKW hP 0 rfl rfl 4 (by decide) hf_40 rfl rfl dX9_table_11 ?_
    refine lv_aload_n hx hb dX9_table_14 rfl (lv_at hl 0 rfl) ?_
    refine k_get (ci := 9) (v := .ref (q4 0)) (C := RX9) (Tb := TX9) (N := 10) hx hb hts hu_9 hown hKW hP 0 rfl rfl 0 (by decide) hf_12 rfl rfl dX9_table_15 ?_
    refine lv_aload_n hx hb dX9_table_18 rfl (lv_at hl 0 rfl) ?_
    refine k_get (ci := 9) (v := .int (nI n)) (C := RX9) (Tb := TX9) (N := 10) hx hb hts hu_9 hown hKW hP 0 rfl rfl 9 (by decide) hf_72 rfl rfl dX9_table_19 ?_
    have hs_22 : kSplit (wX9 q9 q4 q7 q8 q0 q6 q3 q2 q5 q1 cI cJ cB (nI n) ++ wX6 q6 cI cJ cB kinds_6 keys_6 places_6 (nI ks.length) worthWon_6 worthDrawn_6 worthLost_6 ++ wX4 q4 cI cJ cB parts_4 wins_4 draws_4 points_4 count_4 changes_4) (wX6 q6 cI cJ cB kinds_6 keys_6 places_6 (nI ks.length) worthWon_6 worthDrawn_6 worthLost_6 ++ wX4 q4 cI cJ cB parts_4 wins_4 draws_4 points_4 count_4 changes_4) (wX9 q9 q4 q7 q8 q0 q6 q3 q2 q5 q1 cI cJ cB (nI n)) [1, 2, 3, 4, 5, 6, 7, 8, 9] [0] := ⟨rfl, rfl, rfl, rfl, rfl, by decide⟩
    refine kc_v hP hD hS hA hs_22 (kV (As := [.ref (q4 0), .int (nI n)]) (rest := []) hx hb hml hown hts hKW hP hD hs_22 (c_X6_arrange l D cI cJ cB q6 q4 kinds_6 keys_6 places_6 worthWon_6 worthDrawn_6 worthLost_6 parts_4 wins_4 draws_4 points_4 count_4 changes_4 ml ks n (by first | assumption | omega) (by first | assumption | omega) (by first | assumption | omega) (by first | assumption | omega) (by first | assumption | omega)) (cwV 2 hts gX9_table_X6_arrange rfl rfl rfl (by decide +kernel) ⟨Nat.le_of_ble_eq_true rfl, Nat.le_of_ble_eq_true rfl⟩) 0 6 rfl rfl rfl rfl hl.1 rfl (Nat.le_of_ble_eq_true rfl) dX9_table_22 ⟨Nat.zero_le _, Nat.zero_le _⟩) (fun u_22 H locs hw_22 hP hD hS => ?_)
    obtain ⟨keys_6_22, places_6_22⟩ := u_22
    have hP : va_P D vwCl (wX9 q9 q4 q7 q8 q0 q6 q3 q2 q5 q1 cI cJ cB (nI n) ++ wX6 q6 cI cJ cB kinds_6 keys_6_22 places_6_22 (nI ks.length) worthWon_6 worthDrawn_6 worthLost_6 ++ wX4 q4 cI cJ cB parts_4 wins_4 draws_4 points_4 count_4 changes_4) H := hP.sub (ws' := (wX9 q9 q4 q7 q8 q0 q6 q3 q2 q5 q1 cI cJ cB (nI n) ++ wX6 q6 cI cJ cB kinds_6 keys_6_22 places_6_22 (nI ks.length) worthWon_6 worthDrawn_6 worthLost_6 ++ wX4 q4 cI cJ cB parts_4 wins_4 draws_4 points_4 count_4 changes_4)) [0, 1, 2, 3, 4, 5, 6, 7, 8, 9] rfl
    have hD : va_D A (wX9 q9 q4 q7 q8 q0 q6 q3 q2 q5 q1 cI cJ cB (nI n) ++ wX6 q6 cI cJ cB kinds_6 keys_6_22 places_6_22 (nI ks.length) worthWon_6 worthDrawn_6 worthLost_6 ++ wX4 q4 cI cJ cB parts_4 wins_4 draws_4 points_4 count_4 changes_4) := hD.sub (ws' := (wX9 q9 q4 q7 q8 q0 q6 q3 q2 q5 q1 cI cJ cB (nI n) ++ wX6 q6 cI cJ cB kinds_6 keys_6_22 places_6_22 (nI ks.length) worthWon_6 worthDrawn_6 worthLost_6 ++ wX4 q4 cI cJ cB parts_4 wins_4 draws_4 points_4 count_4 changes_4)) [0, 1, 2, 3, 4, 5, 6, 7, 8, 9] (by decide) rfl
    refine lv_aload_n hx hb dX9_table_25 rfl (lv_at hl 0 rfl) ?_
    refine k_get (ci := 9) (v := .ref (q6 0)) (C := RX9) (Tb := TX9) (N := 10) hx hb hts hu_9 hown hKW hP 0 rfl rfl 4 (by decide) hf_40 rfl rfl dX9_table_26 ?_
    refine lv_iload_n hx hb dX9_table_29 rfl (lv_at hl 1 rfl) ?_
    have hs_30 : kSplit (wX9 q9 q4 q7 q8 q0 q6 q3 q2 q5 q1 cI cJ cB (nI n) ++ wX6 q6 cI cJ cB kinds_6 keys_6_22 places_6_22 (nI ks.length) worthWon_6 worthDrawn_6 worthLost_6 ++ wX4 q4 cI cJ cB parts_4 wins_4 draws_4 points_4 count_4 changes_4) (wX6 q6 cI cJ cB kinds_6 keys_6_22 places_6_22 (nI ks.length) worthWon_6 worthDrawn_6 worthLost_6) (wX9 q9 q4 q7 q8 q0 q6 q3 q2 q5 q1 cI cJ cB (nI n) ++ wX4 q4 cI cJ cB parts_4 wins_4 draws_4 points_4 count_4 changes_4) [1, 2, 3, 4] [0, 5, 6, 7, 8, 9] := ⟨rfl, rfl, rfl, rfl, rfl, by decide⟩
    refine kc_i hP hD hS hA hs_30 (kV (As := [.int (nI x)]) (rest := []) hx hb hml hown hts hKW hP hD hs_30 (c_X6_playerAt l D cI cJ cB q6 kinds_6 keys_6_22 places_6_22 (nI ks.length) worthWon_6 worthDrawn_6 worthLost_6 x (by first | assumption | omega)) (cwV 1 hts gX9_table_X6_playerAt rfl rfl rfl (by decide +kernel) ⟨Nat.le_of_ble_eq_true rfl, Nat.le_of_ble_eq_true rfl⟩) 0 6 rfl rfl rfl rfl hl.1 rfl (Nat.le_of_ble_eq_true rfl) dX9_table_30 ⟨Nat.zero_le _, Nat.zero_le _⟩) (fun r_30 u_30 H locs hw_30 hP hD hS => ?_)
    have er_30 := hw_30
    have er_30 := er_30.symm
    subst er_30
    have hP : va_P D vwCl (wX9 q9 q4 q7 q8 q0 q6 q3 q2 q5 q1 cI cJ cB (nI n) ++ wX6 q6 cI cJ cB kinds_6 keys_6_22 places_6_22 (nI ks.length) worthWon_6 worthDrawn_6 worthLost_6 ++ wX4 q4 cI cJ cB parts_4 wins_4 draws_4 points_4 count_4 changes_4) H := hP.sub (ws' := (wX9 q9 q4 q7 q8 q0 q6 q3 q2 q5 q1 cI cJ cB (nI n) ++ wX6 q6 cI cJ cB kinds_6 keys_6_22 places_6_22 (nI ks.length) worthWon_6 worthDrawn_6 worthLost_6 ++ wX4 q4 cI cJ cB parts_4 wins_4 draws_4 points_4 count_4 changes_4)) [0, 6, 7, 8, 9, 1, 2, 3, 4, 5] rfl
    have hD : va_D A (wX9 q9 q4 q7 q8 q0 q6 q3 q2 q5 q1 cI cJ cB (nI n) ++ wX6 q6 cI cJ cB kinds_6 keys_6_22 places_6_22 (nI ks.length) worthWon_6 worthDrawn_6 worthLost_6 ++ wX4 q4 cI cJ cB parts_4 wins_4 draws_4 points_4 count_4 changes_4) := hD.sub (ws' := (wX9 q9 q4 q7 q8 q0 q6 q3 q2 q5 q1 cI cJ cB (nI n) ++ wX6 q6 cI cJ cB kinds_6 keys_6_22 places_6_22 (nI ks.length) worthWon_6 worthDrawn_6 worthLost_6 ++ wX4 q4 cI cJ cB parts_4 wins_4 draws_4 points_4 count_4 changes_4)) [0, 6, 7, 8, 9, 1, 2, 3, 4, 5] (by decide) rfl
    subst hQ; subst hAe
    exact W.iret (v := places_6_22 x) hx hb hr (fun tt9 ht9 _ => ⟨⟨places_6_22 x, (keys_6_22, places_6_22), rfl, ⟨_, places_6, fun _ => hw_22.1, by rw [if_pos ((kIn_nI (by omega)).mpr hx2), k_tt (by omega), hw_22.2]⟩, by rw [ht9]; exact hP, hD⟩, hS.F ht9⟩) hS.2.2 dX9_table_33
  · skip
    have c_5 := k_b0 c_5
    refine lv_iconst (v := (-1)) hx hb dX9_table_8 (by decide) ?_
    subst hQ; subst hAe
    exact W.iret (v := (-1)) hx hb hr (fun tt9 ht9 _ => ⟨⟨(-1), (keys_6, places_6), rfl, ⟨keys_6, places_6, fun z => absurd z c_5, (if_neg c_5).symm⟩, by rw [ht9]; exact hP, hD⟩, hS.F ht9⟩) hS.2.2 dX9_table_9
def rmX9_number : Room := { frames := 4, cells := 0, slots := 0, locals := 99 }
set_option maxHeartbeats 4000000 in
set_option maxRecDepth 100000 in
theorem c_X9_number (l : Launch) (D : va_G) (cI cJ cB : ClassId) (q9 : Nat → Nat) (q4 : Nat → Nat) (q7 : Nat → Nat) (q8 : Nat → Nat) (q0 : Nat → Nat) (q6 : Nat → Nat) (q3 : Nat → Nat) (q2 : Nat → Nat) (q5 : Nat → Nat) (q1 : Nat → Nat) (kinds_6 : Nat → Int32) (keys_6 : Nat → Int32) (places_6 : Nat → Int32) (kindCount_6 : Int32) (worthWon_6 : Int32) (worthDrawn_6 : Int32) (worthLost_6 : Int32) (parts_4 : Nat → Int32) (wins_4 : Nat → Int32) (draws_4 : Nat → Int32) (points_4 : Nat → Int32) (count_4 : Int32) (changes_4 : Int32) (ml : List Mt) (n : Nat) (kd : Int32) (x : Int32) (hM : MR parts_4 wins_4 draws_4 points_4 ml) (hm120 : ml.length ≤ 120) (hn1 : 1 ≤ n) (hn10 : n ≤ 10) : ∀ sz, Met l yX9_number wsX9_number rmX9_number (va_Pc [.ref (q9 0), .int kd, .int x] (PW D (kT cI cJ cB) sz (wX9 q9 q4 q7 q8 q0 q6 q3 q2 q5 q1 cI cJ cB (nI n) ++ wX6 q6 cI cJ cB kinds_6 keys_6 places_6 kindCount_6 worthWon_6 worthDrawn_6 worthLost_6 ++ wX4 q4 cI cJ cB parts_4 wins_4 draws_4 points_4 count_4 changes_4))) (va_Qi (S := (Nat → Int32)) (fun r keys_6' => ∃ ky, (∀ a, a < n → ky a = sI (wrF (worthWon_6, worthDrawn_6, worthLost_6) ml a) n) ∧ r = if kIn x n ∧ kIn kd 6 then sI (fun b => shF (worthWon_6, worthDrawn_6, worthLost_6) ml ky kd.toInt.toNat x.toInt.toNat b 1) n else 0) (QW D sz (wX9 q9 q4 q7 q8 q0 q6 q3 q2 q5 q1 cI cJ cB (nI n) ++ wX6 q6 cI cJ cB kinds_6 keys_6 places_6 kindCount_6 worthWon_6 worthDrawn_6 worthLost_6 ++ wX4 q4 cI cJ cB parts_4 wins_4 draws_4 points_4 count_4 changes_4) (fun keys_6' => (wX9 q9 q4 q7 q8 q0 q6 q3 q2 q5 q1 cI cJ cB (nI n) ++ wX6 q6 cI cJ cB kinds_6 keys_6' places_6 kindCount_6 worthWon_6 worthDrawn_6 worthLost_6 ++ wX4 q4 cI cJ cB parts_4 wins_4 draws_4 points_4 count_4 changes_4))) (va_A (wX9 q9 q4 q7 q8 q0 q6 q3 q2 q5 q1 cI cJ cB (nI n) ++ wX6 q6 cI cJ cB kinds_6 keys_6 places_6 kindCount_6 worthWon_6 worthDrawn_6 worthLost_6 ++ wX4 q4 cI cJ cB parts_4 wins_4 draws_4 points_4 count_4 changes_4) sz)) 0 0 (va_A (wX9 q9 q4 q7 q8 q0 q6 q3 q2 q5 q1 cI cJ cB (nI n) ++ wX6 q6 cI cJ cB kinds_6 keys_6 places_6 kindCount_6 worthWon_6 worthDrawn_6 worthLost_6 ++ wX4 q4 cI cJ cB parts_4 wins_4 draws_4 points_4 count_4 changes_4) sz) := by
  intro sz
  refine Met.ofW (cc := cX9_number) (maxL := 3) (ret := (some .int)) (by decide) rfl ?_
  intro p e s m args below meth c s₁ B hml hv
  obtain ⟨hav, hsz, hP, hKW, hD0⟩ := hv
  have hx := B.exec
  have hb := B.bytes
  have hr := B.returns
  have hts := atoms_spec (ws := wsX9_number) B.pre
  have hown : s.vm.findClass RX9 = some m.cls := findClass_of_methodNamed B.named
  have hlocks := B.notSynchronized
  subst hsz
  have hD := hD0.self (sz := s.heap.size)
  obtain ⟨A, hAe⟩ : ∃ A : Nat → Prop, A = va_A (wX9 q9 q4 q7 q8 q0 q6 q3 q2 q5 q1 cI cJ cB (nI n) ++ wX6 q6 cI cJ cB kinds_6 keys_6 places_6 kindCount_6 worthWon_6 worthDrawn_6 worthLost_6 ++ wX4 q4 cI cJ cB parts_4 wins_4 draws_4 points_4 count_4 changes_4) s.heap.size := ⟨_, rfl⟩
  rw [← hAe] at hD
  have hA : ∀ q : Nat, s.heap.size ≤ q → A q := fun q h => by rw [hAe]; exact Or.inr h
  have hS : va_S A s.heap s.heap [] := va_S.rf
  refine k_gen (fun Q hQ => ?_)
  have hl := lv_entry ([.ref (q9 0), .int kd, .int x]) (n := 3) (Nat.le_of_ble_eq_true rfl)
  refine k_entry hav (lg_entry_eq ..) ?_
  generalize (lg_sl ([.ref (q9 0), .int kd, .int x]) ++ List.replicate (3 - (lg_sl ([.ref (q9 0), .int kd, .int x])).length) Slot.unset).toArray = ls at hl ⊢
  have hl : lv_has ls 3 [(0, .ref (q9 0)), (1, .int kd), (2, .int x)] := hl
  have hu_9 : ∀ w ∈ u_ws RX9 TX9 10, w ∈ wsX9_number := by decide +kernel
  have hf_12 : Cond.fieldLink RX9 12 "MeetingRanks" "meetings" "LMeetingRanks$Meetings;" ∈ wsX9_number := by decide +kernel
  have hf_40 : Cond.fieldLink RX9 40 "MeetingRanks" "standings" "LMeetingRanks$Standings;" ∈ wsX9_number := by decide +kernel
  have hf_72 : Cond.fieldLink RX9 72 "MeetingRanks" "players" "I" ∈ wsX9_number := by decide +kernel
  refine lv_iload_n hx hb dX9_number_0 rfl (lv_at hl 1 rfl) ?_
  have hs_1 : kSplit (wX9 q9 q4 q7 q8 q0 q6 q3 q2 q5 q1 cI cJ cB (nI n) ++ wX6 q6 cI cJ cB kinds_6 keys_6 places_6 kindCount_6 worthWon_6 worthDrawn_6 worthLost_6 ++ wX4 q4 cI cJ cB parts_4 wins_4 draws_4 points_4 count_4 changes_4) ([] : va_W) (wX9 q9 q4 q7 q8 q0 q6 q3 q2 q5 q1 cI cJ cB (nI n) ++ wX6 q6 cI cJ cB kinds_6 keys_6 places_6 kindCount_6 worthWon_6 worthDrawn_6 worthLost_6 ++ wX4 q4 cI cJ cB parts_4 wins_4 draws_4 points_4 count_4 changes_4) [] [0, 1, 2, 3, 4, 5, 6, 7, 8, 9] := ⟨rfl, rfl, rfl, rfl, rfl, by decide⟩
  refine kc_i hP hD hS hA hs_1 (kS (As := [.int kd]) (rest := []) hx hb hml hown hts hKW hP hD hs_1 (c_X9_isKind l D cI cJ cB kd) (va_cwS 1 hts gX9_number_X9_isKind rfl rfl rfl (by decide +kernel) ⟨Nat.le_of_ble_eq_true rfl, Nat.le_of_ble_eq_true rfl⟩) rfl hl.1 rfl (Nat.le_of_ble_eq_true rfl) dX9_number_1 ⟨Nat.zero_le _, Nat.zero_le _⟩) (fun r_1 u_1 H locs hw_1 hP hD hS => ?_)
  have er_1 := hw_1
  have er_1 := er_1.symm
  subst er_1
  have hP : va_P D vwCl (wX9 q9 q4 q7 q8 q0 q6 q3 q2 q5 q1 cI cJ cB (nI n) ++ wX6 q6 cI cJ cB kinds_6 keys_6 places_6 kindCount_6 worthWon_6 worthDrawn_6 worthLost_6 ++ wX4 q4 cI cJ cB parts_4 wins_4 draws_4 points_4 count_4 changes_4) H := hP.sub (ws' := (wX9 q9 q4 q7 q8 q0 q6 q3 q2 q5 q1 cI cJ cB (nI n) ++ wX6 q6 cI cJ cB kinds_6 keys_6 places_6 kindCount_6 worthWon_6 worthDrawn_6 worthLost_6 ++ wX4 q4 cI cJ cB parts_4 wins_4 draws_4 points_4 count_4 changes_4)) [0, 1, 2, 3, 4, 5, 6, 7, 8, 9] rfl
  have hD : va_D A (wX9 q9 q4 q7 q8 q0 q6 q3 q2 q5 q1 cI cJ cB (nI n) ++ wX6 q6 cI cJ cB kinds_6 keys_6 places_6 kindCount_6 worthWon_6 worthDrawn_6 worthLost_6 ++ wX4 q4 cI cJ cB parts_4 wins_4 draws_4 points_4 count_4 changes_4) := hD.sub (ws' := (wX9 q9 q4 q7 q8 q0 q6 q3 q2 q5 q1 cI cJ cB (nI n) ++ wX6 q6 cI cJ cB kinds_6 keys_6 places_6 kindCount_6 worthWon_6 worthDrawn_6 worthLost_6 ++ wX4 q4 cI cJ cB parts_4 wins_4 draws_4 points_4 count_4 changes_4)) [0, 1, 2, 3, 4, 5, 6, 7, 8, 9] (by decide) rfl
  refine lv_if_eq (tgt := 15) hx hb dX9_number_4 (by decide) (fun c_4 => ?_) (fun c_4 => ?_)
  · skip
    have c_4 := k_b0 c_4
    refine lv_iconst (v := nI 0) hx hb dX9_number_15 (by decide) ?_
    subst hQ; subst hAe
    exact W.iret (v := nI 0) hx hb hr (fun tt9 ht9 _ => ⟨⟨nI 0, (keys_6), rfl, ⟨fun a => sI (wrF (worthWon_6, worthDrawn_6, worthLost_6) ml a) n, fun _ _ => rfl, (if_neg (fun z => c_4 z.2)).symm⟩, by rw [ht9]; exact hP, hD⟩, hS.F ht9⟩) hS.2.2 dX9_number_16
  · skip
    have c_4 := k_b1 c_4
    refine lv_aload_n hx hb dX9_number_7 rfl (lv_at hl 0 rfl) ?_
    refine lv_iload_n hx hb dX9_number_8 rfl (lv_at hl 2 rfl) ?_
    have hs_9 : kSplit (wX9 q9 q4 q7 q8 q0 q6 q3 q2 q5 q1 cI cJ cB (nI n) ++ wX6 q6 cI cJ cB kinds_6 keys_6 places_6 kindCount_6 worthWon_6 worthDrawn_6 worthLost_6 ++ wX4 q4 cI cJ cB parts_4 wins_4 draws_4 points_4 count_4 changes_4) (wX9 q9 q4 q7 q8 q0 q6 q3 q2 q5 q1 cI cJ cB (nI n)) (wX6 q6 cI cJ cB kinds_6 keys_6 places_6 kindCount_6 worthWon_6 worthDrawn_6 worthLost_6 ++ wX4 q4 cI cJ cB parts_4 wins_4 draws_4 points_4 count_4 changes_4) [0] [1, 2, 3, 4, 5, 6, 7, 8, 9] := ⟨rfl, rfl, rfl, rfl, rfl, by decide⟩
    refine kc_i hP hD hS hA hs_9 (kV (As := [.int x]) (rest := []) hx hb hml hown hts hKW hP hD hs_9 (c_X9_isPlayer l D cI cJ cB q9 q4 q7 q8 q0 q6 q3 q2 q5 q1 n x (by first | assumption | omega)) (cwV 1 hts gX9_number_X9_isPlayer rfl rfl rfl (by decide +kernel) ⟨Nat.le_of_ble_eq_true rfl, Nat.le_of_ble_eq_true rfl⟩) 0 9 rfl rfl rfl rfl hl.1 rfl (Nat.le_of_ble_eq_true rfl) dX9_number_9 ⟨Nat.zero_le _, Nat.zero_le _⟩) (fun r_9 u_9 H locs hw_9 hP hD hS => ?_)
    have er_9 := hw_9
    have er_9 := er_9.symm
    subst er_9
    have hP : va_P D vwCl (wX9 q9 q4 q7 q8 q0 q6 q3 q2 q5 q1 cI cJ cB (nI n) ++ wX6 q6 cI cJ cB kinds_6 keys_6 places_6 kindCount_6 worthWon_6 worthDrawn_6 worthLost_6 ++ wX4 q4 cI cJ cB parts_4 wins_4 draws_4 points_4 count_4 changes_4) H := hP.sub (ws' := (wX9 q9 q4 q7 q8 q0 q6 q3 q2 q5 q1 cI cJ cB (nI n) ++ wX6 q6 cI cJ cB kinds_6 keys_6 places_6 kindCount_6 worthWon_6 worthDrawn_6 worthLost_6 ++ wX4 q4 cI cJ cB parts_4 wins_4 draws_4 points_4 count_4 changes_4)) [9, 0, 1, 2, 3, 4, 5, 6, 7, 8] rfl
    have hD : va_D A (wX9 q9 q4 q7 q8 q0 q6 q3 q2 q5 q1 cI cJ cB (nI n) ++ wX6 q6 cI cJ cB kinds_6 keys_6 places_6 kindCount_6 worthWon_6 worthDrawn_6 worthLost_6 ++ wX4 q4 cI cJ cB parts_4 wins_4 draws_4 points_4 count_4 changes_4) := hD.sub (ws' := (wX9 q9 q4 q7 q8 q0 q6 q3 q2 q5 q1 cI cJ cB (nI n) ++ wX6 q6 cI cJ cB kinds_6 keys_6 places_6 kindCount_6 worthWon_6 worthDrawn_6 worthLost_6 ++ wX4 q4 cI cJ cB parts_4 wins_4 draws_4 points_4 count_4 changes_4)) [9, 0, 1, 2, 3, 4, 5, 6, 7, 8] (by decide) rfl
    refine lv_if_ne (tgt := 17) hx hb dX9_number_12 (by decide) (fun c_12 => ?_) (fun c_12 => ?_)
    · skip
      have c_12 := k_b1 c_12
      obtain ⟨kd, hkd2, rfl⟩ := kIn_nat c_4
      obtain ⟨x, hx2, rfl⟩ := kIn_nat c_12
      refine lv_aload_n hx hb dX9_number_17 rfl (lv_at hl 0 rfl) ?_
      refine k_get (ci := 9) (v := .ref (q6 0)) (C := RX9) (Tb := TX9) (N := 10) hx hb hts hu_9 hown hKW hP 0 rfl rfl 4 (by decide) hf_40 rfl rfl dX9_number_18 ?_
      refine lv_aload_n hx hb dX9_number_21 rfl (lv_at hl 0 rfl) ?_
      refine k_get (ci := 9) (v := .ref (q4 0)) (C := RX9) (Tb := TX9) (N := 10) hx hb hts hu_9 hown hKW hP 0 rfl rfl 0 (by decide) hf_12 rfl rfl dX9_number_22 ?_
      refine lv_aload_n hx hb dX9_number_25 rfl (lv_at hl 0 rfl) ?_
      refine k_get (ci := 9) (v := .int (nI n)) (C := RX9) (Tb := TX9) (N := 10) hx hb hts hu_9 hown hKW hP 0 rfl rfl 9 (by decide) hf_72 rfl rfl dX9_number_26 ?_
      have hs_29 : kSplit (wX9 q9 q4 q7 q8 q0 q6 q3 q2 q5 q1 cI cJ cB (nI n) ++ wX6 q6 cI cJ cB kinds_6 keys_6 places_6 kindCount_6 worthWon_6 worthDrawn_6 worthLost_6 ++ wX4 q4 cI cJ cB parts_4 wins_4 draws_4 points_4 count_4 changes_4) (wX6 q6 cI cJ cB kinds_6 keys_6 places_6 kindCount_6 worthWon_6 worthDrawn_6 worthLost_6 ++ wX4 q4 cI cJ cB parts_4 wins_4 draws_4 points_4 count_4 changes_4) (wX9 q9 q4 q7 q8 q0 q6 q3 q2 q5 q1 cI cJ cB (nI n)) [1, 2, 3, 4, 5, 6, 7, 8, 9] [0] := ⟨rfl, rfl, rfl, rfl, rfl, by decide⟩
      refine kc_v hP hD hS hA hs_29 (kV (As := [.ref (q4 0), .int (nI n)]) (rest := []) hx hb hml hown hts hKW hP hD hs_29 (c_X6_fillScores l D cI cJ cB q6 q4 kinds_6 keys_6 places_6 kindCount_6 worthWon_6 worthDrawn_6 worthLost_6 parts_4 wins_4 draws_4 points_4 count_4 changes_4 ml n (by first | assumption | omega) (by first | assumption | omega)) (cwV 2 hts gX9_number_X6_fillScores rfl rfl rfl (by decide +kernel) ⟨Nat.le_of_ble_eq_true rfl, Nat.le_of_ble_eq_true rfl⟩) 0 6 rfl rfl rfl rfl hl.1 rfl (Nat.le_of_ble_eq_true rfl) dX9_number_29 ⟨Nat.zero_le _, Nat.zero_le _⟩) (fun u_29 H locs hw_29 hP hD hS => ?_)
      obtain ⟨keys_6_29, rfl⟩ : ∃ z, z = u_29 := ⟨_, rfl⟩
      have hP : va_P D vwCl (wX9 q9 q4 q7 q8 q0 q6 q3 q2 q5 q1 cI cJ cB (nI n) ++ wX6 q6 cI cJ cB kinds_6 keys_6_29 places_6 kindCount_6 worthWon_6 worthDrawn_6 worthLost_6 ++ wX4 q4 cI cJ cB parts_4 wins_4 draws_4 points_4 count_4 changes_4) H := hP.sub (ws' := (wX9 q9 q4 q7 q8 q0 q6 q3 q2 q5 q1 cI cJ cB (nI n) ++ wX6 q6 cI cJ cB kinds_6 keys_6_29 places_6 kindCount_6 worthWon_6 worthDrawn_6 worthLost_6 ++ wX4 q4 cI cJ cB parts_4 wins_4 draws_4 points_4 count_4 changes_4)) [0, 1, 2, 3, 4, 5, 6, 7, 8, 9] rfl
      have hD : va_D A (wX9 q9 q4 q7 q8 q0 q6 q3 q2 q5 q1 cI cJ cB (nI n) ++ wX6 q6 cI cJ cB kinds_6 keys_6_29 places_6 kindCount_6 worthWon_6 worthDrawn_6 worthLost_6 ++ wX4 q4 cI cJ cB parts_4 wins_4 draws_4 points_4 count_4 changes_4) := hD.sub (ws' := (wX9 q9 q4 q7 q8 q0 q6 q3 q2 q5 q1 cI cJ cB (nI n) ++ wX6 q6 cI cJ cB kinds_6 keys_6_29 places_6 kindCount_6 worthWon_6 worthDrawn_6 worthLost_6 ++ wX4 q4 cI cJ cB parts_4 wins_4 draws_4 points_4 count_4 changes_4)) [0, 1, 2, 3, 4, 5, 6, 7, 8, 9] (by decide) rfl
      refine lv_aload_n hx hb dX9_number_32 rfl (lv_at hl 0 rfl) ?_
      refine k_get (ci := 9) (v := .ref (q6 0)) (C := RX9) (Tb := TX9) (N := 10) hx hb hts hu_9 hown hKW hP 0 rfl rfl 4 (by decide) hf_40 rfl rfl dX9_number_33 ?_
      refine lv_aload_n hx hb dX9_number_36 rfl (lv_at hl 0 rfl) ?_
      refine k_get (ci := 9) (v := .ref (q4 0)) (C := RX9) (Tb := TX9) (N := 10) hx hb hts hu_9 hown hKW hP 0 rfl rfl 0 (by decide) hf_12 rfl rfl dX9_number_37 ?_
      refine lv_aload_n hx hb dX9_number_40 rfl (lv_at hl 0 rfl) ?_
      refine k_get (ci := 9) (v := .int (nI n)) (C := RX9) (Tb := TX9) (N := 10) hx hb hts hu_9 hown hKW hP 0 rfl rfl 9 (by decide) hf_72 rfl rfl dX9_number_41 ?_
      refine lv_iload_n hx hb dX9_number_44 rfl (lv_at hl 1 rfl) ?_
      refine lv_iconst (v := nI 1) hx hb dX9_number_45 (by decide) ?_
      have hs_46 : kSplit (wX9 q9 q4 q7 q8 q0 q6 q3 q2 q5 q1 cI cJ cB (nI n) ++ wX6 q6 cI cJ cB kinds_6 keys_6_29 places_6 kindCount_6 worthWon_6 worthDrawn_6 worthLost_6 ++ wX4 q4 cI cJ cB parts_4 wins_4 draws_4 points_4 count_4 changes_4) (wX6 q6 cI cJ cB kinds_6 keys_6_29 places_6 kindCount_6 worthWon_6 worthDrawn_6 worthLost_6 ++ wX4 q4 cI cJ cB parts_4 wins_4 draws_4 points_4 count_4 changes_4) (wX9 q9 q4 q7 q8 q0 q6 q3 q2 q5 q1 cI cJ cB (nI n)) [1, 2, 3, 4, 5, 6, 7, 8, 9] [0] := ⟨rfl, rfl, rfl, rfl, rfl, by decide⟩
      refine kc_v hP hD hS hA hs_46 (kV (As := [.ref (q4 0), .int (nI n), .int (nI kd), .int (nI 1)]) (rest := []) hx hb hml hown hts hKW hP hD hs_46 (c_X6_fillKey l D cI cJ cB q6 q4 kinds_6 keys_6_29 places_6 kindCount_6 worthWon_6 worthDrawn_6 worthLost_6 parts_4 wins_4 draws_4 points_4 count_4 changes_4 ml n kd 1 (by first | assumption | omega) (by first | assumption | omega) (by first | assumption | omega) (by first | assumption | omega) (by first | assumption | omega)) (cwV 4 hts gX9_number_X6_fillKey rfl rfl rfl (by decide +kernel) ⟨Nat.le_of_ble_eq_true rfl, Nat.le_of_ble_eq_true rfl⟩) 0 6 rfl rfl rfl rfl hl.1 rfl (Nat.le_of_ble_eq_true rfl) dX9_number_46 ⟨Nat.zero_le _, Nat.zero_le _⟩) (fun u_46 H locs hw_46 hP hD hS => ?_)
      obtain ⟨keys_6_46, rfl⟩ : ∃ z, z = u_46 := ⟨_, rfl⟩
      have hP : va_P D vwCl (wX9 q9 q4 q7 q8 q0 q6 q3 q2 q5 q1 cI cJ cB (nI n) ++ wX6 q6 cI cJ cB kinds_6 keys_6_46 places_6 kindCount_6 worthWon_6 worthDrawn_6 worthLost_6 ++ wX4 q4 cI cJ cB parts_4 wins_4 draws_4 points_4 count_4 changes_4) H := hP.sub (ws' := (wX9 q9 q4 q7 q8 q0 q6 q3 q2 q5 q1 cI cJ cB (nI n) ++ wX6 q6 cI cJ cB kinds_6 keys_6_46 places_6 kindCount_6 worthWon_6 worthDrawn_6 worthLost_6 ++ wX4 q4 cI cJ cB parts_4 wins_4 draws_4 points_4 count_4 changes_4)) [0, 1, 2, 3, 4, 5, 6, 7, 8, 9] rfl
      have hD : va_D A (wX9 q9 q4 q7 q8 q0 q6 q3 q2 q5 q1 cI cJ cB (nI n) ++ wX6 q6 cI cJ cB kinds_6 keys_6_46 places_6 kindCount_6 worthWon_6 worthDrawn_6 worthLost_6 ++ wX4 q4 cI cJ cB parts_4 wins_4 draws_4 points_4 count_4 changes_4) := hD.sub (ws' := (wX9 q9 q4 q7 q8 q0 q6 q3 q2 q5 q1 cI cJ cB (nI n) ++ wX6 q6 cI cJ cB kinds_6 keys_6_46 places_6 kindCount_6 worthWon_6 worthDrawn_6 worthLost_6 ++ wX4 q4 cI cJ cB parts_4 wins_4 draws_4 points_4 count_4 changes_4)) [0, 1, 2, 3, 4, 5, 6, 7, 8, 9] (by decide) rfl
      refine lv_aload_n hx hb dX9_number_49 rfl (lv_at hl 0 rfl) ?_
      refine k_get (ci := 9) (v := .ref (q6 0)) (C := RX9) (Tb := TX9) (N := 10) hx hb hts hu_9 hown hKW hP 0 rfl rfl 4 (by decide) hf_40 rfl rfl dX9_number_50 ?_
      refine lv_iconst (v := nI 1) hx hb dX9_number_53 (by decide) ?_
      refine lv_iload_n hx hb dX9_number_54 rfl (lv_at hl 2 rfl) ?_
      have hs_55 : kSplit (wX9 q9 q4 q7 q8 q0 q6 q3 q2 q5 q1 cI cJ cB (nI n) ++ wX6 q6 cI cJ cB kinds_6 keys_6_46 places_6 kindCount_6 worthWon_6 worthDrawn_6 worthLost_6 ++ wX4 q4 cI cJ cB parts_4 wins_4 draws_4 points_4 count_4 changes_4) (wX6 q6 cI cJ cB kinds_6 keys_6_46 places_6 kindCount_6 worthWon_6 worthDrawn_6 worthLost_6) (wX9 q9 q4 q7 q8 q0 q6 q3 q2 q5 q1 cI cJ cB (nI n) ++ wX4 q4 cI cJ cB parts_4 wins_4 draws_4 points_4 count_4 changes_4) [1, 2, 3, 4] [0, 5, 6, 7, 8, 9] := ⟨rfl, rfl, rfl, rfl, rfl, by decide⟩
      refine kc_i hP hD hS hA hs_55 (kV (As := [.int (nI 1), .int (nI x)]) (rest := []) hx hb hml hown hts hKW hP hD hs_55 (c_X6_keyOf l D cI cJ cB q6 kinds_6 keys_6_46 places_6 kindCount_6 worthWon_6 worthDrawn_6 worthLost_6 1 x (by first | assumption | omega) (by first | assumption | omega)) (cwV 2 hts gX9_number_X6_keyOf rfl rfl rfl (by decide +kernel) ⟨Nat.le_of_ble_eq_true rfl, Nat.le_of_ble_eq_true rfl⟩) 0 6 rfl rfl rfl rfl hl.1 rfl (Nat.le_of_ble_eq_true rfl) dX9_number_55 ⟨Nat.zero_le _, Nat.zero_le _⟩) (fun r_55 u_55 H locs hw_55 hP hD hS => ?_)
      have er_55 := hw_55
      have er_55 := er_55.symm
      subst er_55
      have hP : va_P D vwCl (wX9 q9 q4 q7 q8 q0 q6 q3 q2 q5 q1 cI cJ cB (nI n) ++ wX6 q6 cI cJ cB kinds_6 keys_6_46 places_6 kindCount_6 worthWon_6 worthDrawn_6 worthLost_6 ++ wX4 q4 cI cJ cB parts_4 wins_4 draws_4 points_4 count_4 changes_4) H := hP.sub (ws' := (wX9 q9 q4 q7 q8 q0 q6 q3 q2 q5 q1 cI cJ cB (nI n) ++ wX6 q6 cI cJ cB kinds_6 keys_6_46 places_6 kindCount_6 worthWon_6 worthDrawn_6 worthLost_6 ++ wX4 q4 cI cJ cB parts_4 wins_4 draws_4 points_4 count_4 changes_4)) [0, 6, 7, 8, 9, 1, 2, 3, 4, 5] rfl
      have hD : va_D A (wX9 q9 q4 q7 q8 q0 q6 q3 q2 q5 q1 cI cJ cB (nI n) ++ wX6 q6 cI cJ cB kinds_6 keys_6_46 places_6 kindCount_6 worthWon_6 worthDrawn_6 worthLost_6 ++ wX4 q4 cI cJ cB parts_4 wins_4 draws_4 points_4 count_4 changes_4) := hD.sub (ws' := (wX9 q9 q4 q7 q8 q0 q6 q3 q2 q5 q1 cI cJ cB (nI n) ++ wX6 q6 cI cJ cB kinds_6 keys_6_46 places_6 kindCount_6 worthWon_6 worthDrawn_6 worthLost_6 ++ wX4 q4 cI cJ cB parts_4 wins_4 draws_4 points_4 count_4 changes_4)) [0, 6, 7, 8, 9, 1, 2, 3, 4, 5] (by decide) rfl
      subst hQ; subst hAe
      exact W.iret (v := keys_6_46 (1 * 10 + x)) hx hb hr (fun tt9 ht9 _ => ⟨⟨keys_6_46 (1 * 10 + x), (keys_6_46), rfl, ⟨_, hw_29.1, by rw [if_pos ⟨(kIn_nI (by omega)).mpr hx2, (kIn_nI (by omega)).mpr hkd2⟩, k_tt (by omega), k_tt (by omega)]; exact hw_46.1 x hx2⟩, by rw [ht9]; exact hP, hD⟩, hS.F ht9⟩) hS.2.2 dX9_number_58
    · skip
      have c_12 := k_b0 c_12
      refine lv_iconst (v := nI 0) hx hb dX9_number_15 (by decide) ?_
      subst hQ; subst hAe
      exact W.iret (v := nI 0) hx hb hr (fun tt9 ht9 _ => ⟨⟨nI 0, (keys_6), rfl, ⟨fun a => sI (wrF (worthWon_6, worthDrawn_6, worthLost_6) ml a) n, fun _ _ => rfl, (if_neg (fun z => c_12 z.1)).symm⟩, by rw [ht9]; exact hP, hD⟩, hS.F ht9⟩) hS.2.2 dX9_number_16
