def rmX9_meeting : Room := { frames := 2, cells := 0, slots := 0, locals := 43 }
set_option maxHeartbeats 4000000 in
set_option maxRecDepth 100000 in
theorem c_X9_meeting (l : Launch) (D : va_G) (cI cJ cB : ClassId) (q9 : Nat → Nat) (q4 : Nat → Nat) (q7 : Nat → Nat) (q8 : Nat → Nat) (q0 : Nat → Nat) (q6 : Nat → Nat) (q3 : Nat → Nat) (q2 : Nat → Nat) (q5 : Nat → Nat) (q1 : Nat → Nat) (players_9 : Int32) (parts_4 : Nat → Int32) (wins_4 : Nat → Int32) (draws_4 : Nat → Int32) (points_4 : Nat → Int32) (changes_4 : Int32) (ml : List Mt) (k : Int32) (what : Int32) (hm120 : ml.length ≤ 120) : ∀ sz, Met l yX9_meeting wsX9_meeting rmX9_meeting (va_Pc [.ref (q9 0), .int k, .int what] (PW D (kT cI cJ cB) sz (wX9 q9 q4 q7 q8 q0 q6 q3 q2 q5 q1 cI cJ cB players_9 ++ wX4 q4 cI cJ cB parts_4 wins_4 draws_4 points_4 (nI ml.length) changes_4))) (va_Qi (S := Unit) (fun r _ => r = if kIn k ml.length ∧ kIn what 4 then parts_4 (k.toInt.toNat * 4 + what.toInt.toNat) else -1) (QW D sz (wX9 q9 q4 q7 q8 q0 q6 q3 q2 q5 q1 cI cJ cB players_9 ++ wX4 q4 cI cJ cB parts_4 wins_4 draws_4 points_4 (nI ml.length) changes_4) (fun _ => (wX9 q9 q4 q7 q8 q0 q6 q3 q2 q5 q1 cI cJ cB players_9 ++ wX4 q4 cI cJ cB parts_4 wins_4 draws_4 points_4 (nI ml.length) changes_4))) (va_A (wX9 q9 q4 q7 q8 q0 q6 q3 q2 q5 q1 cI cJ cB players_9 ++ wX4 q4 cI cJ cB parts_4 wins_4 draws_4 points_4 (nI ml.length) changes_4) sz)) 0 0 (va_A (wX9 q9 q4 q7 q8 q0 q6 q3 q2 q5 q1 cI cJ cB players_9 ++ wX4 q4 cI cJ cB parts_4 wins_4 draws_4 points_4 (nI ml.length) changes_4) sz) := by
  intro sz
  refine Met.ofW (cc := cX9_meeting) (maxL := 3) (ret := (some .int)) (by decide) rfl ?_
  intro p e s m args below meth c s₁ B hml hv
  obtain ⟨hav, hsz, hP, hKW, hD0⟩ := hv
  have hx := B.exec
  have hb := B.bytes
  have hr := B.returns
  have hts := atoms_spec (ws := wsX9_meeting) B.pre
  have hown : s.vm.findClass RX9 = some m.cls := findClass_of_methodNamed B.named
  have hlocks := B.notSynchronized
  subst hsz
  have hD := hD0.self (sz := s.heap.size)
  obtain ⟨A, hAe⟩ : ∃ A : Nat → Prop, A = va_A (wX9 q9 q4 q7 q8 q0 q6 q3 q2 q5 q1 cI cJ cB players_9 ++ wX4 q4 cI cJ cB parts_4 wins_4 draws_4 points_4 (nI ml.length) changes_4) s.heap.size := ⟨_, rfl⟩
  rw [← hAe] at hD
  have hA : ∀ q : Nat, s.heap.size ≤ q → A q := fun q h => by rw [hAe]; exact Or.inr h
  have hS : va_S A s.heap s.heap [] := va_S.rf
  refine k_gen (fun Q hQ => ?_)
  have hl := lv_entry ([.ref (q9 0), .int k, .int what]) (n := 3) (Nat.le_of_ble_eq_true rfl)
  refine k_entry hav (lg_entry_eq ..) ?_
  generalize (lg_sl ([.ref (q9 0), .int k, .int what]) ++ List.replicate (3 - (lg_sl ([.ref (q9 0), .int k, .int what])).length) Slot.unset).toArray = ls at hl ⊢
  have hl : lv_has ls 3 [(0, .ref (q9 0)), (1, .int k), (2, .int what)] := hl
  have hu_9 : ∀ w ∈ u_ws RX9 TX9 10, w ∈ wsX9_meeting := by decide +kernel
  have hf_12 : Cond.fieldLink RX9 12 "MeetingRanks" "meetings" "LMeetingRanks$Meetings;" ∈ wsX9_meeting := by decide +kernel
  refine lv_aload_n hx hb dX9_meeting_0 rfl (lv_at hl 0 rfl) ?_
  refine k_get (ci := 9) (v := .ref (q4 0)) (C := RX9) (Tb := TX9) (N := 10) hx hb hts hu_9 hown hKW hP 0 rfl rfl 0 (by decide) hf_12 rfl rfl dX9_meeting_1 ?_
  refine lv_iload_n hx hb dX9_meeting_4 rfl (lv_at hl 1 rfl) ?_
  refine lv_iload_n hx hb dX9_meeting_5 rfl (lv_at hl 2 rfl) ?_
  have hs_6 : kSplit (wX9 q9 q4 q7 q8 q0 q6 q3 q2 q5 q1 cI cJ cB players_9 ++ wX4 q4 cI cJ cB parts_4 wins_4 draws_4 points_4 (nI ml.length) changes_4) (wX4 q4 cI cJ cB parts_4 wins_4 draws_4 points_4 (nI ml.length) changes_4) (wX9 q9 q4 q7 q8 q0 q6 q3 q2 q5 q1 cI cJ cB players_9) [1, 2, 3, 4, 5] [0] := ⟨rfl, rfl, rfl, rfl, rfl, by decide⟩
  refine kc_i hP hD hS hA hs_6 (kV (As := [.int k, .int what]) (rest := []) hx hb hml hown hts hKW hP hD hs_6 (c_X4_part l D cI cJ cB q4 parts_4 wins_4 draws_4 points_4 changes_4 ml.length k what hm120) (cwV 2 hts gX9_meeting_X4_part rfl rfl rfl (by decide +kernel) ⟨Nat.le_of_ble_eq_true rfl, Nat.le_of_ble_eq_true rfl⟩) 0 4 rfl rfl rfl rfl hl.1 rfl (Nat.le_of_ble_eq_true rfl) dX9_meeting_6 ⟨Nat.zero_le _, Nat.zero_le _⟩) (fun r_6 u_6 H locs hw_6 hP hD hS => ?_)
  have er_6 := hw_6
  have er_6 := er_6.symm
  subst er_6
  have hP : va_P D vwCl (wX9 q9 q4 q7 q8 q0 q6 q3 q2 q5 q1 cI cJ cB players_9 ++ wX4 q4 cI cJ cB parts_4 wins_4 draws_4 points_4 (nI ml.length) changes_4) H := hP.sub (ws' := (wX9 q9 q4 q7 q8 q0 q6 q3 q2 q5 q1 cI cJ cB players_9 ++ wX4 q4 cI cJ cB parts_4 wins_4 draws_4 points_4 (nI ml.length) changes_4)) [0, 1, 2, 3, 4, 5] rfl
  have hD : va_D A (wX9 q9 q4 q7 q8 q0 q6 q3 q2 q5 q1 cI cJ cB players_9 ++ wX4 q4 cI cJ cB parts_4 wins_4 draws_4 points_4 (nI ml.length) changes_4) := hD.sub (ws' := (wX9 q9 q4 q7 q8 q0 q6 q3 q2 q5 q1 cI cJ cB players_9 ++ wX4 q4 cI cJ cB parts_4 wins_4 draws_4 points_4 (nI ml.length) changes_4)) [0, 1, 2, 3, 4, 5] (by decide) rfl
  subst hQ; subst hAe
  exact W.iret (v := if kIn k ml.length ∧ kIn what 4 then parts_4 (k.toInt.toNat * 4 + what.toInt.toNat) else -1) hx hb hr (fun tt9 ht9 _ => ⟨⟨if kIn k ml.length ∧ kIn what 4 then parts_4 (k.toInt.toNat * 4 + what.toInt.toNat) else -1, (), rfl, rfl, by rw [ht9]; exact hP, hD⟩, hS.F ht9⟩) hS.2.2 dX9_meeting_9
def rmX9_over : Room := { frames := 2, cells := 0, slots := 0, locals := 43 }
set_option maxHeartbeats 4000000 in
set_option maxRecDepth 100000 in
theorem c_X9_over (l : Launch) (D : va_G) (cI cJ cB : ClassId) (q9 : Nat → Nat) (q4 : Nat → Nat) (q7 : Nat → Nat) (q8 : Nat → Nat) (q0 : Nat → Nat) (q6 : Nat → Nat) (q3 : Nat → Nat) (q2 : Nat → Nat) (q5 : Nat → Nat) (q1 : Nat → Nat) (parts_4 : Nat → Int32) (wins_4 : Nat → Int32) (draws_4 : Nat → Int32) (points_4 : Nat → Int32) (count_4 : Int32) (changes_4 : Int32) (ml : List Mt) (n : Nat) (a : Int32) (b : Int32) (hM : MR parts_4 wins_4 draws_4 points_4 ml) (hm120 : ml.length ≤ 120) (hn1 : 1 ≤ n) (hn10 : n ≤ 10) : ∀ sz, Met l yX9_over wsX9_over rmX9_over (va_Pc [.ref (q9 0), .int a, .int b] (PW D (kT cI cJ cB) sz (wX9 q9 q4 q7 q8 q0 q6 q3 q2 q5 q1 cI cJ cB (nI n) ++ wX4 q4 cI cJ cB parts_4 wins_4 draws_4 points_4 count_4 changes_4))) (va_Qi (S := Unit) (fun r _ => r = if kIn a n ∧ kIn b n ∧ ¬ a = b then nI (ov ml a.toInt.toNat b.toInt.toNat) else -1) (QW D sz (wX9 q9 q4 q7 q8 q0 q6 q3 q2 q5 q1 cI cJ cB (nI n) ++ wX4 q4 cI cJ cB parts_4 wins_4 draws_4 points_4 count_4 changes_4) (fun _ => (wX9 q9 q4 q7 q8 q0 q6 q3 q2 q5 q1 cI cJ cB (nI n) ++ wX4 q4 cI cJ cB parts_4 wins_4 draws_4 points_4 count_4 changes_4))) (va_A (wX9 q9 q4 q7 q8 q0 q6 q3 q2 q5 q1 cI cJ cB (nI n) ++ wX4 q4 cI cJ cB parts_4 wins_4 draws_4 points_4 count_4 changes_4) sz)) 0 0 (va_A (wX9 q9 q4 q7 q8 q0 q6 q3 q2 q5 q1 cI cJ cB (nI n) ++ wX4 q4 cI cJ cB parts_4 wins_4 draws_4 points_4 count_4 changes_4) sz) := by
  intro sz
  refine Met.ofW (cc := cX9_over) (maxL := 3) (ret := (some .int)) (by decide) rfl ?_
  intro p e s m args below meth c s₁ B hml hv
  obtain ⟨hav, hsz, hP, hKW, hD0⟩ := hv
  have hx := B.exec
  have hb := B.bytes
  have hr := B.returns
  have hts := atoms_spec (ws := wsX9_over) B.pre
  have hown : s.vm.findClass RX9 = some m.cls := findClass_of_methodNamed B.named
  have hlocks := B.notSynchronized
  subst hsz
  have hD := hD0.self (sz := s.heap.size)
  obtain ⟨A, hAe⟩ : ∃ A : Nat → Prop, A = va_A (wX9 q9 q4 q7 q8 q0 q6 q3 q2 q5 q1 cI cJ cB (nI n) ++ wX4 q4 cI cJ cB parts_4 wins_4 draws_4 points_4 count_4 changes_4) s.heap.size := ⟨_, rfl⟩
  rw [← hAe] at hD
  have hA : ∀ q : Nat, s.heap.size ≤ q → A q := fun q h => by rw [hAe]; exact Or.inr h
  have hS : va_S A s.heap s.heap [] := va_S.rf
  refine k_gen (fun Q hQ => ?_)
  have hl := lv_entry ([.ref (q9 0), .int a, .int b]) (n := 3) (Nat.le_of_ble_eq_true rfl)
  refine k_entry hav (lg_entry_eq ..) ?_
  generalize (lg_sl ([.ref (q9 0), .int a, .int b]) ++ List.replicate (3 - (lg_sl ([.ref (q9 0), .int a, .int b])).length) Slot.unset).toArray = ls at hl ⊢
  have hl : lv_has ls 3 [(0, .ref (q9 0)), (1, .int a), (2, .int b)] := hl
  have hu_9 : ∀ w ∈ u_ws RX9 TX9 10, w ∈ wsX9_over := by decide +kernel
  have hf_12 : Cond.fieldLink RX9 12 "MeetingRanks" "meetings" "LMeetingRanks$Meetings;" ∈ wsX9_over := by decide +kernel
  refine lv_aload_n hx hb dX9_over_0 rfl (lv_at hl 0 rfl) ?_
  refine lv_iload_n hx hb dX9_over_1 rfl (lv_at hl 1 rfl) ?_
  refine lv_iload_n hx hb dX9_over_2 rfl (lv_at hl 2 rfl) ?_
  have hs_3 : kSplit (wX9 q9 q4 q7 q8 q0 q6 q3 q2 q5 q1 cI cJ cB (nI n) ++ wX4 q4 cI cJ cB parts_4 wins_4 draws_4 points_4 count_4 changes_4) (wX9 q9 q4 q7 q8 q0 q6 q3 q2 q5 q1 cI cJ cB (nI n)) (wX4 q4 cI cJ cB parts_4 wins_4 draws_4 points_4 count_4 changes_4) [0] [1, 2, 3, 4, 5] := ⟨rfl, rfl, rfl, rfl, rfl, by decide⟩
  refine kc_i hP hD hS hA hs_3 (kV (As := [.int a, .int b]) (rest := []) hx hb hml hown hts hKW hP hD hs_3 (c_X9_areTwo l D cI cJ cB q9 q4 q7 q8 q0 q6 q3 q2 q5 q1 n a b (by first | assumption | omega)) (cwV 2 hts gX9_over_X9_areTwo rfl rfl rfl (by decide +kernel) ⟨Nat.le_of_ble_eq_true rfl, Nat.le_of_ble_eq_true rfl⟩) 0 9 rfl rfl rfl rfl hl.1 rfl (Nat.le_of_ble_eq_true rfl) dX9_over_3 ⟨Nat.zero_le _, Nat.zero_le _⟩) (fun r_3 u_3 H locs hw_3 hP hD hS => ?_)
  have er_3 := hw_3
  have er_3 := er_3.symm
  subst er_3
  have hP : va_P D vwCl (wX9 q9 q4 q7 q8 q0 q6 q3 q2 q5 q1 cI cJ cB (nI n) ++ wX4 q4 cI cJ cB parts_4 wins_4 draws_4 points_4 count_4 changes_4) H := hP.sub (ws' := (wX9 q9 q4 q7 q8 q0 q6 q3 q2 q5 q1 cI cJ cB (nI n) ++ wX4 q4 cI cJ cB parts_4 wins_4 draws_4 points_4 count_4 changes_4)) [5, 0, 1, 2, 3, 4] rfl
  have hD : va_D A (wX9 q9 q4 q7 q8 q0 q6 q3 q2 q5 q1 cI cJ cB (nI n) ++ wX4 q4 cI cJ cB parts_4 wins_4 draws_4 points_4 count_4 changes_4) := hD.sub (ws' := (wX9 q9 q4 q7 q8 q0 q6 q3 q2 q5 q1 cI cJ cB (nI n) ++ wX4 q4 cI cJ cB parts_4 wins_4 draws_4 points_4 count_4 changes_4)) [5, 0, 1, 2, 3, 4] (by decide) rfl
  refine lv_if_eq (tgt := 21) hx hb dX9_over_6 (by decide) (fun c_6 => ?_) (fun c_6 => ?_)
  · skip
    have c_6 := k_b0 c_6
    refine lv_iconst (v := (-1)) hx hb dX9_over_21 (by decide) ?_
    subst hQ; subst hAe
    exact W.iret (v := (-1)) hx hb hr (fun tt9 ht9 _ => ⟨⟨(-1), (), rfl, (if_neg c_6).symm, by rw [ht9]; exact hP, hD⟩, hS.F ht9⟩) hS.2.2 dX9_over_22
  · skip
    have c_6 := k_b1 c_6
    have hok := c_6
    obtain ⟨a, ha, rfl⟩ := kIn_nat c_6.1
    obtain ⟨b, hb2, rfl⟩ := kIn_nat c_6.2.1
    refine lv_aload_n hx hb dX9_over_9 rfl (lv_at hl 0 rfl) ?_
    refine k_get (ci := 9) (v := .ref (q4 0)) (C := RX9) (Tb := TX9) (N := 10) hx hb hts hu_9 hown hKW hP 0 rfl rfl 0 (by decide) hf_12 rfl rfl dX9_over_10 ?_
    refine lv_iload_n hx hb dX9_over_13 rfl (lv_at hl 1 rfl) ?_
    refine lv_iload_n hx hb dX9_over_14 rfl (lv_at hl 2 rfl) ?_
    have hs_15 : kSplit (wX9 q9 q4 q7 q8 q0 q6 q3 q2 q5 q1 cI cJ cB (nI n) ++ wX4 q4 cI cJ cB parts_4 wins_4 draws_4 points_4 count_4 changes_4) (wX4 q4 cI cJ cB parts_4 wins_4 draws_4 points_4 count_4 changes_4) (wX9 q9 q4 q7 q8 q0 q6 q3 q2 q5 q1 cI cJ cB (nI n)) [1, 2, 3, 4, 5] [0] := ⟨rfl, rfl, rfl, rfl, rfl, by decide⟩
    refine kc_i hP hD hS hA hs_15 (kV (As := [.int (nI a), .int (nI b)]) (rest := []) hx hb hml hown hts hKW hP hD hs_15 (c_X4_wins l D cI cJ cB q4 parts_4 wins_4 draws_4 points_4 count_4 changes_4 a b (by first | assumption | omega) (by first | assumption | omega)) (cwV 2 hts gX9_over_X4_wins rfl rfl rfl (by decide +kernel) ⟨Nat.le_of_ble_eq_true rfl, Nat.le_of_ble_eq_true rfl⟩) 0 4 rfl rfl rfl rfl hl.1 rfl (Nat.le_of_ble_eq_true rfl) dX9_over_15 ⟨Nat.zero_le _, Nat.zero_le _⟩) (fun r_15 u_15 H locs hw_15 hP hD hS => ?_)
    have er_15 := hw_15
    have er_15 := er_15.symm
    subst er_15
    have hP : va_P D vwCl (wX9 q9 q4 q7 q8 q0 q6 q3 q2 q5 q1 cI cJ cB (nI n) ++ wX4 q4 cI cJ cB parts_4 wins_4 draws_4 points_4 count_4 changes_4) H := hP.sub (ws' := (wX9 q9 q4 q7 q8 q0 q6 q3 q2 q5 q1 cI cJ cB (nI n) ++ wX4 q4 cI cJ cB parts_4 wins_4 draws_4 points_4 count_4 changes_4)) [0, 1, 2, 3, 4, 5] rfl
    have hD : va_D A (wX9 q9 q4 q7 q8 q0 q6 q3 q2 q5 q1 cI cJ cB (nI n) ++ wX4 q4 cI cJ cB parts_4 wins_4 draws_4 points_4 count_4 changes_4) := hD.sub (ws' := (wX9 q9 q4 q7 q8 q0 q6 q3 q2 q5 q1 cI cJ cB (nI n) ++ wX4 q4 cI cJ cB parts_4 wins_4 draws_4 points_4 count_4 changes_4)) [0, 1, 2, 3, 4, 5] (by decide) rfl
    refine k_top (y := nI (ov ml a b)) ((hM.2 a b (by omega) (by omega)).1) ?_
    refine lv_goto (tgt := 22) hx hb dX9_over_18 (by decide) ?_
    subst hQ; subst hAe
    exact W.iret (v := nI (ov ml a b)) hx hb hr (fun tt9 ht9 _ => ⟨⟨nI (ov ml a b), (), rfl, by rw [if_pos hok, k_tt (by omega), k_tt (by omega)], by rw [ht9]; exact hP, hD⟩, hS.F ht9⟩) hS.2.2 dX9_over_22
def rmX9_score : Room := { frames := 3, cells := 0, slots := 0, locals := 70 }
set_option maxHeartbeats 4000000 in
set_option maxRecDepth 100000 in
theorem c_X9_score (l : Launch) (D : va_G) (cI cJ cB : ClassId) (q9 : Nat → Nat) (q4 : Nat → Nat) (q7 : Nat → Nat) (q8 : Nat → Nat) (q0 : Nat → Nat) (q6 : Nat → Nat) (q3 : Nat → Nat) (q2 : Nat → Nat) (q5 : Nat → Nat) (q1 : Nat → Nat) (kinds_6 : Nat → Int32) (keys_6 : Nat → Int32) (places_6 : Nat → Int32) (kindCount_6 : Int32) (worthWon_6 : Int32) (worthDrawn_6 : Int32) (worthLost_6 : Int32) (parts_4 : Nat → Int32) (wins_4 : Nat → Int32) (draws_4 : Nat → Int32) (points_4 : Nat → Int32) (count_4 : Int32) (changes_4 : Int32) (ml : List Mt) (n : Nat) (x : Int32) (hM : MR parts_4 wins_4 draws_4 points_4 ml) (hm120 : ml.length ≤ 120) (hn1 : 1 ≤ n) (hn10 : n ≤ 10) : ∀ sz, Met l yX9_score wsX9_score rmX9_score (va_Pc [.ref (q9 0), .int x] (PW D (kT cI cJ cB) sz (wX9 q9 q4 q7 q8 q0 q6 q3 q2 q5 q1 cI cJ cB (nI n) ++ wX6 q6 cI cJ cB kinds_6 keys_6 places_6 kindCount_6 worthWon_6 worthDrawn_6 worthLost_6 ++ wX4 q4 cI cJ cB parts_4 wins_4 draws_4 points_4 count_4 changes_4))) (va_Qi (S := (Nat → Int32)) (fun r keys_6' => r = if kIn x n then sI (wrF (worthWon_6, worthDrawn_6, worthLost_6) ml x.toInt.toNat) n else 0) (QW D sz (wX9 q9 q4 q7 q8 q0 q6 q3 q2 q5 q1 cI cJ cB (nI n) ++ wX6 q6 cI cJ cB kinds_6 keys_6 places_6 kindCount_6 worthWon_6 worthDrawn_6 worthLost_6 ++ wX4 q4 cI cJ cB parts_4 wins_4 draws_4 points_4 count_4 changes_4) (fun keys_6' => (wX9 q9 q4 q7 q8 q0 q6 q3 q2 q5 q1 cI cJ cB (nI n) ++ wX6 q6 cI cJ cB kinds_6 keys_6' places_6 kindCount_6 worthWon_6 worthDrawn_6 worthLost_6 ++ wX4 q4 cI cJ cB parts_4 wins_4 draws_4 points_4 count_4 changes_4))) (va_A (wX9 q9 q4 q7 q8 q0 q6 q3 q2 q5 q1 cI cJ cB (nI n) ++ wX6 q6 cI cJ cB kinds_6 keys_6 places_6 kindCount_6 worthWon_6 worthDrawn_6 worthLost_6 ++ wX4 q4 cI cJ cB parts_4 wins_4 draws_4 points_4 count_4 changes_4) sz)) 0 0 (va_A (wX9 q9 q4 q7 q8 q0 q6 q3 q2 q5 q1 cI cJ cB (nI n) ++ wX6 q6 cI cJ cB kinds_6 keys_6 places_6 kindCount_6 worthWon_6 worthDrawn_6 worthLost_6 ++ wX4 q4 cI cJ cB parts_4 wins_4 draws_4 points_4 count_4 changes_4) sz) := by
  intro sz
  refine Met.ofW (cc := cX9_score) (maxL := 2) (ret := (some .int)) (by decide) rfl ?_
  intro p e s m args below meth c s₁ B hml hv
  obtain ⟨hav, hsz, hP, hKW, hD0⟩ := hv
  have hx := B.exec
  have hb := B.bytes
  have hr := B.returns
  have hts := atoms_spec (ws := wsX9_score) B.pre
  have hown : s.vm.findClass RX9 = some m.cls := findClass_of_methodNamed B.named
  have hlocks := B.notSynchronized
  subst hsz
  have hD := hD0.self (sz := s.heap.size)
  obtain ⟨A, hAe⟩ : ∃ A : Nat → Prop, A = va_A (wX9 q9 q4 q7 q8 q0 q6 q3 q2 q5 q1 cI cJ cB (nI n) ++ wX6 q6 cI cJ cB kinds_6 keys_6 places_6 kindCount_6 worthWon_6 worthDrawn_6 worthLost_6 ++ wX4 q4 cI cJ cB parts_4 wins_4 draws_4 points_4 count_4 changes_4) s.heap.size := ⟨_, rfl⟩
  rw [← hAe] at hD
  have hA : ∀ q : Nat, s.heap.size ≤ q → A q := fun q h => by rw [hAe]; exact Or.inr h
  have hS : va_S A s.heap s.heap [] := va_S.rf
  refine k_gen (fun Q hQ => ?_)
  have hl := lv_entry ([.ref (q9 0), .int x]) (n := 2) (Nat.le_of_ble_eq_true rfl)
  refine k_entry hav (lg_entry_eq ..) ?_
  generalize (lg_sl ([.ref (q9 0), .int x]) ++ List.replicate (2 - (lg_sl ([.ref (q9 0), .int x])).length) Slot.unset).toArray = ls at hl ⊢
  have hl : lv_has ls 2 [(0, .ref (q9 0)), (1, .int x)] := hl
  have hu_9 : ∀ w ∈ u_ws RX9 TX9 10, w ∈ wsX9_score := by decide +kernel
  have hf_12 : Cond.fieldLink RX9 12 "MeetingRanks" "meetings" "LMeetingRanks$Meetings;" ∈ wsX9_score := by decide +kernel
  have hf_40 : Cond.fieldLink RX9 40 "MeetingRanks" "standings" "LMeetingRanks$Standings;" ∈ wsX9_score := by decide +kernel
  have hf_72 : Cond.fieldLink RX9 72 "MeetingRanks" "players" "I" ∈ wsX9_score := by decide +kernel
  refine lv_aload_n hx hb dX9_score_0 rfl (lv_at hl 0 rfl) ?_
  refine lv_iload_n hx hb dX9_score_1 rfl (lv_at hl 1 rfl) ?_
  have hs_2 : kSplit (wX9 q9 q4 q7 q8 q0 q6 q3 q2 q5 q1 cI cJ cB (nI n) ++ wX6 q6 cI cJ cB kinds_6 keys_6 places_6 kindCount_6 worthWon_6 worthDrawn_6 worthLost_6 ++ wX4 q4 cI cJ cB parts_4 wins_4 draws_4 points_4 count_4 changes_4) (wX9 q9 q4 q7 q8 q0 q6 q3 q2 q5 q1 cI cJ cB (nI n)) (wX6 q6 cI cJ cB kinds_6 keys_6 places_6 kindCount_6 worthWon_6 worthDrawn_6 worthLost_6 ++ wX4 q4 cI cJ cB parts_4 wins_4 draws_4 points_4 count_4 changes_4) [0] [1, 2, 3, 4, 5, 6, 7, 8, 9] := ⟨rfl, rfl, rfl, rfl, rfl, by decide⟩
  refine kc_i hP hD hS hA hs_2 (kV (As := [.int x]) (rest := []) hx hb hml hown hts hKW hP hD hs_2 (c_X9_isPlayer l D cI cJ cB q9 q4 q7 q8 q0 q6 q3 q2 q5 q1 n x (by first | assumption | omega)) (cwV 1 hts gX9_score_X9_isPlayer rfl rfl rfl (by decide +kernel) ⟨Nat.le_of_ble_eq_true rfl, Nat.le_of_ble_eq_true rfl⟩) 0 9 rfl rfl rfl rfl hl.1 rfl (Nat.le_of_ble_eq_true rfl) dX9_score_2 ⟨Nat.zero_le _, Nat.zero_le _⟩) (fun r_2 u_2 H locs hw_2 hP hD hS => ?_)
  have er_2 := hw_2
  have er_2 := er_2.symm
  subst er_2
  have hP : va_P D vwCl (wX9 q9 q4 q7 q8 q0 q6 q3 q2 q5 q1 cI cJ cB (nI n) ++ wX6 q6 cI cJ cB kinds_6 keys_6 places_6 kindCount_6 worthWon_6 worthDrawn_6 worthLost_6 ++ wX4 q4 cI cJ cB parts_4 wins_4 draws_4 points_4 count_4 changes_4) H := hP.sub (ws' := (wX9 q9 q4 q7 q8 q0 q6 q3 q2 q5 q1 cI cJ cB (nI n) ++ wX6 q6 cI cJ cB kinds_6 keys_6 places_6 kindCount_6 worthWon_6 worthDrawn_6 worthLost_6 ++ wX4 q4 cI cJ cB parts_4 wins_4 draws_4 points_4 count_4 changes_4)) [9, 0, 1, 2, 3, 4, 5, 6, 7, 8] rfl
  have hD : va_D A (wX9 q9 q4 q7 q8 q0 q6 q3 q2 q5 q1 cI cJ cB (nI n) ++ wX6 q6 cI cJ cB kinds_6 keys_6 places_6 kindCount_6 worthWon_6 worthDrawn_6 worthLost_6 ++ wX4 q4 cI cJ cB parts_4 wins_4 draws_4 points_4 count_4 changes_4) := hD.sub (ws' := (wX9 q9 q4 q7 q8 q0 q6 q3 q2 q5 q1 cI cJ cB (nI n) ++ wX6 q6 cI cJ cB kinds_6 keys_6 places_6 kindCount_6 worthWon_6 worthDrawn_6 worthLost_6 ++ wX4 q4 cI cJ cB parts_4 wins_4 draws_4 points_4 count_4 changes_4)) [9, 0, 1, 2, 3, 4, 5, 6, 7, 8] (by decide) rfl
  refine lv_if_ne (tgt := 10) hx hb dX9_score_5 (by decide) (fun c_5 => ?_) (fun c_5 => ?_)
  · skip
    have c_5 := k_b1 c_5
    obtain ⟨x, hx2, rfl⟩ := kIn_nat c_5
    refine lv_aload_n hx hb dX9_score_10 rfl (lv_at hl 0 rfl) ?_
    refine k_get (ci := 9) (v := .ref (q6 0)) (C := RX9) (Tb := TX9) (N := 10) hx hb hts hu_9 hown hKW hP 0 rfl rfl 4 (by decide) hf_40 rfl rfl dX9_score_11 ?_
    refine lv_aload_n hx hb dX9_score_14 rfl (lv_at hl 0 rfl) ?_
    refine k_get (ci := 9) (v := .ref (q4 0)) (C := RX9) (Tb := TX9) (N := 10) hx hb hts hu_9 hown hKW hP 0 rfl rfl 0 (by decide) hf_12 rfl rfl dX9_score_15 ?_
    refine lv_aload_n hx hb dX9_score_18 rfl (lv_at hl 0 rfl) ?_
    refine k_get (ci := 9) (v := .int (nI n)) (C := RX9) (Tb := TX9) (N := 10) hx hb hts hu_9 hown hKW hP 0 rfl rfl 9 (by decide) hf_72 rfl rfl dX9_score_19 ?_
    have hs_22 : kSplit (wX9 q9 q4 q7 q8 q0 q6 q3 q2 q5 q1 cI cJ cB (nI n) ++ wX6 q6 cI cJ cB kinds_6 keys_6 places_6 kindCount_6 worthWon_6 worthDrawn_6 worthLost_6 ++ wX4 q4 cI cJ cB parts_4 wins_4 draws_4 points_4 count_4 changes_4) (wX6 q6 cI cJ cB kinds_6 keys_6 places_6 kindCount_6 worthWon_6 worthDrawn_6 worthLost_6 ++ wX4 q4 cI cJ cB parts_4 wins_4 draws_4 points_4 count_4 changes_4) (wX9 q9 q4 q7 q8 q0 q6 q3 q2 q5 q1 cI cJ cB (nI n)) [1, 2, 3, 4, 5, 6, 7, 8, 9] [0] := ⟨rfl, rfl, rfl, rfl, rfl, by decide⟩
    refine kc_v hP hD hS hA hs_22 (kV (As := [.ref (q4 0), .int (nI n)]) (rest := []) hx hb hml hown hts hKW hP hD hs_22 (c_X6_fillScores l D cI cJ cB q6 q4 kinds_6 keys_6 places_6 kindCount_6 worthWon_6 worthDrawn_6 worthLost_6 parts_4 wins_4 draws_4 points_4 count_4 changes_4 ml n (by first | assumption | omega) (by first | assumption | omega)) (cwV 2 hts gX9_score_X6_fillScores rfl rfl rfl (by decide +kernel) ⟨Nat.le_of_ble_eq_true rfl, Nat.le_of_ble_eq_true rfl⟩) 0 6 rfl rfl rfl rfl hl.1 rfl (Nat.le_of_ble_eq_true rfl) dX9_score_22 ⟨Nat.zero_le _, Nat.zero_le _⟩) (fun u_22 H locs hw_22 hP hD hS => ?_)
    obtain ⟨keys_6_22, rfl⟩ : ∃ z, z = u_22 := ⟨_, rfl⟩
    have hP : va_P D vwCl (wX9 q9 q4 q7 q8 q0 q6 q3 q2 q5 q1 cI cJ cB (nI n) ++ wX6 q6 cI cJ cB kinds_6 keys_6_22 places_6 kindCount_6 worthWon_6 worthDrawn_6 worthLost_6 ++ wX4 q4 cI cJ cB parts_4 wins_4 draws_4 points_4 count_4 changes_4) H := hP.sub (ws' := (wX9 q9 q4 q7 q8 q0 q6 q3 q2 q5 q1 cI cJ cB (nI n) ++ wX6 q6 cI cJ cB kinds_6 keys_6_22 places_6 kindCount_6 worthWon_6 worthDrawn_6 worthLost_6 ++ wX4 q4 cI cJ cB parts_4 wins_4 draws_4 points_4 count_4 changes_4)) [0, 1, 2, 3, 4, 5, 6, 7, 8, 9] rfl
    have hD : va_D A (wX9 q9 q4 q7 q8 q0 q6 q3 q2 q5 q1 cI cJ cB (nI n) ++ wX6 q6 cI cJ cB kinds_6 keys_6_22 places_6 kindCount_6 worthWon_6 worthDrawn_6 worthLost_6 ++ wX4 q4 cI cJ cB parts_4 wins_4 draws_4 points_4 count_4 changes_4) := hD.sub (ws' := (wX9 q9 q4 q7 q8 q0 q6 q3 q2 q5 q1 cI cJ cB (nI n) ++ wX6 q6 cI cJ cB kinds_6 keys_6_22 places_6 kindCount_6 worthWon_6 worthDrawn_6 worthLost_6 ++ wX4 q4 cI cJ cB parts_4 wins_4 draws_4 points_4 count_4 changes_4)) [0, 1, 2, 3, 4, 5, 6, 7, 8, 9] (by decide) rfl
    refine lv_aload_n hx hb dX9_score_25 rfl (lv_at hl 0 rfl) ?_
    refine k_get (ci := 9) (v := .ref (q6 0)) (C := RX9) (Tb := TX9) (N := 10) hx hb hts hu_9 hown hKW hP 0 rfl rfl 4 (by decide) hf_40 rfl rfl dX9_score_26 ?_
    refine lv_iconst (v := nI 0) hx hb dX9_score_29 (by decide) ?_
    refine lv_iload_n hx hb dX9_score_30 rfl (lv_at hl 1 rfl) ?_
    have hs_31 : kSplit (wX9 q9 q4 q7 q8 q0 q6 q3 q2 q5 q1 cI cJ cB (nI n) ++ wX6 q6 cI cJ cB kinds_6 keys_6_22 places_6 kindCount_6 worthWon_6 worthDrawn_6 worthLost_6 ++ wX4 q4 cI cJ cB parts_4 wins_4 draws_4 points_4 count_4 changes_4) (wX6 q6 cI cJ cB kinds_6 keys_6_22 places_6 kindCount_6 worthWon_6 worthDrawn_6 worthLost_6) (wX9 q9 q4 q7 q8 q0 q6 q3 q2 q5 q1 cI cJ cB (nI n) ++ wX4 q4 cI cJ cB parts_4 wins_4 draws_4 points_4 count_4 changes_4) [1, 2, 3, 4] [0, 5, 6, 7, 8, 9] := ⟨rfl, rfl, rfl, rfl, rfl, by decide⟩
    refine kc_i hP hD hS hA hs_31 (kV (As := [.int (nI 0), .int (nI x)]) (rest := []) hx hb hml hown hts hKW hP hD hs_31 (c_X6_keyOf l D cI cJ cB q6 kinds_6 keys_6_22 places_6 kindCount_6 worthWon_6 worthDrawn_6 worthLost_6 0 x (by first | assumption | omega) (by first | assumption | omega)) (cwV 2 hts gX9_score_X6_keyOf rfl rfl rfl (by decide +kernel) ⟨Nat.le_of_ble_eq_true rfl, Nat.le_of_ble_eq_true rfl⟩) 0 6 rfl rfl rfl rfl hl.1 rfl (Nat.le_of_ble_eq_true rfl) dX9_score_31 ⟨Nat.zero_le _, Nat.zero_le _⟩) (fun r_31 u_31 H locs hw_31 hP hD hS => ?_)
    have er_31 := hw_31
    have er_31 := er_31.symm
    subst er_31
    have hP : va_P D vwCl (wX9 q9 q4 q7 q8 q0 q6 q3 q2 q5 q1 cI cJ cB (nI n) ++ wX6 q6 cI cJ cB kinds_6 keys_6_22 places_6 kindCount_6 worthWon_6 worthDrawn_6 worthLost_6 ++ wX4 q4 cI cJ cB parts_4 wins_4 draws_4 points_4 count_4 changes_4) H := hP.sub (ws' := (wX9 q9 q4 q7 q8 q0 q6 q3 q2 q5 q1 cI cJ cB (nI n) ++ wX6 q6 cI cJ cB kinds_6 keys_6_22 places_6 kindCount_6 worthWon_6 worthDrawn_6 worthLost_6 ++ wX4 q4 cI cJ cB parts_4 wins_4 draws_4 points_4 count_4 changes_4)) [0, 6, 7, 8, 9, 1, 2, 3, 4, 5] rfl
    have hD : va_D A (wX9 q9 q4 q7 q8 q0 q6 q3 q2 q5 q1 cI cJ cB (nI n) ++ wX6 q6 cI cJ cB kinds_6 keys_6_22 places_6 kindCount_6 worthWon_6 worthDrawn_6 worthLost_6 ++ wX4 q4 cI cJ cB parts_4 wins_4 draws_4 points_4 count_4 changes_4) := hD.sub (ws' := (wX9 q9 q4 q7 q8 q0 q6 q3 q2 q5 q1 cI cJ cB (nI n) ++ wX6 q6 cI cJ cB kinds_6 keys_6_22 places_6 kindCount_6 worthWon_6 worthDrawn_6 worthLost_6 ++ wX4 q4 cI cJ cB parts_4 wins_4 draws_4 points_4 count_4 changes_4)) [0, 6, 7, 8, 9, 1, 2, 3, 4, 5] (by decide) rfl
    refine k_top (y := sI (wrF (worthWon_6, worthDrawn_6, worthLost_6) ml x) n) (by rw [Nat.zero_mul, Nat.zero_add]; exact hw_22.1 x hx2) ?_
    subst hQ; subst hAe
    exact W.iret (v := sI (wrF (worthWon_6, worthDrawn_6, worthLost_6) ml x) n) hx hb hr (fun tt9 ht9 _ => ⟨⟨sI (wrF (worthWon_6, worthDrawn_6, worthLost_6) ml x) n, (keys_6_22), rfl, by rw [if_pos ((kIn_nI (by omega)).mpr hx2), k_tt (by omega)], by rw [ht9]; exact hP, hD⟩, hS.F ht9⟩) hS.2.2 dX9_score_34
  · skip
    have c_5 := k_b0 c_5
    refine lv_iconst (v := nI 0) hx hb dX9_score_8 (by decide) ?_
    subst hQ; subst hAe
    exact W.iret (v := nI 0) hx hb hr (fun tt9 ht9 _ => ⟨⟨nI 0, (keys_6), rfl, (if_neg c_5).symm, by rw [ht9]; exact hP, hD⟩, hS.F ht9⟩) hS.2.2 dX9_score_9
def rmX9_why : Room := { frames := 3, cells := 0, slots := 0, locals := 74 }
set_option maxHeartbeats 4000000 in
set_option maxRecDepth 100000 in
theorem c_X9_why (l : Launch) (D : va_G) (cI cJ cB : ClassId) (q9 : Nat → Nat) (q4 : Nat → Nat) (q7 : Nat → Nat) (q8 : Nat → Nat) (q0 : Nat → Nat) (q6 : Nat → Nat) (q3 : Nat → Nat) (q2 : Nat → Nat) (q5 : Nat → Nat) (q1 : Nat → Nat) (games_8 : Nat → Int32) (excess_8 : Nat → Int32) (count_8 : Int32) (parts_4 : Nat → Int32) (wins_4 : Nat → Int32) (draws_4 : Nat → Int32) (points_4 : Nat → Int32) (count_4 : Int32) (changes_4 : Int32) (ml : List Mt) (n : Nat) (nx : List (Nat × Nat)) (x : Int32) (hM : MR parts_4 wins_4 draws_4 points_4 ml) (hm120 : ml.length ≤ 120) (hn1 : 1 ≤ n) (hn10 : n ≤ 10) (hT : TC games_8 nx) : ∀ sz, Met l yX9_why wsX9_why rmX9_why (va_Pc [.ref (q9 0), .int x] (PW D (kT cI cJ cB) sz (wX9 q9 q4 q7 q8 q0 q6 q3 q2 q5 q1 cI cJ cB (nI n) ++ wX8 q8 cI cJ cB games_8 excess_8 count_8 ++ wX4 q4 cI cJ cB parts_4 wins_4 draws_4 points_4 count_4 changes_4))) (va_Qi (S := (Nat → Int32)) (fun r excess_8' => ∃ (e9 : Nat → Int32) (a9 : Nat), r = (if kIn x n then nI a9 else -1) ∧ (kIn x n → ((a9 = 0 ∧ EXc ml nx n x.toInt.toNat e9 (2 ^ n) ∧ noP x.toInt.toNat e9 (2 ^ n)) ∨ (0 < a9 ∧ a9 < 2 ^ n ∧ EXc ml nx n x.toInt.toNat e9 (a9 + 1) ∧ ¬ a9.testBit x.toInt.toNat = true ∧ 0 < e9 a9 ∧ noP x.toInt.toNat e9 a9)))) (QW D sz (wX9 q9 q4 q7 q8 q0 q6 q3 q2 q5 q1 cI cJ cB (nI n) ++ wX8 q8 cI cJ cB games_8 excess_8 count_8 ++ wX4 q4 cI cJ cB parts_4 wins_4 draws_4 points_4 count_4 changes_4) (fun excess_8' => (wX9 q9 q4 q7 q8 q0 q6 q3 q2 q5 q1 cI cJ cB (nI n) ++ wX8 q8 cI cJ cB games_8 excess_8' count_8 ++ wX4 q4 cI cJ cB parts_4 wins_4 draws_4 points_4 count_4 changes_4))) (va_A (wX9 q9 q4 q7 q8 q0 q6 q3 q2 q5 q1 cI cJ cB (nI n) ++ wX8 q8 cI cJ cB games_8 excess_8 count_8 ++ wX4 q4 cI cJ cB parts_4 wins_4 draws_4 points_4 count_4 changes_4) sz)) 0 0 (va_A (wX9 q9 q4 q7 q8 q0 q6 q3 q2 q5 q1 cI cJ cB (nI n) ++ wX8 q8 cI cJ cB games_8 excess_8 count_8 ++ wX4 q4 cI cJ cB parts_4 wins_4 draws_4 points_4 count_4 changes_4) sz) := by
  intro sz
  refine Met.ofW (cc := cX9_why) (maxL := 2) (ret := (some .int)) (by decide) rfl ?_
  intro p e s m args below meth c s₁ B hml hv
  obtain ⟨hav, hsz, hP, hKW, hD0⟩ := hv
  have hx := B.exec
  have hb := B.bytes
  have hr := B.returns
  have hts := atoms_spec (ws := wsX9_why) B.pre
  have hown : s.vm.findClass RX9 = some m.cls := findClass_of_methodNamed B.named
  have hlocks := B.notSynchronized
  subst hsz
  have hD := hD0.self (sz := s.heap.size)
  obtain ⟨A, hAe⟩ : ∃ A : Nat → Prop, A = va_A (wX9 q9 q4 q7 q8 q0 q6 q3 q2 q5 q1 cI cJ cB (nI n) ++ wX8 q8 cI cJ cB games_8 excess_8 count_8 ++ wX4 q4 cI cJ cB parts_4 wins_4 draws_4 points_4 count_4 changes_4) s.heap.size := ⟨_, rfl⟩
  rw [← hAe] at hD
  have hA : ∀ q : Nat, s.heap.size ≤ q → A q := fun q h => by rw [hAe]; exact Or.inr h
  have hS : va_S A s.heap s.heap [] := va_S.rf
  refine k_gen (fun Q hQ => ?_)
  have hl := lv_entry ([.ref (q9 0), .int x]) (n := 2) (Nat.le_of_ble_eq_true rfl)
  refine k_entry hav (lg_entry_eq ..) ?_
  generalize (lg_sl ([.ref (q9 0), .int x]) ++ List.replicate (2 - (lg_sl ([.ref (q9 0), .int x])).length) Slot.unset).toArray = ls at hl ⊢
  have hl : lv_has ls 2 [(0, .ref (q9 0)), (1, .int x)] := hl
  have hu_9 : ∀ w ∈ u_ws RX9 TX9 10, w ∈ wsX9_why := by decide +kernel
  have hf_12 : Cond.fieldLink RX9 12 "MeetingRanks" "meetings" "LMeetingRanks$Meetings;" ∈ wsX9_why := by decide +kernel
  have hf_26 : Cond.fieldLink RX9 26 "MeetingRanks" "toCome" "LMeetingRanks$ToCome;" ∈ wsX9_why := by decide +kernel
  have hf_72 : Cond.fieldLink RX9 72 "MeetingRanks" "players" "I" ∈ wsX9_why := by decide +kernel
  refine lv_aload_n hx hb dX9_why_0 rfl (lv_at hl 0 rfl) ?_
  refine lv_iload_n hx hb dX9_why_1 rfl (lv_at hl 1 rfl) ?_
  have hs_2 : kSplit (wX9 q9 q4 q7 q8 q0 q6 q3 q2 q5 q1 cI cJ cB (nI n) ++ wX8 q8 cI cJ cB games_8 excess_8 count_8 ++ wX4 q4 cI cJ cB parts_4 wins_4 draws_4 points_4 count_4 changes_4) (wX9 q9 q4 q7 q8 q0 q6 q3 q2 q5 q1 cI cJ cB (nI n)) (wX8 q8 cI cJ cB games_8 excess_8 count_8 ++ wX4 q4 cI cJ cB parts_4 wins_4 draws_4 points_4 count_4 changes_4) [0] [1, 2, 3, 4, 5, 6, 7, 8] := ⟨rfl, rfl, rfl, rfl, rfl, by decide⟩
  refine kc_i hP hD hS hA hs_2 (kV (As := [.int x]) (rest := []) hx hb hml hown hts hKW hP hD hs_2 (c_X9_isPlayer l D cI cJ cB q9 q4 q7 q8 q0 q6 q3 q2 q5 q1 n x (by first | assumption | omega)) (cwV 1 hts gX9_why_X9_isPlayer rfl rfl rfl (by decide +kernel) ⟨Nat.le_of_ble_eq_true rfl, Nat.le_of_ble_eq_true rfl⟩) 0 9 rfl rfl rfl rfl hl.1 rfl (Nat.le_of_ble_eq_true rfl) dX9_why_2 ⟨Nat.zero_le _, Nat.zero_le _⟩) (fun r_2 u_2 H locs hw_2 hP hD hS => ?_)
  have er_2 := hw_2
  have er_2 := er_2.symm
  subst er_2
  have hP : va_P D vwCl (wX9 q9 q4 q7 q8 q0 q6 q3 q2 q5 q1 cI cJ cB (nI n) ++ wX8 q8 cI cJ cB games_8 excess_8 count_8 ++ wX4 q4 cI cJ cB parts_4 wins_4 draws_4 points_4 count_4 changes_4) H := hP.sub (ws' := (wX9 q9 q4 q7 q8 q0 q6 q3 q2 q5 q1 cI cJ cB (nI n) ++ wX8 q8 cI cJ cB games_8 excess_8 count_8 ++ wX4 q4 cI cJ cB parts_4 wins_4 draws_4 points_4 count_4 changes_4)) [8, 0, 1, 2, 3, 4, 5, 6, 7] rfl
  have hD : va_D A (wX9 q9 q4 q7 q8 q0 q6 q3 q2 q5 q1 cI cJ cB (nI n) ++ wX8 q8 cI cJ cB games_8 excess_8 count_8 ++ wX4 q4 cI cJ cB parts_4 wins_4 draws_4 points_4 count_4 changes_4) := hD.sub (ws' := (wX9 q9 q4 q7 q8 q0 q6 q3 q2 q5 q1 cI cJ cB (nI n) ++ wX8 q8 cI cJ cB games_8 excess_8 count_8 ++ wX4 q4 cI cJ cB parts_4 wins_4 draws_4 points_4 count_4 changes_4)) [8, 0, 1, 2, 3, 4, 5, 6, 7] (by decide) rfl
  refine lv_if_eq (tgt := 27) hx hb dX9_why_5 (by decide) (fun c_5 => ?_) (fun c_5 => ?_)
  · skip
    have c_5 := k_b0 c_5
    refine lv_iconst (v := (-1)) hx hb dX9_why_27 (by decide) ?_
    subst hQ; subst hAe
    exact W.iret (v := (-1)) hx hb hr (fun tt9 ht9 _ => ⟨⟨(-1), (excess_8), rfl, ⟨fun _ => 0, 0, (if_neg c_5).symm, fun z => absurd z c_5⟩, by rw [ht9]; exact hP, hD⟩, hS.F ht9⟩) hS.2.2 dX9_why_28
  · skip
    have c_5 := k_b1 c_5
    obtain ⟨x, hx2, rfl⟩ := kIn_nat c_5
    refine lv_aload_n hx hb dX9_why_8 rfl (lv_at hl 0 rfl) ?_
    refine k_get (ci := 9) (v := .ref (q8 0)) (C := RX9) (Tb := TX9) (N := 10) hx hb hts hu_9 hown hKW hP 0 rfl rfl 2 (by decide) hf_26 rfl rfl dX9_why_9 ?_
    refine lv_aload_n hx hb dX9_why_12 rfl (lv_at hl 0 rfl) ?_
    refine k_get (ci := 9) (v := .ref (q4 0)) (C := RX9) (Tb := TX9) (N := 10) hx hb hts hu_9 hown hKW hP 0 rfl rfl 0 (by decide) hf_12 rfl rfl dX9_why_13 ?_
    refine lv_aload_n hx hb dX9_why_16 rfl (lv_at hl 0 rfl) ?_
    refine k_get (ci := 9) (v := .int (nI n)) (C := RX9) (Tb := TX9) (N := 10) hx hb hts hu_9 hown hKW hP 0 rfl rfl 9 (by decide) hf_72 rfl rfl dX9_why_17 ?_
    refine lv_iload_n hx hb dX9_why_20 rfl (lv_at hl 1 rfl) ?_
    have hs_21 : kSplit (wX9 q9 q4 q7 q8 q0 q6 q3 q2 q5 q1 cI cJ cB (nI n) ++ wX8 q8 cI cJ cB games_8 excess_8 count_8 ++ wX4 q4 cI cJ cB parts_4 wins_4 draws_4 points_4 count_4 changes_4) (wX8 q8 cI cJ cB games_8 excess_8 count_8 ++ wX4 q4 cI cJ cB parts_4 wins_4 draws_4 points_4 count_4 changes_4) (wX9 q9 q4 q7 q8 q0 q6 q3 q2 q5 q1 cI cJ cB (nI n)) [1, 2, 3, 4, 5, 6, 7, 8] [0] := ⟨rfl, rfl, rfl, rfl, rfl, by decide⟩
    refine kc_i hP hD hS hA hs_21 (kV (As := [.ref (q4 0), .int (nI n), .int (nI x)]) (rest := []) hx hb hml hown hts hKW hP hD hs_21 (c_X8_leastHindrance l D cI cJ cB q8 q4 games_8 excess_8 count_8 parts_4 wins_4 draws_4 points_4 count_4 changes_4 ml nx n x (by first | assumption | omega) (by first | assumption | omega) (by first | assumption | omega) (by first | assumption | omega) (by first | assumption | omega)) (cwV 3 hts gX9_why_X8_leastHindrance rfl rfl rfl (by decide +kernel) ⟨Nat.le_of_ble_eq_true rfl, Nat.le_of_ble_eq_true rfl⟩) 0 8 rfl rfl rfl rfl hl.1 rfl (Nat.le_of_ble_eq_true rfl) dX9_why_21 ⟨Nat.zero_le _, Nat.zero_le _⟩) (fun r_21 u_21 H locs hw_21 hP hD hS => ?_)
    obtain ⟨excess_8_21, rfl⟩ : ∃ z, z = u_21 := ⟨_, rfl⟩
    have hP : va_P D vwCl (wX9 q9 q4 q7 q8 q0 q6 q3 q2 q5 q1 cI cJ cB (nI n) ++ wX8 q8 cI cJ cB games_8 excess_8_21 count_8 ++ wX4 q4 cI cJ cB parts_4 wins_4 draws_4 points_4 count_4 changes_4) H := hP.sub (ws' := (wX9 q9 q4 q7 q8 q0 q6 q3 q2 q5 q1 cI cJ cB (nI n) ++ wX8 q8 cI cJ cB games_8 excess_8_21 count_8 ++ wX4 q4 cI cJ cB parts_4 wins_4 draws_4 points_4 count_4 changes_4)) [0, 1, 2, 3, 4, 5, 6, 7, 8] rfl
    have hD : va_D A (wX9 q9 q4 q7 q8 q0 q6 q3 q2 q5 q1 cI cJ cB (nI n) ++ wX8 q8 cI cJ cB games_8 excess_8_21 count_8 ++ wX4 q4 cI cJ cB parts_4 wins_4 draws_4 points_4 count_4 changes_4) := hD.sub (ws' := (wX9 q9 q4 q7 q8 q0 q6 q3 q2 q5 q1 cI cJ cB (nI n) ++ wX8 q8 cI cJ cB games_8 excess_8_21 count_8 ++ wX4 q4 cI cJ cB parts_4 wins_4 draws_4 points_4 count_4 changes_4)) [0, 1, 2, 3, 4, 5, 6, 7, 8] (by decide) rfl
    refine lv_goto (tgt := 28) hx hb dX9_why_24 (by decide) ?_
    subst hQ; subst hAe
    exact W.iret (v := r_21) hx hb hr (fun tt9 ht9 _ => ⟨⟨r_21, (excess_8_21), rfl, by obtain ⟨e9, a9, h1, h2⟩ := hw_21; exact ⟨e9, a9, by rw [if_pos ((kIn_nI (by omega)).mpr hx2)]; exact h1, fun _ => by rw [k_tt (by omega)]; exact h2⟩, by rw [ht9]; exact hP, hD⟩, hS.F ht9⟩) hS.2.2 dX9_why_28
def rmX9_best : Room := { frames := 4, cells := 0, slots := 0, locals := 99 }
set_option maxHeartbeats 4000000 in
set_option maxRecDepth 100000 in
theorem c_X9_best (l : Launch) (D : va_G) (cI cJ cB : ClassId) (q9 : Nat → Nat) (q4 : Nat → Nat) (q7 : Nat → Nat) (q8 : Nat → Nat) (q0 : Nat → Nat) (q6 : Nat → Nat) (q3 : Nat → Nat) (q2 : Nat → Nat) (q5 : Nat → Nat) (q1 : Nat → Nat) (least_5 : Nat → Int32) (many_5 : Nat → Int32) (seenChanges_5 : Int32) (seenPlayers_5 : Int32) (parts_4 : Nat → Int32) (wins_4 : Nat → Int32) (draws_4 : Nat → Int32) (points_4 : Nat → Int32) (count_4 : Int32) (changes_4 : Int32) (ml : List Mt) (n : Nat) (hM : MR parts_4 wins_4 draws_4 points_4 ml) (hm120 : ml.length ≤ 120) (hn1 : 1 ≤ n) (hn10 : n ≤ 10) (hcache : seenChanges_5 = changes_4 → seenPlayers_5 = nI n → RowOK ml n least_5 many_5 (2 ^ n)) : ∀ sz, Met l yX9_best wsX9_best rmX9_best (va_Pc [.ref (q9 0)] (PW D (kT cI cJ cB) sz (wX9 q9 q4 q7 q8 q0 q6 q3 q2 q5 q1 cI cJ cB (nI n) ++ wX5 q5 cI cJ cB least_5 many_5 seenChanges_5 seenPlayers_5 ++ wX4 q4 cI cJ cB parts_4 wins_4 draws_4 points_4 count_4 changes_4))) (va_Qi (S := (Nat → Int32) × (Nat → Int32) × Int32 × Int32) (fun r uu => match uu with | (least_5', many_5', seenChanges_5', seenPlayers_5') => seenChanges_5' = changes_4 ∧ seenPlayers_5' = nI n ∧ RowOK ml n least_5' many_5' (2 ^ n) ∧ r = least_5' (2 ^ n - 1)) (QW D sz (wX9 q9 q4 q7 q8 q0 q6 q3 q2 q5 q1 cI cJ cB (nI n) ++ wX5 q5 cI cJ cB least_5 many_5 seenChanges_5 seenPlayers_5 ++ wX4 q4 cI cJ cB parts_4 wins_4 draws_4 points_4 count_4 changes_4) (fun uu => match uu with | (least_5', many_5', seenChanges_5', seenPlayers_5') => (wX9 q9 q4 q7 q8 q0 q6 q3 q2 q5 q1 cI cJ cB (nI n) ++ wX5 q5 cI cJ cB least_5' many_5' seenChanges_5' seenPlayers_5' ++ wX4 q4 cI cJ cB parts_4 wins_4 draws_4 points_4 count_4 changes_4))) (va_A (wX9 q9 q4 q7 q8 q0 q6 q3 q2 q5 q1 cI cJ cB (nI n) ++ wX5 q5 cI cJ cB least_5 many_5 seenChanges_5 seenPlayers_5 ++ wX4 q4 cI cJ cB parts_4 wins_4 draws_4 points_4 count_4 changes_4) sz)) 0 0 (va_A (wX9 q9 q4 q7 q8 q0 q6 q3 q2 q5 q1 cI cJ cB (nI n) ++ wX5 q5 cI cJ cB least_5 many_5 seenChanges_5 seenPlayers_5 ++ wX4 q4 cI cJ cB parts_4 wins_4 draws_4 points_4 count_4 changes_4) sz) := by
  intro sz
  refine Met.ofW (cc := cX9_best) (maxL := 1) (ret := (some .int)) (by decide) rfl ?_
  intro p e s m args below meth c s₁ B hml hv
  obtain ⟨hav, hsz, hP, hKW, hD0⟩ := hv
  have hx := B.exec
  have hb := B.bytes
  have hr := B.returns
  have hts := atoms_spec (ws := wsX9_best) B.pre
  have hown : s.vm.findClass RX9 = some m.cls := findClass_of_methodNamed B.named
  have hlocks := B.notSynchronized
  subst hsz
  have hD := hD0.self (sz := s.heap.size)
  obtain ⟨A, hAe⟩ : ∃ A : Nat → Prop, A = va_A (wX9 q9 q4 q7 q8 q0 q6 q3 q2 q5 q1 cI cJ cB (nI n) ++ wX5 q5 cI cJ cB least_5 many_5 seenChanges_5 seenPlayers_5 ++ wX4 q4 cI cJ cB parts_4 wins_4 draws_4 points_4 count_4 changes_4) s.heap.size := ⟨_, rfl⟩
  rw [← hAe] at hD
  have hA : ∀ q : Nat, s.heap.size ≤ q → A q := fun q h => by rw [hAe]; exact Or.inr h
  have hS : va_S A s.heap s.heap [] := va_S.rf
  refine k_gen (fun Q hQ => ?_)
  have hl := lv_entry ([.ref (q9 0)]) (n := 1) (Nat.le_of_ble_eq_true rfl)
  refine k_entry hav (lg_entry_eq ..) ?_
  generalize (lg_sl ([.ref (q9 0)]) ++ List.replicate (1 - (lg_sl ([.ref (q9 0)])).length) Slot.unset).toArray = ls at hl ⊢
  have hl : lv_has ls 1 [(0, .ref (q9 0))] := hl
  have hu_9 : ∀ w ∈ u_ws RX9 TX9 10, w ∈ wsX9_best := by decide +kernel
  have hf_12 : Cond.fieldLink RX9 12 "MeetingRanks" "meetings" "LMeetingRanks$Meetings;" ∈ wsX9_best := by decide +kernel
  have hf_61 : Cond.fieldLink RX9 61 "MeetingRanks" "rowSearch" "LMeetingRanks$RowSearch;" ∈ wsX9_best := by decide +kernel
  have hf_72 : Cond.fieldLink RX9 72 "MeetingRanks" "players" "I" ∈ wsX9_best := by decide +kernel
  refine lv_aload_n hx hb dX9_best_0 rfl (lv_at hl 0 rfl) ?_
  refine k_get (ci := 9) (v := .ref (q5 0)) (C := RX9) (Tb := TX9) (N := 10) hx hb hts hu_9 hown hKW hP 0 rfl rfl 7 (by decide) hf_61 rfl rfl dX9_best_1 ?_
  refine lv_aload_n hx hb dX9_best_4 rfl (lv_at hl 0 rfl) ?_
  refine k_get (ci := 9) (v := .ref (q4 0)) (C := RX9) (Tb := TX9) (N := 10) hx hb hts hu_9 hown hKW hP 0 rfl rfl 0 (by decide) hf_12 rfl rfl dX9_best_5 ?_
  refine lv_aload_n hx hb dX9_best_8 rfl (lv_at hl 0 rfl) ?_
  refine k_get (ci := 9) (v := .int (nI n)) (C := RX9) (Tb := TX9) (N := 10) hx hb hts hu_9 hown hKW hP 0 rfl rfl 9 (by decide) hf_72 rfl rfl dX9_best_9 ?_
  have hs_12 : kSplit (wX9 q9 q4 q7 q8 q0 q6 q3 q2 q5 q1 cI cJ cB (nI n) ++ wX5 q5 cI cJ cB least_5 many_5 seenChanges_5 seenPlayers_5 ++ wX4 q4 cI cJ cB parts_4 wins_4 draws_4 points_4 count_4 changes_4) (wX5 q5 cI cJ cB least_5 many_5 seenChanges_5 seenPlayers_5 ++ wX4 q4 cI cJ cB parts_4 wins_4 draws_4 points_4 count_4 changes_4) (wX9 q9 q4 q7 q8 q0 q6 q3 q2 q5 q1 cI cJ cB (nI n)) [1, 2, 3, 4, 5, 6, 7, 8] [0] := ⟨rfl, rfl, rfl, rfl, rfl, by decide⟩
  refine kc_v hP hD hS hA hs_12 (kV (As := [.ref (q4 0), .int (nI n)]) (rest := []) hx hb hml hown hts hKW hP hD hs_12 (c_X5_search l D cI cJ cB q5 q4 least_5 many_5 seenChanges_5 seenPlayers_5 parts_4 wins_4 draws_4 points_4 count_4 changes_4 ml n (by first | assumption | omega) (by first | assumption | omega) (by first | assumption | omega) (by first | assumption | omega)) (cwV 2 hts gX9_best_X5_search rfl rfl rfl (by decide +kernel) ⟨Nat.le_of_ble_eq_true rfl, Nat.le_of_ble_eq_true rfl⟩) 0 5 rfl rfl rfl rfl hl.1 rfl (Nat.le_of_ble_eq_true rfl) dX9_best_12 ⟨Nat.zero_le _, Nat.zero_le _⟩) (fun u_12 H locs hw_12 hP hD hS => ?_)
  obtain ⟨least_5_12, many_5_12, seenChanges_5_12, seenPlayers_5_12⟩ := u_12
  obtain ⟨e_seenChanges_5_12, e_seenPlayers_5_12, hw_12⟩ := hw_12
  have e_seenChanges_5_12 := e_seenChanges_5_12.symm
  subst e_seenChanges_5_12
  have e_seenPlayers_5_12 := e_seenPlayers_5_12.symm
  subst e_seenPlayers_5_12
  have hP : va_P D vwCl (wX9 q9 q4 q7 q8 q0 q6 q3 q2 q5 q1 cI cJ cB (nI n) ++ wX5 q5 cI cJ cB least_5_12 many_5_12 changes_4 (nI n) ++ wX4 q4 cI cJ cB parts_4 wins_4 draws_4 points_4 count_4 changes_4) H := hP.sub (ws' := (wX9 q9 q4 q7 q8 q0 q6 q3 q2 q5 q1 cI cJ cB (nI n) ++ wX5 q5 cI cJ cB least_5_12 many_5_12 changes_4 (nI n) ++ wX4 q4 cI cJ cB parts_4 wins_4 draws_4 points_4 count_4 changes_4)) [0, 1, 2, 3, 4, 5, 6, 7, 8] rfl
  have hD : va_D A (wX9 q9 q4 q7 q8 q0 q6 q3 q2 q5 q1 cI cJ cB (nI n) ++ wX5 q5 cI cJ cB least_5_12 many_5_12 changes_4 (nI n) ++ wX4 q4 cI cJ cB parts_4 wins_4 draws_4 points_4 count_4 changes_4) := hD.sub (ws' := (wX9 q9 q4 q7 q8 q0 q6 q3 q2 q5 q1 cI cJ cB (nI n) ++ wX5 q5 cI cJ cB least_5_12 many_5_12 changes_4 (nI n) ++ wX4 q4 cI cJ cB parts_4 wins_4 draws_4 points_4 count_4 changes_4)) [0, 1, 2, 3, 4, 5, 6, 7, 8] (by decide) rfl
  refine lv_aload_n hx hb dX9_best_15 rfl (lv_at hl 0 rfl) ?_
  refine k_get (ci := 9) (v := .ref (q5 0)) (C := RX9) (Tb := TX9) (N := 10) hx hb hts hu_9 hown hKW hP 0 rfl rfl 7 (by decide) hf_61 rfl rfl dX9_best_16 ?_
  refine lv_aload_n hx hb dX9_best_19 rfl (lv_at hl 0 rfl) ?_
  refine k_get (ci := 9) (v := .int (nI n)) (C := RX9) (Tb := TX9) (N := 10) hx hb hts hu_9 hown hKW hP 0 rfl rfl 9 (by decide) hf_72 rfl rfl dX9_best_20 ?_
  have hs_23 : kSplit (wX9 q9 q4 q7 q8 q0 q6 q3 q2 q5 q1 cI cJ cB (nI n) ++ wX5 q5 cI cJ cB least_5_12 many_5_12 changes_4 (nI n) ++ wX4 q4 cI cJ cB parts_4 wins_4 draws_4 points_4 count_4 changes_4) (wX5 q5 cI cJ cB least_5_12 many_5_12 changes_4 (nI n)) (wX9 q9 q4 q7 q8 q0 q6 q3 q2 q5 q1 cI cJ cB (nI n) ++ wX4 q4 cI cJ cB parts_4 wins_4 draws_4 points_4 count_4 changes_4) [1, 2, 3] [0, 4, 5, 6, 7, 8] := ⟨rfl, rfl, rfl, rfl, rfl, by decide⟩
  refine kc_i hP hD hS hA hs_23 (kV (As := [.int (nI n)]) (rest := []) hx hb hml hown hts hKW hP hD hs_23 (c_X5_leastCost l D cI cJ cB q5 least_5_12 many_5_12 changes_4 (nI n) n (by first | assumption | omega)) (cwV 1 hts gX9_best_X5_leastCost rfl rfl rfl (by decide +kernel) ⟨Nat.le_of_ble_eq_true rfl, Nat.le_of_ble_eq_true rfl⟩) 0 5 rfl rfl rfl rfl hl.1 rfl (Nat.le_of_ble_eq_true rfl) dX9_best_23 ⟨Nat.zero_le _, Nat.zero_le _⟩) (fun r_23 u_23 H locs hw_23 hP hD hS => ?_)
  have er_23 := hw_23
  have er_23 := er_23.symm
  subst er_23
  have hP : va_P D vwCl (wX9 q9 q4 q7 q8 q0 q6 q3 q2 q5 q1 cI cJ cB (nI n) ++ wX5 q5 cI cJ cB least_5_12 many_5_12 changes_4 (nI n) ++ wX4 q4 cI cJ cB parts_4 wins_4 draws_4 points_4 count_4 changes_4) H := hP.sub (ws' := (wX9 q9 q4 q7 q8 q0 q6 q3 q2 q5 q1 cI cJ cB (nI n) ++ wX5 q5 cI cJ cB least_5_12 many_5_12 changes_4 (nI n) ++ wX4 q4 cI cJ cB parts_4 wins_4 draws_4 points_4 count_4 changes_4)) [0, 6, 7, 8, 1, 2, 3, 4, 5] rfl
  have hD : va_D A (wX9 q9 q4 q7 q8 q0 q6 q3 q2 q5 q1 cI cJ cB (nI n) ++ wX5 q5 cI cJ cB least_5_12 many_5_12 changes_4 (nI n) ++ wX4 q4 cI cJ cB parts_4 wins_4 draws_4 points_4 count_4 changes_4) := hD.sub (ws' := (wX9 q9 q4 q7 q8 q0 q6 q3 q2 q5 q1 cI cJ cB (nI n) ++ wX5 q5 cI cJ cB least_5_12 many_5_12 changes_4 (nI n) ++ wX4 q4 cI cJ cB parts_4 wins_4 draws_4 points_4 count_4 changes_4)) [0, 6, 7, 8, 1, 2, 3, 4, 5] (by decide) rfl
  subst hQ; subst hAe
  exact W.iret (v := least_5_12 (2 ^ n - 1)) hx hb hr (fun tt9 ht9 _ => ⟨⟨least_5_12 (2 ^ n - 1), (least_5_12, many_5_12, changes_4, nI n), rfl, ⟨rfl, rfl, hw_12, rfl⟩, by rw [ht9]; exact hP, hD⟩, hS.F ht9⟩) hS.2.2 dX9_best_26
def rmX9_rows : Room := { frames := 4, cells := 0, slots := 0, locals := 99 }
set_option maxHeartbeats 4000000 in
set_option maxRecDepth 100000 in
theorem c_X9_rows (l : Launch) (D : va_G) (cI cJ cB : ClassId) (q9 : Nat → Nat) (q4 : Nat → Nat) (q7 : Nat → Nat) (q8 : Nat → Nat) (q0 : Nat → Nat) (q6 : Nat → Nat) (q3 : Nat → Nat) (q2 : Nat → Nat) (q5 : Nat → Nat) (q1 : Nat → Nat) (least_5 : Nat → Int32) (many_5 : Nat → Int32) (seenChanges_5 : Int32) (seenPlayers_5 : Int32) (parts_4 : Nat → Int32) (wins_4 : Nat → Int32) (draws_4 : Nat → Int32) (points_4 : Nat → Int32) (count_4 : Int32) (changes_4 : Int32) (ml : List Mt) (n : Nat) (hM : MR parts_4 wins_4 draws_4 points_4 ml) (hm120 : ml.length ≤ 120) (hn1 : 1 ≤ n) (hn10 : n ≤ 10) (hcache : seenChanges_5 = changes_4 → seenPlayers_5 = nI n → RowOK ml n least_5 many_5 (2 ^ n)) : ∀ sz, Met l yX9_rows wsX9_rows rmX9_rows (va_Pc [.ref (q9 0)] (PW D (kT cI cJ cB) sz (wX9 q9 q4 q7 q8 q0 q6 q3 q2 q5 q1 cI cJ cB (nI n) ++ wX5 q5 cI cJ cB least_5 many_5 seenChanges_5 seenPlayers_5 ++ wX4 q4 cI cJ cB parts_4 wins_4 draws_4 points_4 count_4 changes_4))) (va_Qi (S := (Nat → Int32) × (Nat → Int32) × Int32 × Int32) (fun r uu => match uu with | (least_5', many_5', seenChanges_5', seenPlayers_5') => seenChanges_5' = changes_4 ∧ seenPlayers_5' = nI n ∧ RowOK ml n least_5' many_5' (2 ^ n) ∧ r = many_5' (2 ^ n - 1)) (QW D sz (wX9 q9 q4 q7 q8 q0 q6 q3 q2 q5 q1 cI cJ cB (nI n) ++ wX5 q5 cI cJ cB least_5 many_5 seenChanges_5 seenPlayers_5 ++ wX4 q4 cI cJ cB parts_4 wins_4 draws_4 points_4 count_4 changes_4) (fun uu => match uu with | (least_5', many_5', seenChanges_5', seenPlayers_5') => (wX9 q9 q4 q7 q8 q0 q6 q3 q2 q5 q1 cI cJ cB (nI n) ++ wX5 q5 cI cJ cB least_5' many_5' seenChanges_5' seenPlayers_5' ++ wX4 q4 cI cJ cB parts_4 wins_4 draws_4 points_4 count_4 changes_4))) (va_A (wX9 q9 q4 q7 q8 q0 q6 q3 q2 q5 q1 cI cJ cB (nI n) ++ wX5 q5 cI cJ cB least_5 many_5 seenChanges_5 seenPlayers_5 ++ wX4 q4 cI cJ cB parts_4 wins_4 draws_4 points_4 count_4 changes_4) sz)) 0 0 (va_A (wX9 q9 q4 q7 q8 q0 q6 q3 q2 q5 q1 cI cJ cB (nI n) ++ wX5 q5 cI cJ cB least_5 many_5 seenChanges_5 seenPlayers_5 ++ wX4 q4 cI cJ cB parts_4 wins_4 draws_4 points_4 count_4 changes_4) sz) := by
  intro sz
  refine Met.ofW (cc := cX9_rows) (maxL := 1) (ret := (some .int)) (by decide) rfl ?_
  intro p e s m args below meth c s₁ B hml hv
  obtain ⟨hav, hsz, hP, hKW, hD0⟩ := hv
  have hx := B.exec
  have hb := B.bytes
  have hr := B.returns
  have hts := atoms_spec (ws := wsX9_rows) B.pre
  have hown : s.vm.findClass RX9 = some m.cls := findClass_of_methodNamed B.named
  have hlocks := B.notSynchronized
  subst hsz
  have hD := hD0.self (sz := s.heap.size)
  obtain ⟨A, hAe⟩ : ∃ A : Nat → Prop, A = va_A (wX9 q9 q4 q7 q8 q0 q6 q3 q2 q5 q1 cI cJ cB (nI n) ++ wX5 q5 cI cJ cB least_5 many_5 seenChanges_5 seenPlayers_5 ++ wX4 q4 cI cJ cB parts_4 wins_4 draws_4 points_4 count_4 changes_4) s.heap.size := ⟨_, rfl⟩
  rw [← hAe] at hD
  have hA : ∀ q : Nat, s.heap.size ≤ q → A q := fun q h => by rw [hAe]; exact Or.inr h
  have hS : va_S A s.heap s.heap [] := va_S.rf
  refine k_gen (fun Q hQ => ?_)
  have hl := lv_entry ([.ref (q9 0)]) (n := 1) (Nat.le_of_ble_eq_true rfl)
  refine k_entry hav (lg_entry_eq ..) ?_
  generalize (lg_sl ([.ref (q9 0)]) ++ List.replicate (1 - (lg_sl ([.ref (q9 0)])).length) Slot.unset).toArray = ls at hl ⊢
  have hl : lv_has ls 1 [(0, .ref (q9 0))] := hl
  have hu_9 : ∀ w ∈ u_ws RX9 TX9 10, w ∈ wsX9_rows := by decide +kernel
  have hf_12 : Cond.fieldLink RX9 12 "MeetingRanks" "meetings" "LMeetingRanks$Meetings;" ∈ wsX9_rows := by decide +kernel
  have hf_61 : Cond.fieldLink RX9 61 "MeetingRanks" "rowSearch" "LMeetingRanks$RowSearch;" ∈ wsX9_rows := by decide +kernel
  have hf_72 : Cond.fieldLink RX9 72 "MeetingRanks" "players" "I" ∈ wsX9_rows := by decide +kernel
  refine lv_aload_n hx hb dX9_rows_0 rfl (lv_at hl 0 rfl) ?_
  refine k_get (ci := 9) (v := .ref (q5 0)) (C := RX9) (Tb := TX9) (N := 10) hx hb hts hu_9 hown hKW hP 0 rfl rfl 7 (by decide) hf_61 rfl rfl dX9_rows_1 ?_
  refine lv_aload_n hx hb dX9_rows_4 rfl (lv_at hl 0 rfl) ?_
  refine k_get (ci := 9) (v := .ref (q4 0)) (C := RX9) (Tb := TX9) (N := 10) hx hb hts hu_9 hown hKW hP 0 rfl rfl 0 (by decide) hf_12 rfl rfl dX9_rows_5 ?_
  refine lv_aload_n hx hb dX9_rows_8 rfl (lv_at hl 0 rfl) ?_
  refine k_get (ci := 9) (v := .int (nI n)) (C := RX9) (Tb := TX9) (N := 10) hx hb hts hu_9 hown hKW hP 0 rfl rfl 9 (by decide) hf_72 rfl rfl dX9_rows_9 ?_
  have hs_12 : kSplit (wX9 q9 q4 q7 q8 q0 q6 q3 q2 q5 q1 cI cJ cB (nI n) ++ wX5 q5 cI cJ cB least_5 many_5 seenChanges_5 seenPlayers_5 ++ wX4 q4 cI cJ cB parts_4 wins_4 draws_4 points_4 count_4 changes_4) (wX5 q5 cI cJ cB least_5 many_5 seenChanges_5 seenPlayers_5 ++ wX4 q4 cI cJ cB parts_4 wins_4 draws_4 points_4 count_4 changes_4) (wX9 q9 q4 q7 q8 q0 q6 q3 q2 q5 q1 cI cJ cB (nI n)) [1, 2, 3, 4, 5, 6, 7, 8] [0] := ⟨rfl, rfl, rfl, rfl, rfl, by decide⟩
  refine kc_v hP hD hS hA hs_12 (kV (As := [.ref (q4 0), .int (nI n)]) (rest := []) hx hb hml hown hts hKW hP hD hs_12 (c_X5_search l D cI cJ cB q5 q4 least_5 many_5 seenChanges_5 seenPlayers_5 parts_4 wins_4 draws_4 points_4 count_4 changes_4 ml n (by first | assumption | omega) (by first | assumption | omega) (by first | assumption | omega) (by first | assumption | omega)) (cwV 2 hts gX9_rows_X5_search rfl rfl rfl (by decide +kernel) ⟨Nat.le_of_ble_eq_true rfl, Nat.le_of_ble_eq_true rfl⟩) 0 5 rfl rfl rfl rfl hl.1 rfl (Nat.le_of_ble_eq_true rfl) dX9_rows_12 ⟨Nat.zero_le _, Nat.zero_le _⟩) (fun u_12 H locs hw_12 hP hD hS => ?_)
  obtain ⟨least_5_12, many_5_12, seenChanges_5_12, seenPlayers_5_12⟩ := u_12
  obtain ⟨e_seenChanges_5_12, e_seenPlayers_5_12, hw_12⟩ := hw_12
  have e_seenChanges_5_12 := e_seenChanges_5_12.symm
  subst e_seenChanges_5_12
  have e_seenPlayers_5_12 := e_seenPlayers_5_12.symm
  subst e_seenPlayers_5_12
  have hP : va_P D vwCl (wX9 q9 q4 q7 q8 q0 q6 q3 q2 q5 q1 cI cJ cB (nI n) ++ wX5 q5 cI cJ cB least_5_12 many_5_12 changes_4 (nI n) ++ wX4 q4 cI cJ cB parts_4 wins_4 draws_4 points_4 count_4 changes_4) H := hP.sub (ws' := (wX9 q9 q4 q7 q8 q0 q6 q3 q2 q5 q1 cI cJ cB (nI n) ++ wX5 q5 cI cJ cB least_5_12 many_5_12 changes_4 (nI n) ++ wX4 q4 cI cJ cB parts_4 wins_4 draws_4 points_4 count_4 changes_4)) [0, 1, 2, 3, 4, 5, 6, 7, 8] rfl
  have hD : va_D A (wX9 q9 q4 q7 q8 q0 q6 q3 q2 q5 q1 cI cJ cB (nI n) ++ wX5 q5 cI cJ cB least_5_12 many_5_12 changes_4 (nI n) ++ wX4 q4 cI cJ cB parts_4 wins_4 draws_4 points_4 count_4 changes_4) := hD.sub (ws' := (wX9 q9 q4 q7 q8 q0 q6 q3 q2 q5 q1 cI cJ cB (nI n) ++ wX5 q5 cI cJ cB least_5_12 many_5_12 changes_4 (nI n) ++ wX4 q4 cI cJ cB parts_4 wins_4 draws_4 points_4 count_4 changes_4)) [0, 1, 2, 3, 4, 5, 6, 7, 8] (by decide) rfl
  refine lv_aload_n hx hb dX9_rows_15 rfl (lv_at hl 0 rfl) ?_
  refine k_get (ci := 9) (v := .ref (q5 0)) (C := RX9) (Tb := TX9) (N := 10) hx hb hts hu_9 hown hKW hP 0 rfl rfl 7 (by decide) hf_61 rfl rfl dX9_rows_16 ?_
  refine lv_aload_n hx hb dX9_rows_19 rfl (lv_at hl 0 rfl) ?_
  refine k_get (ci := 9) (v := .int (nI n)) (C := RX9) (Tb := TX9) (N := 10) hx hb hts hu_9 hown hKW hP 0 rfl rfl 9 (by decide) hf_72 rfl rfl dX9_rows_20 ?_
  have hs_23 : kSplit (wX9 q9 q4 q7 q8 q0 q6 q3 q2 q5 q1 cI cJ cB (nI n) ++ wX5 q5 cI cJ cB least_5_12 many_5_12 changes_4 (nI n) ++ wX4 q4 cI cJ cB parts_4 wins_4 draws_4 points_4 count_4 changes_4) (wX5 q5 cI cJ cB least_5_12 many_5_12 changes_4 (nI n)) (wX9 q9 q4 q7 q8 q0 q6 q3 q2 q5 q1 cI cJ cB (nI n) ++ wX4 q4 cI cJ cB parts_4 wins_4 draws_4 points_4 count_4 changes_4) [1, 2, 3] [0, 4, 5, 6, 7, 8] := ⟨rfl, rfl, rfl, rfl, rfl, by decide⟩
  refine kc_i hP hD hS hA hs_23 (kV (As := [.int (nI n)]) (rest := []) hx hb hml hown hts hKW hP hD hs_23 (c_X5_howMany l D cI cJ cB q5 least_5_12 many_5_12 changes_4 (nI n) n (by first | assumption | omega)) (cwV 1 hts gX9_rows_X5_howMany rfl rfl rfl (by decide +kernel) ⟨Nat.le_of_ble_eq_true rfl, Nat.le_of_ble_eq_true rfl⟩) 0 5 rfl rfl rfl rfl hl.1 rfl (Nat.le_of_ble_eq_true rfl) dX9_rows_23 ⟨Nat.zero_le _, Nat.zero_le _⟩) (fun r_23 u_23 H locs hw_23 hP hD hS => ?_)
  have er_23 := hw_23
  have er_23 := er_23.symm
  subst er_23
  have hP : va_P D vwCl (wX9 q9 q4 q7 q8 q0 q6 q3 q2 q5 q1 cI cJ cB (nI n) ++ wX5 q5 cI cJ cB least_5_12 many_5_12 changes_4 (nI n) ++ wX4 q4 cI cJ cB parts_4 wins_4 draws_4 points_4 count_4 changes_4) H := hP.sub (ws' := (wX9 q9 q4 q7 q8 q0 q6 q3 q2 q5 q1 cI cJ cB (nI n) ++ wX5 q5 cI cJ cB least_5_12 many_5_12 changes_4 (nI n) ++ wX4 q4 cI cJ cB parts_4 wins_4 draws_4 points_4 count_4 changes_4)) [0, 6, 7, 8, 1, 2, 3, 4, 5] rfl
  have hD : va_D A (wX9 q9 q4 q7 q8 q0 q6 q3 q2 q5 q1 cI cJ cB (nI n) ++ wX5 q5 cI cJ cB least_5_12 many_5_12 changes_4 (nI n) ++ wX4 q4 cI cJ cB parts_4 wins_4 draws_4 points_4 count_4 changes_4) := hD.sub (ws' := (wX9 q9 q4 q7 q8 q0 q6 q3 q2 q5 q1 cI cJ cB (nI n) ++ wX5 q5 cI cJ cB least_5_12 many_5_12 changes_4 (nI n) ++ wX4 q4 cI cJ cB parts_4 wins_4 draws_4 points_4 count_4 changes_4)) [0, 6, 7, 8, 1, 2, 3, 4, 5] (by decide) rfl
  subst hQ; subst hAe
  exact W.iret (v := many_5_12 (2 ^ n - 1)) hx hb hr (fun tt9 ht9 _ => ⟨⟨many_5_12 (2 ^ n - 1), (least_5_12, many_5_12, changes_4, nI n), rfl, ⟨rfl, rfl, hw_12, rfl⟩, by rw [ht9]; exact hP, hD⟩, hS.F ht9⟩) hS.2.2 dX9_rows_26
def rmX9_first : Room := { frames := 4, cells := 0, slots := 0, locals := 100 }
set_option maxHeartbeats 4000000 in
set_option maxRecDepth 100000 in
theorem c_X9_first (l : Launch) (D : va_G) (cI cJ cB : ClassId) (q9 : Nat → Nat) (q4 : Nat → Nat) (q7 : Nat → Nat) (q8 : Nat → Nat) (q0 : Nat → Nat) (q6 : Nat → Nat) (q3 : Nat → Nat) (q2 : Nat → Nat) (q5 : Nat → Nat) (q1 : Nat → Nat) (least_5 : Nat → Int32) (many_5 : Nat → Int32) (seenChanges_5 : Int32) (seenPlayers_5 : Int32) (parts_4 : Nat → Int32) (wins_4 : Nat → Int32) (draws_4 : Nat → Int32) (points_4 : Nat → Int32) (count_4 : Int32) (changes_4 : Int32) (ml : List Mt) (n : Nat) (hM : MR parts_4 wins_4 draws_4 points_4 ml) (hm120 : ml.length ≤ 120) (hn1 : 1 ≤ n) (hn10 : n ≤ 10) (hcache : seenChanges_5 = changes_4 → seenPlayers_5 = nI n → RowOK ml n least_5 many_5 (2 ^ n)) : ∀ sz, Met l yX9_first wsX9_first rmX9_first (va_Pc [.ref (q9 0)] (PW D (kT cI cJ cB) sz (wX9 q9 q4 q7 q8 q0 q6 q3 q2 q5 q1 cI cJ cB (nI n) ++ wX5 q5 cI cJ cB least_5 many_5 seenChanges_5 seenPlayers_5 ++ wX4 q4 cI cJ cB parts_4 wins_4 draws_4 points_4 count_4 changes_4))) (va_Ql (S := (Nat → Int32) × (Nat → Int32) × Int32 × Int32) (fun r uu => match uu with | (least_5', many_5', seenChanges_5', seenPlayers_5') => seenChanges_5' = changes_4 ∧ seenPlayers_5' = nI n ∧ RowOK ml n least_5' many_5' (2 ^ n) ∧ r = (rwF (hdF ml n least_5') (2 ^ n - 1) n).1) (QW D sz (wX9 q9 q4 q7 q8 q0 q6 q3 q2 q5 q1 cI cJ cB (nI n) ++ wX5 q5 cI cJ cB least_5 many_5 seenChanges_5 seenPlayers_5 ++ wX4 q4 cI cJ cB parts_4 wins_4 draws_4 points_4 count_4 changes_4) (fun uu => match uu with | (least_5', many_5', seenChanges_5', seenPlayers_5') => (wX9 q9 q4 q7 q8 q0 q6 q3 q2 q5 q1 cI cJ cB (nI n) ++ wX5 q5 cI cJ cB least_5' many_5' seenChanges_5' seenPlayers_5' ++ wX4 q4 cI cJ cB parts_4 wins_4 draws_4 points_4 count_4 changes_4))) (va_A (wX9 q9 q4 q7 q8 q0 q6 q3 q2 q5 q1 cI cJ cB (nI n) ++ wX5 q5 cI cJ cB least_5 many_5 seenChanges_5 seenPlayers_5 ++ wX4 q4 cI cJ cB parts_4 wins_4 draws_4 points_4 count_4 changes_4) sz)) 0 0 (va_A (wX9 q9 q4 q7 q8 q0 q6 q3 q2 q5 q1 cI cJ cB (nI n) ++ wX5 q5 cI cJ cB least_5 many_5 seenChanges_5 seenPlayers_5 ++ wX4 q4 cI cJ cB parts_4 wins_4 draws_4 points_4 count_4 changes_4) sz) := by
  intro sz
  refine Met.ofW (cc := cX9_first) (maxL := 1) (ret := (some .long)) (by decide) rfl ?_
  intro p e s m args below meth c s₁ B hml hv
  obtain ⟨hav, hsz, hP, hKW, hD0⟩ := hv
  have hx := B.exec
  have hb := B.bytes
  have hr := B.returns
  have hts := atoms_spec (ws := wsX9_first) B.pre
  have hown : s.vm.findClass RX9 = some m.cls := findClass_of_methodNamed B.named
  have hlocks := B.notSynchronized
  subst hsz
  have hD := hD0.self (sz := s.heap.size)
  obtain ⟨A, hAe⟩ : ∃ A : Nat → Prop, A = va_A (wX9 q9 q4 q7 q8 q0 q6 q3 q2 q5 q1 cI cJ cB (nI n) ++ wX5 q5 cI cJ cB least_5 many_5 seenChanges_5 seenPlayers_5 ++ wX4 q4 cI cJ cB parts_4 wins_4 draws_4 points_4 count_4 changes_4) s.heap.size := ⟨_, rfl⟩
  rw [← hAe] at hD
  have hA : ∀ q : Nat, s.heap.size ≤ q → A q := fun q h => by rw [hAe]; exact Or.inr h
  have hS : va_S A s.heap s.heap [] := va_S.rf
  refine k_gen (fun Q hQ => ?_)
  have hl := lv_entry ([.ref (q9 0)]) (n := 1) (Nat.le_of_ble_eq_true rfl)
  refine k_entry hav (lg_entry_eq ..) ?_
  generalize (lg_sl ([.ref (q9 0)]) ++ List.replicate (1 - (lg_sl ([.ref (q9 0)])).length) Slot.unset).toArray = ls at hl ⊢
  have hl : lv_has ls 1 [(0, .ref (q9 0))] := hl
  have hu_9 : ∀ w ∈ u_ws RX9 TX9 10, w ∈ wsX9_first := by decide +kernel
  have hf_12 : Cond.fieldLink RX9 12 "MeetingRanks" "meetings" "LMeetingRanks$Meetings;" ∈ wsX9_first := by decide +kernel
  have hf_61 : Cond.fieldLink RX9 61 "MeetingRanks" "rowSearch" "LMeetingRanks$RowSearch;" ∈ wsX9_first := by decide +kernel
  have hf_72 : Cond.fieldLink RX9 72 "MeetingRanks" "players" "I" ∈ wsX9_first := by decide +kernel
  refine lv_aload_n hx hb dX9_first_0 rfl (lv_at hl 0 rfl) ?_
  refine k_get (ci := 9) (v := .ref (q5 0)) (C := RX9) (Tb := TX9) (N := 10) hx hb hts hu_9 hown hKW hP 0 rfl rfl 7 (by decide) hf_61 rfl rfl dX9_first_1 ?_
  refine lv_aload_n hx hb dX9_first_4 rfl (lv_at hl 0 rfl) ?_
  refine k_get (ci := 9) (v := .ref (q4 0)) (C := RX9) (Tb := TX9) (N := 10) hx hb hts hu_9 hown hKW hP 0 rfl rfl 0 (by decide) hf_12 rfl rfl dX9_first_5 ?_
  refine lv_aload_n hx hb dX9_first_8 rfl (lv_at hl 0 rfl) ?_
  refine k_get (ci := 9) (v := .int (nI n)) (C := RX9) (Tb := TX9) (N := 10) hx hb hts hu_9 hown hKW hP 0 rfl rfl 9 (by decide) hf_72 rfl rfl dX9_first_9 ?_
  have hs_12 : kSplit (wX9 q9 q4 q7 q8 q0 q6 q3 q2 q5 q1 cI cJ cB (nI n) ++ wX5 q5 cI cJ cB least_5 many_5 seenChanges_5 seenPlayers_5 ++ wX4 q4 cI cJ cB parts_4 wins_4 draws_4 points_4 count_4 changes_4) (wX5 q5 cI cJ cB least_5 many_5 seenChanges_5 seenPlayers_5 ++ wX4 q4 cI cJ cB parts_4 wins_4 draws_4 points_4 count_4 changes_4) (wX9 q9 q4 q7 q8 q0 q6 q3 q2 q5 q1 cI cJ cB (nI n)) [1, 2, 3, 4, 5, 6, 7, 8] [0] := ⟨rfl, rfl, rfl, rfl, rfl, by decide⟩
  refine kc_v hP hD hS hA hs_12 (kV (As := [.ref (q4 0), .int (nI n)]) (rest := []) hx hb hml hown hts hKW hP hD hs_12 (c_X5_search l D cI cJ cB q5 q4 least_5 many_5 seenChanges_5 seenPlayers_5 parts_4 wins_4 draws_4 points_4 count_4 changes_4 ml n (by first | assumption | omega) (by first | assumption | omega) (by first | assumption | omega) (by first | assumption | omega)) (cwV 2 hts gX9_first_X5_search rfl rfl rfl (by decide +kernel) ⟨Nat.le_of_ble_eq_true rfl, Nat.le_of_ble_eq_true rfl⟩) 0 5 rfl rfl rfl rfl hl.1 rfl (Nat.le_of_ble_eq_true rfl) dX9_first_12 ⟨Nat.zero_le _, Nat.zero_le _⟩) (fun u_12 H locs hw_12 hP hD hS => ?_)
  obtain ⟨least_5_12, many_5_12, seenChanges_5_12, seenPlayers_5_12⟩ := u_12
  obtain ⟨e_seenChanges_5_12, e_seenPlayers_5_12, hw_12⟩ := hw_12
  have e_seenChanges_5_12 := e_seenChanges_5_12.symm
  subst e_seenChanges_5_12
  have e_seenPlayers_5_12 := e_seenPlayers_5_12.symm
  subst e_seenPlayers_5_12
  have hP : va_P D vwCl (wX9 q9 q4 q7 q8 q0 q6 q3 q2 q5 q1 cI cJ cB (nI n) ++ wX5 q5 cI cJ cB least_5_12 many_5_12 changes_4 (nI n) ++ wX4 q4 cI cJ cB parts_4 wins_4 draws_4 points_4 count_4 changes_4) H := hP.sub (ws' := (wX9 q9 q4 q7 q8 q0 q6 q3 q2 q5 q1 cI cJ cB (nI n) ++ wX5 q5 cI cJ cB least_5_12 many_5_12 changes_4 (nI n) ++ wX4 q4 cI cJ cB parts_4 wins_4 draws_4 points_4 count_4 changes_4)) [0, 1, 2, 3, 4, 5, 6, 7, 8] rfl
  have hD : va_D A (wX9 q9 q4 q7 q8 q0 q6 q3 q2 q5 q1 cI cJ cB (nI n) ++ wX5 q5 cI cJ cB least_5_12 many_5_12 changes_4 (nI n) ++ wX4 q4 cI cJ cB parts_4 wins_4 draws_4 points_4 count_4 changes_4) := hD.sub (ws' := (wX9 q9 q4 q7 q8 q0 q6 q3 q2 q5 q1 cI cJ cB (nI n) ++ wX5 q5 cI cJ cB least_5_12 many_5_12 changes_4 (nI n) ++ wX4 q4 cI cJ cB parts_4 wins_4 draws_4 points_4 count_4 changes_4)) [0, 1, 2, 3, 4, 5, 6, 7, 8] (by decide) rfl
  refine lv_aload_n hx hb dX9_first_15 rfl (lv_at hl 0 rfl) ?_
  refine k_get (ci := 9) (v := .ref (q5 0)) (C := RX9) (Tb := TX9) (N := 10) hx hb hts hu_9 hown hKW hP 0 rfl rfl 7 (by decide) hf_61 rfl rfl dX9_first_16 ?_
  refine lv_aload_n hx hb dX9_first_19 rfl (lv_at hl 0 rfl) ?_
  refine k_get (ci := 9) (v := .ref (q4 0)) (C := RX9) (Tb := TX9) (N := 10) hx hb hts hu_9 hown hKW hP 0 rfl rfl 0 (by decide) hf_12 rfl rfl dX9_first_20 ?_
  refine lv_aload_n hx hb dX9_first_23 rfl (lv_at hl 0 rfl) ?_
  refine k_get (ci := 9) (v := .int (nI n)) (C := RX9) (Tb := TX9) (N := 10) hx hb hts hu_9 hown hKW hP 0 rfl rfl 9 (by decide) hf_72 rfl rfl dX9_first_24 ?_
  have hs_27 : kSplit (wX9 q9 q4 q7 q8 q0 q6 q3 q2 q5 q1 cI cJ cB (nI n) ++ wX5 q5 cI cJ cB least_5_12 many_5_12 changes_4 (nI n) ++ wX4 q4 cI cJ cB parts_4 wins_4 draws_4 points_4 count_4 changes_4) (wX5 q5 cI cJ cB least_5_12 many_5_12 changes_4 (nI n) ++ wX4 q4 cI cJ cB parts_4 wins_4 draws_4 points_4 count_4 changes_4) (wX9 q9 q4 q7 q8 q0 q6 q3 q2 q5 q1 cI cJ cB (nI n)) [1, 2, 3, 4, 5, 6, 7, 8] [0] := ⟨rfl, rfl, rfl, rfl, rfl, by decide⟩
  refine kc_l hP hD hS hA hs_27 (kV (As := [.ref (q4 0), .int (nI n)]) (rest := []) hx hb hml hown hts hKW hP hD hs_27 (c_X5_leastRow l D cI cJ cB q5 q4 least_5_12 many_5_12 changes_4 (nI n) parts_4 wins_4 draws_4 points_4 count_4 changes_4 ml n (by first | assumption | omega) (by first | assumption | omega) (by first | assumption | omega)) (cwV 2 hts gX9_first_X5_leastRow rfl rfl rfl (by decide +kernel) ⟨Nat.le_of_ble_eq_true rfl, Nat.le_of_ble_eq_true rfl⟩) 0 5 rfl rfl rfl rfl hl.1 rfl (Nat.le_of_ble_eq_true rfl) dX9_first_27 ⟨Nat.zero_le _, Nat.zero_le _⟩) (fun r_27 u_27 H locs hw_27 hP hD hS => ?_)
  have er_27 := hw_27
  have er_27 := er_27.symm
  subst er_27
  have hP : va_P D vwCl (wX9 q9 q4 q7 q8 q0 q6 q3 q2 q5 q1 cI cJ cB (nI n) ++ wX5 q5 cI cJ cB least_5_12 many_5_12 changes_4 (nI n) ++ wX4 q4 cI cJ cB parts_4 wins_4 draws_4 points_4 count_4 changes_4) H := hP.sub (ws' := (wX9 q9 q4 q7 q8 q0 q6 q3 q2 q5 q1 cI cJ cB (nI n) ++ wX5 q5 cI cJ cB least_5_12 many_5_12 changes_4 (nI n) ++ wX4 q4 cI cJ cB parts_4 wins_4 draws_4 points_4 count_4 changes_4)) [0, 1, 2, 3, 4, 5, 6, 7, 8] rfl
  have hD : va_D A (wX9 q9 q4 q7 q8 q0 q6 q3 q2 q5 q1 cI cJ cB (nI n) ++ wX5 q5 cI cJ cB least_5_12 many_5_12 changes_4 (nI n) ++ wX4 q4 cI cJ cB parts_4 wins_4 draws_4 points_4 count_4 changes_4) := hD.sub (ws' := (wX9 q9 q4 q7 q8 q0 q6 q3 q2 q5 q1 cI cJ cB (nI n) ++ wX5 q5 cI cJ cB least_5_12 many_5_12 changes_4 (nI n) ++ wX4 q4 cI cJ cB parts_4 wins_4 draws_4 points_4 count_4 changes_4)) [0, 1, 2, 3, 4, 5, 6, 7, 8] (by decide) rfl
  subst hQ; subst hAe
  exact W.lret (v := (rwF (hdF ml n least_5_12) (2 ^ n - 1) n).1) hx hb hr (fun tt9 ht9 _ => ⟨⟨(rwF (hdF ml n least_5_12) (2 ^ n - 1) n).1, (least_5_12, many_5_12, changes_4, nI n), rfl, ⟨rfl, rfl, hw_12, rfl⟩, by rw [ht9]; exact hP, hD⟩, hS.F ht9⟩) hS.2.2 dX9_first_30
def rmX9_cost : Room := { frames := 3, cells := 0, slots := 0, locals := 78 }
set_option maxHeartbeats 4000000 in
set_option maxRecDepth 100000 in
theorem c_X9_cost (l : Launch) (D : va_G) (cI cJ cB : ClassId) (q9 : Nat → Nat) (q4 : Nat → Nat) (q7 : Nat → Nat) (q8 : Nat → Nat) (q0 : Nat → Nat) (q6 : Nat → Nat) (q3 : Nat → Nat) (q2 : Nat → Nat) (q5 : Nat → Nat) (q1 : Nat → Nat) (least_5 : Nat → Int32) (many_5 : Nat → Int32) (seenChanges_5 : Int32) (seenPlayers_5 : Int32) (parts_4 : Nat → Int32) (wins_4 : Nat → Int32) (draws_4 : Nat → Int32) (points_4 : Nat → Int32) (count_4 : Int32) (changes_4 : Int32) (ml : List Mt) (n : Nat) (x : Int64) (hM : MR parts_4 wins_4 draws_4 points_4 ml) (hm120 : ml.length ≤ 120) (hn1 : 1 ≤ n) (hn10 : n ≤ 10) : ∀ sz, Met l yX9_cost wsX9_cost rmX9_cost (va_Pc [.ref (q9 0), .long x] (PW D (kT cI cJ cB) sz (wX9 q9 q4 q7 q8 q0 q6 q3 q2 q5 q1 cI cJ cB (nI n) ++ wX5 q5 cI cJ cB least_5 many_5 seenChanges_5 seenPlayers_5 ++ wX4 q4 cI cJ cB parts_4 wins_4 draws_4 points_4 count_4 changes_4))) (va_Qi (S := Unit) (fun r _ => r = if x < 0 then -1 else coF (caI ml n) n n x.toInt.toNat 0 0) (QW D sz (wX9 q9 q4 q7 q8 q0 q6 q3 q2 q5 q1 cI cJ cB (nI n) ++ wX5 q5 cI cJ cB least_5 many_5 seenChanges_5 seenPlayers_5 ++ wX4 q4 cI cJ cB parts_4 wins_4 draws_4 points_4 count_4 changes_4) (fun _ => (wX9 q9 q4 q7 q8 q0 q6 q3 q2 q5 q1 cI cJ cB (nI n) ++ wX5 q5 cI cJ cB least_5 many_5 seenChanges_5 seenPlayers_5 ++ wX4 q4 cI cJ cB parts_4 wins_4 draws_4 points_4 count_4 changes_4))) (va_A (wX9 q9 q4 q7 q8 q0 q6 q3 q2 q5 q1 cI cJ cB (nI n) ++ wX5 q5 cI cJ cB least_5 many_5 seenChanges_5 seenPlayers_5 ++ wX4 q4 cI cJ cB parts_4 wins_4 draws_4 points_4 count_4 changes_4) sz)) 0 0 (va_A (wX9 q9 q4 q7 q8 q0 q6 q3 q2 q5 q1 cI cJ cB (nI n) ++ wX5 q5 cI cJ cB least_5 many_5 seenChanges_5 seenPlayers_5 ++ wX4 q4 cI cJ cB parts_4 wins_4 draws_4 points_4 count_4 changes_4) sz) := by
  intro sz
  refine Met.ofW (cc := cX9_cost) (maxL := 3) (ret := (some .int)) (by decide) rfl ?_
  intro p e s m args below meth c s₁ B hml hv
  obtain ⟨hav, hsz, hP, hKW, hD0⟩ := hv
  have hx := B.exec
  have hb := B.bytes
  have hr := B.returns
  have hts := atoms_spec (ws := wsX9_cost) B.pre
  have hown : s.vm.findClass RX9 = some m.cls := findClass_of_methodNamed B.named
  have hlocks := B.notSynchronized
  subst hsz
  have hD := hD0.self (sz := s.heap.size)
  obtain ⟨A, hAe⟩ : ∃ A : Nat → Prop, A = va_A (wX9 q9 q4 q7 q8 q0 q6 q3 q2 q5 q1 cI cJ cB (nI n) ++ wX5 q5 cI cJ cB least_5 many_5 seenChanges_5 seenPlayers_5 ++ wX4 q4 cI cJ cB parts_4 wins_4 draws_4 points_4 count_4 changes_4) s.heap.size := ⟨_, rfl⟩
  rw [← hAe] at hD
  have hA : ∀ q : Nat, s.heap.size ≤ q → A q := fun q h => by rw [hAe]; exact Or.inr h
  have hS : va_S A s.heap s.heap [] := va_S.rf
  refine k_gen (fun Q hQ => ?_)
  have hl := lv_entry ([.ref (q9 0), .long x]) (n := 3) (Nat.le_of_ble_eq_true rfl)
  refine k_entry hav (lg_entry_eq ..) ?_
  generalize (lg_sl ([.ref (q9 0), .long x]) ++ List.replicate (3 - (lg_sl ([.ref (q9 0), .long x])).length) Slot.unset).toArray = ls at hl ⊢
  have hl : lv_has ls 3 [(0, .ref (q9 0)), (1, .long x)] := hl
  have hu_9 : ∀ w ∈ u_ws RX9 TX9 10, w ∈ wsX9_cost := by decide +kernel
  have hf_12 : Cond.fieldLink RX9 12 "MeetingRanks" "meetings" "LMeetingRanks$Meetings;" ∈ wsX9_cost := by decide +kernel
  have hf_61 : Cond.fieldLink RX9 61 "MeetingRanks" "rowSearch" "LMeetingRanks$RowSearch;" ∈ wsX9_cost := by decide +kernel
  have hf_72 : Cond.fieldLink RX9 72 "MeetingRanks" "players" "I" ∈ wsX9_cost := by decide +kernel
  refine lv_aload_n hx hb dX9_cost_0 rfl (lv_at hl 0 rfl) ?_
  refine k_get (ci := 9) (v := .ref (q5 0)) (C := RX9) (Tb := TX9) (N := 10) hx hb hts hu_9 hown hKW hP 0 rfl rfl 7 (by decide) hf_61 rfl rfl dX9_cost_1 ?_
  refine lv_aload_n hx hb dX9_cost_4 rfl (lv_at hl 0 rfl) ?_
  refine k_get (ci := 9) (v := .ref (q4 0)) (C := RX9) (Tb := TX9) (N := 10) hx hb hts hu_9 hown hKW hP 0 rfl rfl 0 (by decide) hf_12 rfl rfl dX9_cost_5 ?_
  refine lv_aload_n hx hb dX9_cost_8 rfl (lv_at hl 0 rfl) ?_
  refine k_get (ci := 9) (v := .int (nI n)) (C := RX9) (Tb := TX9) (N := 10) hx hb hts hu_9 hown hKW hP 0 rfl rfl 9 (by decide) hf_72 rfl rfl dX9_cost_9 ?_
  refine lv_lload_n hx hb dX9_cost_12 rfl (lv_at hl 1 rfl) ?_
  have hs_13 : kSplit (wX9 q9 q4 q7 q8 q0 q6 q3 q2 q5 q1 cI cJ cB (nI n) ++ wX5 q5 cI cJ cB least_5 many_5 seenChanges_5 seenPlayers_5 ++ wX4 q4 cI cJ cB parts_4 wins_4 draws_4 points_4 count_4 changes_4) (wX5 q5 cI cJ cB least_5 many_5 seenChanges_5 seenPlayers_5 ++ wX4 q4 cI cJ cB parts_4 wins_4 draws_4 points_4 count_4 changes_4) (wX9 q9 q4 q7 q8 q0 q6 q3 q2 q5 q1 cI cJ cB (nI n)) [1, 2, 3, 4, 5, 6, 7, 8] [0] := ⟨rfl, rfl, rfl, rfl, rfl, by decide⟩
  refine kc_i hP hD hS hA hs_13 (kV (As := [.ref (q4 0), .int (nI n), .long x]) (rest := []) hx hb hml hown hts hKW hP hD hs_13 (c_X5_costOf l D cI cJ cB q5 q4 least_5 many_5 seenChanges_5 seenPlayers_5 parts_4 wins_4 draws_4 points_4 count_4 changes_4 ml n x (by first | assumption | omega) (by first | assumption | omega)) (cwV 3 hts gX9_cost_X5_costOf rfl rfl rfl (by decide +kernel) ⟨Nat.le_of_ble_eq_true rfl, Nat.le_of_ble_eq_true rfl⟩) 0 5 rfl rfl rfl rfl hl.1 rfl (Nat.le_of_ble_eq_true rfl) dX9_cost_13 ⟨Nat.zero_le _, Nat.zero_le _⟩) (fun r_13 u_13 H locs hw_13 hP hD hS => ?_)
  have er_13 := hw_13
  have er_13 := er_13.symm
  subst er_13
  have hP : va_P D vwCl (wX9 q9 q4 q7 q8 q0 q6 q3 q2 q5 q1 cI cJ cB (nI n) ++ wX5 q5 cI cJ cB least_5 many_5 seenChanges_5 seenPlayers_5 ++ wX4 q4 cI cJ cB parts_4 wins_4 draws_4 points_4 count_4 changes_4) H := hP.sub (ws' := (wX9 q9 q4 q7 q8 q0 q6 q3 q2 q5 q1 cI cJ cB (nI n) ++ wX5 q5 cI cJ cB least_5 many_5 seenChanges_5 seenPlayers_5 ++ wX4 q4 cI cJ cB parts_4 wins_4 draws_4 points_4 count_4 changes_4)) [0, 1, 2, 3, 4, 5, 6, 7, 8] rfl
  have hD : va_D A (wX9 q9 q4 q7 q8 q0 q6 q3 q2 q5 q1 cI cJ cB (nI n) ++ wX5 q5 cI cJ cB least_5 many_5 seenChanges_5 seenPlayers_5 ++ wX4 q4 cI cJ cB parts_4 wins_4 draws_4 points_4 count_4 changes_4) := hD.sub (ws' := (wX9 q9 q4 q7 q8 q0 q6 q3 q2 q5 q1 cI cJ cB (nI n) ++ wX5 q5 cI cJ cB least_5 many_5 seenChanges_5 seenPlayers_5 ++ wX4 q4 cI cJ cB parts_4 wins_4 draws_4 points_4 count_4 changes_4)) [0, 1, 2, 3, 4, 5, 6, 7, 8] (by decide) rfl
  subst hQ; subst hAe
  exact W.iret (v := if x < 0 then -1 else coF (caI ml n) n n x.toInt.toNat 0 0) hx hb hr (fun tt9 ht9 _ => ⟨⟨if x < 0 then -1 else coF (caI ml n) n n x.toInt.toNat 0 0, (), rfl, rfl, by rw [ht9]; exact hP, hD⟩, hS.F ht9⟩) hS.2.2 dX9_cost_16
