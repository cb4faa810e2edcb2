def rmJ6_compare_7cf53 : Room := { frames := 0, cells := 0, slots := 0, locals := 0 }
set_option maxHeartbeats 4000000 in
set_option maxRecDepth 100000 in
theorem c_J6_compare_7cf53 (l : Launch) (D : va_G) (cI cJ cB : ClassId) (x : Int32) (y : Int32) : ∀ sz, Met l yJ6_compare_7cf53 wsJ6_compare_7cf53 rmJ6_compare_7cf53 (va_Pc [.int x, .int y] (PW D (kT cI cJ cB) sz ([] : va_W))) (va_Qi (S := Unit) (fun r _ => r = cmp3 x y) (QW D sz ([] : va_W) (fun _ => ([] : va_W))) (va_A ([] : va_W) sz)) 0 0 (va_A ([] : va_W) sz) := by
  intro sz
  refine Met.ofW (cc := cJ6_compare_7cf53) (maxL := 2) (ret := (some .int)) (by decide) rfl ?_
  intro p e s m args below meth c s₁ B hml hv
  obtain ⟨hav, hsz, hP, hKW, hD0⟩ := hv
  have hx := B.exec
  have hb := B.bytes
  have hr := B.returns
  have hts := atoms_spec (ws := wsJ6_compare_7cf53) B.pre
  have hown : s.vm.findClass RJ6 = some m.cls := findClass_of_methodNamed B.named
  have hlocks := B.notSynchronized
  subst hsz
  have hD := hD0.self (sz := s.heap.size)
  obtain ⟨A, hAe⟩ : ∃ A : Nat → Prop, A = va_A ([] : va_W) s.heap.size := ⟨_, rfl⟩
  rw [← hAe] at hD
  have hA : ∀ q : Nat, s.heap.size ≤ q → A q := fun q h => by rw [hAe]; exact Or.inr h
  have hS : va_S A s.heap s.heap [] := va_S.rf
  refine k_gen (fun Q hQ => ?_)
  have hl := lv_entry ([.int x, .int y]) (n := 2) (Nat.le_of_ble_eq_true rfl)
  refine k_entry hav (lg_entry_eq ..) ?_
  generalize (lg_sl ([.int x, .int y]) ++ List.replicate (2 - (lg_sl ([.int x, .int y])).length) Slot.unset).toArray = ls at hl ⊢
  have hl : lv_has ls 2 [(0, .int x), (1, .int y)] := hl
  refine lv_iload_n hx hb dJ6_compare_7cf53_0 rfl (lv_at hl 0 rfl) ?_
  refine lv_iload_n hx hb dJ6_compare_7cf53_1 rfl (lv_at hl 1 rfl) ?_
  refine lv_icmp_ge (tgt := 9) hx hb dJ6_compare_7cf53_2 (by decide) (fun c_2 => ?_) (fun c_2 => ?_)
  · skip
    refine lv_iload_n hx hb dJ6_compare_7cf53_9 rfl (lv_at hl 0 rfl) ?_
    refine lv_iload_n hx hb dJ6_compare_7cf53_10 rfl (lv_at hl 1 rfl) ?_
    refine lv_icmp_ne (tgt := 18) hx hb dJ6_compare_7cf53_11 (by decide) (fun c_11 => ?_) (fun c_11 => ?_)
    · skip
      refine lv_iconst (v := nI 1) hx hb dJ6_compare_7cf53_18 (by decide) ?_
      subst hQ; subst hAe
      exact W.iret (v := nI 1) hx hb hr (fun t ht _ => ⟨⟨nI 1, (), rfl, by unfold cmp3; rw [if_neg (by rw [Int32.lt_iff_toInt_lt]; rw [Int32.le_iff_toInt_le] at c_2; omega), if_neg c_11]; rfl, by rw [ht]; exact hP, hD⟩, hS.F ht⟩) hS.2.2 dJ6_compare_7cf53_19
    · skip
      refine lv_iconst (v := nI 0) hx hb dJ6_compare_7cf53_14 (by decide) ?_
      refine lv_goto (tgt := 19) hx hb dJ6_compare_7cf53_15 (by decide) ?_
      subst hQ; subst hAe
      exact W.iret (v := nI 0) hx hb hr (fun t ht _ => ⟨⟨nI 0, (), rfl, by unfold cmp3; rw [if_neg (by rw [Int32.lt_iff_toInt_lt]; rw [Int32.le_iff_toInt_le] at c_2; omega), if_pos c_11]; rfl, by rw [ht]; exact hP, hD⟩, hS.F ht⟩) hS.2.2 dJ6_compare_7cf53_19
  · skip
    refine lv_iconst (v := (-1)) hx hb dJ6_compare_7cf53_5 (by decide) ?_
    refine lv_goto (tgt := 19) hx hb dJ6_compare_7cf53_6 (by decide) ?_
    subst hQ; subst hAe
    exact W.iret (v := (-1)) hx hb hr (fun t ht _ => ⟨⟨(-1), (), rfl, by unfold cmp3; rw [if_pos (by rw [Int32.lt_iff_toInt_lt]; rw [Int32.le_iff_toInt_le] at c_2; omega)], by rw [ht]; exact hP, hD⟩, hS.F ht⟩) hS.2.2 dJ6_compare_7cf53_19
def rmX6_keyOf : Room := { frames := 0, cells := 0, slots := 0, locals := 0 }
set_option maxHeartbeats 4000000 in
set_option maxRecDepth 100000 in
theorem c_X6_keyOf (l : Launch) (D : va_G) (cI cJ cB : ClassId) (q6 : Nat → Nat) (kinds_6 : Nat → Int32) (keys_6 : Nat → Int32) (places_6 : Nat → Int32) (kindCount_6 : Int32) (worthWon_6 : Int32) (worthDrawn_6 : Int32) (worthLost_6 : Int32) (j : Nat) (x : Nat) (hj : j < 5) (hx9 : x < 10) : ∀ sz, Met l yX6_keyOf wsX6_keyOf rmX6_keyOf (va_Pc [.ref (q6 0), .int (nI j), .int (nI x)] (PW D (kT cI cJ cB) sz (wX6 q6 cI cJ cB kinds_6 keys_6 places_6 kindCount_6 worthWon_6 worthDrawn_6 worthLost_6))) (va_Qi (S := Unit) (fun r _ => r = keys_6 (j * 10 + x)) (QW D sz (wX6 q6 cI cJ cB kinds_6 keys_6 places_6 kindCount_6 worthWon_6 worthDrawn_6 worthLost_6) (fun _ => (wX6 q6 cI cJ cB kinds_6 keys_6 places_6 kindCount_6 worthWon_6 worthDrawn_6 worthLost_6))) (va_A (wX6 q6 cI cJ cB kinds_6 keys_6 places_6 kindCount_6 worthWon_6 worthDrawn_6 worthLost_6) sz)) 0 0 (va_A (wX6 q6 cI cJ cB kinds_6 keys_6 places_6 kindCount_6 worthWon_6 worthDrawn_6 worthLost_6) sz) := by
  intro sz
  refine Met.ofW (cc := cX6_keyOf) (maxL := 3) (ret := (some .int)) (by decide) rfl ?_
  intro p e s m args below meth c s₁ B hml hv
  obtain ⟨hav, hsz, hP, hKW, hD0⟩ := hv
  have hx := B.exec
  have hb := B.bytes
  have hr := B.returns
  have hts := atoms_spec (ws := wsX6_keyOf) B.pre
  have hown : s.vm.findClass RX6 = some m.cls := findClass_of_methodNamed B.named
  have hlocks := B.notSynchronized
  subst hsz
  have hD := hD0.self (sz := s.heap.size)
  obtain ⟨A, hAe⟩ : ∃ A : Nat → Prop, A = va_A (wX6 q6 cI cJ cB kinds_6 keys_6 places_6 kindCount_6 worthWon_6 worthDrawn_6 worthLost_6) s.heap.size := ⟨_, rfl⟩
  rw [← hAe] at hD
  have hA : ∀ q : Nat, s.heap.size ≤ q → A q := fun q h => by rw [hAe]; exact Or.inr h
  have hS : va_S A s.heap s.heap [] := va_S.rf
  refine k_gen (fun Q hQ => ?_)
  have hl := lv_entry ([.ref (q6 0), .int (nI j), .int (nI x)]) (n := 3) (Nat.le_of_ble_eq_true rfl)
  refine k_entry hav (lg_entry_eq ..) ?_
  generalize (lg_sl ([.ref (q6 0), .int (nI j), .int (nI x)]) ++ List.replicate (3 - (lg_sl ([.ref (q6 0), .int (nI j), .int (nI x)])).length) Slot.unset).toArray = ls at hl ⊢
  have hl : lv_has ls 3 [(0, .ref (q6 0)), (1, .int (nI j)), (2, .int (nI x))] := hl
  have hu_6 : ∀ w ∈ u_ws RX6 TX6 7, w ∈ wsX6_keyOf := by decide +kernel
  have hf_15 : Cond.fieldLink RX6 15 "MeetingRanks$Standings" "keys" "[I" ∈ wsX6_keyOf := by decide +kernel
  refine lv_aload_n hx hb dX6_keyOf_0 rfl (lv_at hl 0 rfl) ?_
  refine k_get (ci := 6) (v := .ref (q6 2)) (C := RX6) (Tb := TX6) (N := 7) hx hb hts hu_6 hown hKW hP 0 rfl rfl 1 (by decide) hf_15 rfl rfl dX6_keyOf_1 ?_
  refine lv_iload_n hx hb dX6_keyOf_4 rfl (lv_at hl 1 rfl) ?_
  refine lv_bipush (v := nI 10) hx hb dX6_keyOf_5 (by decide) ?_
  refine k_imul hx hb dX6_keyOf_7 ?_
  refine lv_iload_n hx hb dX6_keyOf_8 rfl (lv_at hl 2 rfl) ?_
  refine k_iadd hx hb dX6_keyOf_9 ?_
  refine k_iald (n := 50) (i := (j * 10) + x) hx hb hKW hP 2 0 rfl rfl (by omega) (by omega) dX6_keyOf_10 ?_
  subst hQ; subst hAe
  exact W.iret (v := keys_6 ((j * 10) + x)) hx hb hr (fun t ht _ => ⟨⟨keys_6 ((j * 10) + x), (), rfl, rfl, by rw [ht]; exact hP, hD⟩, hS.F ht⟩) hS.2.2 dX6_keyOf_11
def rmX6_worth : Room := { frames := 1, cells := 0, slots := 0, locals := 22 }
set_option maxHeartbeats 4000000 in
set_option maxRecDepth 100000 in
theorem c_X6_worth (l : Launch) (D : va_G) (cI cJ cB : ClassId) (q6 : Nat → Nat) (q4 : Nat → Nat) (kinds_6 : Nat → Int32) (keys_6 : Nat → Int32) (places_6 : Nat → Int32) (kindCount_6 : Int32) (worthWon_6 : Int32) (worthDrawn_6 : Int32) (worthLost_6 : Int32) (parts_4 : Nat → Int32) (wins_4 : Nat → Int32) (draws_4 : Nat → Int32) (points_4 : Nat → Int32) (count_4 : Int32) (changes_4 : Int32) (ml : List Mt) (a : Nat) (b : Nat) (hM : MR parts_4 wins_4 draws_4 points_4 ml) (ha : a < 10) (hb2 : b < 10) : ∀ sz, Met l yX6_worth wsX6_worth rmX6_worth (va_Pc [.ref (q6 0), .ref (q4 0), .int (nI a), .int (nI b)] (PW D (kT cI cJ cB) sz (wX6 q6 cI cJ cB kinds_6 keys_6 places_6 kindCount_6 worthWon_6 worthDrawn_6 worthLost_6 ++ wX4 q4 cI cJ cB parts_4 wins_4 draws_4 points_4 count_4 changes_4))) (va_Qi (S := Unit) (fun r _ => r = wrF (worthWon_6, worthDrawn_6, worthLost_6) ml a b) (QW D sz (wX6 q6 cI cJ cB kinds_6 keys_6 places_6 kindCount_6 worthWon_6 worthDrawn_6 worthLost_6 ++ wX4 q4 cI cJ cB parts_4 wins_4 draws_4 points_4 count_4 changes_4) (fun _ => (wX6 q6 cI cJ cB kinds_6 keys_6 places_6 kindCount_6 worthWon_6 worthDrawn_6 worthLost_6 ++ wX4 q4 cI cJ cB parts_4 wins_4 draws_4 points_4 count_4 changes_4))) (va_A (wX6 q6 cI cJ cB kinds_6 keys_6 places_6 kindCount_6 worthWon_6 worthDrawn_6 worthLost_6 ++ wX4 q4 cI cJ cB parts_4 wins_4 draws_4 points_4 count_4 changes_4) sz)) 0 0 (va_A (wX6 q6 cI cJ cB kinds_6 keys_6 places_6 kindCount_6 worthWon_6 worthDrawn_6 worthLost_6 ++ wX4 q4 cI cJ cB parts_4 wins_4 draws_4 points_4 count_4 changes_4) sz) := by
  intro sz
  refine Met.ofW (cc := cX6_worth) (maxL := 4) (ret := (some .int)) (by decide) rfl ?_
  intro p e s m args below meth c s₁ B hml hv
  obtain ⟨hav, hsz, hP, hKW, hD0⟩ := hv
  have hx := B.exec
  have hb := B.bytes
  have hr := B.returns
  have hts := atoms_spec (ws := wsX6_worth) B.pre
  have hown : s.vm.findClass RX6 = some m.cls := findClass_of_methodNamed B.named
  have hlocks := B.notSynchronized
  subst hsz
  have hD := hD0.self (sz := s.heap.size)
  obtain ⟨A, hAe⟩ : ∃ A : Nat → Prop, A = va_A (wX6 q6 cI cJ cB kinds_6 keys_6 places_6 kindCount_6 worthWon_6 worthDrawn_6 worthLost_6 ++ wX4 q4 cI cJ cB parts_4 wins_4 draws_4 points_4 count_4 changes_4) s.heap.size := ⟨_, rfl⟩
  rw [← hAe] at hD
  have hA : ∀ q : Nat, s.heap.size ≤ q → A q := fun q h => by rw [hAe]; exact Or.inr h
  have hS : va_S A s.heap s.heap [] := va_S.rf
  refine k_gen (fun Q hQ => ?_)
  have hl := lv_entry ([.ref (q6 0), .ref (q4 0), .int (nI a), .int (nI b)]) (n := 4) (Nat.le_of_ble_eq_true rfl)
  refine k_entry hav (lg_entry_eq ..) ?_
  generalize (lg_sl ([.ref (q6 0), .ref (q4 0), .int (nI a), .int (nI b)]) ++ List.replicate (4 - (lg_sl ([.ref (q6 0), .ref (q4 0), .int (nI a), .int (nI b)])).length) Slot.unset).toArray = ls at hl ⊢
  have hl : lv_has ls 4 [(0, .ref (q6 0)), (1, .ref (q4 0)), (2, .int (nI a)), (3, .int (nI b))] := hl
  have hu_6 : ∀ w ∈ u_ws RX6 TX6 7, w ∈ wsX6_worth := by decide +kernel
  have hf_25 : Cond.fieldLink RX6 25 "MeetingRanks$Standings" "worthWon" "I" ∈ wsX6_worth := by decide +kernel
  have hf_28 : Cond.fieldLink RX6 28 "MeetingRanks$Standings" "worthDrawn" "I" ∈ wsX6_worth := by decide +kernel
  have hf_31 : Cond.fieldLink RX6 31 "MeetingRanks$Standings" "worthLost" "I" ∈ wsX6_worth := by decide +kernel
  refine lv_aload_n hx hb dX6_worth_0 rfl (lv_at hl 0 rfl) ?_
  refine k_get (ci := 6) (v := .int worthWon_6) (C := RX6) (Tb := TX6) (N := 7) hx hb hts hu_6 hown hKW hP 0 rfl rfl 4 (by decide) hf_25 rfl rfl dX6_worth_1 ?_
  refine lv_aload_n hx hb dX6_worth_4 rfl (lv_at hl 1 rfl) ?_
  refine lv_iload_n hx hb dX6_worth_5 rfl (lv_at hl 2 rfl) ?_
  refine lv_iload_n hx hb dX6_worth_6 rfl (lv_at hl 3 rfl) ?_
  have hs_7 : kSplit (wX6 q6 cI cJ cB kinds_6 keys_6 places_6 kindCount_6 worthWon_6 worthDrawn_6 worthLost_6 ++ wX4 q4 cI cJ cB parts_4 wins_4 draws_4 points_4 count_4 changes_4) (wX4 q4 cI cJ cB parts_4 wins_4 draws_4 points_4 count_4 changes_4) (wX6 q6 cI cJ cB kinds_6 keys_6 places_6 kindCount_6 worthWon_6 worthDrawn_6 worthLost_6) [4, 5, 6, 7, 8] [0, 1, 2, 3] := ⟨rfl, rfl, rfl, rfl, rfl, by decide⟩
  refine kc_i hP hD hS hA hs_7 (kV (As := [.int (nI a), .int (nI b)]) (rest := [.int worthWon_6]) hx hb hml hown hts hKW hP hD hs_7 (c_X4_wins l D cI cJ cB q4 parts_4 wins_4 draws_4 points_4 count_4 changes_4 a b (by first | assumption | omega) (by first | assumption | omega)) (cwV 2 hts gX6_worth_X4_wins rfl rfl rfl (by decide +kernel) ⟨Nat.le_of_ble_eq_true rfl, Nat.le_of_ble_eq_true rfl⟩) 0 4 rfl rfl rfl rfl hl.1 rfl (Nat.le_of_ble_eq_true rfl) dX6_worth_7 ⟨Nat.zero_le _, Nat.zero_le _⟩) (fun r_7 u_7 H locs hw_7 hP hD hS => ?_)
  have er_7 := hw_7
  subst er_7
  have hP : va_P D vwCl (wX6 q6 cI cJ cB kinds_6 keys_6 places_6 kindCount_6 worthWon_6 worthDrawn_6 worthLost_6 ++ wX4 q4 cI cJ cB parts_4 wins_4 draws_4 points_4 count_4 changes_4) H := hP.sub (ws' := (wX6 q6 cI cJ cB kinds_6 keys_6 places_6 kindCount_6 worthWon_6 worthDrawn_6 worthLost_6 ++ wX4 q4 cI cJ cB parts_4 wins_4 draws_4 points_4 count_4 changes_4)) [0, 1, 2, 3, 4, 5, 6, 7, 8] rfl
  have hD : va_D A (wX6 q6 cI cJ cB kinds_6 keys_6 places_6 kindCount_6 worthWon_6 worthDrawn_6 worthLost_6 ++ wX4 q4 cI cJ cB parts_4 wins_4 draws_4 points_4 count_4 changes_4) := hD.sub (ws' := (wX6 q6 cI cJ cB kinds_6 keys_6 places_6 kindCount_6 worthWon_6 worthDrawn_6 worthLost_6 ++ wX4 q4 cI cJ cB parts_4 wins_4 draws_4 points_4 count_4 changes_4)) [0, 1, 2, 3, 4, 5, 6, 7, 8] (by decide) rfl
  refine k_top (y := nI (ov ml a b)) ((hM.2 a b (by omega) (by omega)).1) ?_
  refine lv_imul hx hb dX6_worth_10 ?_
  refine lv_aload_n hx hb dX6_worth_11 rfl (lv_at hl 0 rfl) ?_
  refine k_get (ci := 6) (v := .int worthDrawn_6) (C := RX6) (Tb := TX6) (N := 7) hx hb hts hu_6 hown hKW hP 0 rfl rfl 5 (by decide) hf_28 rfl rfl dX6_worth_12 ?_
  refine lv_aload_n hx hb dX6_worth_15 rfl (lv_at hl 1 rfl) ?_
  refine lv_iload_n hx hb dX6_worth_16 rfl (lv_at hl 2 rfl) ?_
  refine lv_iload_n hx hb dX6_worth_17 rfl (lv_at hl 3 rfl) ?_
  have hs_18 : kSplit (wX6 q6 cI cJ cB kinds_6 keys_6 places_6 kindCount_6 worthWon_6 worthDrawn_6 worthLost_6 ++ wX4 q4 cI cJ cB parts_4 wins_4 draws_4 points_4 count_4 changes_4) (wX4 q4 cI cJ cB parts_4 wins_4 draws_4 points_4 count_4 changes_4) (wX6 q6 cI cJ cB kinds_6 keys_6 places_6 kindCount_6 worthWon_6 worthDrawn_6 worthLost_6) [4, 5, 6, 7, 8] [0, 1, 2, 3] := ⟨rfl, rfl, rfl, rfl, rfl, by decide⟩
  refine kc_i hP hD hS hA hs_18 (kV (As := [.int (nI a), .int (nI b)]) (rest := [.int worthDrawn_6, .int (worthWon_6 * (nI (ov ml a b)))]) hx hb hml hown hts hKW hP hD hs_18 (c_X4_draws l D cI cJ cB q4 parts_4 wins_4 draws_4 points_4 count_4 changes_4 a b (by first | assumption | omega) (by first | assumption | omega)) (cwV 2 hts gX6_worth_X4_draws rfl rfl rfl (by decide +kernel) ⟨Nat.le_of_ble_eq_true rfl, Nat.le_of_ble_eq_true rfl⟩) 0 4 rfl rfl rfl rfl hl.1 rfl (Nat.le_of_ble_eq_true rfl) dX6_worth_18 ⟨Nat.zero_le _, Nat.zero_le _⟩) (fun r_18 u_18 H locs hw_18 hP hD hS => ?_)
  have er_18 := hw_18
  subst er_18
  have hP : va_P D vwCl (wX6 q6 cI cJ cB kinds_6 keys_6 places_6 kindCount_6 worthWon_6 worthDrawn_6 worthLost_6 ++ wX4 q4 cI cJ cB parts_4 wins_4 draws_4 points_4 count_4 changes_4) H := hP.sub (ws' := (wX6 q6 cI cJ cB kinds_6 keys_6 places_6 kindCount_6 worthWon_6 worthDrawn_6 worthLost_6 ++ wX4 q4 cI cJ cB parts_4 wins_4 draws_4 points_4 count_4 changes_4)) [0, 1, 2, 3, 4, 5, 6, 7, 8] rfl
  have hD : va_D A (wX6 q6 cI cJ cB kinds_6 keys_6 places_6 kindCount_6 worthWon_6 worthDrawn_6 worthLost_6 ++ wX4 q4 cI cJ cB parts_4 wins_4 draws_4 points_4 count_4 changes_4) := hD.sub (ws' := (wX6 q6 cI cJ cB kinds_6 keys_6 places_6 kindCount_6 worthWon_6 worthDrawn_6 worthLost_6 ++ wX4 q4 cI cJ cB parts_4 wins_4 draws_4 points_4 count_4 changes_4)) [0, 1, 2, 3, 4, 5, 6, 7, 8] (by decide) rfl
  refine k_top (y := nI (dr ml a b)) ((hM.2 a b (by omega) (by omega)).2.1) ?_
  refine lv_imul hx hb dX6_worth_21 ?_
  refine lv_iadd hx hb dX6_worth_22 ?_
  refine lv_aload_n hx hb dX6_worth_23 rfl (lv_at hl 0 rfl) ?_
  refine k_get (ci := 6) (v := .int worthLost_6) (C := RX6) (Tb := TX6) (N := 7) hx hb hts hu_6 hown hKW hP 0 rfl rfl 6 (by decide) hf_31 rfl rfl dX6_worth_24 ?_
  refine lv_aload_n hx hb dX6_worth_27 rfl (lv_at hl 1 rfl) ?_
  refine lv_iload_n hx hb dX6_worth_28 rfl (lv_at hl 3 rfl) ?_
  refine lv_iload_n hx hb dX6_worth_29 rfl (lv_at hl 2 rfl) ?_
  have hs_30 : kSplit (wX6 q6 cI cJ cB kinds_6 keys_6 places_6 kindCount_6 worthWon_6 worthDrawn_6 worthLost_6 ++ wX4 q4 cI cJ cB parts_4 wins_4 draws_4 points_4 count_4 changes_4) (wX4 q4 cI cJ cB parts_4 wins_4 draws_4 points_4 count_4 changes_4) (wX6 q6 cI cJ cB kinds_6 keys_6 places_6 kindCount_6 worthWon_6 worthDrawn_6 worthLost_6) [4, 5, 6, 7, 8] [0, 1, 2, 3] := ⟨rfl, rfl, rfl, rfl, rfl, by decide⟩
  refine kc_i hP hD hS hA hs_30 (kV (As := [.int (nI b), .int (nI a)]) (rest := [.int worthLost_6, .int ((worthWon_6 * (nI (ov ml a b))) + (worthDrawn_6 * (nI (dr ml a b))))]) hx hb hml hown hts hKW hP hD hs_30 (c_X4_wins l D cI cJ cB q4 parts_4 wins_4 draws_4 points_4 count_4 changes_4 b a (by first | assumption | omega) (by first | assumption | omega)) (cwV 2 hts gX6_worth_X4_wins rfl rfl rfl (by decide +kernel) ⟨Nat.le_of_ble_eq_true rfl, Nat.le_of_ble_eq_true rfl⟩) 0 4 rfl rfl rfl rfl hl.1 rfl (Nat.le_of_ble_eq_true rfl) dX6_worth_30 ⟨Nat.zero_le _, Nat.zero_le _⟩) (fun r_30 u_30 H locs hw_30 hP hD hS => ?_)
  have er_30 := hw_30
  subst er_30
  have hP : va_P D vwCl (wX6 q6 cI cJ cB kinds_6 keys_6 places_6 kindCount_6 worthWon_6 worthDrawn_6 worthLost_6 ++ wX4 q4 cI cJ cB parts_4 wins_4 draws_4 points_4 count_4 changes_4) H := hP.sub (ws' := (wX6 q6 cI cJ cB kinds_6 keys_6 places_6 kindCount_6 worthWon_6 worthDrawn_6 worthLost_6 ++ wX4 q4 cI cJ cB parts_4 wins_4 draws_4 points_4 count_4 changes_4)) [0, 1, 2, 3, 4, 5, 6, 7, 8] rfl
  have hD : va_D A (wX6 q6 cI cJ cB kinds_6 keys_6 places_6 kindCount_6 worthWon_6 worthDrawn_6 worthLost_6 ++ wX4 q4 cI cJ cB parts_4 wins_4 draws_4 points_4 count_4 changes_4) := hD.sub (ws' := (wX6 q6 cI cJ cB kinds_6 keys_6 places_6 kindCount_6 worthWon_6 worthDrawn_6 worthLost_6 ++ wX4 q4 cI cJ cB parts_4 wins_4 draws_4 points_4 count_4 changes_4)) [0, 1, 2, 3, 4, 5, 6, 7, 8] (by decide) rfl
  refine k_top (y := nI (ov ml b a)) ((hM.2 b a (by omega) (by omega)).1) ?_
  refine lv_imul hx hb dX6_worth_33 ?_
  refine lv_iadd hx hb dX6_worth_34 ?_
  subst hQ; subst hAe
  exact W.iret (v := ((worthWon_6 * (nI (ov ml a b))) + (worthDrawn_6 * (nI (dr ml a b)))) + (worthLost_6 * (nI (ov ml b a)))) hx hb hr (fun t ht _ => ⟨⟨((worthWon_6 * (nI (ov ml a b))) + (worthDrawn_6 * (nI (dr ml a b)))) + (worthLost_6 * (nI (ov ml b a))), (), rfl, rfl, by rw [ht]; exact hP, hD⟩, hS.F ht⟩) hS.2.2 dX6_worth_35
def rmX6_compareKeys : Room := { frames := 1, cells := 0, slots := 0, locals := 22 }
set_option maxHeartbeats 4000000 in
set_option maxRecDepth 100000 in
theorem c_X6_compareKeys (l : Launch) (D : va_G) (cI cJ cB : ClassId) (q6 : Nat → Nat) (kinds_6 : Nat → Int32) (keys_6 : Nat → Int32) (places_6 : Nat → Int32) (kindCount_6 : Int32) (worthWon_6 : Int32) (worthDrawn_6 : Int32) (worthLost_6 : Int32) (x : Nat) (y : Nat) (c2 : Nat) (hx9 : x < 10) (hy9 : y < 10) (hc5 : c2 ≤ 5) : ∀ sz, Met l yX6_compareKeys wsX6_compareKeys rmX6_compareKeys (va_Pc [.ref (q6 0), .int (nI x), .int (nI y), .int (nI c2)] (PW D (kT cI cJ cB) sz (wX6 q6 cI cJ cB kinds_6 keys_6 places_6 kindCount_6 worthWon_6 worthDrawn_6 worthLost_6))) (va_Qi (S := Unit) (fun r _ => r = cmpK keys_6 x y 0 c2) (QW D sz (wX6 q6 cI cJ cB kinds_6 keys_6 places_6 kindCount_6 worthWon_6 worthDrawn_6 worthLost_6) (fun _ => (wX6 q6 cI cJ cB kinds_6 keys_6 places_6 kindCount_6 worthWon_6 worthDrawn_6 worthLost_6))) (va_A (wX6 q6 cI cJ cB kinds_6 keys_6 places_6 kindCount_6 worthWon_6 worthDrawn_6 worthLost_6) sz)) 0 0 (va_A (wX6 q6 cI cJ cB kinds_6 keys_6 places_6 kindCount_6 worthWon_6 worthDrawn_6 worthLost_6) sz) := by
  intro sz
  refine Met.ofW (cc := cX6_compareKeys) (maxL := 6) (ret := (some .int)) (by decide) rfl ?_
  intro p e s m args below meth c s₁ B hml hv
  obtain ⟨hav, hsz, hP, hKW, hD0⟩ := hv
  have hx := B.exec
  have hb := B.bytes
  have hr := B.returns
  have hts := atoms_spec (ws := wsX6_compareKeys) B.pre
  have hown : s.vm.findClass RX6 = some m.cls := findClass_of_methodNamed B.named
  have hlocks := B.notSynchronized
  subst hsz
  have hD := hD0.self (sz := s.heap.size)
  obtain ⟨A, hAe⟩ : ∃ A : Nat → Prop, A = va_A (wX6 q6 cI cJ cB kinds_6 keys_6 places_6 kindCount_6 worthWon_6 worthDrawn_6 worthLost_6) s.heap.size := ⟨_, rfl⟩
  rw [← hAe] at hD
  have hA : ∀ q : Nat, s.heap.size ≤ q → A q := fun q h => by rw [hAe]; exact Or.inr h
  have hS : va_S A s.heap s.heap [] := va_S.rf
  refine k_gen (fun Q hQ => ?_)
  have hl := lv_entry ([.ref (q6 0), .int (nI x), .int (nI y), .int (nI c2)]) (n := 6) (Nat.le_of_ble_eq_true rfl)
  refine k_entry hav (lg_entry_eq ..) ?_
  generalize (lg_sl ([.ref (q6 0), .int (nI x), .int (nI y), .int (nI c2)]) ++ List.replicate (6 - (lg_sl ([.ref (q6 0), .int (nI x), .int (nI y), .int (nI c2)])).length) Slot.unset).toArray = ls at hl ⊢
  have hl : lv_has ls 6 [(0, .ref (q6 0)), (1, .int (nI x)), (2, .int (nI y)), (3, .int (nI c2))] := hl
  refine lv_iconst (v := nI 0) hx hb dX6_compareKeys_0 (by decide) ?_
  refine lv_istore (lv' := [(4, .int (nI 0)), (0, .ref (q6 0)), (1, .int (nI x)), (2, .int (nI y)), (3, .int (nI c2))]) hx hb dX6_compareKeys_1 hl (by decide) rfl (fun ls hl => ?_)
  have hL_3 : ∀ (fu : Nat) (j : Nat) (hj : j ≤ c2) (hc : cmpK keys_6 x y 0 c2 = cmpK keys_6 x y j (c2 - j)), c2 - j < fu → ∀ (H : Heap) (locs : List Loc), va_P D vwCl (wX6 q6 cI cJ cB kinds_6 keys_6 places_6 kindCount_6 worthWon_6 worthDrawn_6 worthLost_6) H → va_D A (wX6 q6 cI cJ cB kinds_6 keys_6 places_6 kindCount_6 worthWon_6 worthDrawn_6 worthLost_6) → va_S A s.heap H locs → ∀ (ls : Array Slot), lv_has ls 6 [(0, .ref (q6 0)), (1, .int (nI x)), (2, .int (nI y)), (3, .int (nI c2)), (4, .int (nI j))] → W p l e (headSpec wsX6_compareKeys rmX6_compareKeys).room s m args below meth c H locs 0 0 Q (F0 m 3 ls []) := by
    intro fu
    induction fu with
    | zero => intro j hj hc hfu; exact absurd hfu (Nat.not_lt_zero _)
    | succ fu ih_3 =>
      intro j hj hc hfu H locs hP hD hS ls hl
      refine lv_iload hx hb dX6_compareKeys_3 (lv_at hl 4 rfl) ?_
      refine lv_iload_n hx hb dX6_compareKeys_5 rfl (lv_at hl 3 rfl) ?_
      refine lv_icmp_ge (tgt := 42) hx hb dX6_compareKeys_6 (by decide) (fun c_6 => ?_) (fun c_6 => ?_)
      · skip
        have c_6 := k_ge (by omega) (by omega) c_6
        refine lv_iconst (v := nI 0) hx hb dX6_compareKeys_42 (by decide) ?_
        subst hQ; subst hAe
        exact W.iret (v := nI 0) hx hb hr (fun t ht _ => ⟨⟨nI 0, (), rfl, by rw [hc, show c2 - j = 0 by omega]; rfl, by rw [ht]; exact hP, hD⟩, hS.F ht⟩) hS.2.2 dX6_compareKeys_43
      · skip
        have c_6 := k_ge_n (by omega) (by omega) c_6
        refine lv_aload_n hx hb dX6_compareKeys_9 rfl (lv_at hl 0 rfl) ?_
        refine lv_iload hx hb dX6_compareKeys_10 (lv_at hl 4 rfl) ?_
        refine lv_iload_n hx hb dX6_compareKeys_12 rfl (lv_at hl 1 rfl) ?_
        have hs_13 : kSplit (wX6 q6 cI cJ cB kinds_6 keys_6 places_6 kindCount_6 worthWon_6 worthDrawn_6 worthLost_6) (wX6 q6 cI cJ cB kinds_6 keys_6 places_6 kindCount_6 worthWon_6 worthDrawn_6 worthLost_6) ([] : va_W) [0, 1, 2, 3] [] := ⟨rfl, rfl, rfl, rfl, rfl, by decide⟩
        refine kc_i hP hD hS hA hs_13 (kV (As := [.int (nI j), .int (nI x)]) (rest := []) hx hb hml hown hts hKW hP hD hs_13 (c_X6_keyOf l D cI cJ cB q6 kinds_6 keys_6 places_6 kindCount_6 worthWon_6 worthDrawn_6 worthLost_6 j x (by first | assumption | omega) (by first | assumption | omega)) (cwV 2 hts gX6_compareKeys_X6_keyOf rfl rfl rfl (by decide +kernel) ⟨Nat.le_of_ble_eq_true rfl, Nat.le_of_ble_eq_true rfl⟩) 0 6 rfl rfl rfl rfl hl.1 rfl (Nat.le_of_ble_eq_true rfl) dX6_compareKeys_13 ⟨Nat.zero_le _, Nat.zero_le _⟩) (fun r_13 u_13 H locs hw_13 hP hD hS => ?_)
        have er_13 := hw_13
        subst er_13
        have hP : va_P D vwCl (wX6 q6 cI cJ cB kinds_6 keys_6 places_6 kindCount_6 worthWon_6 worthDrawn_6 worthLost_6) H := hP.sub (ws' := (wX6 q6 cI cJ cB kinds_6 keys_6 places_6 kindCount_6 worthWon_6 worthDrawn_6 worthLost_6)) [0, 1, 2, 3] rfl
        have hD : va_D A (wX6 q6 cI cJ cB kinds_6 keys_6 places_6 kindCount_6 worthWon_6 worthDrawn_6 worthLost_6) := hD.sub (ws' := (wX6 q6 cI cJ cB kinds_6 keys_6 places_6 kindCount_6 worthWon_6 worthDrawn_6 worthLost_6)) [0, 1, 2, 3] (by decide) rfl
        refine lv_aload_n hx hb dX6_compareKeys_16 rfl (lv_at hl 0 rfl) ?_
        refine lv_iload hx hb dX6_compareKeys_17 (lv_at hl 4 rfl) ?_
        refine lv_iload_n hx hb dX6_compareKeys_19 rfl (lv_at hl 2 rfl) ?_
        have hs_20 : kSplit (wX6 q6 cI cJ cB kinds_6 keys_6 places_6 kindCount_6 worthWon_6 worthDrawn_6 worthLost_6) (wX6 q6 cI cJ cB kinds_6 keys_6 places_6 kindCount_6 worthWon_6 worthDrawn_6 worthLost_6) ([] : va_W) [0, 1, 2, 3] [] := ⟨rfl, rfl, rfl, rfl, rfl, by decide⟩
        refine kc_i hP hD hS hA hs_20 (kV (As := [.int (nI j), .int (nI y)]) (rest := [.int (keys_6 (j * 10 + x))]) hx hb hml hown hts hKW hP hD hs_20 (c_X6_keyOf l D cI cJ cB q6 kinds_6 keys_6 places_6 kindCount_6 worthWon_6 worthDrawn_6 worthLost_6 j y (by first | assumption | omega) (by first | assumption | omega)) (cwV 2 hts gX6_compareKeys_X6_keyOf rfl rfl rfl (by decide +kernel) ⟨Nat.le_of_ble_eq_true rfl, Nat.le_of_ble_eq_true rfl⟩) 0 6 rfl rfl rfl rfl hl.1 rfl (Nat.le_of_ble_eq_true rfl) dX6_compareKeys_20 ⟨Nat.zero_le _, Nat.zero_le _⟩) (fun r_20 u_20 H locs hw_20 hP hD hS => ?_)
        have er_20 := hw_20
        subst er_20
        have hP : va_P D vwCl (wX6 q6 cI cJ cB kinds_6 keys_6 places_6 kindCount_6 worthWon_6 worthDrawn_6 worthLost_6) H := hP.sub (ws' := (wX6 q6 cI cJ cB kinds_6 keys_6 places_6 kindCount_6 worthWon_6 worthDrawn_6 worthLost_6)) [0, 1, 2, 3] rfl
        have hD : va_D A (wX6 q6 cI cJ cB kinds_6 keys_6 places_6 kindCount_6 worthWon_6 worthDrawn_6 worthLost_6) := hD.sub (ws' := (wX6 q6 cI cJ cB kinds_6 keys_6 places_6 kindCount_6 worthWon_6 worthDrawn_6 worthLost_6)) [0, 1, 2, 3] (by decide) rfl
        have hs_23 : kSplit (wX6 q6 cI cJ cB kinds_6 keys_6 places_6 kindCount_6 worthWon_6 worthDrawn_6 worthLost_6) ([] : va_W) (wX6 q6 cI cJ cB kinds_6 keys_6 places_6 kindCount_6 worthWon_6 worthDrawn_6 worthLost_6) [] [0, 1, 2, 3] := ⟨rfl, rfl, rfl, rfl, rfl, by decide⟩
        refine kc_i hP hD hS hA hs_23 (kS (As := [.int (keys_6 (j * 10 + x)), .int (keys_6 (j * 10 + y))]) (rest := []) hx hb hml hown hts hKW hP hD hs_23 (c_J6_compare_7cf53 l D cI cJ cB (keys_6 (j * 10 + x)) (keys_6 (j * 10 + y))) (va_cwS 2 hts gX6_compareKeys_J6_compare_7cf53 rfl rfl rfl (by decide +kernel) ⟨Nat.le_of_ble_eq_true rfl, Nat.le_of_ble_eq_true rfl⟩) rfl hl.1 rfl (Nat.le_of_ble_eq_true rfl) dX6_compareKeys_23 ⟨Nat.zero_le _, Nat.zero_le _⟩) (fun r_23 u_23 H locs hw_23 hP hD hS => ?_)
        have er_23 := hw_23
        subst er_23
        have hP : va_P D vwCl (wX6 q6 cI cJ cB kinds_6 keys_6 places_6 kindCount_6 worthWon_6 worthDrawn_6 worthLost_6) H := hP.sub (ws' := (wX6 q6 cI cJ cB kinds_6 keys_6 places_6 kindCount_6 worthWon_6 worthDrawn_6 worthLost_6)) [0, 1, 2, 3] rfl
        have hD : va_D A (wX6 q6 cI cJ cB kinds_6 keys_6 places_6 kindCount_6 worthWon_6 worthDrawn_6 worthLost_6) := hD.sub (ws' := (wX6 q6 cI cJ cB kinds_6 keys_6 places_6 kindCount_6 worthWon_6 worthDrawn_6 worthLost_6)) [0, 1, 2, 3] (by decide) rfl
        refine lv_istore (lv' := [(5, .int (cmp3 (keys_6 (j * 10 + x)) (keys_6 (j * 10 + y)))), (0, .ref (q6 0)), (1, .int (nI x)), (2, .int (nI y)), (3, .int (nI c2)), (4, .int (nI j))]) hx hb dX6_compareKeys_26 hl (by decide) rfl (fun ls hl => ?_)
        refine lv_iload hx hb dX6_compareKeys_28 (lv_at hl 0 rfl) ?_
        refine lv_if_eq (tgt := 36) hx hb dX6_compareKeys_30 (by decide) (fun c_30 => ?_) (fun c_30 => ?_)
        · skip
          refine lv_iinc (v := nI (j + 1)) (lv' := [(4, .int (nI (j + 1))), (5, .int (cmp3 (keys_6 (j * 10 + x)) (keys_6 (j * 10 + y)))), (0, .ref (q6 0)), (1, .int (nI x)), (2, .int (nI y)), (3, .int (nI c2))]) hx hb dX6_compareKeys_36 hl (k := 5) rfl (nI_add _ _) (by decide) rfl (fun ls hl => ?_)
          refine lv_goto (tgt := 3) hx hb dX6_compareKeys_39 (by decide) ?_
          exact ih_3 _ (by omega) (by rw [hc, show c2 - j = (c2 - (j + 1)) + 1 by omega]; show (if _ then _ else _) = _; rw [if_pos c_30]) (by omega) _ _ hP hD hS ls (lv_sub hl [2, 3, 4, 5, 0] rfl)
        · skip
          refine lv_iload hx hb dX6_compareKeys_33 (lv_at hl 0 rfl) ?_
          subst hQ; subst hAe
          exact W.iret (v := cmp3 (keys_6 (j * 10 + x)) (keys_6 (j * 10 + y))) hx hb hr (fun t ht _ => ⟨⟨cmp3 (keys_6 (j * 10 + x)) (keys_6 (j * 10 + y)), (), rfl, by rw [hc, show c2 - j = (c2 - (j + 1)) + 1 by omega]; unfold cmpK; rw [if_neg c_30], by rw [ht]; exact hP, hD⟩, hS.F ht⟩) hS.2.2 dX6_compareKeys_35
  exact hL_3 _ 0 (Nat.zero_le _) rfl (Nat.lt_succ_self _) _ _ hP hD hS ls (lv_sub hl [1, 2, 3, 4, 0] rfl)
def rmX6_share : Room := { frames := 2, cells := 0, slots := 0, locals := 47 }
set_option maxHeartbeats 4000000 in
set_option maxRecDepth 100000 in
theorem c_X6_share (l : Launch) (D : va_G) (cI cJ cB : ClassId) (q6 : Nat → Nat) (q4 : Nat → Nat) (kinds_6 : Nat → Int32) (keys_6 : Nat → Int32) (places_6 : Nat → Int32) (kindCount_6 : Int32) (worthWon_6 : Int32) (worthDrawn_6 : Int32) (worthLost_6 : Int32) (parts_4 : Nat → Int32) (wins_4 : Nat → Int32) (draws_4 : Nat → Int32) (points_4 : Nat → Int32) (count_4 : Int32) (changes_4 : Int32) (ml : List Mt) (kd : Nat) (a : Nat) (b : Nat) (row : Nat) (hM : MR parts_4 wins_4 draws_4 points_4 ml) (hkd : kd < 6) (ha : a < 10) (hb2 : b < 10) (hrow : row ≤ 4) : ∀ sz, Met l yX6_share wsX6_share rmX6_share (va_Pc [.ref (q6 0), .ref (q4 0), .int (nI kd), .int (nI a), .int (nI b), .int (nI row)] (PW D (kT cI cJ cB) sz (wX6 q6 cI cJ cB kinds_6 keys_6 places_6 kindCount_6 worthWon_6 worthDrawn_6 worthLost_6 ++ wX4 q4 cI cJ cB parts_4 wins_4 draws_4 points_4 count_4 changes_4))) (va_Qi (S := Unit) (fun r _ => r = shF (worthWon_6, worthDrawn_6, worthLost_6) ml keys_6 kd a b row) (QW D sz (wX6 q6 cI cJ cB kinds_6 keys_6 places_6 kindCount_6 worthWon_6 worthDrawn_6 worthLost_6 ++ wX4 q4 cI cJ cB parts_4 wins_4 draws_4 points_4 count_4 changes_4) (fun _ => (wX6 q6 cI cJ cB kinds_6 keys_6 places_6 kindCount_6 worthWon_6 worthDrawn_6 worthLost_6 ++ wX4 q4 cI cJ cB parts_4 wins_4 draws_4 points_4 count_4 changes_4))) (va_A (wX6 q6 cI cJ cB kinds_6 keys_6 places_6 kindCount_6 worthWon_6 worthDrawn_6 worthLost_6 ++ wX4 q4 cI cJ cB parts_4 wins_4 draws_4 points_4 count_4 changes_4) sz)) 0 0 (va_A (wX6 q6 cI cJ cB kinds_6 keys_6 places_6 kindCount_6 worthWon_6 worthDrawn_6 worthLost_6 ++ wX4 q4 cI cJ cB parts_4 wins_4 draws_4 points_4 count_4 changes_4) sz) := by
  intro sz
  refine Met.ofW (cc := cX6_share) (maxL := 6) (ret := (some .int)) (by decide) rfl ?_
  intro p e s m args below meth c s₁ B hml hv
  obtain ⟨hav, hsz, hP, hKW, hD0⟩ := hv
  have hx := B.exec
  have hb := B.bytes
  have hr := B.returns
  have hts := atoms_spec (ws := wsX6_share) B.pre
  have hown : s.vm.findClass RX6 = some m.cls := findClass_of_methodNamed B.named
  have hlocks := B.notSynchronized
  subst hsz
  have hD := hD0.self (sz := s.heap.size)
  obtain ⟨A, hAe⟩ : ∃ A : Nat → Prop, A = va_A (wX6 q6 cI cJ cB kinds_6 keys_6 places_6 kindCount_6 worthWon_6 worthDrawn_6 worthLost_6 ++ wX4 q4 cI cJ cB parts_4 wins_4 draws_4 points_4 count_4 changes_4) s.heap.size := ⟨_, rfl⟩
  rw [← hAe] at hD
  have hA : ∀ q : Nat, s.heap.size ≤ q → A q := fun q h => by rw [hAe]; exact Or.inr h
  have hS : va_S A s.heap s.heap [] := va_S.rf
  refine k_gen (fun Q hQ => ?_)
  have hl := lv_entry ([.ref (q6 0), .ref (q4 0), .int (nI kd), .int (nI a), .int (nI b), .int (nI row)]) (n := 6) (Nat.le_of_ble_eq_true rfl)
  refine k_entry hav (lg_entry_eq ..) ?_
  generalize (lg_sl ([.ref (q6 0), .ref (q4 0), .int (nI kd), .int (nI a), .int (nI b), .int (nI row)]) ++ List.replicate (6 - (lg_sl ([.ref (q6 0), .ref (q4 0), .int (nI kd), .int (nI a), .int (nI b), .int (nI row)])).length) Slot.unset).toArray = ls at hl ⊢
  have hl : lv_has ls 6 [(0, .ref (q6 0)), (1, .ref (q4 0)), (2, .int (nI kd)), (3, .int (nI a)), (4, .int (nI b)), (5, .int (nI row))] := hl
  have hu_6 : ∀ w ∈ u_ws RX6 TX6 7, w ∈ wsX6_share := by decide +kernel
  have hf_15 : Cond.fieldLink RX6 15 "MeetingRanks$Standings" "keys" "[I" ∈ wsX6_share := by decide +kernel
  refine lv_iload_n hx hb dX6_share_0 rfl (lv_at hl 2 rfl) ?_
  rcases (show kd = 0 ∨ kd = 1 ∨ kd = 2 ∨ kd = 3 ∨ kd = 4 ∨ kd = 5 by omega) with rfl | rfl | rfl | rfl | rfl | rfl
  · skip
    refine lv_tableIn (off := 39) (tgt := 40) hx hb dX6_share_1 (by decide) (by decide) (by decide) (by decide) ?_
    refine lv_aload_n hx hb dX6_share_40 rfl (lv_at hl 1 rfl) ?_
    refine lv_iload_n hx hb dX6_share_41 rfl (lv_at hl 3 rfl) ?_
    refine lv_iload hx hb dX6_share_42 (lv_at hl 4 rfl) ?_
    have hs_44 : kSplit (wX6 q6 cI cJ cB kinds_6 keys_6 places_6 kindCount_6 worthWon_6 worthDrawn_6 worthLost_6 ++ wX4 q4 cI cJ cB parts_4 wins_4 draws_4 points_4 count_4 changes_4) (wX4 q4 cI cJ cB parts_4 wins_4 draws_4 points_4 count_4 changes_4) (wX6 q6 cI cJ cB kinds_6 keys_6 places_6 kindCount_6 worthWon_6 worthDrawn_6 worthLost_6) [4, 5, 6, 7, 8] [0, 1, 2, 3] := ⟨rfl, rfl, rfl, rfl, rfl, by decide⟩
    refine kc_i hP hD hS hA hs_44 (kV (As := [.int (nI a), .int (nI b)]) (rest := []) hx hb hml hown hts hKW hP hD hs_44 (c_X4_wins l D cI cJ cB q4 parts_4 wins_4 draws_4 points_4 count_4 changes_4 a b (by first | assumption | omega) (by first | assumption | omega)) (cwV 2 hts gX6_share_X4_wins rfl rfl rfl (by decide +kernel) ⟨Nat.le_of_ble_eq_true rfl, Nat.le_of_ble_eq_true rfl⟩) 0 4 rfl rfl rfl rfl hl.1 rfl (Nat.le_of_ble_eq_true rfl) dX6_share_44 ⟨Nat.zero_le _, Nat.zero_le _⟩) (fun r_44 u_44 H locs hw_44 hP hD hS => ?_)
    have er_44 := hw_44
    subst er_44
    have hP : va_P D vwCl (wX6 q6 cI cJ cB kinds_6 keys_6 places_6 kindCount_6 worthWon_6 worthDrawn_6 worthLost_6 ++ wX4 q4 cI cJ cB parts_4 wins_4 draws_4 points_4 count_4 changes_4) H := hP.sub (ws' := (wX6 q6 cI cJ cB kinds_6 keys_6 places_6 kindCount_6 worthWon_6 worthDrawn_6 worthLost_6 ++ wX4 q4 cI cJ cB parts_4 wins_4 draws_4 points_4 count_4 changes_4)) [0, 1, 2, 3, 4, 5, 6, 7, 8] rfl
    have hD : va_D A (wX6 q6 cI cJ cB kinds_6 keys_6 places_6 kindCount_6 worthWon_6 worthDrawn_6 worthLost_6 ++ wX4 q4 cI cJ cB parts_4 wins_4 draws_4 points_4 count_4 changes_4) := hD.sub (ws' := (wX6 q6 cI cJ cB kinds_6 keys_6 places_6 kindCount_6 worthWon_6 worthDrawn_6 worthLost_6 ++ wX4 q4 cI cJ cB parts_4 wins_4 draws_4 points_4 count_4 changes_4)) [0, 1, 2, 3, 4, 5, 6, 7, 8] (by decide) rfl
    refine k_top (y := nI (ov ml a b)) ((hM.2 a b (by omega) (by omega)).1) ?_
    subst hQ; subst hAe
    exact W.iret (v := nI (ov ml a b)) hx hb hr (fun t ht _ => ⟨⟨nI (ov ml a b), (), rfl, rfl, by rw [ht]; exact hP, hD⟩, hS.F ht⟩) hS.2.2 dX6_share_47
  · skip
    refine lv_tableIn (off := 47) (tgt := 48) hx hb dX6_share_1 (by decide) (by decide) (by decide) (by decide) ?_
    refine lv_aload_n hx hb dX6_share_48 rfl (lv_at hl 1 rfl) ?_
    refine lv_iload_n hx hb dX6_share_49 rfl (lv_at hl 3 rfl) ?_
    refine lv_iload hx hb dX6_share_50 (lv_at hl 4 rfl) ?_
    have hs_52 : kSplit (wX6 q6 cI cJ cB kinds_6 keys_6 places_6 kindCount_6 worthWon_6 worthDrawn_6 worthLost_6 ++ wX4 q4 cI cJ cB parts_4 wins_4 draws_4 points_4 count_4 changes_4) (wX4 q4 cI cJ cB parts_4 wins_4 draws_4 points_4 count_4 changes_4) (wX6 q6 cI cJ cB kinds_6 keys_6 places_6 kindCount_6 worthWon_6 worthDrawn_6 worthLost_6) [4, 5, 6, 7, 8] [0, 1, 2, 3] := ⟨rfl, rfl, rfl, rfl, rfl, by decide⟩
    refine kc_i hP hD hS hA hs_52 (kV (As := [.int (nI a), .int (nI b)]) (rest := []) hx hb hml hown hts hKW hP hD hs_52 (c_X4_points l D cI cJ cB q4 parts_4 wins_4 draws_4 points_4 count_4 changes_4 a b (by first | assumption | omega) (by first | assumption | omega)) (cwV 2 hts gX6_share_X4_points rfl rfl rfl (by decide +kernel) ⟨Nat.le_of_ble_eq_true rfl, Nat.le_of_ble_eq_true rfl⟩) 0 4 rfl rfl rfl rfl hl.1 rfl (Nat.le_of_ble_eq_true rfl) dX6_share_52 ⟨Nat.zero_le _, Nat.zero_le _⟩) (fun r_52 u_52 H locs hw_52 hP hD hS => ?_)
    have er_52 := hw_52
    subst er_52
    have hP : va_P D vwCl (wX6 q6 cI cJ cB kinds_6 keys_6 places_6 kindCount_6 worthWon_6 worthDrawn_6 worthLost_6 ++ wX4 q4 cI cJ cB parts_4 wins_4 draws_4 points_4 count_4 changes_4) H := hP.sub (ws' := (wX6 q6 cI cJ cB kinds_6 keys_6 places_6 kindCount_6 worthWon_6 worthDrawn_6 worthLost_6 ++ wX4 q4 cI cJ cB parts_4 wins_4 draws_4 points_4 count_4 changes_4)) [0, 1, 2, 3, 4, 5, 6, 7, 8] rfl
    have hD : va_D A (wX6 q6 cI cJ cB kinds_6 keys_6 places_6 kindCount_6 worthWon_6 worthDrawn_6 worthLost_6 ++ wX4 q4 cI cJ cB parts_4 wins_4 draws_4 points_4 count_4 changes_4) := hD.sub (ws' := (wX6 q6 cI cJ cB kinds_6 keys_6 places_6 kindCount_6 worthWon_6 worthDrawn_6 worthLost_6 ++ wX4 q4 cI cJ cB parts_4 wins_4 draws_4 points_4 count_4 changes_4)) [0, 1, 2, 3, 4, 5, 6, 7, 8] (by decide) rfl
    refine k_top (y := nI (pt ml a b)) ((hM.2 a b (by omega) (by omega)).2.2) ?_
    refine lv_aload_n hx hb dX6_share_55 rfl (lv_at hl 1 rfl) ?_
    refine lv_iload hx hb dX6_share_56 (lv_at hl 4 rfl) ?_
    refine lv_iload_n hx hb dX6_share_58 rfl (lv_at hl 3 rfl) ?_
    have hs_59 : kSplit (wX6 q6 cI cJ cB kinds_6 keys_6 places_6 kindCount_6 worthWon_6 worthDrawn_6 worthLost_6 ++ wX4 q4 cI cJ cB parts_4 wins_4 draws_4 points_4 count_4 changes_4) (wX4 q4 cI cJ cB parts_4 wins_4 draws_4 points_4 count_4 changes_4) (wX6 q6 cI cJ cB kinds_6 keys_6 places_6 kindCount_6 worthWon_6 worthDrawn_6 worthLost_6) [4, 5, 6, 7, 8] [0, 1, 2, 3] := ⟨rfl, rfl, rfl, rfl, rfl, by decide⟩
    refine kc_i hP hD hS hA hs_59 (kV (As := [.int (nI b), .int (nI a)]) (rest := [.int (nI (pt ml a b))]) hx hb hml hown hts hKW hP hD hs_59 (c_X4_points l D cI cJ cB q4 parts_4 wins_4 draws_4 points_4 count_4 changes_4 b a (by first | assumption | omega) (by first | assumption | omega)) (cwV 2 hts gX6_share_X4_points rfl rfl rfl (by decide +kernel) ⟨Nat.le_of_ble_eq_true rfl, Nat.le_of_ble_eq_true rfl⟩) 0 4 rfl rfl rfl rfl hl.1 rfl (Nat.le_of_ble_eq_true rfl) dX6_share_59 ⟨Nat.zero_le _, Nat.zero_le _⟩) (fun r_59 u_59 H locs hw_59 hP hD hS => ?_)
    have er_59 := hw_59
    subst er_59
    have hP : va_P D vwCl (wX6 q6 cI cJ cB kinds_6 keys_6 places_6 kindCount_6 worthWon_6 worthDrawn_6 worthLost_6 ++ wX4 q4 cI cJ cB parts_4 wins_4 draws_4 points_4 count_4 changes_4) H := hP.sub (ws' := (wX6 q6 cI cJ cB kinds_6 keys_6 places_6 kindCount_6 worthWon_6 worthDrawn_6 worthLost_6 ++ wX4 q4 cI cJ cB parts_4 wins_4 draws_4 points_4 count_4 changes_4)) [0, 1, 2, 3, 4, 5, 6, 7, 8] rfl
    have hD : va_D A (wX6 q6 cI cJ cB kinds_6 keys_6 places_6 kindCount_6 worthWon_6 worthDrawn_6 worthLost_6 ++ wX4 q4 cI cJ cB parts_4 wins_4 draws_4 points_4 count_4 changes_4) := hD.sub (ws' := (wX6 q6 cI cJ cB kinds_6 keys_6 places_6 kindCount_6 worthWon_6 worthDrawn_6 worthLost_6 ++ wX4 q4 cI cJ cB parts_4 wins_4 draws_4 points_4 count_4 changes_4)) [0, 1, 2, 3, 4, 5, 6, 7, 8] (by decide) rfl
    refine k_top (y := nI (pt ml b a)) ((hM.2 b a (by omega) (by omega)).2.2) ?_
    refine lv_isub hx hb dX6_share_62 ?_
    subst hQ; subst hAe
    exact W.iret (v := (nI (pt ml a b)) - (nI (pt ml b a))) hx hb hr (fun t ht _ => ⟨⟨(nI (pt ml a b)) - (nI (pt ml b a)), (), rfl, rfl, by rw [ht]; exact hP, hD⟩, hS.F ht⟩) hS.2.2 dX6_share_63
  · skip
    refine lv_tableIn (off := 63) (tgt := 64) hx hb dX6_share_1 (by decide) (by decide) (by decide) (by decide) ?_
    refine lv_aload_n hx hb dX6_share_64 rfl (lv_at hl 1 rfl) ?_
    refine lv_iload_n hx hb dX6_share_65 rfl (lv_at hl 3 rfl) ?_
    refine lv_iload hx hb dX6_share_66 (lv_at hl 4 rfl) ?_
    have hs_68 : kSplit (wX6 q6 cI cJ cB kinds_6 keys_6 places_6 kindCount_6 worthWon_6 worthDrawn_6 worthLost_6 ++ wX4 q4 cI cJ cB parts_4 wins_4 draws_4 points_4 count_4 changes_4) (wX4 q4 cI cJ cB parts_4 wins_4 draws_4 points_4 count_4 changes_4) (wX6 q6 cI cJ cB kinds_6 keys_6 places_6 kindCount_6 worthWon_6 worthDrawn_6 worthLost_6) [4, 5, 6, 7, 8] [0, 1, 2, 3] := ⟨rfl, rfl, rfl, rfl, rfl, by decide⟩
    refine kc_i hP hD hS hA hs_68 (kV (As := [.int (nI a), .int (nI b)]) (rest := []) hx hb hml hown hts hKW hP hD hs_68 (c_X4_points l D cI cJ cB q4 parts_4 wins_4 draws_4 points_4 count_4 changes_4 a b (by first | assumption | omega) (by first | assumption | omega)) (cwV 2 hts gX6_share_X4_points rfl rfl rfl (by decide +kernel) ⟨Nat.le_of_ble_eq_true rfl, Nat.le_of_ble_eq_true rfl⟩) 0 4 rfl rfl rfl rfl hl.1 rfl (Nat.le_of_ble_eq_true rfl) dX6_share_68 ⟨Nat.zero_le _, Nat.zero_le _⟩) (fun r_68 u_68 H locs hw_68 hP hD hS => ?_)
    have er_68 := hw_68
    subst er_68
    have hP : va_P D vwCl (wX6 q6 cI cJ cB kinds_6 keys_6 places_6 kindCount_6 worthWon_6 worthDrawn_6 worthLost_6 ++ wX4 q4 cI cJ cB parts_4 wins_4 draws_4 points_4 count_4 changes_4) H := hP.sub (ws' := (wX6 q6 cI cJ cB kinds_6 keys_6 places_6 kindCount_6 worthWon_6 worthDrawn_6 worthLost_6 ++ wX4 q4 cI cJ cB parts_4 wins_4 draws_4 points_4 count_4 changes_4)) [0, 1, 2, 3, 4, 5, 6, 7, 8] rfl
    have hD : va_D A (wX6 q6 cI cJ cB kinds_6 keys_6 places_6 kindCount_6 worthWon_6 worthDrawn_6 worthLost_6 ++ wX4 q4 cI cJ cB parts_4 wins_4 draws_4 points_4 count_4 changes_4) := hD.sub (ws' := (wX6 q6 cI cJ cB kinds_6 keys_6 places_6 kindCount_6 worthWon_6 worthDrawn_6 worthLost_6 ++ wX4 q4 cI cJ cB parts_4 wins_4 draws_4 points_4 count_4 changes_4)) [0, 1, 2, 3, 4, 5, 6, 7, 8] (by decide) rfl
    refine k_top (y := nI (pt ml a b)) ((hM.2 a b (by omega) (by omega)).2.2) ?_
    subst hQ; subst hAe
    exact W.iret (v := nI (pt ml a b)) hx hb hr (fun t ht _ => ⟨⟨nI (pt ml a b), (), rfl, rfl, by rw [ht]; exact hP, hD⟩, hS.F ht⟩) hS.2.2 dX6_share_71
  · skip
    refine lv_tableIn (off := 71) (tgt := 72) hx hb dX6_share_1 (by decide) (by decide) (by decide) (by decide) ?_
    refine lv_aload_n hx hb dX6_share_72 rfl (lv_at hl 1 rfl) ?_
    refine lv_iload_n hx hb dX6_share_73 rfl (lv_at hl 3 rfl) ?_
    refine lv_iload hx hb dX6_share_74 (lv_at hl 4 rfl) ?_
    have hs_76 : kSplit (wX6 q6 cI cJ cB kinds_6 keys_6 places_6 kindCount_6 worthWon_6 worthDrawn_6 worthLost_6 ++ wX4 q4 cI cJ cB parts_4 wins_4 draws_4 points_4 count_4 changes_4) (wX4 q4 cI cJ cB parts_4 wins_4 draws_4 points_4 count_4 changes_4) (wX6 q6 cI cJ cB kinds_6 keys_6 places_6 kindCount_6 worthWon_6 worthDrawn_6 worthLost_6) [4, 5, 6, 7, 8] [0, 1, 2, 3] := ⟨rfl, rfl, rfl, rfl, rfl, by decide⟩
    refine kc_i hP hD hS hA hs_76 (kV (As := [.int (nI a), .int (nI b)]) (rest := []) hx hb hml hown hts hKW hP hD hs_76 (c_X4_times l D cI cJ cB q4 parts_4 wins_4 draws_4 points_4 count_4 changes_4 a b (by first | assumption | omega) (by first | assumption | omega)) (cwV 2 hts gX6_share_X4_times rfl rfl rfl (by decide +kernel) ⟨Nat.le_of_ble_eq_true rfl, Nat.le_of_ble_eq_true rfl⟩) 0 4 rfl rfl rfl rfl hl.1 rfl (Nat.le_of_ble_eq_true rfl) dX6_share_76 ⟨Nat.zero_le _, Nat.zero_le _⟩) (fun r_76 u_76 H locs hw_76 hP hD hS => ?_)
    have er_76 := hw_76
    subst er_76
    have hP : va_P D vwCl (wX6 q6 cI cJ cB kinds_6 keys_6 places_6 kindCount_6 worthWon_6 worthDrawn_6 worthLost_6 ++ wX4 q4 cI cJ cB parts_4 wins_4 draws_4 points_4 count_4 changes_4) H := hP.sub (ws' := (wX6 q6 cI cJ cB kinds_6 keys_6 places_6 kindCount_6 worthWon_6 worthDrawn_6 worthLost_6 ++ wX4 q4 cI cJ cB parts_4 wins_4 draws_4 points_4 count_4 changes_4)) [0, 1, 2, 3, 4, 5, 6, 7, 8] rfl
    have hD : va_D A (wX6 q6 cI cJ cB kinds_6 keys_6 places_6 kindCount_6 worthWon_6 worthDrawn_6 worthLost_6 ++ wX4 q4 cI cJ cB parts_4 wins_4 draws_4 points_4 count_4 changes_4) := hD.sub (ws' := (wX6 q6 cI cJ cB kinds_6 keys_6 places_6 kindCount_6 worthWon_6 worthDrawn_6 worthLost_6 ++ wX4 q4 cI cJ cB parts_4 wins_4 draws_4 points_4 count_4 changes_4)) [0, 1, 2, 3, 4, 5, 6, 7, 8] (by decide) rfl
    refine k_top (y := nI (ov ml a b) + nI (dr ml a b) + nI (ov ml b a)) (by rw [(hM.2 a b (by omega) (by omega)).1, (hM.2 a b (by omega) (by omega)).2.1, (hM.2 b a (by omega) (by omega)).1]) ?_
    refine lv_aload_n hx hb dX6_share_79 rfl (lv_at hl 0 rfl) ?_
    refine k_get (ci := 6) (v := .ref (q6 2)) (C := RX6) (Tb := TX6) (N := 7) hx hb hts hu_6 hown hKW hP 0 rfl rfl 1 (by decide) hf_15 rfl rfl dX6_share_80 ?_
    refine lv_iload hx hb dX6_share_83 (lv_at hl 4 rfl) ?_
    refine k_iald (n := 50) (i := b) hx hb hKW hP 2 0 rfl rfl (by omega) (by omega) dX6_share_85 ?_
    refine lv_imul hx hb dX6_share_86 ?_
    subst hQ; subst hAe
    exact W.iret (v := (nI (ov ml a b) + nI (dr ml a b) + nI (ov ml b a)) * (keys_6 b)) hx hb hr (fun t ht _ => ⟨⟨(nI (ov ml a b) + nI (dr ml a b) + nI (ov ml b a)) * (keys_6 b), (), rfl, rfl, by rw [ht]; exact hP, hD⟩, hS.F ht⟩) hS.2.2 dX6_share_87
  · skip
    refine lv_tableIn (off := 87) (tgt := 88) hx hb dX6_share_1 (by decide) (by decide) (by decide) (by decide) ?_
    refine lv_iconst (v := nI 2) hx hb dX6_share_88 (by decide) ?_
    refine lv_aload_n hx hb dX6_share_89 rfl (lv_at hl 1 rfl) ?_
    refine lv_iload_n hx hb dX6_share_90 rfl (lv_at hl 3 rfl) ?_
    refine lv_iload hx hb dX6_share_91 (lv_at hl 4 rfl) ?_
    have hs_93 : kSplit (wX6 q6 cI cJ cB kinds_6 keys_6 places_6 kindCount_6 worthWon_6 worthDrawn_6 worthLost_6 ++ wX4 q4 cI cJ cB parts_4 wins_4 draws_4 points_4 count_4 changes_4) (wX4 q4 cI cJ cB parts_4 wins_4 draws_4 points_4 count_4 changes_4) (wX6 q6 cI cJ cB kinds_6 keys_6 places_6 kindCount_6 worthWon_6 worthDrawn_6 worthLost_6) [4, 5, 6, 7, 8] [0, 1, 2, 3] := ⟨rfl, rfl, rfl, rfl, rfl, by decide⟩
    refine kc_i hP hD hS hA hs_93 (kV (As := [.int (nI a), .int (nI b)]) (rest := [.int (nI 2)]) hx hb hml hown hts hKW hP hD hs_93 (c_X4_wins l D cI cJ cB q4 parts_4 wins_4 draws_4 points_4 count_4 changes_4 a b (by first | assumption | omega) (by first | assumption | omega)) (cwV 2 hts gX6_share_X4_wins rfl rfl rfl (by decide +kernel) ⟨Nat.le_of_ble_eq_true rfl, Nat.le_of_ble_eq_true rfl⟩) 0 4 rfl rfl rfl rfl hl.1 rfl (Nat.le_of_ble_eq_true rfl) dX6_share_93 ⟨Nat.zero_le _, Nat.zero_le _⟩) (fun r_93 u_93 H locs hw_93 hP hD hS => ?_)
    have er_93 := hw_93
    subst er_93
    have hP : va_P D vwCl (wX6 q6 cI cJ cB kinds_6 keys_6 places_6 kindCount_6 worthWon_6 worthDrawn_6 worthLost_6 ++ wX4 q4 cI cJ cB parts_4 wins_4 draws_4 points_4 count_4 changes_4) H := hP.sub (ws' := (wX6 q6 cI cJ cB kinds_6 keys_6 places_6 kindCount_6 worthWon_6 worthDrawn_6 worthLost_6 ++ wX4 q4 cI cJ cB parts_4 wins_4 draws_4 points_4 count_4 changes_4)) [0, 1, 2, 3, 4, 5, 6, 7, 8] rfl
    have hD : va_D A (wX6 q6 cI cJ cB kinds_6 keys_6 places_6 kindCount_6 worthWon_6 worthDrawn_6 worthLost_6 ++ wX4 q4 cI cJ cB parts_4 wins_4 draws_4 points_4 count_4 changes_4) := hD.sub (ws' := (wX6 q6 cI cJ cB kinds_6 keys_6 places_6 kindCount_6 worthWon_6 worthDrawn_6 worthLost_6 ++ wX4 q4 cI cJ cB parts_4 wins_4 draws_4 points_4 count_4 changes_4)) [0, 1, 2, 3, 4, 5, 6, 7, 8] (by decide) rfl
    refine k_top (y := nI (ov ml a b)) ((hM.2 a b (by omega) (by omega)).1) ?_
    refine lv_imul hx hb dX6_share_96 ?_
    refine lv_aload_n hx hb dX6_share_97 rfl (lv_at hl 1 rfl) ?_
    refine lv_iload_n hx hb dX6_share_98 rfl (lv_at hl 3 rfl) ?_
    refine lv_iload hx hb dX6_share_99 (lv_at hl 4 rfl) ?_
    have hs_101 : kSplit (wX6 q6 cI cJ cB kinds_6 keys_6 places_6 kindCount_6 worthWon_6 worthDrawn_6 worthLost_6 ++ wX4 q4 cI cJ cB parts_4 wins_4 draws_4 points_4 count_4 changes_4) (wX4 q4 cI cJ cB parts_4 wins_4 draws_4 points_4 count_4 changes_4) (wX6 q6 cI cJ cB kinds_6 keys_6 places_6 kindCount_6 worthWon_6 worthDrawn_6 worthLost_6) [4, 5, 6, 7, 8] [0, 1, 2, 3] := ⟨rfl, rfl, rfl, rfl, rfl, by decide⟩
    refine kc_i hP hD hS hA hs_101 (kV (As := [.int (nI a), .int (nI b)]) (rest := [.int ((nI 2) * (nI (ov ml a b)))]) hx hb hml hown hts hKW hP hD hs_101 (c_X4_draws l D cI cJ cB q4 parts_4 wins_4 draws_4 points_4 count_4 changes_4 a b (by first | assumption | omega) (by first | assumption | omega)) (cwV 2 hts gX6_share_X4_draws rfl rfl rfl (by decide +kernel) ⟨Nat.le_of_ble_eq_true rfl, Nat.le_of_ble_eq_true rfl⟩) 0 4 rfl rfl rfl rfl hl.1 rfl (Nat.le_of_ble_eq_true rfl) dX6_share_101 ⟨Nat.zero_le _, Nat.zero_le _⟩) (fun r_101 u_101 H locs hw_101 hP hD hS => ?_)
    have er_101 := hw_101
    subst er_101
    have hP : va_P D vwCl (wX6 q6 cI cJ cB kinds_6 keys_6 places_6 kindCount_6 worthWon_6 worthDrawn_6 worthLost_6 ++ wX4 q4 cI cJ cB parts_4 wins_4 draws_4 points_4 count_4 changes_4) H := hP.sub (ws' := (wX6 q6 cI cJ cB kinds_6 keys_6 places_6 kindCount_6 worthWon_6 worthDrawn_6 worthLost_6 ++ wX4 q4 cI cJ cB parts_4 wins_4 draws_4 points_4 count_4 changes_4)) [0, 1, 2, 3, 4, 5, 6, 7, 8] rfl
    have hD : va_D A (wX6 q6 cI cJ cB kinds_6 keys_6 places_6 kindCount_6 worthWon_6 worthDrawn_6 worthLost_6 ++ wX4 q4 cI cJ cB parts_4 wins_4 draws_4 points_4 count_4 changes_4) := hD.sub (ws' := (wX6 q6 cI cJ cB kinds_6 keys_6 places_6 kindCount_6 worthWon_6 worthDrawn_6 worthLost_6 ++ wX4 q4 cI cJ cB parts_4 wins_4 draws_4 points_4 count_4 changes_4)) [0, 1, 2, 3, 4, 5, 6, 7, 8] (by decide) rfl
    refine k_top (y := nI (dr ml a b)) ((hM.2 a b (by omega) (by omega)).2.1) ?_
    refine lv_iadd hx hb dX6_share_104 ?_
    refine lv_aload_n hx hb dX6_share_105 rfl (lv_at hl 0 rfl) ?_
    refine k_get (ci := 6) (v := .ref (q6 2)) (C := RX6) (Tb := TX6) (N := 7) hx hb hts hu_6 hown hKW hP 0 rfl rfl 1 (by decide) hf_15 rfl rfl dX6_share_106 ?_
    refine lv_iload hx hb dX6_share_109 (lv_at hl 4 rfl) ?_
    refine k_iald (n := 50) (i := b) hx hb hKW hP 2 0 rfl rfl (by omega) (by omega) dX6_share_111 ?_
    refine lv_imul hx hb dX6_share_112 ?_
    subst hQ; subst hAe
    exact W.iret (v := (((nI 2) * (nI (ov ml a b))) + (nI (dr ml a b))) * (keys_6 b)) hx hb hr (fun t ht _ => ⟨⟨(((nI 2) * (nI (ov ml a b))) + (nI (dr ml a b))) * (keys_6 b), (), rfl, rfl, by rw [ht]; exact hP, hD⟩, hS.F ht⟩) hS.2.2 dX6_share_113
  · skip
    refine lv_tableIn (off := 113) (tgt := 114) hx hb dX6_share_1 (by decide) (by decide) (by decide) (by decide) ?_
    refine lv_aload_n hx hb dX6_share_114 rfl (lv_at hl 0 rfl) ?_
    refine lv_iload_n hx hb dX6_share_115 rfl (lv_at hl 3 rfl) ?_
    refine lv_iload hx hb dX6_share_116 (lv_at hl 4 rfl) ?_
    refine lv_iload hx hb dX6_share_118 (lv_at hl 5 rfl) ?_
    have hs_120 : kSplit (wX6 q6 cI cJ cB kinds_6 keys_6 places_6 kindCount_6 worthWon_6 worthDrawn_6 worthLost_6 ++ wX4 q4 cI cJ cB parts_4 wins_4 draws_4 points_4 count_4 changes_4) (wX6 q6 cI cJ cB kinds_6 keys_6 places_6 kindCount_6 worthWon_6 worthDrawn_6 worthLost_6) (wX4 q4 cI cJ cB parts_4 wins_4 draws_4 points_4 count_4 changes_4) [0, 1, 2, 3] [4, 5, 6, 7, 8] := ⟨rfl, rfl, rfl, rfl, rfl, by decide⟩
    refine kc_i hP hD hS hA hs_120 (kV (As := [.int (nI a), .int (nI b), .int (nI row)]) (rest := []) hx hb hml hown hts hKW hP hD hs_120 (c_X6_compareKeys l D cI cJ cB q6 kinds_6 keys_6 places_6 kindCount_6 worthWon_6 worthDrawn_6 worthLost_6 a b row (by first | assumption | omega) (by first | assumption | omega) (by first | assumption | omega)) (cwV 3 hts gX6_share_X6_compareKeys rfl rfl rfl (by decide +kernel) ⟨Nat.le_of_ble_eq_true rfl, Nat.le_of_ble_eq_true rfl⟩) 0 6 rfl rfl rfl rfl hl.1 rfl (Nat.le_of_ble_eq_true rfl) dX6_share_120 ⟨Nat.zero_le _, Nat.zero_le _⟩) (fun r_120 u_120 H locs hw_120 hP hD hS => ?_)
    have er_120 := hw_120
    subst er_120
    have hP : va_P D vwCl (wX6 q6 cI cJ cB kinds_6 keys_6 places_6 kindCount_6 worthWon_6 worthDrawn_6 worthLost_6 ++ wX4 q4 cI cJ cB parts_4 wins_4 draws_4 points_4 count_4 changes_4) H := hP.sub (ws' := (wX6 q6 cI cJ cB kinds_6 keys_6 places_6 kindCount_6 worthWon_6 worthDrawn_6 worthLost_6 ++ wX4 q4 cI cJ cB parts_4 wins_4 draws_4 points_4 count_4 changes_4)) [5, 6, 7, 8, 0, 1, 2, 3, 4] rfl
    have hD : va_D A (wX6 q6 cI cJ cB kinds_6 keys_6 places_6 kindCount_6 worthWon_6 worthDrawn_6 worthLost_6 ++ wX4 q4 cI cJ cB parts_4 wins_4 draws_4 points_4 count_4 changes_4) := hD.sub (ws' := (wX6 q6 cI cJ cB kinds_6 keys_6 places_6 kindCount_6 worthWon_6 worthDrawn_6 worthLost_6 ++ wX4 q4 cI cJ cB parts_4 wins_4 draws_4 points_4 count_4 changes_4)) [5, 6, 7, 8, 0, 1, 2, 3, 4] (by decide) rfl
    refine lv_if_ne (tgt := 137) hx hb dX6_share_123 (by decide) (fun c_123 => ?_) (fun c_123 => ?_)
    · skip
      refine lv_iconst (v := nI 0) hx hb dX6_share_137 (by decide) ?_
      subst hQ; subst hAe
      exact W.iret (v := nI 0) hx hb hr (fun t ht _ => ⟨⟨nI 0, (), rfl, by show _ = (if cmpK keys_6 a b 0 row = 0 then _ else 0); rw [if_neg c_123]; rfl, by rw [ht]; exact hP, hD⟩, hS.F ht⟩) hS.2.2 dX6_share_138
    · skip
      refine lv_aload_n hx hb dX6_share_126 rfl (lv_at hl 0 rfl) ?_
      refine lv_aload_n hx hb dX6_share_127 rfl (lv_at hl 1 rfl) ?_
      refine lv_iload_n hx hb dX6_share_128 rfl (lv_at hl 3 rfl) ?_
      refine lv_iload hx hb dX6_share_129 (lv_at hl 4 rfl) ?_
      have hs_131 : kSplit (wX6 q6 cI cJ cB kinds_6 keys_6 places_6 kindCount_6 worthWon_6 worthDrawn_6 worthLost_6 ++ wX4 q4 cI cJ cB parts_4 wins_4 draws_4 points_4 count_4 changes_4) (wX6 q6 cI cJ cB kinds_6 keys_6 places_6 kindCount_6 worthWon_6 worthDrawn_6 worthLost_6 ++ wX4 q4 cI cJ cB parts_4 wins_4 draws_4 points_4 count_4 changes_4) ([] : va_W) [0, 1, 2, 3, 4, 5, 6, 7, 8] [] := ⟨rfl, rfl, rfl, rfl, rfl, by decide⟩
      refine kc_i hP hD hS hA hs_131 (kV (As := [.ref (q4 0), .int (nI a), .int (nI b)]) (rest := []) hx hb hml hown hts hKW hP hD hs_131 (c_X6_worth l D cI cJ cB q6 q4 kinds_6 keys_6 places_6 kindCount_6 worthWon_6 worthDrawn_6 worthLost_6 parts_4 wins_4 draws_4 points_4 count_4 changes_4 ml a b (by first | assumption | omega) (by first | assumption | omega) (by first | assumption | omega)) (cwV 3 hts gX6_share_X6_worth rfl rfl rfl (by decide +kernel) ⟨Nat.le_of_ble_eq_true rfl, Nat.le_of_ble_eq_true rfl⟩) 0 6 rfl rfl rfl rfl hl.1 rfl (Nat.le_of_ble_eq_true rfl) dX6_share_131 ⟨Nat.zero_le _, Nat.zero_le _⟩) (fun r_131 u_131 H locs hw_131 hP hD hS => ?_)
      have er_131 := hw_131
      subst er_131
      have hP : va_P D vwCl (wX6 q6 cI cJ cB kinds_6 keys_6 places_6 kindCount_6 worthWon_6 worthDrawn_6 worthLost_6 ++ wX4 q4 cI cJ cB parts_4 wins_4 draws_4 points_4 count_4 changes_4) H := hP.sub (ws' := (wX6 q6 cI cJ cB kinds_6 keys_6 places_6 kindCount_6 worthWon_6 worthDrawn_6 worthLost_6 ++ wX4 q4 cI cJ cB parts_4 wins_4 draws_4 points_4 count_4 changes_4)) [0, 1, 2, 3, 4, 5, 6, 7, 8] rfl
      have hD : va_D A (wX6 q6 cI cJ cB kinds_6 keys_6 places_6 kindCount_6 worthWon_6 worthDrawn_6 worthLost_6 ++ wX4 q4 cI cJ cB parts_4 wins_4 draws_4 points_4 count_4 changes_4) := hD.sub (ws' := (wX6 q6 cI cJ cB kinds_6 keys_6 places_6 kindCount_6 worthWon_6 worthDrawn_6 worthLost_6 ++ wX4 q4 cI cJ cB parts_4 wins_4 draws_4 points_4 count_4 changes_4)) [0, 1, 2, 3, 4, 5, 6, 7, 8] (by decide) rfl
      refine lv_goto (tgt := 138) hx hb dX6_share_134 (by decide) ?_
      subst hQ; subst hAe
      exact W.iret (v := wrF (worthWon_6, worthDrawn_6, worthLost_6) ml a b) hx hb hr (fun t ht _ => ⟨⟨wrF (worthWon_6, worthDrawn_6, worthLost_6) ml a b, (), rfl, by show _ = (if cmpK keys_6 a b 0 row = 0 then _ else 0); rw [if_pos c_123], by rw [ht]; exact hP, hD⟩, hS.F ht⟩) hS.2.2 dX6_share_138
def rmX6_fillScores : Room := { frames := 2, cells := 0, slots := 0, locals := 45 }
set_option maxHeartbeats 4000000 in
set_option maxRecDepth 100000 in
theorem c_X6_fillScores (l : Launch) (D : va_G) (cI cJ cB : ClassId) (q6 : Nat → Nat) (q4 : Nat → Nat) (kinds_6 : Nat → Int32) (keys_6 : Nat → Int32) (places_6 : Nat → Int32) (kindCount_6 : Int32) (worthWon_6 : Int32) (worthDrawn_6 : Int32) (worthLost_6 : Int32) (parts_4 : Nat → Int32) (wins_4 : Nat → Int32) (draws_4 : Nat → Int32) (points_4 : Nat → Int32) (count_4 : Int32) (changes_4 : Int32) (ml : List Mt) (n : Nat) (hM : MR parts_4 wins_4 draws_4 points_4 ml) (hn10 : n ≤ 10) : ∀ sz, Met l yX6_fillScores wsX6_fillScores rmX6_fillScores (va_Pc [.ref (q6 0), .ref (q4 0), .int (nI n)] (PW D (kT cI cJ cB) sz (wX6 q6 cI cJ cB kinds_6 keys_6 places_6 kindCount_6 worthWon_6 worthDrawn_6 worthLost_6 ++ wX4 q4 cI cJ cB parts_4 wins_4 draws_4 points_4 count_4 changes_4))) (va_Qv (S := (Nat → Int32)) (fun keys_6' => (∀ a, a < n → keys_6' a = sI (wrF (worthWon_6, worthDrawn_6, worthLost_6) ml a) n) ∧ ∀ i, n ≤ i → keys_6' i = keys_6 i) (QW D sz (wX6 q6 cI cJ cB kinds_6 keys_6 places_6 kindCount_6 worthWon_6 worthDrawn_6 worthLost_6 ++ wX4 q4 cI cJ cB parts_4 wins_4 draws_4 points_4 count_4 changes_4) (fun keys_6' => (wX6 q6 cI cJ cB kinds_6 keys_6' places_6 kindCount_6 worthWon_6 worthDrawn_6 worthLost_6 ++ wX4 q4 cI cJ cB parts_4 wins_4 draws_4 points_4 count_4 changes_4))) (va_A (wX6 q6 cI cJ cB kinds_6 keys_6 places_6 kindCount_6 worthWon_6 worthDrawn_6 worthLost_6 ++ wX4 q4 cI cJ cB parts_4 wins_4 draws_4 points_4 count_4 changes_4) sz)) 0 0 (va_A (wX6 q6 cI cJ cB kinds_6 keys_6 places_6 kindCount_6 worthWon_6 worthDrawn_6 worthLost_6 ++ wX4 q4 cI cJ cB parts_4 wins_4 draws_4 points_4 count_4 changes_4) sz) := by
  intro sz
  refine Met.ofW (cc := cX6_fillScores) (maxL := 6) (ret := none) (by decide) rfl ?_
  intro p e s m args below meth c s₁ B hml hv
  obtain ⟨hav, hsz, hP, hKW, hD0⟩ := hv
  have hx := B.exec
  have hb := B.bytes
  have hr := B.returns
  have hts := atoms_spec (ws := wsX6_fillScores) B.pre
  have hown : s.vm.findClass RX6 = some m.cls := findClass_of_methodNamed B.named
  have hlocks := B.notSynchronized
  subst hsz
  have hD := hD0.self (sz := s.heap.size)
  obtain ⟨A, hAe⟩ : ∃ A : Nat → Prop, A = va_A (wX6 q6 cI cJ cB kinds_6 keys_6 places_6 kindCount_6 worthWon_6 worthDrawn_6 worthLost_6 ++ wX4 q4 cI cJ cB parts_4 wins_4 draws_4 points_4 count_4 changes_4) s.heap.size := ⟨_, rfl⟩
  rw [← hAe] at hD
  have hA : ∀ q : Nat, s.heap.size ≤ q → A q := fun q h => by rw [hAe]; exact Or.inr h
  have hS : va_S A s.heap s.heap [] := va_S.rf
  refine k_gen (fun Q hQ => ?_)
  have hl := lv_entry ([.ref (q6 0), .ref (q4 0), .int (nI n)]) (n := 6) (Nat.le_of_ble_eq_true rfl)
  refine k_entry hav (lg_entry_eq ..) ?_
  generalize (lg_sl ([.ref (q6 0), .ref (q4 0), .int (nI n)]) ++ List.replicate (6 - (lg_sl ([.ref (q6 0), .ref (q4 0), .int (nI n)])).length) Slot.unset).toArray = ls at hl ⊢
  have hl : lv_has ls 6 [(0, .ref (q6 0)), (1, .ref (q4 0)), (2, .int (nI n))] := hl
  have hu_6 : ∀ w ∈ u_ws RX6 TX6 7, w ∈ wsX6_fillScores := by decide +kernel
  have hf_15 : Cond.fieldLink RX6 15 "MeetingRanks$Standings" "keys" "[I" ∈ wsX6_fillScores := by decide +kernel
  refine lv_iconst (v := nI 0) hx hb dX6_fillScores_0 (by decide) ?_
  refine lv_istore_n (lv' := [(3, .int (nI 0)), (0, .ref (q6 0)), (1, .ref (q4 0)), (2, .int (nI n))]) hx hb dX6_fillScores_1 rfl hl (by decide) rfl (fun ls hl => ?_)
  have hL_2 : ∀ (fu : Nat) (a : Nat) (f : Nat → Int32) (ha : a ≤ n) (hf : ∀ x, x < a → f x = sI (wrF (worthWon_6, worthDrawn_6, worthLost_6) ml x) n) (hf2 : ∀ i, n ≤ i → f i = keys_6 i), n - a < fu → ∀ (H : Heap) (locs : List Loc), va_P D vwCl (wX6 q6 cI cJ cB kinds_6 f places_6 kindCount_6 worthWon_6 worthDrawn_6 worthLost_6 ++ wX4 q4 cI cJ cB parts_4 wins_4 draws_4 points_4 count_4 changes_4) H → va_D A (wX6 q6 cI cJ cB kinds_6 f places_6 kindCount_6 worthWon_6 worthDrawn_6 worthLost_6 ++ wX4 q4 cI cJ cB parts_4 wins_4 draws_4 points_4 count_4 changes_4) → va_S A s.heap H locs → ∀ (ls : Array Slot), lv_has ls 6 [(0, .ref (q6 0)), (1, .ref (q4 0)), (2, .int (nI n)), (3, .int (nI a))] → W p l e (headSpec wsX6_fillScores rmX6_fillScores).room s m args below meth c H locs 0 0 Q (F0 m 2 ls []) := by
    intro fu
    induction fu with
    | zero => intro a f ha hf hf2 hfu; exact absurd hfu (Nat.not_lt_zero _)
    | succ fu ih_2 =>
      intro a f ha hf hf2 hfu H locs hP hD hS ls hl
      refine lv_iload_n hx hb dX6_fillScores_2 rfl (lv_at hl 3 rfl) ?_
      refine lv_iload_n hx hb dX6_fillScores_3 rfl (lv_at hl 2 rfl) ?_
      refine lv_icmp_ge (tgt := 52) hx hb dX6_fillScores_4 (by decide) (fun c_4 => ?_) (fun c_4 => ?_)
      · skip
        have c_4 := k_ge (by omega) (by omega) c_4
        obtain rfl : n = a := by omega
        subst hQ; subst hAe
        exact W.vret hx hb hr (fun t ht _ => ⟨⟨(f), rfl, ⟨hf, hf2⟩, by rw [ht]; exact hP, hD⟩, hS.F ht⟩) hS.2.2 dX6_fillScores_52
      · skip
        have c_4 := k_ge_n (by omega) (by omega) c_4
        refine lv_iconst (v := nI 0) hx hb dX6_fillScores_7 (by decide) ?_
        refine lv_istore (lv' := [(4, .int (nI 0)), (0, .ref (q6 0)), (1, .ref (q4 0)), (2, .int (nI n)), (3, .int (nI a))]) hx hb dX6_fillScores_8 hl (by decide) rfl (fun ls hl => ?_)
        refine lv_iconst (v := nI 0) hx hb dX6_fillScores_10 (by decide) ?_
        refine lv_istore (lv' := [(5, .int (nI 0)), (4, .int (nI 0)), (0, .ref (q6 0)), (1, .ref (q4 0)), (2, .int (nI n)), (3, .int (nI a))]) hx hb dX6_fillScores_11 hl (by decide) rfl (fun ls hl => ?_)
        have hL_13 : ∀ (fu : Nat) (b : Nat) (v : Int32) (hb2 : b ≤ n) (hv : v = sI (wrF (worthWon_6, worthDrawn_6, worthLost_6) ml a) b), n - b < fu → ∀ (H : Heap) (locs : List Loc), va_P D vwCl (wX6 q6 cI cJ cB kinds_6 f places_6 kindCount_6 worthWon_6 worthDrawn_6 worthLost_6 ++ wX4 q4 cI cJ cB parts_4 wins_4 draws_4 points_4 count_4 changes_4) H → va_D A (wX6 q6 cI cJ cB kinds_6 f places_6 kindCount_6 worthWon_6 worthDrawn_6 worthLost_6 ++ wX4 q4 cI cJ cB parts_4 wins_4 draws_4 points_4 count_4 changes_4) → va_S A s.heap H locs → ∀ (ls : Array Slot), lv_has ls 6 [(0, .ref (q6 0)), (1, .ref (q4 0)), (2, .int (nI n)), (3, .int (nI a)), (4, .int v), (5, .int (nI b))] → W p l e (headSpec wsX6_fillScores rmX6_fillScores).room s m args below meth c H locs 0 0 Q (F0 m 13 ls []) := by
          intro fu
          induction fu with
          | zero => intro b v hb2 hv hfu; exact absurd hfu (Nat.not_lt_zero _)
          | succ fu ih_13 =>
            intro b v hb2 hv hfu H locs hP hD hS ls hl
            refine lv_iload hx hb dX6_fillScores_13 (lv_at hl 5 rfl) ?_
            refine lv_iload_n hx hb dX6_fillScores_15 rfl (lv_at hl 2 rfl) ?_
            refine lv_icmp_ge (tgt := 38) hx hb dX6_fillScores_16 (by decide) (fun c_16 => ?_) (fun c_16 => ?_)
            · skip
              have c_16 := k_ge (by omega) (by omega) c_16
              obtain rfl : n = b := by omega
              subst hv
              refine lv_aload_n hx hb dX6_fillScores_38 rfl (lv_at hl 0 rfl) ?_
              refine k_get (ci := 6) (v := .ref (q6 2)) (C := RX6) (Tb := TX6) (N := 7) hx hb hts hu_6 hown hKW hP 0 rfl rfl 1 (by decide) hf_15 rfl rfl dX6_fillScores_39 ?_
              refine lv_iload_n hx hb dX6_fillScores_42 rfl (lv_at hl 3 rfl) ?_
              refine lv_iload hx hb dX6_fillScores_43 (lv_at hl 4 rfl) ?_
              refine k_iast (n := 50) (i := a) (x := (sI (wrF (worthWon_6, worthDrawn_6, worthLost_6) ml a) n)) (w' := (wX6 q6 cI cJ cB kinds_6 (upd f a (sI (wrF (worthWon_6, worthDrawn_6, worthLost_6) ml a) n)) places_6 kindCount_6 worthWon_6 worthDrawn_6 worthLost_6 ++ wX4 q4 cI cJ cB parts_4 wins_4 draws_4 points_4 count_4 changes_4)) hx hb hKW hP hD hS 2 0 rfl rfl (by omega) (by omega) dX6_fillScores_45 rfl (fun H locs hP hD hS => ?_)
              refine lv_iinc (v := nI (a + 1)) (lv' := [(3, .int (nI (a + 1))), (0, .ref (q6 0)), (1, .ref (q4 0)), (2, .int (nI n)), (4, .int (sI (wrF (worthWon_6, worthDrawn_6, worthLost_6) ml a) n)), (5, .int (nI n))]) hx hb dX6_fillScores_46 hl (k := 3) rfl (nI_add _ _) (by decide) rfl (fun ls hl => ?_)
              refine lv_goto (tgt := 2) hx hb dX6_fillScores_49 (by decide) ?_
              exact ih_2 _ _ (by omega) (fun x hx9 => by by_cases e9 : x = a; (subst e9; exact pk_us); (rw [pk_un e9]; exact hf x (by omega))) (fun i hi => by rw [pk_un (by omega)]; exact hf2 i hi) (by omega) _ _ hP hD hS ls (lv_sub hl [1, 2, 3, 0] rfl)
            · skip
              have c_16 := k_ge_n (by omega) (by omega) c_16
              refine lv_iload hx hb dX6_fillScores_19 (lv_at hl 4 rfl) ?_
              refine lv_aload_n hx hb dX6_fillScores_21 rfl (lv_at hl 0 rfl) ?_
              refine lv_aload_n hx hb dX6_fillScores_22 rfl (lv_at hl 1 rfl) ?_
              refine lv_iload_n hx hb dX6_fillScores_23 rfl (lv_at hl 3 rfl) ?_
              refine lv_iload hx hb dX6_fillScores_24 (lv_at hl 5 rfl) ?_
              have hs_26 : kSplit (wX6 q6 cI cJ cB kinds_6 f places_6 kindCount_6 worthWon_6 worthDrawn_6 worthLost_6 ++ wX4 q4 cI cJ cB parts_4 wins_4 draws_4 points_4 count_4 changes_4) (wX6 q6 cI cJ cB kinds_6 f places_6 kindCount_6 worthWon_6 worthDrawn_6 worthLost_6 ++ wX4 q4 cI cJ cB parts_4 wins_4 draws_4 points_4 count_4 changes_4) ([] : va_W) [0, 1, 2, 3, 4, 5, 6, 7, 8] [] := ⟨rfl, rfl, rfl, rfl, rfl, by decide⟩
              refine kc_i hP hD hS hA hs_26 (kV (As := [.ref (q4 0), .int (nI a), .int (nI b)]) (rest := [.int v]) hx hb hml hown hts hKW hP hD hs_26 (c_X6_worth l D cI cJ cB q6 q4 kinds_6 f places_6 kindCount_6 worthWon_6 worthDrawn_6 worthLost_6 parts_4 wins_4 draws_4 points_4 count_4 changes_4 ml a b (by first | assumption | omega) (by first | assumption | omega) (by first | assumption | omega)) (cwV 3 hts gX6_fillScores_X6_worth rfl rfl rfl (by decide +kernel) ⟨Nat.le_of_ble_eq_true rfl, Nat.le_of_ble_eq_true rfl⟩) 0 6 rfl rfl rfl rfl hl.1 rfl (Nat.le_of_ble_eq_true rfl) dX6_fillScores_26 ⟨Nat.zero_le _, Nat.zero_le _⟩) (fun r_26 u_26 H locs hw_26 hP hD hS => ?_)
              have er_26 := hw_26
              subst er_26
              have hP : va_P D vwCl (wX6 q6 cI cJ cB kinds_6 f places_6 kindCount_6 worthWon_6 worthDrawn_6 worthLost_6 ++ wX4 q4 cI cJ cB parts_4 wins_4 draws_4 points_4 count_4 changes_4) H := hP.sub (ws' := (wX6 q6 cI cJ cB kinds_6 f places_6 kindCount_6 worthWon_6 worthDrawn_6 worthLost_6 ++ wX4 q4 cI cJ cB parts_4 wins_4 draws_4 points_4 count_4 changes_4)) [0, 1, 2, 3, 4, 5, 6, 7, 8] rfl
              have hD : va_D A (wX6 q6 cI cJ cB kinds_6 f places_6 kindCount_6 worthWon_6 worthDrawn_6 worthLost_6 ++ wX4 q4 cI cJ cB parts_4 wins_4 draws_4 points_4 count_4 changes_4) := hD.sub (ws' := (wX6 q6 cI cJ cB kinds_6 f places_6 kindCount_6 worthWon_6 worthDrawn_6 worthLost_6 ++ wX4 q4 cI cJ cB parts_4 wins_4 draws_4 points_4 count_4 changes_4)) [0, 1, 2, 3, 4, 5, 6, 7, 8] (by decide) rfl
              refine lv_iadd hx hb dX6_fillScores_29 ?_
              refine lv_istore (lv' := [(4, .int (v + (wrF (worthWon_6, worthDrawn_6, worthLost_6) ml a b))), (0, .ref (q6 0)), (1, .ref (q4 0)), (2, .int (nI n)), (3, .int (nI a)), (5, .int (nI b))]) hx hb dX6_fillScores_30 hl (by decide) rfl (fun ls hl => ?_)
              refine lv_iinc (v := nI (b + 1)) (lv' := [(5, .int (nI (b + 1))), (4, .int (v + (wrF (worthWon_6, worthDrawn_6, worthLost_6) ml a b))), (0, .ref (q6 0)), (1, .ref (q4 0)), (2, .int (nI n)), (3, .int (nI a))]) hx hb dX6_fillScores_32 hl (k := 5) rfl (nI_add _ _) (by decide) rfl (fun ls hl => ?_)
              refine lv_goto (tgt := 13) hx hb dX6_fillScores_35 (by decide) ?_
              exact ih_13 _ _ (by omega) (by rw [hv]; rfl) (by omega) _ _ hP hD hS ls (lv_sub hl [2, 3, 4, 5, 1, 0] rfl)
        exact hL_13 _ 0 0 (Nat.zero_le _) rfl (Nat.lt_succ_self _) _ _ hP hD hS ls (lv_sub hl [2, 3, 4, 5, 1, 0] rfl)
  exact hL_2 _ 0 _ (Nat.zero_le _) (fun x hx9 => absurd hx9 (Nat.not_lt_zero x)) (fun _ _ => rfl) (Nat.lt_succ_self _) _ _ hP hD hS ls (lv_sub hl [1, 2, 3, 0] rfl)
def rmX6_fillKey : Room := { frames := 3, cells := 0, slots := 0, locals := 72 }
set_option maxHeartbeats 4000000 in
set_option maxRecDepth 100000 in
theorem c_X6_fillKey (l : Launch) (D : va_G) (cI cJ cB : ClassId) (q6 : Nat → Nat) (q4 : Nat → Nat) (kinds_6 : Nat → Int32) (keys_6 : Nat → Int32) (places_6 : Nat → Int32) (kindCount_6 : Int32) (worthWon_6 : Int32) (worthDrawn_6 : Int32) (worthLost_6 : Int32) (parts_4 : Nat → Int32) (wins_4 : Nat → Int32) (draws_4 : Nat → Int32) (points_4 : Nat → Int32) (count_4 : Int32) (changes_4 : Int32) (ml : List Mt) (n : Nat) (kd : Nat) (row : Nat) (hM : MR parts_4 wins_4 draws_4 points_4 ml) (hn10 : n ≤ 10) (hkd : kd < 6) (hr1 : 1 ≤ row) (hrow : row ≤ 4) : ∀ sz, Met l yX6_fillKey wsX6_fillKey rmX6_fillKey (va_Pc [.ref (q6 0), .ref (q4 0), .int (nI n), .int (nI kd), .int (nI row)] (PW D (kT cI cJ cB) sz (wX6 q6 cI cJ cB kinds_6 keys_6 places_6 kindCount_6 worthWon_6 worthDrawn_6 worthLost_6 ++ wX4 q4 cI cJ cB parts_4 wins_4 draws_4 points_4 count_4 changes_4))) (va_Qv (S := (Nat → Int32)) (fun keys_6' => (∀ a, a < n → keys_6' (row * 10 + a) = sI (fun b => shF (worthWon_6, worthDrawn_6, worthLost_6) ml keys_6 kd a b row) n) ∧ ∀ i, (i < row * 10 ∨ row * 10 + n ≤ i) → keys_6' i = keys_6 i) (QW D sz (wX6 q6 cI cJ cB kinds_6 keys_6 places_6 kindCount_6 worthWon_6 worthDrawn_6 worthLost_6 ++ wX4 q4 cI cJ cB parts_4 wins_4 draws_4 points_4 count_4 changes_4) (fun keys_6' => (wX6 q6 cI cJ cB kinds_6 keys_6' places_6 kindCount_6 worthWon_6 worthDrawn_6 worthLost_6 ++ wX4 q4 cI cJ cB parts_4 wins_4 draws_4 points_4 count_4 changes_4))) (va_A (wX6 q6 cI cJ cB kinds_6 keys_6 places_6 kindCount_6 worthWon_6 worthDrawn_6 worthLost_6 ++ wX4 q4 cI cJ cB parts_4 wins_4 draws_4 points_4 count_4 changes_4) sz)) 0 0 (va_A (wX6 q6 cI cJ cB kinds_6 keys_6 places_6 kindCount_6 worthWon_6 worthDrawn_6 worthLost_6 ++ wX4 q4 cI cJ cB parts_4 wins_4 draws_4 points_4 count_4 changes_4) sz) := by
  intro sz
  refine Met.ofW (cc := cX6_fillKey) (maxL := 8) (ret := none) (by decide) rfl ?_
  intro p e s m args below meth c s₁ B hml hv
  obtain ⟨hav, hsz, hP, hKW, hD0⟩ := hv
  have hx := B.exec
  have hb := B.bytes
  have hr := B.returns
  have hts := atoms_spec (ws := wsX6_fillKey) B.pre
  have hown : s.vm.findClass RX6 = some m.cls := findClass_of_methodNamed B.named
  have hlocks := B.notSynchronized
  subst hsz
  have hD := hD0.self (sz := s.heap.size)
  obtain ⟨A, hAe⟩ : ∃ A : Nat → Prop, A = va_A (wX6 q6 cI cJ cB kinds_6 keys_6 places_6 kindCount_6 worthWon_6 worthDrawn_6 worthLost_6 ++ wX4 q4 cI cJ cB parts_4 wins_4 draws_4 points_4 count_4 changes_4) s.heap.size := ⟨_, rfl⟩
  rw [← hAe] at hD
  have hA : ∀ q : Nat, s.heap.size ≤ q → A q := fun q h => by rw [hAe]; exact Or.inr h
  have hS : va_S A s.heap s.heap [] := va_S.rf
  refine k_gen (fun Q hQ => ?_)
  have hl := lv_entry ([.ref (q6 0), .ref (q4 0), .int (nI n), .int (nI kd), .int (nI row)]) (n := 8) (Nat.le_of_ble_eq_true rfl)
  refine k_entry hav (lg_entry_eq ..) ?_
  generalize (lg_sl ([.ref (q6 0), .ref (q4 0), .int (nI n), .int (nI kd), .int (nI row)]) ++ List.replicate (8 - (lg_sl ([.ref (q6 0), .ref (q4 0), .int (nI n), .int (nI kd), .int (nI row)])).length) Slot.unset).toArray = ls at hl ⊢
  have hl : lv_has ls 8 [(0, .ref (q6 0)), (1, .ref (q4 0)), (2, .int (nI n)), (3, .int (nI kd)), (4, .int (nI row))] := hl
  have hu_6 : ∀ w ∈ u_ws RX6 TX6 7, w ∈ wsX6_fillKey := by decide +kernel
  have hf_15 : Cond.fieldLink RX6 15 "MeetingRanks$Standings" "keys" "[I" ∈ wsX6_fillKey := by decide +kernel
  refine lv_iconst (v := nI 0) hx hb dX6_fillKey_0 (by decide) ?_
  refine lv_istore (lv' := [(5, .int (nI 0)), (0, .ref (q6 0)), (1, .ref (q4 0)), (2, .int (nI n)), (3, .int (nI kd)), (4, .int (nI row))]) hx hb dX6_fillKey_1 hl (by decide) rfl (fun ls hl => ?_)
  have hL_3 : ∀ (fu : Nat) (a : Nat) (f : Nat → Int32) (ha : a ≤ n) (hf : ∀ x, x < a → f (row * 10 + x) = sI (fun b => shF (worthWon_6, worthDrawn_6, worthLost_6) ml keys_6 kd x b row) n) (hf2 : ∀ i, (i < row * 10 ∨ row * 10 + n ≤ i) → f i = keys_6 i), n - a < fu → ∀ (H : Heap) (locs : List Loc), va_P D vwCl (wX6 q6 cI cJ cB kinds_6 f places_6 kindCount_6 worthWon_6 worthDrawn_6 worthLost_6 ++ wX4 q4 cI cJ cB parts_4 wins_4 draws_4 points_4 count_4 changes_4) H → va_D A (wX6 q6 cI cJ cB kinds_6 f places_6 kindCount_6 worthWon_6 worthDrawn_6 worthLost_6 ++ wX4 q4 cI cJ cB parts_4 wins_4 draws_4 points_4 count_4 changes_4) → va_S A s.heap H locs → ∀ (ls : Array Slot), lv_has ls 8 [(0, .ref (q6 0)), (1, .ref (q4 0)), (2, .int (nI n)), (3, .int (nI kd)), (4, .int (nI row)), (5, .int (nI a))] → W p l e (headSpec wsX6_fillKey rmX6_fillKey).room s m args below meth c H locs 0 0 Q (F0 m 3 ls []) := by
    intro fu
    induction fu with
    | zero => intro a f ha hf hf2 hfu; exact absurd hfu (Nat.not_lt_zero _)
    | succ fu ih_3 =>
      intro a f ha hf hf2 hfu H locs hP hD hS ls hl
      refine lv_iload hx hb dX6_fillKey_3 (lv_at hl 5 rfl) ?_
      refine lv_iload_n hx hb dX6_fillKey_5 rfl (lv_at hl 2 rfl) ?_
      refine lv_icmp_ge (tgt := 65) hx hb dX6_fillKey_6 (by decide) (fun c_6 => ?_) (fun c_6 => ?_)
      · skip
        have c_6 := k_ge (by omega) (by omega) c_6
        obtain rfl : n = a := by omega
        subst hQ; subst hAe
        exact W.vret hx hb hr (fun t ht _ => ⟨⟨(f), rfl, ⟨hf, hf2⟩, by rw [ht]; exact hP, hD⟩, hS.F ht⟩) hS.2.2 dX6_fillKey_65
      · skip
        have c_6 := k_ge_n (by omega) (by omega) c_6
        refine lv_iconst (v := nI 0) hx hb dX6_fillKey_9 (by decide) ?_
        refine lv_istore (lv' := [(6, .int (nI 0)), (0, .ref (q6 0)), (1, .ref (q4 0)), (2, .int (nI n)), (3, .int (nI kd)), (4, .int (nI row)), (5, .int (nI a))]) hx hb dX6_fillKey_10 hl (by decide) rfl (fun ls hl => ?_)
        refine lv_iconst (v := nI 0) hx hb dX6_fillKey_12 (by decide) ?_
        refine lv_istore (lv' := [(7, .int (nI 0)), (6, .int (nI 0)), (0, .ref (q6 0)), (1, .ref (q4 0)), (2, .int (nI n)), (3, .int (nI kd)), (4, .int (nI row)), (5, .int (nI a))]) hx hb dX6_fillKey_13 hl (by decide) rfl (fun ls hl => ?_)
        have hL_15 : ∀ (fu : Nat) (b : Nat) (v : Int32) (hb2 : b ≤ n) (hv : v = sI (fun b => shF (worthWon_6, worthDrawn_6, worthLost_6) ml keys_6 kd a b row) b), n - b < fu → ∀ (H : Heap) (locs : List Loc), va_P D vwCl (wX6 q6 cI cJ cB kinds_6 f places_6 kindCount_6 worthWon_6 worthDrawn_6 worthLost_6 ++ wX4 q4 cI cJ cB parts_4 wins_4 draws_4 points_4 count_4 changes_4) H → va_D A (wX6 q6 cI cJ cB kinds_6 f places_6 kindCount_6 worthWon_6 worthDrawn_6 worthLost_6 ++ wX4 q4 cI cJ cB parts_4 wins_4 draws_4 points_4 count_4 changes_4) → va_S A s.heap H locs → ∀ (ls : Array Slot), lv_has ls 8 [(0, .ref (q6 0)), (1, .ref (q4 0)), (2, .int (nI n)), (3, .int (nI kd)), (4, .int (nI row)), (5, .int (nI a)), (6, .int v), (7, .int (nI b))] → W p l e (headSpec wsX6_fillKey rmX6_fillKey).room s m args below meth c H locs 0 0 Q (F0 m 15 ls []) := by
          intro fu
          induction fu with
          | zero => intro b v hb2 hv hfu; exact absurd hfu (Nat.not_lt_zero _)
          | succ fu ih_15 =>
            intro b v hb2 hv hfu H locs hP hD hS ls hl
            refine lv_iload hx hb dX6_fillKey_15 (lv_at hl 7 rfl) ?_
            refine lv_iload_n hx hb dX6_fillKey_17 rfl (lv_at hl 2 rfl) ?_
            refine lv_icmp_ge (tgt := 44) hx hb dX6_fillKey_18 (by decide) (fun c_18 => ?_) (fun c_18 => ?_)
            · skip
              have c_18 := k_ge (by omega) (by omega) c_18
              obtain rfl : n = b := by omega
              subst hv
              refine lv_aload_n hx hb dX6_fillKey_44 rfl (lv_at hl 0 rfl) ?_
              refine k_get (ci := 6) (v := .ref (q6 2)) (C := RX6) (Tb := TX6) (N := 7) hx hb hts hu_6 hown hKW hP 0 rfl rfl 1 (by decide) hf_15 rfl rfl dX6_fillKey_45 ?_
              refine lv_iload hx hb dX6_fillKey_48 (lv_at hl 4 rfl) ?_
              refine lv_bipush (v := nI 10) hx hb dX6_fillKey_50 (by decide) ?_
              refine k_imul hx hb dX6_fillKey_52 ?_
              refine lv_iload hx hb dX6_fillKey_53 (lv_at hl 5 rfl) ?_
              refine k_iadd hx hb dX6_fillKey_55 ?_
              refine lv_iload hx hb dX6_fillKey_56 (lv_at hl 6 rfl) ?_
              refine k_iast (n := 50) (i := (row * 10) + a) (x := (sI (fun b => shF (worthWon_6, worthDrawn_6, worthLost_6) ml keys_6 kd a b row) n)) (w' := (wX6 q6 cI cJ cB kinds_6 (upd f ((row * 10) + a) (sI (fun b => shF (worthWon_6, worthDrawn_6, worthLost_6) ml keys_6 kd a b row) n)) places_6 kindCount_6 worthWon_6 worthDrawn_6 worthLost_6 ++ wX4 q4 cI cJ cB parts_4 wins_4 draws_4 points_4 count_4 changes_4)) hx hb hKW hP hD hS 2 0 rfl rfl (by omega) (by omega) dX6_fillKey_58 rfl (fun H locs hP hD hS => ?_)
              refine lv_iinc (v := nI (a + 1)) (lv' := [(5, .int (nI (a + 1))), (0, .ref (q6 0)), (1, .ref (q4 0)), (2, .int (nI n)), (3, .int (nI kd)), (4, .int (nI row)), (6, .int (sI (fun b => shF (worthWon_6, worthDrawn_6, worthLost_6) ml keys_6 kd a b row) n)), (7, .int (nI n))]) hx hb dX6_fillKey_59 hl (k := 5) rfl (nI_add _ _) (by decide) rfl (fun ls hl => ?_)
              refine lv_goto (tgt := 3) hx hb dX6_fillKey_62 (by decide) ?_
              exact ih_3 _ _ (by omega) (fun x hx9 => by by_cases e9 : x = a; (subst e9; exact pk_us); (rw [pk_un (by omega)]; exact hf x (by omega))) (fun i hi => by rw [pk_un (by omega)]; exact hf2 i hi) (by omega) _ _ hP hD hS ls (lv_sub hl [1, 2, 3, 4, 5, 0] rfl)
            · skip
              have c_18 := k_ge_n (by omega) (by omega) c_18
              refine lv_iload hx hb dX6_fillKey_21 (lv_at hl 6 rfl) ?_
              refine lv_aload_n hx hb dX6_fillKey_23 rfl (lv_at hl 0 rfl) ?_
              refine lv_aload_n hx hb dX6_fillKey_24 rfl (lv_at hl 1 rfl) ?_
              refine lv_iload_n hx hb dX6_fillKey_25 rfl (lv_at hl 3 rfl) ?_
              refine lv_iload hx hb dX6_fillKey_26 (lv_at hl 5 rfl) ?_
              refine lv_iload hx hb dX6_fillKey_28 (lv_at hl 7 rfl) ?_
              refine lv_iload hx hb dX6_fillKey_30 (lv_at hl 4 rfl) ?_
              have hs_32 : kSplit (wX6 q6 cI cJ cB kinds_6 f places_6 kindCount_6 worthWon_6 worthDrawn_6 worthLost_6 ++ wX4 q4 cI cJ cB parts_4 wins_4 draws_4 points_4 count_4 changes_4) (wX6 q6 cI cJ cB kinds_6 f places_6 kindCount_6 worthWon_6 worthDrawn_6 worthLost_6 ++ wX4 q4 cI cJ cB parts_4 wins_4 draws_4 points_4 count_4 changes_4) ([] : va_W) [0, 1, 2, 3, 4, 5, 6, 7, 8] [] := ⟨rfl, rfl, rfl, rfl, rfl, by decide⟩
              refine kc_i hP hD hS hA hs_32 (kV (As := [.ref (q4 0), .int (nI kd), .int (nI a), .int (nI b), .int (nI row)]) (rest := [.int v]) hx hb hml hown hts hKW hP hD hs_32 (c_X6_share l D cI cJ cB q6 q4 kinds_6 f places_6 kindCount_6 worthWon_6 worthDrawn_6 worthLost_6 parts_4 wins_4 draws_4 points_4 count_4 changes_4 ml kd a b row (by first | assumption | omega) (by first | assumption | omega) (by first | assumption | omega) (by first | assumption | omega) (by first | assumption | omega)) (cwV 5 hts gX6_fillKey_X6_share rfl rfl rfl (by decide +kernel) ⟨Nat.le_of_ble_eq_true rfl, Nat.le_of_ble_eq_true rfl⟩) 0 6 rfl rfl rfl rfl hl.1 rfl (Nat.le_of_ble_eq_true rfl) dX6_fillKey_32 ⟨Nat.zero_le _, Nat.zero_le _⟩) (fun r_32 u_32 H locs hw_32 hP hD hS => ?_)
              have er_32 := hw_32
              subst er_32
              have hP : va_P D vwCl (wX6 q6 cI cJ cB kinds_6 f places_6 kindCount_6 worthWon_6 worthDrawn_6 worthLost_6 ++ wX4 q4 cI cJ cB parts_4 wins_4 draws_4 points_4 count_4 changes_4) H := hP.sub (ws' := (wX6 q6 cI cJ cB kinds_6 f places_6 kindCount_6 worthWon_6 worthDrawn_6 worthLost_6 ++ wX4 q4 cI cJ cB parts_4 wins_4 draws_4 points_4 count_4 changes_4)) [0, 1, 2, 3, 4, 5, 6, 7, 8] rfl
              have hD : va_D A (wX6 q6 cI cJ cB kinds_6 f places_6 kindCount_6 worthWon_6 worthDrawn_6 worthLost_6 ++ wX4 q4 cI cJ cB parts_4 wins_4 draws_4 points_4 count_4 changes_4) := hD.sub (ws' := (wX6 q6 cI cJ cB kinds_6 f places_6 kindCount_6 worthWon_6 worthDrawn_6 worthLost_6 ++ wX4 q4 cI cJ cB parts_4 wins_4 draws_4 points_4 count_4 changes_4)) [0, 1, 2, 3, 4, 5, 6, 7, 8] (by decide) rfl
              refine lv_iadd hx hb dX6_fillKey_35 ?_
              refine lv_istore (lv' := [(6, .int (v + (shF (worthWon_6, worthDrawn_6, worthLost_6) ml f kd a b row))), (0, .ref (q6 0)), (1, .ref (q4 0)), (2, .int (nI n)), (3, .int (nI kd)), (4, .int (nI row)), (5, .int (nI a)), (7, .int (nI b))]) hx hb dX6_fillKey_36 hl (by decide) rfl (fun ls hl => ?_)
              refine lv_iinc (v := nI (b + 1)) (lv' := [(7, .int (nI (b + 1))), (6, .int (v + (shF (worthWon_6, worthDrawn_6, worthLost_6) ml f kd a b row))), (0, .ref (q6 0)), (1, .ref (q4 0)), (2, .int (nI n)), (3, .int (nI kd)), (4, .int (nI row)), (5, .int (nI a))]) hx hb dX6_fillKey_38 hl (k := 7) rfl (nI_add _ _) (by decide) rfl (fun ls hl => ?_)
              refine lv_goto (tgt := 15) hx hb dX6_fillKey_41 (by decide) ?_
              exact ih_15 _ _ (by omega) (by rw [hv, shF_congr (g := keys_6) (by omega) (by omega) hr1 (fun i hi => hf2 i (Or.inl hi))]; rfl) (by omega) _ _ hP hD hS ls (lv_sub hl [2, 3, 4, 5, 6, 7, 1, 0] rfl)
        exact hL_15 _ 0 0 (Nat.zero_le _) rfl (Nat.lt_succ_self _) _ _ hP hD hS ls (lv_sub hl [2, 3, 4, 5, 6, 7, 1, 0] rfl)
  exact hL_3 _ 0 _ (Nat.zero_le _) (fun x hx9 => absurd hx9 (Nat.not_lt_zero x)) (fun _ _ => rfl) (Nat.lt_succ_self _) _ _ hP hD hS ls (lv_sub hl [1, 2, 3, 4, 5, 0] rfl)
def rmX6_putInPlace : Room := { frames := 2, cells := 0, slots := 0, locals := 47 }
set_option maxHeartbeats 4000000 in
set_option maxRecDepth 100000 in
theorem c_X6_putInPlace (l : Launch) (D : va_G) (cI cJ cB : ClassId) (q6 : Nat → Nat) (kinds_6 : Nat → Int32) (keys_6 : Nat → Int32) (places_6 : Nat → Int32) (worthWon_6 : Int32) (worthDrawn_6 : Int32) (worthLost_6 : Int32) (kc : Nat) (p1 : Nat) (hkc : kc ≤ 4) (hp10 : p1 < 10) (hpl : ordOK places_6 p1 10) : ∀ sz, Met l yX6_putInPlace wsX6_putInPlace rmX6_putInPlace (va_Pc [.ref (q6 0), .int (nI p1)] (PW D (kT cI cJ cB) sz (wX6 q6 cI cJ cB kinds_6 keys_6 places_6 (nI kc) worthWon_6 worthDrawn_6 worthLost_6))) (va_Qv (S := (Nat → Int32)) (fun places_6' => places_6' = insAt (fun p q => decide (0 < cmpK keys_6 p q 0 (1 + kc))) p1 p1 places_6) (QW D sz (wX6 q6 cI cJ cB kinds_6 keys_6 places_6 (nI kc) worthWon_6 worthDrawn_6 worthLost_6) (fun places_6' => (wX6 q6 cI cJ cB kinds_6 keys_6 places_6' (nI kc) worthWon_6 worthDrawn_6 worthLost_6))) (va_A (wX6 q6 cI cJ cB kinds_6 keys_6 places_6 (nI kc) worthWon_6 worthDrawn_6 worthLost_6) sz)) 0 0 (va_A (wX6 q6 cI cJ cB kinds_6 keys_6 places_6 (nI kc) worthWon_6 worthDrawn_6 worthLost_6) sz) := by
  intro sz
  refine Met.ofW (cc := cX6_putInPlace) (maxL := 3) (ret := none) (by decide) rfl ?_
  intro p e s m args below meth c s₁ B hml hv
  obtain ⟨hav, hsz, hP, hKW, hD0⟩ := hv
  have hx := B.exec
  have hb := B.bytes
  have hr := B.returns
  have hts := atoms_spec (ws := wsX6_putInPlace) B.pre
  have hown : s.vm.findClass RX6 = some m.cls := findClass_of_methodNamed B.named
  have hlocks := B.notSynchronized
  subst hsz
  have hD := hD0.self (sz := s.heap.size)
  obtain ⟨A, hAe⟩ : ∃ A : Nat → Prop, A = va_A (wX6 q6 cI cJ cB kinds_6 keys_6 places_6 (nI kc) worthWon_6 worthDrawn_6 worthLost_6) s.heap.size := ⟨_, rfl⟩
  rw [← hAe] at hD
  have hA : ∀ q : Nat, s.heap.size ≤ q → A q := fun q h => by rw [hAe]; exact Or.inr h
  have hS : va_S A s.heap s.heap [] := va_S.rf
  refine k_gen (fun Q hQ => ?_)
  have hl := lv_entry ([.ref (q6 0), .int (nI p1)]) (n := 3) (Nat.le_of_ble_eq_true rfl)
  refine k_entry hav (lg_entry_eq ..) ?_
  generalize (lg_sl ([.ref (q6 0), .int (nI p1)]) ++ List.replicate (3 - (lg_sl ([.ref (q6 0), .int (nI p1)])).length) Slot.unset).toArray = ls at hl ⊢
  have hl : lv_has ls 3 [(0, .ref (q6 0)), (1, .int (nI p1))] := hl
  have hu_6 : ∀ w ∈ u_ws RX6 TX6 7, w ∈ wsX6_putInPlace := by decide +kernel
  have hf_18 : Cond.fieldLink RX6 18 "MeetingRanks$Standings" "places" "[I" ∈ wsX6_putInPlace := by decide +kernel
  have hf_21 : Cond.fieldLink RX6 21 "MeetingRanks$Standings" "kindCount" "I" ∈ wsX6_putInPlace := by decide +kernel
  refine lv_iload_n hx hb dX6_putInPlace_0 rfl (lv_at hl 1 rfl) ?_
  refine lv_istore_n (lv' := [(2, .int (nI p1)), (0, .ref (q6 0)), (1, .int (nI p1))]) hx hb dX6_putInPlace_1 rfl hl (by decide) rfl (fun ls hl => ?_)
  have hL_2 : ∀ (fu : Nat) (a : Nat) (o : Nat → Int32) (ha : a ≤ p1) (hoo : ordOK o a 10) (ho : insAt (fun p q => decide (0 < cmpK keys_6 p q 0 (1 + kc))) p1 a o = insAt (fun p q => decide (0 < cmpK keys_6 p q 0 (1 + kc))) p1 p1 places_6), a < fu → ∀ (H : Heap) (locs : List Loc), va_P D vwCl (wX6 q6 cI cJ cB kinds_6 keys_6 o (nI kc) worthWon_6 worthDrawn_6 worthLost_6) H → va_D A (wX6 q6 cI cJ cB kinds_6 keys_6 o (nI kc) worthWon_6 worthDrawn_6 worthLost_6) → va_S A s.heap H locs → ∀ (ls : Array Slot), lv_has ls 3 [(0, .ref (q6 0)), (1, .int (nI p1)), (2, .int (nI a))] → W p l e (headSpec wsX6_putInPlace rmX6_putInPlace).room s m args below meth c H locs 0 0 Q (F0 m 2 ls []) := by
    intro fu
    induction fu with
    | zero => intro a o ha hoo ho hfu; exact absurd hfu (Nat.not_lt_zero _)
    | succ fu ih_2 =>
      intro a o ha hoo ho hfu H locs hP hD hS ls hl
      refine lv_iload_n hx hb dX6_putInPlace_2 rfl (lv_at hl 2 rfl) ?_
      refine lv_if_le (tgt := 48) hx hb dX6_putInPlace_3 (by decide) (fun c_3 => ?_) (fun c_3 => ?_)
      · skip
        have c_3 := k0_le (by omega) c_3
        refine lv_aload_n hx hb dX6_putInPlace_48 rfl (lv_at hl 0 rfl) ?_
        refine k_get (ci := 6) (v := .ref (q6 3)) (C := RX6) (Tb := TX6) (N := 7) hx hb hts hu_6 hown hKW hP 0 rfl rfl 2 (by decide) hf_18 rfl rfl dX6_putInPlace_49 ?_
        refine lv_iload_n hx hb dX6_putInPlace_52 rfl (lv_at hl 2 rfl) ?_
        refine lv_iload_n hx hb dX6_putInPlace_53 rfl (lv_at hl 1 rfl) ?_
        refine k_iast (n := 10) (i := a) (x := nI p1) (w' := (wX6 q6 cI cJ cB kinds_6 keys_6 (upd o a (nI p1)) (nI kc) worthWon_6 worthDrawn_6 worthLost_6)) hx hb hKW hP hD hS 3 0 rfl rfl (by omega) (by omega) dX6_putInPlace_54 rfl (fun H locs hP hD hS => ?_)
        subst hQ; subst hAe
        exact W.vret hx hb hr (fun t ht _ => ⟨⟨(upd o a (nI p1)), rfl, by rw [← ho, c_3]; rfl, by rw [ht]; exact hP, hD⟩, hS.F ht⟩) hS.2.2 dX6_putInPlace_55
      · skip
        have c_3 := k0_le_n (by omega) c_3
        obtain ⟨j9, hj9, ej9⟩ := hoo (a - 1) (by omega)
        refine lv_aload_n hx hb dX6_putInPlace_6 rfl (lv_at hl 0 rfl) ?_
        refine lv_iload_n hx hb dX6_putInPlace_7 rfl (lv_at hl 1 rfl) ?_
        refine lv_aload_n hx hb dX6_putInPlace_8 rfl (lv_at hl 0 rfl) ?_
        refine k_get (ci := 6) (v := .ref (q6 3)) (C := RX6) (Tb := TX6) (N := 7) hx hb hts hu_6 hown hKW hP 0 rfl rfl 2 (by decide) hf_18 rfl rfl dX6_putInPlace_9 ?_
        refine lv_iload_n hx hb dX6_putInPlace_12 rfl (lv_at hl 2 rfl) ?_
        refine lv_iconst (v := nI 1) hx hb dX6_putInPlace_13 (by decide) ?_
        refine k_isub hx hb (by omega) dX6_putInPlace_14 ?_
        refine k_iald (n := 10) (i := a - 1) hx hb hKW hP 3 0 rfl rfl (by omega) (by omega) dX6_putInPlace_15 ?_
        refine k_top (y := nI j9) (ej9) ?_
        refine lv_iconst (v := nI 1) hx hb dX6_putInPlace_16 (by decide) ?_
        refine lv_aload_n hx hb dX6_putInPlace_17 rfl (lv_at hl 0 rfl) ?_
        refine k_get (ci := 6) (v := .int (nI kc)) (C := RX6) (Tb := TX6) (N := 7) hx hb hts hu_6 hown hKW hP 0 rfl rfl 3 (by decide) hf_21 rfl rfl dX6_putInPlace_18 ?_
        refine k_iadd hx hb dX6_putInPlace_21 ?_
        have hs_22 : kSplit (wX6 q6 cI cJ cB kinds_6 keys_6 o (nI kc) worthWon_6 worthDrawn_6 worthLost_6) (wX6 q6 cI cJ cB kinds_6 keys_6 o (nI kc) worthWon_6 worthDrawn_6 worthLost_6) ([] : va_W) [0, 1, 2, 3] [] := ⟨rfl, rfl, rfl, rfl, rfl, by decide⟩
        refine kc_i hP hD hS hA hs_22 (kV (As := [.int (nI p1), .int (nI j9), .int (nI (1 + kc))]) (rest := []) hx hb hml hown hts hKW hP hD hs_22 (c_X6_compareKeys l D cI cJ cB q6 kinds_6 keys_6 o (nI kc) worthWon_6 worthDrawn_6 worthLost_6 p1 j9 (1 + kc) (by first | assumption | omega) (by first | assumption | omega) (by first | assumption | omega)) (cwV 3 hts gX6_putInPlace_X6_compareKeys rfl rfl rfl (by decide +kernel) ⟨Nat.le_of_ble_eq_true rfl, Nat.le_of_ble_eq_true rfl⟩) 0 6 rfl rfl rfl rfl hl.1 rfl (Nat.le_of_ble_eq_true rfl) dX6_putInPlace_22 ⟨Nat.zero_le _, Nat.zero_le _⟩) (fun r_22 u_22 H locs hw_22 hP hD hS => ?_)
        have er_22 := hw_22
        subst er_22
        have hP : va_P D vwCl (wX6 q6 cI cJ cB kinds_6 keys_6 o (nI kc) worthWon_6 worthDrawn_6 worthLost_6) H := hP.sub (ws' := (wX6 q6 cI cJ cB kinds_6 keys_6 o (nI kc) worthWon_6 worthDrawn_6 worthLost_6)) [0, 1, 2, 3] rfl
        have hD : va_D A (wX6 q6 cI cJ cB kinds_6 keys_6 o (nI kc) worthWon_6 worthDrawn_6 worthLost_6) := hD.sub (ws' := (wX6 q6 cI cJ cB kinds_6 keys_6 o (nI kc) worthWon_6 worthDrawn_6 worthLost_6)) [0, 1, 2, 3] (by decide) rfl
        refine lv_if_le (tgt := 48) hx hb dX6_putInPlace_25 (by decide) (fun c_25 => ?_) (fun c_25 => ?_)
        · skip
          refine lv_aload_n hx hb dX6_putInPlace_48 rfl (lv_at hl 0 rfl) ?_
          refine k_get (ci := 6) (v := .ref (q6 3)) (C := RX6) (Tb := TX6) (N := 7) hx hb hts hu_6 hown hKW hP 0 rfl rfl 2 (by decide) hf_18 rfl rfl dX6_putInPlace_49 ?_
          refine lv_iload_n hx hb dX6_putInPlace_52 rfl (lv_at hl 2 rfl) ?_
          refine lv_iload_n hx hb dX6_putInPlace_53 rfl (lv_at hl 1 rfl) ?_
          refine k_iast (n := 10) (i := a) (x := nI p1) (w' := (wX6 q6 cI cJ cB kinds_6 keys_6 (upd o a (nI p1)) (nI kc) worthWon_6 worthDrawn_6 worthLost_6)) hx hb hKW hP hD hS 3 0 rfl rfl (by omega) (by omega) dX6_putInPlace_54 rfl (fun H locs hP hD hS => ?_)
          subst hQ; subst hAe
          exact W.vret hx hb hr (fun t ht _ => ⟨⟨(upd o a (nI p1)), rfl, ins_stop ho (by omega) ej9 (by omega) (decide_eq_false (k_nlt c_25)), by rw [ht]; exact hP, hD⟩, hS.F ht⟩) hS.2.2 dX6_putInPlace_55
        · skip
          refine lv_aload_n hx hb dX6_putInPlace_28 rfl (lv_at hl 0 rfl) ?_
          refine k_get (ci := 6) (v := .ref (q6 3)) (C := RX6) (Tb := TX6) (N := 7) hx hb hts hu_6 hown hKW hP 0 rfl rfl 2 (by decide) hf_18 rfl rfl dX6_putInPlace_29 ?_
          refine lv_iload_n hx hb dX6_putInPlace_32 rfl (lv_at hl 2 rfl) ?_
          refine lv_aload_n hx hb dX6_putInPlace_33 rfl (lv_at hl 0 rfl) ?_
          refine k_get (ci := 6) (v := .ref (q6 3)) (C := RX6) (Tb := TX6) (N := 7) hx hb hts hu_6 hown hKW hP 0 rfl rfl 2 (by decide) hf_18 rfl rfl dX6_putInPlace_34 ?_
          refine lv_iload_n hx hb dX6_putInPlace_37 rfl (lv_at hl 2 rfl) ?_
          refine lv_iconst (v := nI 1) hx hb dX6_putInPlace_38 (by decide) ?_
          refine k_isub hx hb (by omega) dX6_putInPlace_39 ?_
          refine k_iald (n := 10) (i := a - 1) hx hb hKW hP 3 0 rfl rfl (by omega) (by omega) dX6_putInPlace_40 ?_
          refine k_iast (n := 10) (i := a) (x := o (a - 1)) (w' := (wX6 q6 cI cJ cB kinds_6 keys_6 (upd o a (o (a - 1))) (nI kc) worthWon_6 worthDrawn_6 worthLost_6)) hx hb hKW hP hD hS 3 0 rfl rfl (by omega) (by omega) dX6_putInPlace_41 rfl (fun H locs hP hD hS => ?_)
          refine lv_iinc (v := nI (a - 1)) (lv' := [(2, .int (nI (a - 1))), (0, .ref (q6 0)), (1, .int (nI p1))]) hx hb dX6_putInPlace_42 hl (k := 2) rfl (by rw [show nI a + Int32.ofInt (-1) = nI ((a - 1) + 1) + (-1) by rw [show a - 1 + 1 = a by omega]; rfl]; exact pk_m1 _) (by decide) rfl (fun ls hl => ?_)
          refine lv_goto (tgt := 2) hx hb dX6_putInPlace_45 (by decide) ?_
          exact ih_2 _ _ (by omega) (fun i hi => by rw [pk_un (by omega)]; exact hoo i (by omega)) (ins_step ho (by omega) ej9 (by omega) (decide_eq_true (k_nle c_25))) (by omega) _ _ hP hD hS ls (lv_sub hl [1, 2, 0] rfl)
  exact hL_2 _ _ _ (Nat.le_refl _) hpl rfl (Nat.lt_succ_self _) _ _ hP hD hS ls (lv_sub hl [1, 2, 0] rfl)
def rmX6_isTiedWithNext : Room := { frames := 2, cells := 0, slots := 0, locals := 47 }
set_option maxHeartbeats 4000000 in
set_option maxRecDepth 100000 in
theorem c_X6_isTiedWithNext (l : Launch) (D : va_G) (cI cJ cB : ClassId) (q6 : Nat → Nat) (kinds_6 : Nat → Int32) (keys_6 : Nat → Int32) (places_6 : Nat → Int32) (worthWon_6 : Int32) (worthDrawn_6 : Int32) (worthLost_6 : Int32) (kc : Nat) (k : Nat) (j1 : Nat) (j2 : Nat) (hkc : kc ≤ 4) (hk9 : k < 9) (hj1 : j1 < 10) (hj2 : j2 < 10) (e1 : places_6 k = nI j1) (e2 : places_6 (k + 1) = nI j2) : ∀ sz, Met l yX6_isTiedWithNext wsX6_isTiedWithNext rmX6_isTiedWithNext (va_Pc [.ref (q6 0), .int (nI k)] (PW D (kT cI cJ cB) sz (wX6 q6 cI cJ cB kinds_6 keys_6 places_6 (nI kc) worthWon_6 worthDrawn_6 worthLost_6))) (va_Qi (S := Unit) (fun r _ => r = if cmpK keys_6 j1 j2 0 (1 + kc) = 0 then 1 else 0) (QW D sz (wX6 q6 cI cJ cB kinds_6 keys_6 places_6 (nI kc) worthWon_6 worthDrawn_6 worthLost_6) (fun _ => (wX6 q6 cI cJ cB kinds_6 keys_6 places_6 (nI kc) worthWon_6 worthDrawn_6 worthLost_6))) (va_A (wX6 q6 cI cJ cB kinds_6 keys_6 places_6 (nI kc) worthWon_6 worthDrawn_6 worthLost_6) sz)) 0 0 (va_A (wX6 q6 cI cJ cB kinds_6 keys_6 places_6 (nI kc) worthWon_6 worthDrawn_6 worthLost_6) sz) := by
  intro sz
  refine Met.ofW (cc := cX6_isTiedWithNext) (maxL := 2) (ret := (some .boolean)) (by decide) rfl ?_
  intro p e s m args below meth c s₁ B hml hv
  obtain ⟨hav, hsz, hP, hKW, hD0⟩ := hv
  have hx := B.exec
  have hb := B.bytes
  have hr := B.returns
  have hts := atoms_spec (ws := wsX6_isTiedWithNext) B.pre
  have hown : s.vm.findClass RX6 = some m.cls := findClass_of_methodNamed B.named
  have hlocks := B.notSynchronized
  subst hsz
  have hD := hD0.self (sz := s.heap.size)
  obtain ⟨A, hAe⟩ : ∃ A : Nat → Prop, A = va_A (wX6 q6 cI cJ cB kinds_6 keys_6 places_6 (nI kc) worthWon_6 worthDrawn_6 worthLost_6) s.heap.size := ⟨_, rfl⟩
  rw [← hAe] at hD
  have hA : ∀ q : Nat, s.heap.size ≤ q → A q := fun q h => by rw [hAe]; exact Or.inr h
  have hS : va_S A s.heap s.heap [] := va_S.rf
  refine k_gen (fun Q hQ => ?_)
  have hl := lv_entry ([.ref (q6 0), .int (nI k)]) (n := 2) (Nat.le_of_ble_eq_true rfl)
  refine k_entry hav (lg_entry_eq ..) ?_
  generalize (lg_sl ([.ref (q6 0), .int (nI k)]) ++ List.replicate (2 - (lg_sl ([.ref (q6 0), .int (nI k)])).length) Slot.unset).toArray = ls at hl ⊢
  have hl : lv_has ls 2 [(0, .ref (q6 0)), (1, .int (nI k))] := hl
  have hu_6 : ∀ w ∈ u_ws RX6 TX6 7, w ∈ wsX6_isTiedWithNext := by decide +kernel
  have hf_18 : Cond.fieldLink RX6 18 "MeetingRanks$Standings" "places" "[I" ∈ wsX6_isTiedWithNext := by decide +kernel
  have hf_21 : Cond.fieldLink RX6 21 "MeetingRanks$Standings" "kindCount" "I" ∈ wsX6_isTiedWithNext := by decide +kernel
  refine lv_aload_n hx hb dX6_isTiedWithNext_0 rfl (lv_at hl 0 rfl) ?_
  refine lv_aload_n hx hb dX6_isTiedWithNext_1 rfl (lv_at hl 0 rfl) ?_
  refine k_get (ci := 6) (v := .ref (q6 3)) (C := RX6) (Tb := TX6) (N := 7) hx hb hts hu_6 hown hKW hP 0 rfl rfl 2 (by decide) hf_18 rfl rfl dX6_isTiedWithNext_2 ?_
  refine lv_iload_n hx hb dX6_isTiedWithNext_5 rfl (lv_at hl 1 rfl) ?_
  refine k_iald (n := 10) (i := k) hx hb hKW hP 3 0 rfl rfl (by omega) (by omega) dX6_isTiedWithNext_6 ?_
  refine k_top (y := nI j1) (e1) ?_
  refine lv_aload_n hx hb dX6_isTiedWithNext_7 rfl (lv_at hl 0 rfl) ?_
  refine k_get (ci := 6) (v := .ref (q6 3)) (C := RX6) (Tb := TX6) (N := 7) hx hb hts hu_6 hown hKW hP 0 rfl rfl 2 (by decide) hf_18 rfl rfl dX6_isTiedWithNext_8 ?_
  refine lv_iload_n hx hb dX6_isTiedWithNext_11 rfl (lv_at hl 1 rfl) ?_
  refine lv_iconst (v := nI 1) hx hb dX6_isTiedWithNext_12 (by decide) ?_
  refine k_iadd hx hb dX6_isTiedWithNext_13 ?_
  refine k_iald (n := 10) (i := k + 1) hx hb hKW hP 3 0 rfl rfl (by omega) (by omega) dX6_isTiedWithNext_14 ?_
  refine k_top (y := nI j2) (e2) ?_
  refine lv_iconst (v := nI 1) hx hb dX6_isTiedWithNext_15 (by decide) ?_
  refine lv_aload_n hx hb dX6_isTiedWithNext_16 rfl (lv_at hl 0 rfl) ?_
  refine k_get (ci := 6) (v := .int (nI kc)) (C := RX6) (Tb := TX6) (N := 7) hx hb hts hu_6 hown hKW hP 0 rfl rfl 3 (by decide) hf_21 rfl rfl dX6_isTiedWithNext_17 ?_
  refine k_iadd hx hb dX6_isTiedWithNext_20 ?_
  have hs_21 : kSplit (wX6 q6 cI cJ cB kinds_6 keys_6 places_6 (nI kc) worthWon_6 worthDrawn_6 worthLost_6) (wX6 q6 cI cJ cB kinds_6 keys_6 places_6 (nI kc) worthWon_6 worthDrawn_6 worthLost_6) ([] : va_W) [0, 1, 2, 3] [] := ⟨rfl, rfl, rfl, rfl, rfl, by decide⟩
  refine kc_i hP hD hS hA hs_21 (kV (As := [.int (nI j1), .int (nI j2), .int (nI (1 + kc))]) (rest := []) hx hb hml hown hts hKW hP hD hs_21 (c_X6_compareKeys l D cI cJ cB q6 kinds_6 keys_6 places_6 (nI kc) worthWon_6 worthDrawn_6 worthLost_6 j1 j2 (1 + kc) (by first | assumption | omega) (by first | assumption | omega) (by first | assumption | omega)) (cwV 3 hts gX6_isTiedWithNext_X6_compareKeys rfl rfl rfl (by decide +kernel) ⟨Nat.le_of_ble_eq_true rfl, Nat.le_of_ble_eq_true rfl⟩) 0 6 rfl rfl rfl rfl hl.1 rfl (Nat.le_of_ble_eq_true rfl) dX6_isTiedWithNext_21 ⟨Nat.zero_le _, Nat.zero_le _⟩) (fun r_21 u_21 H locs hw_21 hP hD hS => ?_)
  have er_21 := hw_21
  subst er_21
  have hP : va_P D vwCl (wX6 q6 cI cJ cB kinds_6 keys_6 places_6 (nI kc) worthWon_6 worthDrawn_6 worthLost_6) H := hP.sub (ws' := (wX6 q6 cI cJ cB kinds_6 keys_6 places_6 (nI kc) worthWon_6 worthDrawn_6 worthLost_6)) [0, 1, 2, 3] rfl
  have hD : va_D A (wX6 q6 cI cJ cB kinds_6 keys_6 places_6 (nI kc) worthWon_6 worthDrawn_6 worthLost_6) := hD.sub (ws' := (wX6 q6 cI cJ cB kinds_6 keys_6 places_6 (nI kc) worthWon_6 worthDrawn_6 worthLost_6)) [0, 1, 2, 3] (by decide) rfl
  refine lv_if_ne (tgt := 31) hx hb dX6_isTiedWithNext_24 (by decide) (fun c_24 => ?_) (fun c_24 => ?_)
  · skip
    refine lv_iconst (v := nI 0) hx hb dX6_isTiedWithNext_31 (by decide) ?_
    subst hQ; subst hAe
    exact W.zret (v := nI 0) (ty := .boolean) hx hb hr (by decide) (fun t ht _ => ⟨⟨nI 0, (), rfl, k_if0 c_24, by rw [ht]; exact hP, hD⟩, hS.F ht⟩) hS.2.2 dX6_isTiedWithNext_32
  · skip
    refine lv_iconst (v := nI 1) hx hb dX6_isTiedWithNext_27 (by decide) ?_
    refine lv_goto (tgt := 32) hx hb dX6_isTiedWithNext_28 (by decide) ?_
    subst hQ; subst hAe
    exact W.zret (v := nI 1) (ty := .boolean) hx hb hr (by decide) (fun t ht _ => ⟨⟨nI 1, (), rfl, k_if1 c_24, by rw [ht]; exact hP, hD⟩, hS.F ht⟩) hS.2.2 dX6_isTiedWithNext_32
def rmX6_playerAt : Room := { frames := 0, cells := 0, slots := 0, locals := 0 }
set_option maxHeartbeats 4000000 in
set_option maxRecDepth 100000 in
theorem c_X6_playerAt (l : Launch) (D : va_G) (cI cJ cB : ClassId) (q6 : Nat → Nat) (kinds_6 : Nat → Int32) (keys_6 : Nat → Int32) (places_6 : Nat → Int32) (kindCount_6 : Int32) (worthWon_6 : Int32) (worthDrawn_6 : Int32) (worthLost_6 : Int32) (k : Nat) (hk10 : k < 10) : ∀ sz, Met l yX6_playerAt wsX6_playerAt rmX6_playerAt (va_Pc [.ref (q6 0), .int (nI k)] (PW D (kT cI cJ cB) sz (wX6 q6 cI cJ cB kinds_6 keys_6 places_6 kindCount_6 worthWon_6 worthDrawn_6 worthLost_6))) (va_Qi (S := Unit) (fun r _ => r = places_6 k) (QW D sz (wX6 q6 cI cJ cB kinds_6 keys_6 places_6 kindCount_6 worthWon_6 worthDrawn_6 worthLost_6) (fun _ => (wX6 q6 cI cJ cB kinds_6 keys_6 places_6 kindCount_6 worthWon_6 worthDrawn_6 worthLost_6))) (va_A (wX6 q6 cI cJ cB kinds_6 keys_6 places_6 kindCount_6 worthWon_6 worthDrawn_6 worthLost_6) sz)) 0 0 (va_A (wX6 q6 cI cJ cB kinds_6 keys_6 places_6 kindCount_6 worthWon_6 worthDrawn_6 worthLost_6) sz) := by
  intro sz
  refine Met.ofW (cc := cX6_playerAt) (maxL := 2) (ret := (some .int)) (by decide) rfl ?_
  intro p e s m args below meth c s₁ B hml hv
  obtain ⟨hav, hsz, hP, hKW, hD0⟩ := hv
  have hx := B.exec
  have hb := B.bytes
  have hr := B.returns
  have hts := atoms_spec (ws := wsX6_playerAt) B.pre
  have hown : s.vm.findClass RX6 = some m.cls := findClass_of_methodNamed B.named
  have hlocks := B.notSynchronized
  subst hsz
  have hD := hD0.self (sz := s.heap.size)
  obtain ⟨A, hAe⟩ : ∃ A : Nat → Prop, A = va_A (wX6 q6 cI cJ cB kinds_6 keys_6 places_6 kindCount_6 worthWon_6 worthDrawn_6 worthLost_6) s.heap.size := ⟨_, rfl⟩
  rw [← hAe] at hD
  have hA : ∀ q : Nat, s.heap.size ≤ q → A q := fun q h => by rw [hAe]; exact Or.inr h
  have hS : va_S A s.heap s.heap [] := va_S.rf
  refine k_gen (fun Q hQ => ?_)
  have hl := lv_entry ([.ref (q6 0), .int (nI k)]) (n := 2) (Nat.le_of_ble_eq_true rfl)
  refine k_entry hav (lg_entry_eq ..) ?_
  generalize (lg_sl ([.ref (q6 0), .int (nI k)]) ++ List.replicate (2 - (lg_sl ([.ref (q6 0), .int (nI k)])).length) Slot.unset).toArray = ls at hl ⊢
  have hl : lv_has ls 2 [(0, .ref (q6 0)), (1, .int (nI k))] := hl
  have hu_6 : ∀ w ∈ u_ws RX6 TX6 7, w ∈ wsX6_playerAt := by decide +kernel
  have hf_18 : Cond.fieldLink RX6 18 "MeetingRanks$Standings" "places" "[I" ∈ wsX6_playerAt := by decide +kernel
  refine lv_aload_n hx hb dX6_playerAt_0 rfl (lv_at hl 0 rfl) ?_
  refine k_get (ci := 6) (v := .ref (q6 3)) (C := RX6) (Tb := TX6) (N := 7) hx hb hts hu_6 hown hKW hP 0 rfl rfl 2 (by decide) hf_18 rfl rfl dX6_playerAt_1 ?_
  refine lv_iload_n hx hb dX6_playerAt_4 rfl (lv_at hl 1 rfl) ?_
  refine k_iald (n := 10) (i := k) hx hb hKW hP 3 0 rfl rfl (by omega) (by omega) dX6_playerAt_5 ?_
  subst hQ; subst hAe
  exact W.iret (v := places_6 k) hx hb hr (fun t ht _ => ⟨⟨places_6 k, (), rfl, rfl, by rw [ht]; exact hP, hD⟩, hS.F ht⟩) hS.2.2 dX6_playerAt_6
def rmX6_kindCount : Room := { frames := 0, cells := 0, slots := 0, locals := 0 }
set_option maxHeartbeats 4000000 in
set_option maxRecDepth 100000 in
theorem c_X6_kindCount (l : Launch) (D : va_G) (cI cJ cB : ClassId) (q6 : Nat → Nat) (kinds_6 : Nat → Int32) (keys_6 : Nat → Int32) (places_6 : Nat → Int32) (kindCount_6 : Int32) (worthWon_6 : Int32) (worthDrawn_6 : Int32) (worthLost_6 : Int32) : ∀ sz, Met l yX6_kindCount wsX6_kindCount rmX6_kindCount (va_Pc [.ref (q6 0)] (PW D (kT cI cJ cB) sz (wX6 q6 cI cJ cB kinds_6 keys_6 places_6 kindCount_6 worthWon_6 worthDrawn_6 worthLost_6))) (va_Qi (S := Unit) (fun r _ => r = kindCount_6) (QW D sz (wX6 q6 cI cJ cB kinds_6 keys_6 places_6 kindCount_6 worthWon_6 worthDrawn_6 worthLost_6) (fun _ => (wX6 q6 cI cJ cB kinds_6 keys_6 places_6 kindCount_6 worthWon_6 worthDrawn_6 worthLost_6))) (va_A (wX6 q6 cI cJ cB kinds_6 keys_6 places_6 kindCount_6 worthWon_6 worthDrawn_6 worthLost_6) sz)) 0 0 (va_A (wX6 q6 cI cJ cB kinds_6 keys_6 places_6 kindCount_6 worthWon_6 worthDrawn_6 worthLost_6) sz) := by
  intro sz
  refine Met.ofW (cc := cX6_kindCount) (maxL := 1) (ret := (some .int)) (by decide) rfl ?_
  intro p e s m args below meth c s₁ B hml hv
  obtain ⟨hav, hsz, hP, hKW, hD0⟩ := hv
  have hx := B.exec
  have hb := B.bytes
  have hr := B.returns
  have hts := atoms_spec (ws := wsX6_kindCount) B.pre
  have hown : s.vm.findClass RX6 = some m.cls := findClass_of_methodNamed B.named
  have hlocks := B.notSynchronized
  subst hsz
  have hD := hD0.self (sz := s.heap.size)
  obtain ⟨A, hAe⟩ : ∃ A : Nat → Prop, A = va_A (wX6 q6 cI cJ cB kinds_6 keys_6 places_6 kindCount_6 worthWon_6 worthDrawn_6 worthLost_6) s.heap.size := ⟨_, rfl⟩
  rw [← hAe] at hD
  have hA : ∀ q : Nat, s.heap.size ≤ q → A q := fun q h => by rw [hAe]; exact Or.inr h
  have hS : va_S A s.heap s.heap [] := va_S.rf
  refine k_gen (fun Q hQ => ?_)
  have hl := lv_entry ([.ref (q6 0)]) (n := 1) (Nat.le_of_ble_eq_true rfl)
  refine k_entry hav (lg_entry_eq ..) ?_
  generalize (lg_sl ([.ref (q6 0)]) ++ List.replicate (1 - (lg_sl ([.ref (q6 0)])).length) Slot.unset).toArray = ls at hl ⊢
  have hl : lv_has ls 1 [(0, .ref (q6 0))] := hl
  have hu_6 : ∀ w ∈ u_ws RX6 TX6 7, w ∈ wsX6_kindCount := by decide +kernel
  have hf_21 : Cond.fieldLink RX6 21 "MeetingRanks$Standings" "kindCount" "I" ∈ wsX6_kindCount := by decide +kernel
  refine lv_aload_n hx hb dX6_kindCount_0 rfl (lv_at hl 0 rfl) ?_
  refine k_get (ci := 6) (v := .int kindCount_6) (C := RX6) (Tb := TX6) (N := 7) hx hb hts hu_6 hown hKW hP 0 rfl rfl 3 (by decide) hf_21 rfl rfl dX6_kindCount_1 ?_
  subst hQ; subst hAe
  exact W.iret (v := kindCount_6) hx hb hr (fun t ht _ => ⟨⟨kindCount_6, (), rfl, rfl, by rw [ht]; exact hP, hD⟩, hS.F ht⟩) hS.2.2 dX6_kindCount_4
def rmX6_worthWon : Room := { frames := 0, cells := 0, slots := 0, locals := 0 }
set_option maxHeartbeats 4000000 in
set_option maxRecDepth 100000 in
theorem c_X6_worthWon (l : Launch) (D : va_G) (cI cJ cB : ClassId) (q6 : Nat → Nat) (kinds_6 : Nat → Int32) (keys_6 : Nat → Int32) (places_6 : Nat → Int32) (kindCount_6 : Int32) (worthWon_6 : Int32) (worthDrawn_6 : Int32) (worthLost_6 : Int32) : ∀ sz, Met l yX6_worthWon wsX6_worthWon rmX6_worthWon (va_Pc [.ref (q6 0)] (PW D (kT cI cJ cB) sz (wX6 q6 cI cJ cB kinds_6 keys_6 places_6 kindCount_6 worthWon_6 worthDrawn_6 worthLost_6))) (va_Qi (S := Unit) (fun r _ => r = worthWon_6) (QW D sz (wX6 q6 cI cJ cB kinds_6 keys_6 places_6 kindCount_6 worthWon_6 worthDrawn_6 worthLost_6) (fun _ => (wX6 q6 cI cJ cB kinds_6 keys_6 places_6 kindCount_6 worthWon_6 worthDrawn_6 worthLost_6))) (va_A (wX6 q6 cI cJ cB kinds_6 keys_6 places_6 kindCount_6 worthWon_6 worthDrawn_6 worthLost_6) sz)) 0 0 (va_A (wX6 q6 cI cJ cB kinds_6 keys_6 places_6 kindCount_6 worthWon_6 worthDrawn_6 worthLost_6) sz) := by
  intro sz
  refine Met.ofW (cc := cX6_worthWon) (maxL := 1) (ret := (some .int)) (by decide) rfl ?_
  intro p e s m args below meth c s₁ B hml hv
  obtain ⟨hav, hsz, hP, hKW, hD0⟩ := hv
  have hx := B.exec
  have hb := B.bytes
  have hr := B.returns
  have hts := atoms_spec (ws := wsX6_worthWon) B.pre
  have hown : s.vm.findClass RX6 = some m.cls := findClass_of_methodNamed B.named
  have hlocks := B.notSynchronized
  subst hsz
  have hD := hD0.self (sz := s.heap.size)
  obtain ⟨A, hAe⟩ : ∃ A : Nat → Prop, A = va_A (wX6 q6 cI cJ cB kinds_6 keys_6 places_6 kindCount_6 worthWon_6 worthDrawn_6 worthLost_6) s.heap.size := ⟨_, rfl⟩
  rw [← hAe] at hD
  have hA : ∀ q : Nat, s.heap.size ≤ q → A q := fun q h => by rw [hAe]; exact Or.inr h
  have hS : va_S A s.heap s.heap [] := va_S.rf
  refine k_gen (fun Q hQ => ?_)
  have hl := lv_entry ([.ref (q6 0)]) (n := 1) (Nat.le_of_ble_eq_true rfl)
  refine k_entry hav (lg_entry_eq ..) ?_
  generalize (lg_sl ([.ref (q6 0)]) ++ List.replicate (1 - (lg_sl ([.ref (q6 0)])).length) Slot.unset).toArray = ls at hl ⊢
  have hl : lv_has ls 1 [(0, .ref (q6 0))] := hl
  have hu_6 : ∀ w ∈ u_ws RX6 TX6 7, w ∈ wsX6_worthWon := by decide +kernel
  have hf_25 : Cond.fieldLink RX6 25 "MeetingRanks$Standings" "worthWon" "I" ∈ wsX6_worthWon := by decide +kernel
  refine lv_aload_n hx hb dX6_worthWon_0 rfl (lv_at hl 0 rfl) ?_
  refine k_get (ci := 6) (v := .int worthWon_6) (C := RX6) (Tb := TX6) (N := 7) hx hb hts hu_6 hown hKW hP 0 rfl rfl 4 (by decide) hf_25 rfl rfl dX6_worthWon_1 ?_
  subst hQ; subst hAe
  exact W.iret (v := worthWon_6) hx hb hr (fun t ht _ => ⟨⟨worthWon_6, (), rfl, rfl, by rw [ht]; exact hP, hD⟩, hS.F ht⟩) hS.2.2 dX6_worthWon_4
def rmX6_worthDrawn : Room := { frames := 0, cells := 0, slots := 0, locals := 0 }
set_option maxHeartbeats 4000000 in
set_option maxRecDepth 100000 in
theorem c_X6_worthDrawn (l : Launch) (D : va_G) (cI cJ cB : ClassId) (q6 : Nat → Nat) (kinds_6 : Nat → Int32) (keys_6 : Nat → Int32) (places_6 : Nat → Int32) (kindCount_6 : Int32) (worthWon_6 : Int32) (worthDrawn_6 : Int32) (worthLost_6 : Int32) : ∀ sz, Met l yX6_worthDrawn wsX6_worthDrawn rmX6_worthDrawn (va_Pc [.ref (q6 0)] (PW D (kT cI cJ cB) sz (wX6 q6 cI cJ cB kinds_6 keys_6 places_6 kindCount_6 worthWon_6 worthDrawn_6 worthLost_6))) (va_Qi (S := Unit) (fun r _ => r = worthDrawn_6) (QW D sz (wX6 q6 cI cJ cB kinds_6 keys_6 places_6 kindCount_6 worthWon_6 worthDrawn_6 worthLost_6) (fun _ => (wX6 q6 cI cJ cB kinds_6 keys_6 places_6 kindCount_6 worthWon_6 worthDrawn_6 worthLost_6))) (va_A (wX6 q6 cI cJ cB kinds_6 keys_6 places_6 kindCount_6 worthWon_6 worthDrawn_6 worthLost_6) sz)) 0 0 (va_A (wX6 q6 cI cJ cB kinds_6 keys_6 places_6 kindCount_6 worthWon_6 worthDrawn_6 worthLost_6) sz) := by
  intro sz
  refine Met.ofW (cc := cX6_worthDrawn) (maxL := 1) (ret := (some .int)) (by decide) rfl ?_
  intro p e s m args below meth c s₁ B hml hv
  obtain ⟨hav, hsz, hP, hKW, hD0⟩ := hv
  have hx := B.exec
  have hb := B.bytes
  have hr := B.returns
  have hts := atoms_spec (ws := wsX6_worthDrawn) B.pre
  have hown : s.vm.findClass RX6 = some m.cls := findClass_of_methodNamed B.named
  have hlocks := B.notSynchronized
  subst hsz
  have hD := hD0.self (sz := s.heap.size)
  obtain ⟨A, hAe⟩ : ∃ A : Nat → Prop, A = va_A (wX6 q6 cI cJ cB kinds_6 keys_6 places_6 kindCount_6 worthWon_6 worthDrawn_6 worthLost_6) s.heap.size := ⟨_, rfl⟩
  rw [← hAe] at hD
  have hA : ∀ q : Nat, s.heap.size ≤ q → A q := fun q h => by rw [hAe]; exact Or.inr h
  have hS : va_S A s.heap s.heap [] := va_S.rf
  refine k_gen (fun Q hQ => ?_)
  have hl := lv_entry ([.ref (q6 0)]) (n := 1) (Nat.le_of_ble_eq_true rfl)
  refine k_entry hav (lg_entry_eq ..) ?_
  generalize (lg_sl ([.ref (q6 0)]) ++ List.replicate (1 - (lg_sl ([.ref (q6 0)])).length) Slot.unset).toArray = ls at hl ⊢
  have hl : lv_has ls 1 [(0, .ref (q6 0))] := hl
  have hu_6 : ∀ w ∈ u_ws RX6 TX6 7, w ∈ wsX6_worthDrawn := by decide +kernel
  have hf_28 : Cond.fieldLink RX6 28 "MeetingRanks$Standings" "worthDrawn" "I" ∈ wsX6_worthDrawn := by decide +kernel
  refine lv_aload_n hx hb dX6_worthDrawn_0 rfl (lv_at hl 0 rfl) ?_
  refine k_get (ci := 6) (v := .int worthDrawn_6) (C := RX6) (Tb := TX6) (N := 7) hx hb hts hu_6 hown hKW hP 0 rfl rfl 5 (by decide) hf_28 rfl rfl dX6_worthDrawn_1 ?_
  subst hQ; subst hAe
  exact W.iret (v := worthDrawn_6) hx hb hr (fun t ht _ => ⟨⟨worthDrawn_6, (), rfl, rfl, by rw [ht]; exact hP, hD⟩, hS.F ht⟩) hS.2.2 dX6_worthDrawn_4
def rmX6_worthLost : Room := { frames := 0, cells := 0, slots := 0, locals := 0 }
set_option maxHeartbeats 4000000 in
set_option maxRecDepth 100000 in
theorem c_X6_worthLost (l : Launch) (D : va_G) (cI cJ cB : ClassId) (q6 : Nat → Nat) (kinds_6 : Nat → Int32) (keys_6 : Nat → Int32) (places_6 : Nat → Int32) (kindCount_6 : Int32) (worthWon_6 : Int32) (worthDrawn_6 : Int32) (worthLost_6 : Int32) : ∀ sz, Met l yX6_worthLost wsX6_worthLost rmX6_worthLost (va_Pc [.ref (q6 0)] (PW D (kT cI cJ cB) sz (wX6 q6 cI cJ cB kinds_6 keys_6 places_6 kindCount_6 worthWon_6 worthDrawn_6 worthLost_6))) (va_Qi (S := Unit) (fun r _ => r = worthLost_6) (QW D sz (wX6 q6 cI cJ cB kinds_6 keys_6 places_6 kindCount_6 worthWon_6 worthDrawn_6 worthLost_6) (fun _ => (wX6 q6 cI cJ cB kinds_6 keys_6 places_6 kindCount_6 worthWon_6 worthDrawn_6 worthLost_6))) (va_A (wX6 q6 cI cJ cB kinds_6 keys_6 places_6 kindCount_6 worthWon_6 worthDrawn_6 worthLost_6) sz)) 0 0 (va_A (wX6 q6 cI cJ cB kinds_6 keys_6 places_6 kindCount_6 worthWon_6 worthDrawn_6 worthLost_6) sz) := by
  intro sz
  refine Met.ofW (cc := cX6_worthLost) (maxL := 1) (ret := (some .int)) (by decide) rfl ?_
  intro p e s m args below meth c s₁ B hml hv
  obtain ⟨hav, hsz, hP, hKW, hD0⟩ := hv
  have hx := B.exec
  have hb := B.bytes
  have hr := B.returns
  have hts := atoms_spec (ws := wsX6_worthLost) B.pre
  have hown : s.vm.findClass RX6 = some m.cls := findClass_of_methodNamed B.named
  have hlocks := B.notSynchronized
  subst hsz
  have hD := hD0.self (sz := s.heap.size)
  obtain ⟨A, hAe⟩ : ∃ A : Nat → Prop, A = va_A (wX6 q6 cI cJ cB kinds_6 keys_6 places_6 kindCount_6 worthWon_6 worthDrawn_6 worthLost_6) s.heap.size := ⟨_, rfl⟩
  rw [← hAe] at hD
  have hA : ∀ q : Nat, s.heap.size ≤ q → A q := fun q h => by rw [hAe]; exact Or.inr h
  have hS : va_S A s.heap s.heap [] := va_S.rf
  refine k_gen (fun Q hQ => ?_)
  have hl := lv_entry ([.ref (q6 0)]) (n := 1) (Nat.le_of_ble_eq_true rfl)
  refine k_entry hav (lg_entry_eq ..) ?_
  generalize (lg_sl ([.ref (q6 0)]) ++ List.replicate (1 - (lg_sl ([.ref (q6 0)])).length) Slot.unset).toArray = ls at hl ⊢
  have hl : lv_has ls 1 [(0, .ref (q6 0))] := hl
  have hu_6 : ∀ w ∈ u_ws RX6 TX6 7, w ∈ wsX6_worthLost := by decide +kernel
  have hf_31 : Cond.fieldLink RX6 31 "MeetingRanks$Standings" "worthLost" "I" ∈ wsX6_worthLost := by decide +kernel
  refine lv_aload_n hx hb dX6_worthLost_0 rfl (lv_at hl 0 rfl) ?_
  refine k_get (ci := 6) (v := .int worthLost_6) (C := RX6) (Tb := TX6) (N := 7) hx hb hts hu_6 hown hKW hP 0 rfl rfl 6 (by decide) hf_31 rfl rfl dX6_worthLost_1 ?_
  subst hQ; subst hAe
  exact W.iret (v := worthLost_6) hx hb hr (fun t ht _ => ⟨⟨worthLost_6, (), rfl, rfl, by rw [ht]; exact hP, hD⟩, hS.F ht⟩) hS.2.2 dX6_worthLost_4
def rmX6_kindAt : Room := { frames := 0, cells := 0, slots := 0, locals := 0 }
set_option maxHeartbeats 4000000 in
set_option maxRecDepth 100000 in
theorem c_X6_kindAt (l : Launch) (D : va_G) (cI cJ cB : ClassId) (q6 : Nat → Nat) (kinds_6 : Nat → Int32) (keys_6 : Nat → Int32) (places_6 : Nat → Int32) (worthWon_6 : Int32) (worthDrawn_6 : Int32) (worthLost_6 : Int32) (kc : Nat) (t2 : Nat) (hkc : kc ≤ 4) (ht4 : t2 < 4) : ∀ sz, Met l yX6_kindAt wsX6_kindAt rmX6_kindAt (va_Pc [.ref (q6 0), .int (nI t2)] (PW D (kT cI cJ cB) sz (wX6 q6 cI cJ cB kinds_6 keys_6 places_6 (nI kc) worthWon_6 worthDrawn_6 worthLost_6))) (va_Qi (S := Unit) (fun r _ => r = if t2 < kc then kinds_6 t2 else -1) (QW D sz (wX6 q6 cI cJ cB kinds_6 keys_6 places_6 (nI kc) worthWon_6 worthDrawn_6 worthLost_6) (fun _ => (wX6 q6 cI cJ cB kinds_6 keys_6 places_6 (nI kc) worthWon_6 worthDrawn_6 worthLost_6))) (va_A (wX6 q6 cI cJ cB kinds_6 keys_6 places_6 (nI kc) worthWon_6 worthDrawn_6 worthLost_6) sz)) 0 0 (va_A (wX6 q6 cI cJ cB kinds_6 keys_6 places_6 (nI kc) worthWon_6 worthDrawn_6 worthLost_6) sz) := by
  intro sz
  refine Met.ofW (cc := cX6_kindAt) (maxL := 2) (ret := (some .int)) (by decide) rfl ?_
  intro p e s m args below meth c s₁ B hml hv
  obtain ⟨hav, hsz, hP, hKW, hD0⟩ := hv
  have hx := B.exec
  have hb := B.bytes
  have hr := B.returns
  have hts := atoms_spec (ws := wsX6_kindAt) B.pre
  have hown : s.vm.findClass RX6 = some m.cls := findClass_of_methodNamed B.named
  have hlocks := B.notSynchronized
  subst hsz
  have hD := hD0.self (sz := s.heap.size)
  obtain ⟨A, hAe⟩ : ∃ A : Nat → Prop, A = va_A (wX6 q6 cI cJ cB kinds_6 keys_6 places_6 (nI kc) worthWon_6 worthDrawn_6 worthLost_6) s.heap.size := ⟨_, rfl⟩
  rw [← hAe] at hD
  have hA : ∀ q : Nat, s.heap.size ≤ q → A q := fun q h => by rw [hAe]; exact Or.inr h
  have hS : va_S A s.heap s.heap [] := va_S.rf
  refine k_gen (fun Q hQ => ?_)
  have hl := lv_entry ([.ref (q6 0), .int (nI t2)]) (n := 2) (Nat.le_of_ble_eq_true rfl)
  refine k_entry hav (lg_entry_eq ..) ?_
  generalize (lg_sl ([.ref (q6 0), .int (nI t2)]) ++ List.replicate (2 - (lg_sl ([.ref (q6 0), .int (nI t2)])).length) Slot.unset).toArray = ls at hl ⊢
  have hl : lv_has ls 2 [(0, .ref (q6 0)), (1, .int (nI t2))] := hl
  have hu_6 : ∀ w ∈ u_ws RX6 TX6 7, w ∈ wsX6_kindAt := by decide +kernel
  have hf_9 : Cond.fieldLink RX6 9 "MeetingRanks$Standings" "kinds" "[I" ∈ wsX6_kindAt := by decide +kernel
  have hf_21 : Cond.fieldLink RX6 21 "MeetingRanks$Standings" "kindCount" "I" ∈ wsX6_kindAt := by decide +kernel
  refine lv_iload_n hx hb dX6_kindAt_0 rfl (lv_at hl 1 rfl) ?_
  refine lv_if_lt (tgt := 21) hx hb dX6_kindAt_1 (by decide) (fun c_1 => ?_) (fun c_1 => ?_)
  · skip
    exact (k0_lt (by omega) c_1).elim
  · skip
    have c_1 := k0_lt_n (by omega) c_1
    refine lv_iload_n hx hb dX6_kindAt_4 rfl (lv_at hl 1 rfl) ?_
    refine lv_aload_n hx hb dX6_kindAt_5 rfl (lv_at hl 0 rfl) ?_
    refine k_get (ci := 6) (v := .int (nI kc)) (C := RX6) (Tb := TX6) (N := 7) hx hb hts hu_6 hown hKW hP 0 rfl rfl 3 (by decide) hf_21 rfl rfl dX6_kindAt_6 ?_
    refine lv_icmp_ge (tgt := 21) hx hb dX6_kindAt_9 (by decide) (fun c_9 => ?_) (fun c_9 => ?_)
    · skip
      have c_9 := k_ge (by omega) (by omega) c_9
      refine lv_iconst (v := (-1)) hx hb dX6_kindAt_21 (by decide) ?_
      subst hQ; subst hAe
      exact W.iret (v := (-1)) hx hb hr (fun t ht _ => ⟨⟨(-1), (), rfl, by rw [if_neg (by omega)], by rw [ht]; exact hP, hD⟩, hS.F ht⟩) hS.2.2 dX6_kindAt_22
    · skip
      have c_9 := k_ge_n (by omega) (by omega) c_9
      refine lv_aload_n hx hb dX6_kindAt_12 rfl (lv_at hl 0 rfl) ?_
      refine k_get (ci := 6) (v := .ref (q6 1)) (C := RX6) (Tb := TX6) (N := 7) hx hb hts hu_6 hown hKW hP 0 rfl rfl 0 (by decide) hf_9 rfl rfl dX6_kindAt_13 ?_
      refine lv_iload_n hx hb dX6_kindAt_16 rfl (lv_at hl 1 rfl) ?_
      refine k_iald (n := 4) (i := t2) hx hb hKW hP 1 0 rfl rfl (by omega) (by omega) dX6_kindAt_17 ?_
      refine lv_goto (tgt := 22) hx hb dX6_kindAt_18 (by decide) ?_
      subst hQ; subst hAe
      exact W.iret (v := kinds_6 t2) hx hb hr (fun t ht _ => ⟨⟨kinds_6 t2, (), rfl, by rw [if_pos c_9], by rw [ht]; exact hP, hD⟩, hS.F ht⟩) hS.2.2 dX6_kindAt_22
def rmX6_addKind : Room := { frames := 0, cells := 0, slots := 0, locals := 0 }
set_option maxHeartbeats 4000000 in
set_option maxRecDepth 100000 in
theorem c_X6_addKind (l : Launch) (D : va_G) (cI cJ cB : ClassId) (q6 : Nat → Nat) (kinds_6 : Nat → Int32) (keys_6 : Nat → Int32) (places_6 : Nat → Int32) (worthWon_6 : Int32) (worthDrawn_6 : Int32) (worthLost_6 : Int32) (kc : Nat) (x : Int32) (hkc : kc < 4) : ∀ sz, Met l yX6_addKind wsX6_addKind rmX6_addKind (va_Pc [.ref (q6 0), .int x] (PW D (kT cI cJ cB) sz (wX6 q6 cI cJ cB kinds_6 keys_6 places_6 (nI kc) worthWon_6 worthDrawn_6 worthLost_6))) (va_Qv (S := Unit) (fun _ => True) (QW D sz (wX6 q6 cI cJ cB kinds_6 keys_6 places_6 (nI kc) worthWon_6 worthDrawn_6 worthLost_6) (fun _ => (wX6 q6 cI cJ cB (upd kinds_6 kc x) keys_6 places_6 (nI (kc + 1)) worthWon_6 worthDrawn_6 worthLost_6))) (va_A (wX6 q6 cI cJ cB kinds_6 keys_6 places_6 (nI kc) worthWon_6 worthDrawn_6 worthLost_6) sz)) 0 0 (va_A (wX6 q6 cI cJ cB kinds_6 keys_6 places_6 (nI kc) worthWon_6 worthDrawn_6 worthLost_6) sz) := by
  intro sz
  refine Met.ofW (cc := cX6_addKind) (maxL := 2) (ret := none) (by decide) rfl ?_
  intro p e s m args below meth c s₁ B hml hv
  obtain ⟨hav, hsz, hP, hKW, hD0⟩ := hv
  have hx := B.exec
  have hb := B.bytes
  have hr := B.returns
  have hts := atoms_spec (ws := wsX6_addKind) B.pre
  have hown : s.vm.findClass RX6 = some m.cls := findClass_of_methodNamed B.named
  have hlocks := B.notSynchronized
  subst hsz
  have hD := hD0.self (sz := s.heap.size)
  obtain ⟨A, hAe⟩ : ∃ A : Nat → Prop, A = va_A (wX6 q6 cI cJ cB kinds_6 keys_6 places_6 (nI kc) worthWon_6 worthDrawn_6 worthLost_6) s.heap.size := ⟨_, rfl⟩
  rw [← hAe] at hD
  have hA : ∀ q : Nat, s.heap.size ≤ q → A q := fun q h => by rw [hAe]; exact Or.inr h
  have hS : va_S A s.heap s.heap [] := va_S.rf
  refine k_gen (fun Q hQ => ?_)
  have hl := lv_entry ([.ref (q6 0), .int x]) (n := 2) (Nat.le_of_ble_eq_true rfl)
  refine k_entry hav (lg_entry_eq ..) ?_
  generalize (lg_sl ([.ref (q6 0), .int x]) ++ List.replicate (2 - (lg_sl ([.ref (q6 0), .int x])).length) Slot.unset).toArray = ls at hl ⊢
  have hl : lv_has ls 2 [(0, .ref (q6 0)), (1, .int x)] := hl
  have hu_6 : ∀ w ∈ u_ws RX6 TX6 7, w ∈ wsX6_addKind := by decide +kernel
  have hf_9 : Cond.fieldLink RX6 9 "MeetingRanks$Standings" "kinds" "[I" ∈ wsX6_addKind := by decide +kernel
  have hf_21 : Cond.fieldLink RX6 21 "MeetingRanks$Standings" "kindCount" "I" ∈ wsX6_addKind := by decide +kernel
  refine lv_aload_n hx hb dX6_addKind_0 rfl (lv_at hl 0 rfl) ?_
  refine k_get (ci := 6) (v := .int (nI kc)) (C := RX6) (Tb := TX6) (N := 7) hx hb hts hu_6 hown hKW hP 0 rfl rfl 3 (by decide) hf_21 rfl rfl dX6_addKind_1 ?_
  refine lv_iconst (v := nI 4) hx hb dX6_addKind_4 (by decide) ?_
  refine lv_icmp_ge (tgt := 28) hx hb dX6_addKind_5 (by decide) (fun c_5 => ?_) (fun c_5 => ?_)
  · skip
    have c_5 := k_ge (by omega) (by omega) c_5
    exact absurd c_5 (by omega)
  · skip
    have c_5 := k_ge_n (by omega) (by omega) c_5
    refine lv_aload_n hx hb dX6_addKind_8 rfl (lv_at hl 0 rfl) ?_
    refine k_get (ci := 6) (v := .ref (q6 1)) (C := RX6) (Tb := TX6) (N := 7) hx hb hts hu_6 hown hKW hP 0 rfl rfl 0 (by decide) hf_9 rfl rfl dX6_addKind_9 ?_
    refine lv_aload_n hx hb dX6_addKind_12 rfl (lv_at hl 0 rfl) ?_
    refine k_get (ci := 6) (v := .int (nI kc)) (C := RX6) (Tb := TX6) (N := 7) hx hb hts hu_6 hown hKW hP 0 rfl rfl 3 (by decide) hf_21 rfl rfl dX6_addKind_13 ?_
    refine lv_iload_n hx hb dX6_addKind_16 rfl (lv_at hl 1 rfl) ?_
    refine k_iast (n := 4) (i := kc) (x := x) (w' := (wX6 q6 cI cJ cB (upd kinds_6 kc x) keys_6 places_6 (nI kc) worthWon_6 worthDrawn_6 worthLost_6)) hx hb hKW hP hD hS 1 0 rfl rfl (by omega) (by omega) dX6_addKind_17 rfl (fun H locs hP hD hS => ?_)
    refine lv_aload_n hx hb dX6_addKind_18 rfl (lv_at hl 0 rfl) ?_
    refine lv_dup hx hb dX6_addKind_19 rfl ?_
    refine k_get (ci := 6) (v := .int (nI kc)) (C := RX6) (Tb := TX6) (N := 7) hx hb hts hu_6 hown hKW hP 0 rfl rfl 3 (by decide) hf_21 rfl rfl dX6_addKind_20 ?_
    refine lv_iconst (v := nI 1) hx hb dX6_addKind_23 (by decide) ?_
    refine k_iadd hx hb dX6_addKind_24 ?_
    refine k_put (ci := 6) (ty := .int) (v := .int (nI (kc + 1))) (C := RX6) (Tb := TX6) (N := 7) (w' := (wX6 q6 cI cJ cB (upd kinds_6 kc x) keys_6 places_6 (nI (kc + 1)) worthWon_6 worthDrawn_6 worthLost_6)) hx hb hts hu_6 tyX6 tyX6_ok nmX6 hown hKW hP hD hS 0 rfl rfl 3 (by decide) hf_21 rfl rfl (by decide +kernel) rfl rfl (Nat.le_of_ble_eq_true rfl) dX6_addKind_25 rfl (fun H locs hP hD hS => ?_)
    subst hQ; subst hAe
    exact W.vret hx hb hr (fun t ht _ => ⟨⟨(), rfl, trivial, by rw [ht]; exact hP, hD⟩, hS.F ht⟩) hS.2.2 dX6_addKind_28
def rmX6_keepKinds : Room := { frames := 1, cells := 0, slots := 0, locals := 21 }
set_option maxHeartbeats 4000000 in
set_option maxRecDepth 100000 in
theorem c_X6_keepKinds (l : Launch) (D : va_G) (cI cJ cB : ClassId) (q6 : Nat → Nat) (kinds_6 : Nat → Int32) (keys_6 : Nat → Int32) (places_6 : Nat → Int32) (worthWon_6 : Int32) (worthDrawn_6 : Int32) (worthLost_6 : Int32) (kc : Nat) (m2 : Nat) (hkc : kc ≤ 4) (hm2 : m2 ≤ kc) : ∀ sz, Met l yX6_keepKinds wsX6_keepKinds rmX6_keepKinds (va_Pc [.ref (q6 0), .int (nI m2)] (PW D (kT cI cJ cB) sz (wX6 q6 cI cJ cB kinds_6 keys_6 places_6 (nI kc) worthWon_6 worthDrawn_6 worthLost_6))) (va_Qv (S := Unit) (fun _ => True) (QW D sz (wX6 q6 cI cJ cB kinds_6 keys_6 places_6 (nI kc) worthWon_6 worthDrawn_6 worthLost_6) (fun _ => (wX6 q6 cI cJ cB kinds_6 keys_6 places_6 (nI m2) worthWon_6 worthDrawn_6 worthLost_6))) (va_A (wX6 q6 cI cJ cB kinds_6 keys_6 places_6 (nI kc) worthWon_6 worthDrawn_6 worthLost_6) sz)) 0 0 (va_A (wX6 q6 cI cJ cB kinds_6 keys_6 places_6 (nI kc) worthWon_6 worthDrawn_6 worthLost_6) sz) := by
  intro sz
  refine Met.ofW (cc := cX6_keepKinds) (maxL := 2) (ret := none) (by decide) rfl ?_
  intro p e s m args below meth c s₁ B hml hv
  obtain ⟨hav, hsz, hP, hKW, hD0⟩ := hv
  have hx := B.exec
  have hb := B.bytes
  have hr := B.returns
  have hts := atoms_spec (ws := wsX6_keepKinds) B.pre
  have hown : s.vm.findClass RX6 = some m.cls := findClass_of_methodNamed B.named
  have hlocks := B.notSynchronized
  subst hsz
  have hD := hD0.self (sz := s.heap.size)
  obtain ⟨A, hAe⟩ : ∃ A : Nat → Prop, A = va_A (wX6 q6 cI cJ cB kinds_6 keys_6 places_6 (nI kc) worthWon_6 worthDrawn_6 worthLost_6) s.heap.size := ⟨_, rfl⟩
  rw [← hAe] at hD
  have hA : ∀ q : Nat, s.heap.size ≤ q → A q := fun q h => by rw [hAe]; exact Or.inr h
  have hS : va_S A s.heap s.heap [] := va_S.rf
  refine k_gen (fun Q hQ => ?_)
  have hl := lv_entry ([.ref (q6 0), .int (nI m2)]) (n := 2) (Nat.le_of_ble_eq_true rfl)
  refine k_entry hav (lg_entry_eq ..) ?_
  generalize (lg_sl ([.ref (q6 0), .int (nI m2)]) ++ List.replicate (2 - (lg_sl ([.ref (q6 0), .int (nI m2)])).length) Slot.unset).toArray = ls at hl ⊢
  have hl : lv_has ls 2 [(0, .ref (q6 0)), (1, .int (nI m2))] := hl
  have hu_6 : ∀ w ∈ u_ws RX6 TX6 7, w ∈ wsX6_keepKinds := by decide +kernel
  have hf_21 : Cond.fieldLink RX6 21 "MeetingRanks$Standings" "kindCount" "I" ∈ wsX6_keepKinds := by decide +kernel
  refine lv_aload_n hx hb dX6_keepKinds_0 rfl (lv_at hl 0 rfl) ?_
  refine lv_iconst (v := nI 0) hx hb dX6_keepKinds_1 (by decide) ?_
  refine lv_iload_n hx hb dX6_keepKinds_2 rfl (lv_at hl 1 rfl) ?_
  refine lv_aload_n hx hb dX6_keepKinds_3 rfl (lv_at hl 0 rfl) ?_
  refine k_get (ci := 6) (v := .int (nI kc)) (C := RX6) (Tb := TX6) (N := 7) hx hb hts hu_6 hown hKW hP 0 rfl rfl 3 (by decide) hf_21 rfl rfl dX6_keepKinds_4 ?_
  refine va_mmin hx hb (hml.trans hl.1.symm) hown (hts (.methodLink RX6 34 Lib.Math.min.name) (by decide +kernel)) (hts (.static Lib.Math.min.name) (by decide +kernel)) (hts (.initialized "java/lang/Math") (by decide +kernel)) (hts (.code Lib.Math.min.name Lib.Math.min.code 2 (some .int)) (by decide +kernel)) (Nat.le_of_ble_eq_true rfl) (Nat.le_of_ble_eq_true rfl) (Nat.zero_le _) (Nat.zero_le _) dX6_keepKinds_7 ?_
  refine k_top (y := nI m2) (k_minle hm2 (by omega)) ?_
  refine va_mmax hx hb (hml.trans hl.1.symm) hown (hts (.methodLink RX6 40 Lib.Math.max.name) (by decide +kernel)) (hts (.static Lib.Math.max.name) (by decide +kernel)) (hts (.initialized "java/lang/Math") (by decide +kernel)) (hts (.code Lib.Math.max.name Lib.Math.max.code 2 (some .int)) (by decide +kernel)) (Nat.le_of_ble_eq_true rfl) (Nat.le_of_ble_eq_true rfl) (Nat.zero_le _) (Nat.zero_le _) dX6_keepKinds_10 ?_
  refine k_top (y := nI m2) (k_max0 (by omega)) ?_
  refine k_put (ci := 6) (ty := .int) (v := .int (nI m2)) (C := RX6) (Tb := TX6) (N := 7) (w' := (wX6 q6 cI cJ cB kinds_6 keys_6 places_6 (nI m2) worthWon_6 worthDrawn_6 worthLost_6)) hx hb hts hu_6 tyX6 tyX6_ok nmX6 hown hKW hP hD hS 0 rfl rfl 3 (by decide) hf_21 rfl rfl (by decide +kernel) rfl rfl (Nat.le_of_ble_eq_true rfl) dX6_keepKinds_13 rfl (fun H locs hP hD hS => ?_)
  subst hQ; subst hAe
  exact W.vret hx hb hr (fun t ht _ => ⟨⟨(), rfl, trivial, by rw [ht]; exact hP, hD⟩, hS.F ht⟩) hS.2.2 dX6_keepKinds_16
def rmX6_setWorth : Room := { frames := 0, cells := 0, slots := 0, locals := 0 }
set_option maxHeartbeats 4000000 in
set_option maxRecDepth 100000 in
theorem c_X6_setWorth (l : Launch) (D : va_G) (cI cJ cB : ClassId) (q6 : Nat → Nat) (kinds_6 : Nat → Int32) (keys_6 : Nat → Int32) (places_6 : Nat → Int32) (kindCount_6 : Int32) (worthWon_6 : Int32) (worthDrawn_6 : Int32) (worthLost_6 : Int32) (x : Int32) (y : Int32) (z : Int32) : ∀ sz, Met l yX6_setWorth wsX6_setWorth rmX6_setWorth (va_Pc [.ref (q6 0), .int x, .int y, .int z] (PW D (kT cI cJ cB) sz (wX6 q6 cI cJ cB kinds_6 keys_6 places_6 kindCount_6 worthWon_6 worthDrawn_6 worthLost_6))) (va_Qv (S := Unit) (fun _ => True) (QW D sz (wX6 q6 cI cJ cB kinds_6 keys_6 places_6 kindCount_6 worthWon_6 worthDrawn_6 worthLost_6) (fun _ => (wX6 q6 cI cJ cB kinds_6 keys_6 places_6 kindCount_6 x y z))) (va_A (wX6 q6 cI cJ cB kinds_6 keys_6 places_6 kindCount_6 worthWon_6 worthDrawn_6 worthLost_6) sz)) 0 0 (va_A (wX6 q6 cI cJ cB kinds_6 keys_6 places_6 kindCount_6 worthWon_6 worthDrawn_6 worthLost_6) sz) := by
  intro sz
  refine Met.ofW (cc := cX6_setWorth) (maxL := 4) (ret := none) (by decide) rfl ?_
  intro p e s m args below meth c s₁ B hml hv
  obtain ⟨hav, hsz, hP, hKW, hD0⟩ := hv
  have hx := B.exec
  have hb := B.bytes
  have hr := B.returns
  have hts := atoms_spec (ws := wsX6_setWorth) B.pre
  have hown : s.vm.findClass RX6 = some m.cls := findClass_of_methodNamed B.named
  have hlocks := B.notSynchronized
  subst hsz
  have hD := hD0.self (sz := s.heap.size)
  obtain ⟨A, hAe⟩ : ∃ A : Nat → Prop, A = va_A (wX6 q6 cI cJ cB kinds_6 keys_6 places_6 kindCount_6 worthWon_6 worthDrawn_6 worthLost_6) s.heap.size := ⟨_, rfl⟩
  rw [← hAe] at hD
  have hA : ∀ q : Nat, s.heap.size ≤ q → A q := fun q h => by rw [hAe]; exact Or.inr h
  have hS : va_S A s.heap s.heap [] := va_S.rf
  refine k_gen (fun Q hQ => ?_)
  have hl := lv_entry ([.ref (q6 0), .int x, .int y, .int z]) (n := 4) (Nat.le_of_ble_eq_true rfl)
  refine k_entry hav (lg_entry_eq ..) ?_
  generalize (lg_sl ([.ref (q6 0), .int x, .int y, .int z]) ++ List.replicate (4 - (lg_sl ([.ref (q6 0), .int x, .int y, .int z])).length) Slot.unset).toArray = ls at hl ⊢
  have hl : lv_has ls 4 [(0, .ref (q6 0)), (1, .int x), (2, .int y), (3, .int z)] := hl
  have hu_6 : ∀ w ∈ u_ws RX6 TX6 7, w ∈ wsX6_setWorth := by decide +kernel
  have hf_25 : Cond.fieldLink RX6 25 "MeetingRanks$Standings" "worthWon" "I" ∈ wsX6_setWorth := by decide +kernel
  have hf_28 : Cond.fieldLink RX6 28 "MeetingRanks$Standings" "worthDrawn" "I" ∈ wsX6_setWorth := by decide +kernel
  have hf_31 : Cond.fieldLink RX6 31 "MeetingRanks$Standings" "worthLost" "I" ∈ wsX6_setWorth := by decide +kernel
  refine lv_aload_n hx hb dX6_setWorth_0 rfl (lv_at hl 0 rfl) ?_
  refine lv_iload_n hx hb dX6_setWorth_1 rfl (lv_at hl 1 rfl) ?_
  refine k_put (ci := 6) (ty := .int) (v := .int x) (C := RX6) (Tb := TX6) (N := 7) (w' := (wX6 q6 cI cJ cB kinds_6 keys_6 places_6 kindCount_6 x worthDrawn_6 worthLost_6)) hx hb hts hu_6 tyX6 tyX6_ok nmX6 hown hKW hP hD hS 0 rfl rfl 4 (by decide) hf_25 rfl rfl (by decide +kernel) rfl rfl (Nat.le_of_ble_eq_true rfl) dX6_setWorth_2 rfl (fun H locs hP hD hS => ?_)
  refine lv_aload_n hx hb dX6_setWorth_5 rfl (lv_at hl 0 rfl) ?_
  refine lv_iload_n hx hb dX6_setWorth_6 rfl (lv_at hl 2 rfl) ?_
  refine k_put (ci := 6) (ty := .int) (v := .int y) (C := RX6) (Tb := TX6) (N := 7) (w' := (wX6 q6 cI cJ cB kinds_6 keys_6 places_6 kindCount_6 x y worthLost_6)) hx hb hts hu_6 tyX6 tyX6_ok nmX6 hown hKW hP hD hS 0 rfl rfl 5 (by decide) hf_28 rfl rfl (by decide +kernel) rfl rfl (Nat.le_of_ble_eq_true rfl) dX6_setWorth_7 rfl (fun H locs hP hD hS => ?_)
  refine lv_aload_n hx hb dX6_setWorth_10 rfl (lv_at hl 0 rfl) ?_
  refine lv_iload_n hx hb dX6_setWorth_11 rfl (lv_at hl 3 rfl) ?_
  refine k_put (ci := 6) (ty := .int) (v := .int z) (C := RX6) (Tb := TX6) (N := 7) (w' := (wX6 q6 cI cJ cB kinds_6 keys_6 places_6 kindCount_6 x y z)) hx hb hts hu_6 tyX6 tyX6_ok nmX6 hown hKW hP hD hS 0 rfl rfl 6 (by decide) hf_31 rfl rfl (by decide +kernel) rfl rfl (Nat.le_of_ble_eq_true rfl) dX6_setWorth_12 rfl (fun H locs hP hD hS => ?_)
  subst hQ; subst hAe
  exact W.vret hx hb hr (fun t ht _ => ⟨⟨(), rfl, trivial, by rw [ht]; exact hP, hD⟩, hS.F ht⟩) hS.2.2 dX6_setWorth_15
def rmX6_arrange : Room := { frames := 4, cells := 0, slots := 0, locals := 99 }
set_option maxHeartbeats 4000000 in
set_option maxRecDepth 100000 in
theorem c_X6_arrange (l : Launch) (D : va_G) (cI cJ cB : ClassId) (q6 : Nat → Nat) (q4 : Nat → Nat) (kinds_6 : Nat → Int32) (keys_6 : Nat → Int32) (places_6 : Nat → Int32) (worthWon_6 : Int32) (worthDrawn_6 : Int32) (worthLost_6 : Int32) (parts_4 : Nat → Int32) (wins_4 : Nat → Int32) (draws_4 : Nat → Int32) (points_4 : Nat → Int32) (count_4 : Int32) (changes_4 : Int32) (ml : List Mt) (ks : List Nat) (n : Nat) (hM : MR parts_4 wins_4 draws_4 points_4 ml) (hn10 : n ≤ 10) (hki : ∀ j, j < ks.length → kinds_6 j = nI (ks.getD j 0)) (hk4 : ks.length ≤ 4) (hk6 : ∀ k ∈ ks, k < 6) : ∀ sz, Met l yX6_arrange wsX6_arrange rmX6_arrange (va_Pc [.ref (q6 0), .ref (q4 0), .int (nI n)] (PW D (kT cI cJ cB) sz (wX6 q6 cI cJ cB kinds_6 keys_6 places_6 (nI ks.length) worthWon_6 worthDrawn_6 worthLost_6 ++ wX4 q4 cI cJ cB parts_4 wins_4 draws_4 points_4 count_4 changes_4))) (va_Qv (S := (Nat → Int32) × (Nat → Int32)) (fun uu => match uu with | (keys_6', places_6') => KM (worthWon_6, worthDrawn_6, worthLost_6) ml ks n keys_6' ks.length ∧ places_6' = ordF (fun p q => decide (0 < cmpK keys_6' p q 0 (1 + ks.length))) places_6 n) (QW D sz (wX6 q6 cI cJ cB kinds_6 keys_6 places_6 (nI ks.length) worthWon_6 worthDrawn_6 worthLost_6 ++ wX4 q4 cI cJ cB parts_4 wins_4 draws_4 points_4 count_4 changes_4) (fun uu => match uu with | (keys_6', places_6') => (wX6 q6 cI cJ cB kinds_6 keys_6' places_6' (nI ks.length) worthWon_6 worthDrawn_6 worthLost_6 ++ wX4 q4 cI cJ cB parts_4 wins_4 draws_4 points_4 count_4 changes_4))) (va_A (wX6 q6 cI cJ cB kinds_6 keys_6 places_6 (nI ks.length) worthWon_6 worthDrawn_6 worthLost_6 ++ wX4 q4 cI cJ cB parts_4 wins_4 draws_4 points_4 count_4 changes_4) sz)) 0 0 (va_A (wX6 q6 cI cJ cB kinds_6 keys_6 places_6 (nI ks.length) worthWon_6 worthDrawn_6 worthLost_6 ++ wX4 q4 cI cJ cB parts_4 wins_4 draws_4 points_4 count_4 changes_4) sz) := by
  intro sz
  refine Met.ofW (cc := cX6_arrange) (maxL := 4) (ret := none) (by decide) rfl ?_
  intro p e s m args below meth c s₁ B hml hv
  obtain ⟨hav, hsz, hP, hKW, hD0⟩ := hv
  have hx := B.exec
  have hb := B.bytes
  have hr := B.returns
  have hts := atoms_spec (ws := wsX6_arrange) B.pre
  have hown : s.vm.findClass RX6 = some m.cls := findClass_of_methodNamed B.named
  have hlocks := B.notSynchronized
  subst hsz
  have hD := hD0.self (sz := s.heap.size)
  obtain ⟨A, hAe⟩ : ∃ A : Nat → Prop, A = va_A (wX6 q6 cI cJ cB kinds_6 keys_6 places_6 (nI ks.length) worthWon_6 worthDrawn_6 worthLost_6 ++ wX4 q4 cI cJ cB parts_4 wins_4 draws_4 points_4 count_4 changes_4) s.heap.size := ⟨_, rfl⟩
  rw [← hAe] at hD
  have hA : ∀ q : Nat, s.heap.size ≤ q → A q := fun q h => by rw [hAe]; exact Or.inr h
  have hS : va_S A s.heap s.heap [] := va_S.rf
  refine k_gen (fun Q hQ => ?_)
  have hl := lv_entry ([.ref (q6 0), .ref (q4 0), .int (nI n)]) (n := 4) (Nat.le_of_ble_eq_true rfl)
  refine k_entry hav (lg_entry_eq ..) ?_
  generalize (lg_sl ([.ref (q6 0), .ref (q4 0), .int (nI n)]) ++ List.replicate (4 - (lg_sl ([.ref (q6 0), .ref (q4 0), .int (nI n)])).length) Slot.unset).toArray = ls at hl ⊢
  have hl : lv_has ls 4 [(0, .ref (q6 0)), (1, .ref (q4 0)), (2, .int (nI n))] := hl
  have hu_6 : ∀ w ∈ u_ws RX6 TX6 7, w ∈ wsX6_arrange := by decide +kernel
  have hf_9 : Cond.fieldLink RX6 9 "MeetingRanks$Standings" "kinds" "[I" ∈ wsX6_arrange := by decide +kernel
  have hf_21 : Cond.fieldLink RX6 21 "MeetingRanks$Standings" "kindCount" "I" ∈ wsX6_arrange := by decide +kernel
  refine lv_aload_n hx hb dX6_arrange_0 rfl (lv_at hl 0 rfl) ?_
  refine lv_aload_n hx hb dX6_arrange_1 rfl (lv_at hl 1 rfl) ?_
  refine lv_iload_n hx hb dX6_arrange_2 rfl (lv_at hl 2 rfl) ?_
  have hs_3 : kSplit (wX6 q6 cI cJ cB kinds_6 keys_6 places_6 (nI ks.length) worthWon_6 worthDrawn_6 worthLost_6 ++ wX4 q4 cI cJ cB parts_4 wins_4 draws_4 points_4 count_4 changes_4) (wX6 q6 cI cJ cB kinds_6 keys_6 places_6 (nI ks.length) worthWon_6 worthDrawn_6 worthLost_6 ++ wX4 q4 cI cJ cB parts_4 wins_4 draws_4 points_4 count_4 changes_4) ([] : va_W) [0, 1, 2, 3, 4, 5, 6, 7, 8] [] := ⟨rfl, rfl, rfl, rfl, rfl, by decide⟩
  refine kc_v hP hD hS hA hs_3 (kV (As := [.ref (q4 0), .int (nI n)]) (rest := []) hx hb hml hown hts hKW hP hD hs_3 (c_X6_fillScores l D cI cJ cB q6 q4 kinds_6 keys_6 places_6 (nI ks.length) worthWon_6 worthDrawn_6 worthLost_6 parts_4 wins_4 draws_4 points_4 count_4 changes_4 ml n (by first | assumption | omega) (by first | assumption | omega)) (cwV 2 hts gX6_arrange_X6_fillScores rfl rfl rfl (by decide +kernel) ⟨Nat.le_of_ble_eq_true rfl, Nat.le_of_ble_eq_true rfl⟩) 0 6 rfl rfl rfl rfl hl.1 rfl (Nat.le_of_ble_eq_true rfl) dX6_arrange_3 ⟨Nat.zero_le _, Nat.zero_le _⟩) (fun u_3 H locs hw_3 hP hD hS => ?_)
  obtain ⟨keys_6_3, rfl⟩ : ∃ z, z = u_3 := ⟨_, rfl⟩
  have hP : va_P D vwCl (wX6 q6 cI cJ cB kinds_6 keys_6_3 places_6 (nI ks.length) worthWon_6 worthDrawn_6 worthLost_6 ++ wX4 q4 cI cJ cB parts_4 wins_4 draws_4 points_4 count_4 changes_4) H := hP.sub (ws' := (wX6 q6 cI cJ cB kinds_6 keys_6_3 places_6 (nI ks.length) worthWon_6 worthDrawn_6 worthLost_6 ++ wX4 q4 cI cJ cB parts_4 wins_4 draws_4 points_4 count_4 changes_4)) [0, 1, 2, 3, 4, 5, 6, 7, 8] rfl
  have hD : va_D A (wX6 q6 cI cJ cB kinds_6 keys_6_3 places_6 (nI ks.length) worthWon_6 worthDrawn_6 worthLost_6 ++ wX4 q4 cI cJ cB parts_4 wins_4 draws_4 points_4 count_4 changes_4) := hD.sub (ws' := (wX6 q6 cI cJ cB kinds_6 keys_6_3 places_6 (nI ks.length) worthWon_6 worthDrawn_6 worthLost_6 ++ wX4 q4 cI cJ cB parts_4 wins_4 draws_4 points_4 count_4 changes_4)) [0, 1, 2, 3, 4, 5, 6, 7, 8] (by decide) rfl
  refine lv_iconst (v := nI 0) hx hb dX6_arrange_6 (by decide) ?_
  refine lv_istore_n (lv' := [(3, .int (nI 0)), (0, .ref (q6 0)), (1, .ref (q4 0)), (2, .int (nI n))]) hx hb dX6_arrange_7 rfl hl (by decide) rfl (fun ls hl => ?_)
  have hL_8 : ∀ (fu : Nat) (j : Nat) (f : Nat → Int32) (hj : j ≤ ks.length) (hg : KM (worthWon_6, worthDrawn_6, worthLost_6) ml ks n f j), ks.length - j < fu → ∀ (H : Heap) (locs : List Loc), va_P D vwCl (wX6 q6 cI cJ cB kinds_6 f places_6 (nI ks.length) worthWon_6 worthDrawn_6 worthLost_6 ++ wX4 q4 cI cJ cB parts_4 wins_4 draws_4 points_4 count_4 changes_4) H → va_D A (wX6 q6 cI cJ cB kinds_6 f places_6 (nI ks.length) worthWon_6 worthDrawn_6 worthLost_6 ++ wX4 q4 cI cJ cB parts_4 wins_4 draws_4 points_4 count_4 changes_4) → va_S A s.heap H locs → ∀ (ls : Array Slot), lv_has ls 4 [(0, .ref (q6 0)), (1, .ref (q4 0)), (2, .int (nI n)), (3, .int (nI j))] → W p l e (headSpec wsX6_arrange rmX6_arrange).room s m args below meth c H locs 0 0 Q (F0 m 8 ls []) := by
    intro fu
    induction fu with
    | zero => intro j f hj hg hfu; exact absurd hfu (Nat.not_lt_zero _)
    | succ fu ih_8 =>
      intro j f hj hg hfu H locs hP hD hS ls hl
      refine lv_iload_n hx hb dX6_arrange_8 rfl (lv_at hl 3 rfl) ?_
      refine lv_aload_n hx hb dX6_arrange_9 rfl (lv_at hl 0 rfl) ?_
      refine k_get (ci := 6) (v := .int (nI ks.length)) (C := RX6) (Tb := TX6) (N := 7) hx hb hts hu_6 hown hKW hP 0 rfl rfl 3 (by decide) hf_21 rfl rfl dX6_arrange_10 ?_
      refine lv_icmp_ge (tgt := 37) hx hb dX6_arrange_13 (by decide) (fun c_13 => ?_) (fun c_13 => ?_)
      · skip
        have c_13 := k_ge (by omega) (by omega) c_13
        obtain rfl : j = ks.length := by omega
        refine lv_iconst (v := nI 0) hx hb dX6_arrange_37 (by decide) ?_
        refine lv_istore_n (lv' := [(3, .int (nI 0)), (0, .ref (q6 0)), (1, .ref (q4 0)), (2, .int (nI n))]) hx hb dX6_arrange_38 rfl hl (by decide) rfl (fun ls hl => ?_)
        have hL_39 : ∀ (fu : Nat) (p1 : Nat) (hp : p1 ≤ n), n - p1 < fu → ∀ (H : Heap) (locs : List Loc), va_P D vwCl (wX6 q6 cI cJ cB kinds_6 f (ordF (fun p q => decide (0 < cmpK f p q 0 (1 + ks.length))) places_6 p1) (nI ks.length) worthWon_6 worthDrawn_6 worthLost_6 ++ wX4 q4 cI cJ cB parts_4 wins_4 draws_4 points_4 count_4 changes_4) H → va_D A (wX6 q6 cI cJ cB kinds_6 f (ordF (fun p q => decide (0 < cmpK f p q 0 (1 + ks.length))) places_6 p1) (nI ks.length) worthWon_6 worthDrawn_6 worthLost_6 ++ wX4 q4 cI cJ cB parts_4 wins_4 draws_4 points_4 count_4 changes_4) → va_S A s.heap H locs → ∀ (ls : Array Slot), lv_has ls 4 [(0, .ref (q6 0)), (1, .ref (q4 0)), (2, .int (nI n)), (3, .int (nI p1))] → W p l e (headSpec wsX6_arrange rmX6_arrange).room s m args below meth c H locs 0 0 Q (F0 m 39 ls []) := by
          intro fu
          induction fu with
          | zero => intro p1 hp hfu; exact absurd hfu (Nat.not_lt_zero _)
          | succ fu ih_39 =>
            intro p1 hp hfu H locs hP hD hS ls hl
            refine lv_iload_n hx hb dX6_arrange_39 rfl (lv_at hl 3 rfl) ?_
            refine lv_iload_n hx hb dX6_arrange_40 rfl (lv_at hl 2 rfl) ?_
            refine lv_icmp_ge (tgt := 55) hx hb dX6_arrange_41 (by decide) (fun c_41 => ?_) (fun c_41 => ?_)
            · skip
              have c_41 := k_ge (by omega) (by omega) c_41
              obtain rfl : n = p1 := by omega
              subst hQ; subst hAe
              exact W.vret hx hb hr (fun t ht _ => ⟨⟨(f, ordF (fun p q => decide (0 < cmpK f p q 0 (1 + ks.length))) places_6 n), rfl, ⟨hg, rfl⟩, by rw [ht]; exact hP, hD⟩, hS.F ht⟩) hS.2.2 dX6_arrange_55
            · skip
              have c_41 := k_ge_n (by omega) (by omega) c_41
              refine lv_aload_n hx hb dX6_arrange_44 rfl (lv_at hl 0 rfl) ?_
              refine lv_iload_n hx hb dX6_arrange_45 rfl (lv_at hl 3 rfl) ?_
              have hs_46 : kSplit (wX6 q6 cI cJ cB kinds_6 f (ordF (fun p q => decide (0 < cmpK f p q 0 (1 + ks.length))) places_6 p1) (nI ks.length) worthWon_6 worthDrawn_6 worthLost_6 ++ wX4 q4 cI cJ cB parts_4 wins_4 draws_4 points_4 count_4 changes_4) (wX6 q6 cI cJ cB kinds_6 f (ordF (fun p q => decide (0 < cmpK f p q 0 (1 + ks.length))) places_6 p1) (nI ks.length) worthWon_6 worthDrawn_6 worthLost_6) (wX4 q4 cI cJ cB parts_4 wins_4 draws_4 points_4 count_4 changes_4) [0, 1, 2, 3] [4, 5, 6, 7, 8] := ⟨rfl, rfl, rfl, rfl, rfl, by decide⟩
              refine kc_v hP hD hS hA hs_46 (kV (As := [.int (nI p1)]) (rest := []) hx hb hml hown hts hKW hP hD hs_46 (c_X6_putInPlace l D cI cJ cB q6 kinds_6 f (ordF (fun p q => decide (0 < cmpK f p q 0 (1 + ks.length))) places_6 p1) worthWon_6 worthDrawn_6 worthLost_6 ks.length p1 (by first | assumption | omega) (by first | assumption | omega) (ordF_ok _ places_6 10 p1 (by omega))) (cwV 1 hts gX6_arrange_X6_putInPlace rfl rfl rfl (by decide +kernel) ⟨Nat.le_of_ble_eq_true rfl, Nat.le_of_ble_eq_true rfl⟩) 0 6 rfl rfl rfl rfl hl.1 rfl (Nat.le_of_ble_eq_true rfl) dX6_arrange_46 ⟨Nat.zero_le _, Nat.zero_le _⟩) (fun u_46 H locs hw_46 hP hD hS => ?_)
              obtain ⟨places_6_46, rfl⟩ : ∃ z, z = u_46 := ⟨_, rfl⟩
              have e_places_6_46 := hw_46
              subst e_places_6_46
              have hP : va_P D vwCl (wX6 q6 cI cJ cB kinds_6 f (insAt (fun p q => decide (0 < cmpK f p q 0 (1 + ks.length))) p1 p1 (ordF (fun p q => decide (0 < cmpK f p q 0 (1 + ks.length))) places_6 p1)) (nI ks.length) worthWon_6 worthDrawn_6 worthLost_6 ++ wX4 q4 cI cJ cB parts_4 wins_4 draws_4 points_4 count_4 changes_4) H := hP.sub (ws' := (wX6 q6 cI cJ cB kinds_6 f (insAt (fun p q => decide (0 < cmpK f p q 0 (1 + ks.length))) p1 p1 (ordF (fun p q => decide (0 < cmpK f p q 0 (1 + ks.length))) places_6 p1)) (nI ks.length) worthWon_6 worthDrawn_6 worthLost_6 ++ wX4 q4 cI cJ cB parts_4 wins_4 draws_4 points_4 count_4 changes_4)) [5, 6, 7, 8, 0, 1, 2, 3, 4] rfl
              have hD : va_D A (wX6 q6 cI cJ cB kinds_6 f (insAt (fun p q => decide (0 < cmpK f p q 0 (1 + ks.length))) p1 p1 (ordF (fun p q => decide (0 < cmpK f p q 0 (1 + ks.length))) places_6 p1)) (nI ks.length) worthWon_6 worthDrawn_6 worthLost_6 ++ wX4 q4 cI cJ cB parts_4 wins_4 draws_4 points_4 count_4 changes_4) := hD.sub (ws' := (wX6 q6 cI cJ cB kinds_6 f (insAt (fun p q => decide (0 < cmpK f p q 0 (1 + ks.length))) p1 p1 (ordF (fun p q => decide (0 < cmpK f p q 0 (1 + ks.length))) places_6 p1)) (nI ks.length) worthWon_6 worthDrawn_6 worthLost_6 ++ wX4 q4 cI cJ cB parts_4 wins_4 draws_4 points_4 count_4 changes_4)) [5, 6, 7, 8, 0, 1, 2, 3, 4] (by decide) rfl
              refine lv_iinc (v := nI (p1 + 1)) (lv' := [(3, .int (nI (p1 + 1))), (0, .ref (q6 0)), (1, .ref (q4 0)), (2, .int (nI n))]) hx hb dX6_arrange_49 hl (k := 3) rfl (nI_add _ _) (by decide) rfl (fun ls hl => ?_)
              refine lv_goto (tgt := 39) hx hb dX6_arrange_52 (by decide) ?_
              exact ih_39 (p1 + 1) (by omega) (by omega) _ _ hP hD hS ls (lv_sub hl [1, 2, 3, 0] rfl)
        exact hL_39 _ 0 (Nat.zero_le _) (Nat.lt_succ_self _) _ _ hP hD hS ls (lv_sub hl [1, 2, 3, 0] rfl)
      · skip
        have c_13 := k_ge_n (by omega) (by omega) c_13
        refine lv_aload_n hx hb dX6_arrange_16 rfl (lv_at hl 0 rfl) ?_
        refine lv_aload_n hx hb dX6_arrange_17 rfl (lv_at hl 1 rfl) ?_
        refine lv_iload_n hx hb dX6_arrange_18 rfl (lv_at hl 2 rfl) ?_
        refine lv_aload_n hx hb dX6_arrange_19 rfl (lv_at hl 0 rfl) ?_
        refine k_get (ci := 6) (v := .ref (q6 1)) (C := RX6) (Tb := TX6) (N := 7) hx hb hts hu_6 hown hKW hP 0 rfl rfl 0 (by decide) hf_9 rfl rfl dX6_arrange_20 ?_
        refine lv_iload_n hx hb dX6_arrange_23 rfl (lv_at hl 3 rfl) ?_
        refine k_iald (n := 4) (i := j) hx hb hKW hP 1 0 rfl rfl (by omega) (by omega) dX6_arrange_24 ?_
        refine k_top (y := nI (ks.getD j 0)) (hki j c_13) ?_
        refine lv_iload_n hx hb dX6_arrange_25 rfl (lv_at hl 3 rfl) ?_
        refine lv_iconst (v := nI 1) hx hb dX6_arrange_26 (by decide) ?_
        refine k_iadd hx hb dX6_arrange_27 ?_
        have hs_28 : kSplit (wX6 q6 cI cJ cB kinds_6 f places_6 (nI ks.length) worthWon_6 worthDrawn_6 worthLost_6 ++ wX4 q4 cI cJ cB parts_4 wins_4 draws_4 points_4 count_4 changes_4) (wX6 q6 cI cJ cB kinds_6 f places_6 (nI ks.length) worthWon_6 worthDrawn_6 worthLost_6 ++ wX4 q4 cI cJ cB parts_4 wins_4 draws_4 points_4 count_4 changes_4) ([] : va_W) [0, 1, 2, 3, 4, 5, 6, 7, 8] [] := ⟨rfl, rfl, rfl, rfl, rfl, by decide⟩
        refine kc_v hP hD hS hA hs_28 (kV (As := [.ref (q4 0), .int (nI n), .int (nI (ks.getD j 0)), .int (nI (j + 1))]) (rest := []) hx hb hml hown hts hKW hP hD hs_28 (c_X6_fillKey l D cI cJ cB q6 q4 kinds_6 f places_6 (nI ks.length) worthWon_6 worthDrawn_6 worthLost_6 parts_4 wins_4 draws_4 points_4 count_4 changes_4 ml n (ks.getD j 0) (j + 1) (by first | assumption | omega) (by first | assumption | omega) (hk6 _ (gD_mem c_13)) (by omega) (by omega)) (cwV 4 hts gX6_arrange_X6_fillKey rfl rfl rfl (by decide +kernel) ⟨Nat.le_of_ble_eq_true rfl, Nat.le_of_ble_eq_true rfl⟩) 0 6 rfl rfl rfl rfl hl.1 rfl (Nat.le_of_ble_eq_true rfl) dX6_arrange_28 ⟨Nat.zero_le _, Nat.zero_le _⟩) (fun u_28 H locs hw_28 hP hD hS => ?_)
        obtain ⟨keys_6_28, rfl⟩ : ∃ z, z = u_28 := ⟨_, rfl⟩
        have hP : va_P D vwCl (wX6 q6 cI cJ cB kinds_6 keys_6_28 places_6 (nI ks.length) worthWon_6 worthDrawn_6 worthLost_6 ++ wX4 q4 cI cJ cB parts_4 wins_4 draws_4 points_4 count_4 changes_4) H := hP.sub (ws' := (wX6 q6 cI cJ cB kinds_6 keys_6_28 places_6 (nI ks.length) worthWon_6 worthDrawn_6 worthLost_6 ++ wX4 q4 cI cJ cB parts_4 wins_4 draws_4 points_4 count_4 changes_4)) [0, 1, 2, 3, 4, 5, 6, 7, 8] rfl
        have hD : va_D A (wX6 q6 cI cJ cB kinds_6 keys_6_28 places_6 (nI ks.length) worthWon_6 worthDrawn_6 worthLost_6 ++ wX4 q4 cI cJ cB parts_4 wins_4 draws_4 points_4 count_4 changes_4) := hD.sub (ws' := (wX6 q6 cI cJ cB kinds_6 keys_6_28 places_6 (nI ks.length) worthWon_6 worthDrawn_6 worthLost_6 ++ wX4 q4 cI cJ cB parts_4 wins_4 draws_4 points_4 count_4 changes_4)) [0, 1, 2, 3, 4, 5, 6, 7, 8] (by decide) rfl
        refine lv_iinc (v := nI (j + 1)) (lv' := [(3, .int (nI (j + 1))), (0, .ref (q6 0)), (1, .ref (q4 0)), (2, .int (nI n))]) hx hb dX6_arrange_31 hl (k := 3) rfl (nI_add _ _) (by decide) rfl (fun ls hl => ?_)
        refine lv_goto (tgt := 8) hx hb dX6_arrange_34 (by decide) ?_
        exact ih_8 _ _ (by omega) (KM_next hn10 hg hw_28.1 hw_28.2) (by omega) _ _ hP hD hS ls (lv_sub hl [1, 2, 3, 0] rfl)
  exact hL_8 _ 0 _ (Nat.zero_le _) (⟨hw_3.1, fun i hi => absurd hi (Nat.not_lt_zero i)⟩) (Nat.lt_succ_self _) _ _ hP hD hS ls (lv_sub hl [1, 2, 3, 0] rfl)
