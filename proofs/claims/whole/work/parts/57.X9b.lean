def rmX9_heaps : Room := { frames := 4, cells := 0, slots := 0, locals := 95 }
set_option maxHeartbeats 4000000 in
set_option maxRecDepth 100000 in
theorem c_X9_heaps (l : Launch) (D : va_G) (cI cJ cB : ClassId) (q9 : Nat → Nat) (q4 : Nat → Nat) (q7 : Nat → Nat) (q8 : Nat → Nat) (q0 : Nat → Nat) (q6 : Nat → Nat) (q3 : Nat → Nat) (q2 : Nat → Nat) (q5 : Nat → Nat) (q1 : Nat → Nat) (reached_3 : Nat → Int32) (heapNumbers_3 : Nat → Int32) (parts_4 : Nat → Int32) (wins_4 : Nat → Int32) (draws_4 : Nat → Int32) (points_4 : Nat → Int32) (count_4 : Int32) (changes_4 : Int32) (ml : List Mt) (n : Nat) (hM : MR parts_4 wins_4 draws_4 points_4 ml) (hm120 : ml.length ≤ 120) (hn1 : 1 ≤ n) (hn10 : n ≤ 10) : ∀ sz, Met l yX9_heaps wsX9_heaps rmX9_heaps (va_Pc [.ref (q9 0)] (PW D (kT cI cJ cB) sz (wX9 q9 q4 q7 q8 q0 q6 q3 q2 q5 q1 cI cJ cB (nI n) ++ wX3 q3 cI cJ cB reached_3 heapNumbers_3 ++ wX4 q4 cI cJ cB parts_4 wins_4 draws_4 points_4 count_4 changes_4))) (va_Qi (S := (Nat → Int32) × (Nat → Int32)) (fun r uu => match uu with | (reached_3', heapNumbers_3') => ∃ h0, r = nI (spF (wB n (fun a => rA ml a n) n) n n 0 0 h0).1) (QW D sz (wX9 q9 q4 q7 q8 q0 q6 q3 q2 q5 q1 cI cJ cB (nI n) ++ wX3 q3 cI cJ cB reached_3 heapNumbers_3 ++ wX4 q4 cI cJ cB parts_4 wins_4 draws_4 points_4 count_4 changes_4) (fun uu => match uu with | (reached_3', heapNumbers_3') => (wX9 q9 q4 q7 q8 q0 q6 q3 q2 q5 q1 cI cJ cB (nI n) ++ wX3 q3 cI cJ cB reached_3' heapNumbers_3' ++ wX4 q4 cI cJ cB parts_4 wins_4 draws_4 points_4 count_4 changes_4))) (va_A (wX9 q9 q4 q7 q8 q0 q6 q3 q2 q5 q1 cI cJ cB (nI n) ++ wX3 q3 cI cJ cB reached_3 heapNumbers_3 ++ wX4 q4 cI cJ cB parts_4 wins_4 draws_4 points_4 count_4 changes_4) sz)) 0 0 (va_A (wX9 q9 q4 q7 q8 q0 q6 q3 q2 q5 q1 cI cJ cB (nI n) ++ wX3 q3 cI cJ cB reached_3 heapNumbers_3 ++ wX4 q4 cI cJ cB parts_4 wins_4 draws_4 points_4 count_4 changes_4) sz) := by
  intro sz
  refine Met.ofW (cc := cX9_heaps) (maxL := 1) (ret := (some .int)) (by decide) rfl ?_
  intro p e s m args below meth c s₁ B hml hv
  obtain ⟨hav, hsz, hP, hKW, hD0⟩ := hv
  have hx := B.exec
  have hb := B.bytes
  have hr := B.returns
  have hts := atoms_spec (ws := wsX9_heaps) B.pre
  have hown : s.vm.findClass RX9 = some m.cls := findClass_of_methodNamed B.named
  have hlocks := B.notSynchronized
  subst hsz
  have hD := hD0.self (sz := s.heap.size)
  obtain ⟨A, hAe⟩ : ∃ A : Nat → Prop, A = va_A (wX9 q9 q4 q7 q8 q0 q6 q3 q2 q5 q1 cI cJ cB (nI n) ++ wX3 q3 cI cJ cB reached_3 heapNumbers_3 ++ wX4 q4 cI cJ cB parts_4 wins_4 draws_4 points_4 count_4 changes_4) s.heap.size := ⟨_, rfl⟩
  rw [← hAe] at hD
  have hA : ∀ q : Nat, s.heap.size ≤ q → A q := fun q h => by rw [hAe]; exact Or.inr h
  have hS : va_S A s.heap s.heap [] := va_S.rf
  refine k_gen (fun Q hQ => ?_)
  have hl := lv_entry ([.ref (q9 0)]) (n := 1) (Nat.le_of_ble_eq_true rfl)
  refine k_entry hav (lg_entry_eq ..) ?_
  generalize (lg_sl ([.ref (q9 0)]) ++ List.replicate (1 - (lg_sl ([.ref (q9 0)])).length) Slot.unset).toArray = ls at hl ⊢
  have hl : lv_has ls 1 [(0, .ref (q9 0))] := hl
  have hu_9 : ∀ w ∈ u_ws RX9 TX9 10, w ∈ wsX9_heaps := by decide +kernel
  have hf_12 : Cond.fieldLink RX9 12 "MeetingRanks" "meetings" "LMeetingRanks$Meetings;" ∈ wsX9_heaps := by decide +kernel
  have hf_47 : Cond.fieldLink RX9 47 "MeetingRanks" "heapSearch" "LMeetingRanks$HeapSearch;" ∈ wsX9_heaps := by decide +kernel
  have hf_72 : Cond.fieldLink RX9 72 "MeetingRanks" "players" "I" ∈ wsX9_heaps := by decide +kernel
  refine lv_aload_n hx hb dX9_heaps_0 rfl (lv_at hl 0 rfl) ?_
  refine k_get (ci := 9) (v := .ref (q3 0)) (C := RX9) (Tb := TX9) (N := 10) hx hb hts hu_9 hown hKW hP 0 rfl rfl 5 (by decide) hf_47 rfl rfl dX9_heaps_1 ?_
  refine lv_aload_n hx hb dX9_heaps_4 rfl (lv_at hl 0 rfl) ?_
  refine k_get (ci := 9) (v := .ref (q4 0)) (C := RX9) (Tb := TX9) (N := 10) hx hb hts hu_9 hown hKW hP 0 rfl rfl 0 (by decide) hf_12 rfl rfl dX9_heaps_5 ?_
  refine lv_aload_n hx hb dX9_heaps_8 rfl (lv_at hl 0 rfl) ?_
  refine k_get (ci := 9) (v := .int (nI n)) (C := RX9) (Tb := TX9) (N := 10) hx hb hts hu_9 hown hKW hP 0 rfl rfl 9 (by decide) hf_72 rfl rfl dX9_heaps_9 ?_
  have hs_12 : kSplit (wX9 q9 q4 q7 q8 q0 q6 q3 q2 q5 q1 cI cJ cB (nI n) ++ wX3 q3 cI cJ cB reached_3 heapNumbers_3 ++ wX4 q4 cI cJ cB parts_4 wins_4 draws_4 points_4 count_4 changes_4) (wX3 q3 cI cJ cB reached_3 heapNumbers_3 ++ wX4 q4 cI cJ cB parts_4 wins_4 draws_4 points_4 count_4 changes_4) (wX9 q9 q4 q7 q8 q0 q6 q3 q2 q5 q1 cI cJ cB (nI n)) [1, 2, 3, 4, 5, 6, 7, 8] [0] := ⟨rfl, rfl, rfl, rfl, rfl, by decide⟩
  refine kc_i hP hD hS hA hs_12 (kV (As := [.ref (q4 0), .int (nI n)]) (rest := []) hx hb hml hown hts hKW hP hD hs_12 (c_X3_split l D cI cJ cB q3 q4 reached_3 heapNumbers_3 parts_4 wins_4 draws_4 points_4 count_4 changes_4 ml n (by first | assumption | omega) (by first | assumption | omega) (by first | assumption | omega) (by first | assumption | omega)) (cwV 2 hts gX9_heaps_X3_split rfl rfl rfl (by decide +kernel) ⟨Nat.le_of_ble_eq_true rfl, Nat.le_of_ble_eq_true rfl⟩) 0 3 rfl rfl rfl rfl hl.1 rfl (Nat.le_of_ble_eq_true rfl) dX9_heaps_12 ⟨Nat.zero_le _, Nat.zero_le _⟩) (fun r_12 u_12 H locs hw_12 hP hD hS => ?_)
  obtain ⟨reached_3_12, heapNumbers_3_12⟩ := u_12
  have hP : va_P D vwCl (wX9 q9 q4 q7 q8 q0 q6 q3 q2 q5 q1 cI cJ cB (nI n) ++ wX3 q3 cI cJ cB reached_3_12 heapNumbers_3_12 ++ wX4 q4 cI cJ cB parts_4 wins_4 draws_4 points_4 count_4 changes_4) H := hP.sub (ws' := (wX9 q9 q4 q7 q8 q0 q6 q3 q2 q5 q1 cI cJ cB (nI n) ++ wX3 q3 cI cJ cB reached_3_12 heapNumbers_3_12 ++ wX4 q4 cI cJ cB parts_4 wins_4 draws_4 points_4 count_4 changes_4)) [0, 1, 2, 3, 4, 5, 6, 7, 8] rfl
  have hD : va_D A (wX9 q9 q4 q7 q8 q0 q6 q3 q2 q5 q1 cI cJ cB (nI n) ++ wX3 q3 cI cJ cB reached_3_12 heapNumbers_3_12 ++ wX4 q4 cI cJ cB parts_4 wins_4 draws_4 points_4 count_4 changes_4) := hD.sub (ws' := (wX9 q9 q4 q7 q8 q0 q6 q3 q2 q5 q1 cI cJ cB (nI n) ++ wX3 q3 cI cJ cB reached_3_12 heapNumbers_3_12 ++ wX4 q4 cI cJ cB parts_4 wins_4 draws_4 points_4 count_4 changes_4)) [0, 1, 2, 3, 4, 5, 6, 7, 8] (by decide) rfl
  subst hQ; subst hAe
  exact W.iret (v := r_12) hx hb hr (fun tt9 ht9 _ => ⟨⟨r_12, (reached_3_12, heapNumbers_3_12), rfl, ⟨_, hw_12.1⟩, by rw [ht9]; exact hP, hD⟩, hS.F ht9⟩) hS.2.2 dX9_heaps_15
def rmX9_heap : Room := { frames := 4, cells := 0, slots := 0, locals := 95 }
set_option maxHeartbeats 4000000 in
set_option maxRecDepth 100000 in
theorem c_X9_heap (l : Launch) (D : va_G) (cI cJ cB : ClassId) (q9 : Nat → Nat) (q4 : Nat → Nat) (q7 : Nat → Nat) (q8 : Nat → Nat) (q0 : Nat → Nat) (q6 : Nat → Nat) (q3 : Nat → Nat) (q2 : Nat → Nat) (q5 : Nat → Nat) (q1 : Nat → Nat) (reached_3 : Nat → Int32) (heapNumbers_3 : Nat → Int32) (parts_4 : Nat → Int32) (wins_4 : Nat → Int32) (draws_4 : Nat → Int32) (points_4 : Nat → Int32) (count_4 : Int32) (changes_4 : Int32) (ml : List Mt) (n : Nat) (x : Int32) (hM : MR parts_4 wins_4 draws_4 points_4 ml) (hm120 : ml.length ≤ 120) (hn1 : 1 ≤ n) (hn10 : n ≤ 10) : ∀ sz, Met l yX9_heap wsX9_heap rmX9_heap (va_Pc [.ref (q9 0), .int x] (PW D (kT cI cJ cB) sz (wX9 q9 q4 q7 q8 q0 q6 q3 q2 q5 q1 cI cJ cB (nI n) ++ wX3 q3 cI cJ cB reached_3 heapNumbers_3 ++ wX4 q4 cI cJ cB parts_4 wins_4 draws_4 points_4 count_4 changes_4))) (va_Qi (S := (Nat → Int32) × (Nat → Int32)) (fun r uu => match uu with | (reached_3', heapNumbers_3') => ∃ h0, r = if kIn x n then (spF (wB n (fun a => rA ml a n) n) n n 0 0 h0).2 x.toInt.toNat else -1) (QW D sz (wX9 q9 q4 q7 q8 q0 q6 q3 q2 q5 q1 cI cJ cB (nI n) ++ wX3 q3 cI cJ cB reached_3 heapNumbers_3 ++ wX4 q4 cI cJ cB parts_4 wins_4 draws_4 points_4 count_4 changes_4) (fun uu => match uu with | (reached_3', heapNumbers_3') => (wX9 q9 q4 q7 q8 q0 q6 q3 q2 q5 q1 cI cJ cB (nI n) ++ wX3 q3 cI cJ cB reached_3' heapNumbers_3' ++ wX4 q4 cI cJ cB parts_4 wins_4 draws_4 points_4 count_4 changes_4))) (va_A (wX9 q9 q4 q7 q8 q0 q6 q3 q2 q5 q1 cI cJ cB (nI n) ++ wX3 q3 cI cJ cB reached_3 heapNumbers_3 ++ wX4 q4 cI cJ cB parts_4 wins_4 draws_4 points_4 count_4 changes_4) sz)) 0 0 (va_A (wX9 q9 q4 q7 q8 q0 q6 q3 q2 q5 q1 cI cJ cB (nI n) ++ wX3 q3 cI cJ cB reached_3 heapNumbers_3 ++ wX4 q4 cI cJ cB parts_4 wins_4 draws_4 points_4 count_4 changes_4) sz) := by
  intro sz
  refine Met.ofW (cc := cX9_heap) (maxL := 2) (ret := (some .int)) (by decide) rfl ?_
  intro p e s m args below meth c s₁ B hml hv
  obtain ⟨hav, hsz, hP, hKW, hD0⟩ := hv
  have hx := B.exec
  have hb := B.bytes
  have hr := B.returns
  have hts := atoms_spec (ws := wsX9_heap) B.pre
  have hown : s.vm.findClass RX9 = some m.cls := findClass_of_methodNamed B.named
  have hlocks := B.notSynchronized
  subst hsz
  have hD := hD0.self (sz := s.heap.size)
  obtain ⟨A, hAe⟩ : ∃ A : Nat → Prop, A = va_A (wX9 q9 q4 q7 q8 q0 q6 q3 q2 q5 q1 cI cJ cB (nI n) ++ wX3 q3 cI cJ cB reached_3 heapNumbers_3 ++ wX4 q4 cI cJ cB parts_4 wins_4 draws_4 points_4 count_4 changes_4) s.heap.size := ⟨_, rfl⟩
  rw [← hAe] at hD
  have hA : ∀ q : Nat, s.heap.size ≤ q → A q := fun q h => by rw [hAe]; exact Or.inr h
  have hS : va_S A s.heap s.heap [] := va_S.rf
  refine k_gen (fun Q hQ => ?_)
  have hl := lv_entry ([.ref (q9 0), .int x]) (n := 2) (Nat.le_of_ble_eq_true rfl)
  refine k_entry hav (lg_entry_eq ..) ?_
  generalize (lg_sl ([.ref (q9 0), .int x]) ++ List.replicate (2 - (lg_sl ([.ref (q9 0), .int x])).length) Slot.unset).toArray = ls at hl ⊢
  have hl : lv_has ls 2 [(0, .ref (q9 0)), (1, .int x)] := hl
  have hu_9 : ∀ w ∈ u_ws RX9 TX9 10, w ∈ wsX9_heap := by decide +kernel
  have hf_12 : Cond.fieldLink RX9 12 "MeetingRanks" "meetings" "LMeetingRanks$Meetings;" ∈ wsX9_heap := by decide +kernel
  have hf_47 : Cond.fieldLink RX9 47 "MeetingRanks" "heapSearch" "LMeetingRanks$HeapSearch;" ∈ wsX9_heap := by decide +kernel
  have hf_72 : Cond.fieldLink RX9 72 "MeetingRanks" "players" "I" ∈ wsX9_heap := by decide +kernel
  refine lv_aload_n hx hb dX9_heap_0 rfl (lv_at hl 0 rfl) ?_
  refine lv_iload_n hx hb dX9_heap_1 rfl (lv_at hl 1 rfl) ?_
  have hs_2 : kSplit (wX9 q9 q4 q7 q8 q0 q6 q3 q2 q5 q1 cI cJ cB (nI n) ++ wX3 q3 cI cJ cB reached_3 heapNumbers_3 ++ wX4 q4 cI cJ cB parts_4 wins_4 draws_4 points_4 count_4 changes_4) (wX9 q9 q4 q7 q8 q0 q6 q3 q2 q5 q1 cI cJ cB (nI n)) (wX3 q3 cI cJ cB reached_3 heapNumbers_3 ++ wX4 q4 cI cJ cB parts_4 wins_4 draws_4 points_4 count_4 changes_4) [0] [1, 2, 3, 4, 5, 6, 7, 8] := ⟨rfl, rfl, rfl, rfl, rfl, by decide⟩
  refine kc_i hP hD hS hA hs_2 (kV (As := [.int x]) (rest := []) hx hb hml hown hts hKW hP hD hs_2 (c_X9_isPlayer l D cI cJ cB q9 q4 q7 q8 q0 q6 q3 q2 q5 q1 n x (by first | assumption | omega)) (cwV 1 hts gX9_heap_X9_isPlayer rfl rfl rfl (by decide +kernel) ⟨Nat.le_of_ble_eq_true rfl, Nat.le_of_ble_eq_true rfl⟩) 0 9 rfl rfl rfl rfl hl.1 rfl (Nat.le_of_ble_eq_true rfl) dX9_heap_2 ⟨Nat.zero_le _, Nat.zero_le _⟩) (fun r_2 u_2 H locs hw_2 hP hD hS => ?_)
  have er_2 := hw_2
  have er_2 := er_2.symm
  subst er_2
  have hP : va_P D vwCl (wX9 q9 q4 q7 q8 q0 q6 q3 q2 q5 q1 cI cJ cB (nI n) ++ wX3 q3 cI cJ cB reached_3 heapNumbers_3 ++ wX4 q4 cI cJ cB parts_4 wins_4 draws_4 points_4 count_4 changes_4) H := hP.sub (ws' := (wX9 q9 q4 q7 q8 q0 q6 q3 q2 q5 q1 cI cJ cB (nI n) ++ wX3 q3 cI cJ cB reached_3 heapNumbers_3 ++ wX4 q4 cI cJ cB parts_4 wins_4 draws_4 points_4 count_4 changes_4)) [8, 0, 1, 2, 3, 4, 5, 6, 7] rfl
  have hD : va_D A (wX9 q9 q4 q7 q8 q0 q6 q3 q2 q5 q1 cI cJ cB (nI n) ++ wX3 q3 cI cJ cB reached_3 heapNumbers_3 ++ wX4 q4 cI cJ cB parts_4 wins_4 draws_4 points_4 count_4 changes_4) := hD.sub (ws' := (wX9 q9 q4 q7 q8 q0 q6 q3 q2 q5 q1 cI cJ cB (nI n) ++ wX3 q3 cI cJ cB reached_3 heapNumbers_3 ++ wX4 q4 cI cJ cB parts_4 wins_4 draws_4 points_4 count_4 changes_4)) [8, 0, 1, 2, 3, 4, 5, 6, 7] (by decide) rfl
  refine lv_if_ne (tgt := 10) hx hb dX9_heap_5 (by decide) (fun c_5 => ?_) (fun c_5 => ?_)
  · skip
    have c_5 := k_b1 c_5
    obtain ⟨x, hx2, rfl⟩ := kIn_nat c_5
    refine lv_aload_n hx hb dX9_heap_10 rfl (lv_at hl 0 rfl) ?_
    refine k_get (ci := 9) (v := .ref (q3 0)) (C := RX9) (Tb := TX9) (N := 10) hx hb hts hu_9 hown hKW hP 0 rfl rfl 5 (by decide) hf_47 rfl rfl dX9_heap_11 ?_
    refine lv_aload_n hx hb dX9_heap_14 rfl (lv_at hl 0 rfl) ?_
    refine k_get (ci := 9) (v := .ref (q4 0)) (C := RX9) (Tb := TX9) (N := 10) hx hb hts hu_9 hown hKW hP 0 rfl rfl 0 (by decide) hf_12 rfl rfl dX9_heap_15 ?_
    refine lv_aload_n hx hb dX9_heap_18 rfl (lv_at hl 0 rfl) ?_
    refine k_get (ci := 9) (v := .int (nI n)) (C := RX9) (Tb := TX9) (N := 10) hx hb hts hu_9 hown hKW hP 0 rfl rfl 9 (by decide) hf_72 rfl rfl dX9_heap_19 ?_
    have hs_22 : kSplit (wX9 q9 q4 q7 q8 q0 q6 q3 q2 q5 q1 cI cJ cB (nI n) ++ wX3 q3 cI cJ cB reached_3 heapNumbers_3 ++ wX4 q4 cI cJ cB parts_4 wins_4 draws_4 points_4 count_4 changes_4) (wX3 q3 cI cJ cB reached_3 heapNumbers_3 ++ wX4 q4 cI cJ cB parts_4 wins_4 draws_4 points_4 count_4 changes_4) (wX9 q9 q4 q7 q8 q0 q6 q3 q2 q5 q1 cI cJ cB (nI n)) [1, 2, 3, 4, 5, 6, 7, 8] [0] := ⟨rfl, rfl, rfl, rfl, rfl, by decide⟩
    refine kc_i hP hD hS hA hs_22 (kV (As := [.ref (q4 0), .int (nI n)]) (rest := []) hx hb hml hown hts hKW hP hD hs_22 (c_X3_split l D cI cJ cB q3 q4 reached_3 heapNumbers_3 parts_4 wins_4 draws_4 points_4 count_4 changes_4 ml n (by first | assumption | omega) (by first | assumption | omega) (by first | assumption | omega) (by first | assumption | omega)) (cwV 2 hts gX9_heap_X3_split rfl rfl rfl (by decide +kernel) ⟨Nat.le_of_ble_eq_true rfl, Nat.le_of_ble_eq_true rfl⟩) 0 3 rfl rfl rfl rfl hl.1 rfl (Nat.le_of_ble_eq_true rfl) dX9_heap_22 ⟨Nat.zero_le _, Nat.zero_le _⟩) (fun r_22 u_22 H locs hw_22 hP hD hS => ?_)
    obtain ⟨reached_3_22, heapNumbers_3_22⟩ := u_22
    have hP : va_P D vwCl (wX9 q9 q4 q7 q8 q0 q6 q3 q2 q5 q1 cI cJ cB (nI n) ++ wX3 q3 cI cJ cB reached_3_22 heapNumbers_3_22 ++ wX4 q4 cI cJ cB parts_4 wins_4 draws_4 points_4 count_4 changes_4) H := hP.sub (ws' := (wX9 q9 q4 q7 q8 q0 q6 q3 q2 q5 q1 cI cJ cB (nI n) ++ wX3 q3 cI cJ cB reached_3_22 heapNumbers_3_22 ++ wX4 q4 cI cJ cB parts_4 wins_4 draws_4 points_4 count_4 changes_4)) [0, 1, 2, 3, 4, 5, 6, 7, 8] rfl
    have hD : va_D A (wX9 q9 q4 q7 q8 q0 q6 q3 q2 q5 q1 cI cJ cB (nI n) ++ wX3 q3 cI cJ cB reached_3_22 heapNumbers_3_22 ++ wX4 q4 cI cJ cB parts_4 wins_4 draws_4 points_4 count_4 changes_4) := hD.sub (ws' := (wX9 q9 q4 q7 q8 q0 q6 q3 q2 q5 q1 cI cJ cB (nI n) ++ wX3 q3 cI cJ cB reached_3_22 heapNumbers_3_22 ++ wX4 q4 cI cJ cB parts_4 wins_4 draws_4 points_4 count_4 changes_4)) [0, 1, 2, 3, 4, 5, 6, 7, 8] (by decide) rfl
    refine lv_pop hx hb dX9_heap_25 rfl ?_
    refine lv_aload_n hx hb dX9_heap_26 rfl (lv_at hl 0 rfl) ?_
    refine k_get (ci := 9) (v := .ref (q3 0)) (C := RX9) (Tb := TX9) (N := 10) hx hb hts hu_9 hown hKW hP 0 rfl rfl 5 (by decide) hf_47 rfl rfl dX9_heap_27 ?_
    refine lv_iload_n hx hb dX9_heap_30 rfl (lv_at hl 1 rfl) ?_
    have hs_31 : kSplit (wX9 q9 q4 q7 q8 q0 q6 q3 q2 q5 q1 cI cJ cB (nI n) ++ wX3 q3 cI cJ cB reached_3_22 heapNumbers_3_22 ++ wX4 q4 cI cJ cB parts_4 wins_4 draws_4 points_4 count_4 changes_4) (wX3 q3 cI cJ cB reached_3_22 heapNumbers_3_22) (wX9 q9 q4 q7 q8 q0 q6 q3 q2 q5 q1 cI cJ cB (nI n) ++ wX4 q4 cI cJ cB parts_4 wins_4 draws_4 points_4 count_4 changes_4) [1, 2, 3] [0, 4, 5, 6, 7, 8] := ⟨rfl, rfl, rfl, rfl, rfl, by decide⟩
    refine kc_i hP hD hS hA hs_31 (kV (As := [.int (nI x)]) (rest := []) hx hb hml hown hts hKW hP hD hs_31 (c_X3_heapOf l D cI cJ cB q3 reached_3_22 heapNumbers_3_22 x (by first | assumption | omega)) (cwV 1 hts gX9_heap_X3_heapOf rfl rfl rfl (by decide +kernel) ⟨Nat.le_of_ble_eq_true rfl, Nat.le_of_ble_eq_true rfl⟩) 0 3 rfl rfl rfl rfl hl.1 rfl (Nat.le_of_ble_eq_true rfl) dX9_heap_31 ⟨Nat.zero_le _, Nat.zero_le _⟩) (fun r_31 u_31 H locs hw_31 hP hD hS => ?_)
    have er_31 := hw_31
    have er_31 := er_31.symm
    subst er_31
    have hP : va_P D vwCl (wX9 q9 q4 q7 q8 q0 q6 q3 q2 q5 q1 cI cJ cB (nI n) ++ wX3 q3 cI cJ cB reached_3_22 heapNumbers_3_22 ++ wX4 q4 cI cJ cB parts_4 wins_4 draws_4 points_4 count_4 changes_4) H := hP.sub (ws' := (wX9 q9 q4 q7 q8 q0 q6 q3 q2 q5 q1 cI cJ cB (nI n) ++ wX3 q3 cI cJ cB reached_3_22 heapNumbers_3_22 ++ wX4 q4 cI cJ cB parts_4 wins_4 draws_4 points_4 count_4 changes_4)) [0, 6, 7, 8, 1, 2, 3, 4, 5] rfl
    have hD : va_D A (wX9 q9 q4 q7 q8 q0 q6 q3 q2 q5 q1 cI cJ cB (nI n) ++ wX3 q3 cI cJ cB reached_3_22 heapNumbers_3_22 ++ wX4 q4 cI cJ cB parts_4 wins_4 draws_4 points_4 count_4 changes_4) := hD.sub (ws' := (wX9 q9 q4 q7 q8 q0 q6 q3 q2 q5 q1 cI cJ cB (nI n) ++ wX3 q3 cI cJ cB reached_3_22 heapNumbers_3_22 ++ wX4 q4 cI cJ cB parts_4 wins_4 draws_4 points_4 count_4 changes_4)) [0, 6, 7, 8, 1, 2, 3, 4, 5] (by decide) rfl
    subst hQ; subst hAe
    exact W.iret (v := heapNumbers_3_22 x) hx hb hr (fun tt9 ht9 _ => ⟨⟨heapNumbers_3_22 x, (reached_3_22, heapNumbers_3_22), rfl, ⟨heapNumbers_3, by rw [if_pos ((kIn_nI (by omega)).mpr hx2), k_tt (by omega), hw_22.2]⟩, by rw [ht9]; exact hP, hD⟩, hS.F ht9⟩) hS.2.2 dX9_heap_34
  · skip
    have c_5 := k_b0 c_5
    refine lv_iconst (v := (-1)) hx hb dX9_heap_8 (by decide) ?_
    subst hQ; subst hAe
    exact W.iret (v := (-1)) hx hb hr (fun tt9 ht9 _ => ⟨⟨(-1), (reached_3, heapNumbers_3), rfl, ⟨heapNumbers_3, (if_neg c_5).symm⟩, by rw [ht9]; exact hP, hD⟩, hS.F ht9⟩) hS.2.2 dX9_heap_9
def rmX9_bound : Room := { frames := 3, cells := 0, slots := 0, locals := 74 }
set_option maxHeartbeats 4000000 in
set_option maxRecDepth 100000 in
theorem c_X9_bound (l : Launch) (D : va_G) (cI cJ cB : ClassId) (q9 : Nat → Nat) (q4 : Nat → Nat) (q7 : Nat → Nat) (q8 : Nat → Nat) (q0 : Nat → Nat) (q6 : Nat → Nat) (q3 : Nat → Nat) (q2 : Nat → Nat) (q5 : Nat → Nat) (q1 : Nat → Nat) (beaten_1 : Nat → Int32) (unused_1 : Nat → Int32) (ways_1 : Nat → Int32) (lw_1 : Nat) (parts_4 : Nat → Int32) (wins_4 : Nat → Int32) (draws_4 : Nat → Int32) (points_4 : Nat → Int32) (count_4 : Int32) (changes_4 : Int32) (ml : List Mt) (n : Nat) (hM : MR parts_4 wins_4 draws_4 points_4 ml) (hm120 : ml.length ≤ 120) (hn1 : 1 ≤ n) (hn10 : n ≤ 10) : ∀ sz, Met l yX9_bound wsX9_bound rmX9_bound (va_Pc [.ref (q9 0)] (PW D (kT cI cJ cB) sz (wX9 q9 q4 q7 q8 q0 q6 q3 q2 q5 q1 cI cJ cB (nI n) ++ wX1 q1 cI cJ cB beaten_1 unused_1 ways_1 lw_1 ++ wX4 q4 cI cJ cB parts_4 wins_4 draws_4 points_4 count_4 changes_4))) (va_Qi (S := (Nat → Int32)) (fun r unused_1' => r = nI ((bd1 n n 0 (0, fun a b => ov ml a b)).1)) (QW D sz (wX9 q9 q4 q7 q8 q0 q6 q3 q2 q5 q1 cI cJ cB (nI n) ++ wX1 q1 cI cJ cB beaten_1 unused_1 ways_1 lw_1 ++ wX4 q4 cI cJ cB parts_4 wins_4 draws_4 points_4 count_4 changes_4) (fun unused_1' => (wX9 q9 q4 q7 q8 q0 q6 q3 q2 q5 q1 cI cJ cB (nI n) ++ wX1 q1 cI cJ cB beaten_1 unused_1' ways_1 lw_1 ++ wX4 q4 cI cJ cB parts_4 wins_4 draws_4 points_4 count_4 changes_4))) (va_A (wX9 q9 q4 q7 q8 q0 q6 q3 q2 q5 q1 cI cJ cB (nI n) ++ wX1 q1 cI cJ cB beaten_1 unused_1 ways_1 lw_1 ++ wX4 q4 cI cJ cB parts_4 wins_4 draws_4 points_4 count_4 changes_4) sz)) 0 0 (va_A (wX9 q9 q4 q7 q8 q0 q6 q3 q2 q5 q1 cI cJ cB (nI n) ++ wX1 q1 cI cJ cB beaten_1 unused_1 ways_1 lw_1 ++ wX4 q4 cI cJ cB parts_4 wins_4 draws_4 points_4 count_4 changes_4) sz) := by
  intro sz
  refine Met.ofW (cc := cX9_bound) (maxL := 1) (ret := (some .int)) (by decide) rfl ?_
  intro p e s m args below meth c s₁ B hml hv
  obtain ⟨hav, hsz, hP, hKW, hD0⟩ := hv
  have hx := B.exec
  have hb := B.bytes
  have hr := B.returns
  have hts := atoms_spec (ws := wsX9_bound) B.pre
  have hown : s.vm.findClass RX9 = some m.cls := findClass_of_methodNamed B.named
  have hlocks := B.notSynchronized
  subst hsz
  have hD := hD0.self (sz := s.heap.size)
  obtain ⟨A, hAe⟩ : ∃ A : Nat → Prop, A = va_A (wX9 q9 q4 q7 q8 q0 q6 q3 q2 q5 q1 cI cJ cB (nI n) ++ wX1 q1 cI cJ cB beaten_1 unused_1 ways_1 lw_1 ++ wX4 q4 cI cJ cB parts_4 wins_4 draws_4 points_4 count_4 changes_4) s.heap.size := ⟨_, rfl⟩
  rw [← hAe] at hD
  have hA : ∀ q : Nat, s.heap.size ≤ q → A q := fun q h => by rw [hAe]; exact Or.inr h
  have hS : va_S A s.heap s.heap [] := va_S.rf
  refine k_gen (fun Q hQ => ?_)
  have hl := lv_entry ([.ref (q9 0)]) (n := 1) (Nat.le_of_ble_eq_true rfl)
  refine k_entry hav (lg_entry_eq ..) ?_
  generalize (lg_sl ([.ref (q9 0)]) ++ List.replicate (1 - (lg_sl ([.ref (q9 0)])).length) Slot.unset).toArray = ls at hl ⊢
  have hl : lv_has ls 1 [(0, .ref (q9 0))] := hl
  have hu_9 : ∀ w ∈ u_ws RX9 TX9 10, w ∈ wsX9_bound := by decide +kernel
  have hf_12 : Cond.fieldLink RX9 12 "MeetingRanks" "meetings" "LMeetingRanks$Meetings;" ∈ wsX9_bound := by decide +kernel
  have hf_68 : Cond.fieldLink RX9 68 "MeetingRanks" "beating" "LMeetingRanks$Beating;" ∈ wsX9_bound := by decide +kernel
  have hf_72 : Cond.fieldLink RX9 72 "MeetingRanks" "players" "I" ∈ wsX9_bound := by decide +kernel
  refine lv_aload_n hx hb dX9_bound_0 rfl (lv_at hl 0 rfl) ?_
  refine k_get (ci := 9) (v := .ref (q1 0)) (C := RX9) (Tb := TX9) (N := 10) hx hb hts hu_9 hown hKW hP 0 rfl rfl 8 (by decide) hf_68 rfl rfl dX9_bound_1 ?_
  refine lv_aload_n hx hb dX9_bound_4 rfl (lv_at hl 0 rfl) ?_
  refine k_get (ci := 9) (v := .ref (q4 0)) (C := RX9) (Tb := TX9) (N := 10) hx hb hts hu_9 hown hKW hP 0 rfl rfl 0 (by decide) hf_12 rfl rfl dX9_bound_5 ?_
  refine lv_aload_n hx hb dX9_bound_8 rfl (lv_at hl 0 rfl) ?_
  refine k_get (ci := 9) (v := .int (nI n)) (C := RX9) (Tb := TX9) (N := 10) hx hb hts hu_9 hown hKW hP 0 rfl rfl 9 (by decide) hf_72 rfl rfl dX9_bound_9 ?_
  have hs_12 : kSplit (wX9 q9 q4 q7 q8 q0 q6 q3 q2 q5 q1 cI cJ cB (nI n) ++ wX1 q1 cI cJ cB beaten_1 unused_1 ways_1 lw_1 ++ wX4 q4 cI cJ cB parts_4 wins_4 draws_4 points_4 count_4 changes_4) (wX1 q1 cI cJ cB beaten_1 unused_1 ways_1 lw_1 ++ wX4 q4 cI cJ cB parts_4 wins_4 draws_4 points_4 count_4 changes_4) (wX9 q9 q4 q7 q8 q0 q6 q3 q2 q5 q1 cI cJ cB (nI n)) [1, 2, 3, 4, 5, 6, 7, 8, 9] [0] := ⟨rfl, rfl, rfl, rfl, rfl, by decide⟩
  refine kc_i hP hD hS hA hs_12 (kV (As := [.ref (q4 0), .int (nI n)]) (rest := []) hx hb hml hown hts hKW hP hD hs_12 (c_X1_countRings l D cI cJ cB q1 q4 beaten_1 unused_1 ways_1 lw_1 parts_4 wins_4 draws_4 points_4 count_4 changes_4 ml n (by first | assumption | omega) (by first | assumption | omega) (by first | assumption | omega)) (cwV 2 hts gX9_bound_X1_countRings rfl rfl rfl (by decide +kernel) ⟨Nat.le_of_ble_eq_true rfl, Nat.le_of_ble_eq_true rfl⟩) 0 1 rfl rfl rfl rfl hl.1 rfl (Nat.le_of_ble_eq_true rfl) dX9_bound_12 ⟨Nat.zero_le _, Nat.zero_le _⟩) (fun r_12 u_12 H locs hw_12 hP hD hS => ?_)
  obtain ⟨unused_1_12, rfl⟩ : ∃ z, z = u_12 := ⟨_, rfl⟩
  have er_12 := hw_12
  have er_12 := er_12.symm
  subst er_12
  have hP : va_P D vwCl (wX9 q9 q4 q7 q8 q0 q6 q3 q2 q5 q1 cI cJ cB (nI n) ++ wX1 q1 cI cJ cB beaten_1 unused_1_12 ways_1 lw_1 ++ wX4 q4 cI cJ cB parts_4 wins_4 draws_4 points_4 count_4 changes_4) H := hP.sub (ws' := (wX9 q9 q4 q7 q8 q0 q6 q3 q2 q5 q1 cI cJ cB (nI n) ++ wX1 q1 cI cJ cB beaten_1 unused_1_12 ways_1 lw_1 ++ wX4 q4 cI cJ cB parts_4 wins_4 draws_4 points_4 count_4 changes_4)) [0, 1, 2, 3, 4, 5, 6, 7, 8, 9] rfl
  have hD : va_D A (wX9 q9 q4 q7 q8 q0 q6 q3 q2 q5 q1 cI cJ cB (nI n) ++ wX1 q1 cI cJ cB beaten_1 unused_1_12 ways_1 lw_1 ++ wX4 q4 cI cJ cB parts_4 wins_4 draws_4 points_4 count_4 changes_4) := hD.sub (ws' := (wX9 q9 q4 q7 q8 q0 q6 q3 q2 q5 q1 cI cJ cB (nI n) ++ wX1 q1 cI cJ cB beaten_1 unused_1_12 ways_1 lw_1 ++ wX4 q4 cI cJ cB parts_4 wins_4 draws_4 points_4 count_4 changes_4)) [0, 1, 2, 3, 4, 5, 6, 7, 8, 9] (by decide) rfl
  subst hQ; subst hAe
  exact W.iret (v := nI ((bd1 n n 0 (0, fun a b => ov ml a b)).1)) hx hb hr (fun tt9 ht9 _ => ⟨⟨nI ((bd1 n n 0 (0, fun a b => ov ml a b)).1), (unused_1_12), rfl, rfl, by rw [ht9]; exact hP, hD⟩, hS.F ht9⟩) hS.2.2 dX9_bound_15
def rmX9_core : Room := { frames := 3, cells := 0, slots := 0, locals := 71 }
set_option maxHeartbeats 4000000 in
set_option maxRecDepth 100000 in
theorem c_X9_core (l : Launch) (D : va_G) (cI cJ cB : ClassId) (q9 : Nat → Nat) (q4 : Nat → Nat) (q7 : Nat → Nat) (q8 : Nat → Nat) (q0 : Nat → Nat) (q6 : Nat → Nat) (q3 : Nat → Nat) (q2 : Nat → Nat) (q5 : Nat → Nat) (q1 : Nat → Nat) (beaten_1 : Nat → Int32) (unused_1 : Nat → Int32) (ways_1 : Nat → Int32) (lw_1 : Nat) (parts_4 : Nat → Int32) (wins_4 : Nat → Int32) (draws_4 : Nat → Int32) (points_4 : Nat → Int32) (count_4 : Int32) (changes_4 : Int32) (ml : List Mt) (n : Nat) (hM : MR parts_4 wins_4 draws_4 points_4 ml) (hm120 : ml.length ≤ 120) (hn1 : 1 ≤ n) (hn10 : n ≤ 10) : ∀ sz, Met l yX9_core wsX9_core rmX9_core (va_Pc [.ref (q9 0)] (PW D (kT cI cJ cB) sz (wX9 q9 q4 q7 q8 q0 q6 q3 q2 q5 q1 cI cJ cB (nI n) ++ wX1 q1 cI cJ cB beaten_1 unused_1 ways_1 lw_1 ++ wX4 q4 cI cJ cB parts_4 wins_4 draws_4 points_4 count_4 changes_4))) (va_Qi (S := (Nat → Int32)) (fun r beaten_1' => r = nI (ccF (fun p => luR (nbF ml n) n (2 ^ p) n) (2 ^ n - 1) n)) (QW D sz (wX9 q9 q4 q7 q8 q0 q6 q3 q2 q5 q1 cI cJ cB (nI n) ++ wX1 q1 cI cJ cB beaten_1 unused_1 ways_1 lw_1 ++ wX4 q4 cI cJ cB parts_4 wins_4 draws_4 points_4 count_4 changes_4) (fun beaten_1' => (wX9 q9 q4 q7 q8 q0 q6 q3 q2 q5 q1 cI cJ cB (nI n) ++ wX1 q1 cI cJ cB beaten_1' unused_1 ways_1 lw_1 ++ wX4 q4 cI cJ cB parts_4 wins_4 draws_4 points_4 count_4 changes_4))) (va_A (wX9 q9 q4 q7 q8 q0 q6 q3 q2 q5 q1 cI cJ cB (nI n) ++ wX1 q1 cI cJ cB beaten_1 unused_1 ways_1 lw_1 ++ wX4 q4 cI cJ cB parts_4 wins_4 draws_4 points_4 count_4 changes_4) sz)) 0 0 (va_A (wX9 q9 q4 q7 q8 q0 q6 q3 q2 q5 q1 cI cJ cB (nI n) ++ wX1 q1 cI cJ cB beaten_1 unused_1 ways_1 lw_1 ++ wX4 q4 cI cJ cB parts_4 wins_4 draws_4 points_4 count_4 changes_4) sz) := by
  intro sz
  refine Met.ofW (cc := cX9_core) (maxL := 1) (ret := (some .int)) (by decide) rfl ?_
  intro p e s m args below meth c s₁ B hml hv
  obtain ⟨hav, hsz, hP, hKW, hD0⟩ := hv
  have hx := B.exec
  have hb := B.bytes
  have hr := B.returns
  have hts := atoms_spec (ws := wsX9_core) B.pre
  have hown : s.vm.findClass RX9 = some m.cls := findClass_of_methodNamed B.named
  have hlocks := B.notSynchronized
  subst hsz
  have hD := hD0.self (sz := s.heap.size)
  obtain ⟨A, hAe⟩ : ∃ A : Nat → Prop, A = va_A (wX9 q9 q4 q7 q8 q0 q6 q3 q2 q5 q1 cI cJ cB (nI n) ++ wX1 q1 cI cJ cB beaten_1 unused_1 ways_1 lw_1 ++ wX4 q4 cI cJ cB parts_4 wins_4 draws_4 points_4 count_4 changes_4) s.heap.size := ⟨_, rfl⟩
  rw [← hAe] at hD
  have hA : ∀ q : Nat, s.heap.size ≤ q → A q := fun q h => by rw [hAe]; exact Or.inr h
  have hS : va_S A s.heap s.heap [] := va_S.rf
  refine k_gen (fun Q hQ => ?_)
  have hl := lv_entry ([.ref (q9 0)]) (n := 1) (Nat.le_of_ble_eq_true rfl)
  refine k_entry hav (lg_entry_eq ..) ?_
  generalize (lg_sl ([.ref (q9 0)]) ++ List.replicate (1 - (lg_sl ([.ref (q9 0)])).length) Slot.unset).toArray = ls at hl ⊢
  have hl : lv_has ls 1 [(0, .ref (q9 0))] := hl
  have hu_9 : ∀ w ∈ u_ws RX9 TX9 10, w ∈ wsX9_core := by decide +kernel
  have hf_12 : Cond.fieldLink RX9 12 "MeetingRanks" "meetings" "LMeetingRanks$Meetings;" ∈ wsX9_core := by decide +kernel
  have hf_68 : Cond.fieldLink RX9 68 "MeetingRanks" "beating" "LMeetingRanks$Beating;" ∈ wsX9_core := by decide +kernel
  have hf_72 : Cond.fieldLink RX9 72 "MeetingRanks" "players" "I" ∈ wsX9_core := by decide +kernel
  refine lv_aload_n hx hb dX9_core_0 rfl (lv_at hl 0 rfl) ?_
  refine k_get (ci := 9) (v := .ref (q1 0)) (C := RX9) (Tb := TX9) (N := 10) hx hb hts hu_9 hown hKW hP 0 rfl rfl 8 (by decide) hf_68 rfl rfl dX9_core_1 ?_
  refine lv_aload_n hx hb dX9_core_4 rfl (lv_at hl 0 rfl) ?_
  refine k_get (ci := 9) (v := .ref (q4 0)) (C := RX9) (Tb := TX9) (N := 10) hx hb hts hu_9 hown hKW hP 0 rfl rfl 0 (by decide) hf_12 rfl rfl dX9_core_5 ?_
  refine lv_aload_n hx hb dX9_core_8 rfl (lv_at hl 0 rfl) ?_
  refine k_get (ci := 9) (v := .int (nI n)) (C := RX9) (Tb := TX9) (N := 10) hx hb hts hu_9 hown hKW hP 0 rfl rfl 9 (by decide) hf_72 rfl rfl dX9_core_9 ?_
  have hs_12 : kSplit (wX9 q9 q4 q7 q8 q0 q6 q3 q2 q5 q1 cI cJ cB (nI n) ++ wX1 q1 cI cJ cB beaten_1 unused_1 ways_1 lw_1 ++ wX4 q4 cI cJ cB parts_4 wins_4 draws_4 points_4 count_4 changes_4) (wX1 q1 cI cJ cB beaten_1 unused_1 ways_1 lw_1 ++ wX4 q4 cI cJ cB parts_4 wins_4 draws_4 points_4 count_4 changes_4) (wX9 q9 q4 q7 q8 q0 q6 q3 q2 q5 q1 cI cJ cB (nI n)) [1, 2, 3, 4, 5, 6, 7, 8, 9] [0] := ⟨rfl, rfl, rfl, rfl, rfl, by decide⟩
  refine kc_i hP hD hS hA hs_12 (kV (As := [.ref (q4 0), .int (nI n)]) (rest := []) hx hb hml hown hts hKW hP hD hs_12 (c_X1_leastCore l D cI cJ cB q1 q4 beaten_1 unused_1 ways_1 lw_1 parts_4 wins_4 draws_4 points_4 count_4 changes_4 ml n (by first | assumption | omega) (by first | assumption | omega) (by first | assumption | omega)) (cwV 2 hts gX9_core_X1_leastCore rfl rfl rfl (by decide +kernel) ⟨Nat.le_of_ble_eq_true rfl, Nat.le_of_ble_eq_true rfl⟩) 0 1 rfl rfl rfl rfl hl.1 rfl (Nat.le_of_ble_eq_true rfl) dX9_core_12 ⟨Nat.zero_le _, Nat.zero_le _⟩) (fun r_12 u_12 H locs hw_12 hP hD hS => ?_)
  obtain ⟨beaten_1_12, rfl⟩ : ∃ z, z = u_12 := ⟨_, rfl⟩
  have er_12 := hw_12
  have er_12 := er_12.symm
  subst er_12
  have hP : va_P D vwCl (wX9 q9 q4 q7 q8 q0 q6 q3 q2 q5 q1 cI cJ cB (nI n) ++ wX1 q1 cI cJ cB beaten_1_12 unused_1 ways_1 lw_1 ++ wX4 q4 cI cJ cB parts_4 wins_4 draws_4 points_4 count_4 changes_4) H := hP.sub (ws' := (wX9 q9 q4 q7 q8 q0 q6 q3 q2 q5 q1 cI cJ cB (nI n) ++ wX1 q1 cI cJ cB beaten_1_12 unused_1 ways_1 lw_1 ++ wX4 q4 cI cJ cB parts_4 wins_4 draws_4 points_4 count_4 changes_4)) [0, 1, 2, 3, 4, 5, 6, 7, 8, 9] rfl
  have hD : va_D A (wX9 q9 q4 q7 q8 q0 q6 q3 q2 q5 q1 cI cJ cB (nI n) ++ wX1 q1 cI cJ cB beaten_1_12 unused_1 ways_1 lw_1 ++ wX4 q4 cI cJ cB parts_4 wins_4 draws_4 points_4 count_4 changes_4) := hD.sub (ws' := (wX9 q9 q4 q7 q8 q0 q6 q3 q2 q5 q1 cI cJ cB (nI n) ++ wX1 q1 cI cJ cB beaten_1_12 unused_1 ways_1 lw_1 ++ wX4 q4 cI cJ cB parts_4 wins_4 draws_4 points_4 count_4 changes_4)) [0, 1, 2, 3, 4, 5, 6, 7, 8, 9] (by decide) rfl
  subst hQ; subst hAe
  exact W.iret (v := nI (ccF (fun p => luR (nbF ml n) n (2 ^ p) n) (2 ^ n - 1) n)) hx hb hr (fun tt9 ht9 _ => ⟨⟨nI (ccF (fun p => luR (nbF ml n) n (2 ^ p) n) (2 ^ n - 1) n), (beaten_1_12), rfl, rfl, by rw [ht9]; exact hP, hD⟩, hS.F ht9⟩) hS.2.2 dX9_core_15
def rmX9_champion : Room := { frames := 3, cells := 0, slots := 0, locals := 69 }
set_option maxHeartbeats 4000000 in
set_option maxRecDepth 100000 in
theorem c_X9_champion (l : Launch) (D : va_G) (cI cJ cB : ClassId) (q9 : Nat → Nat) (q4 : Nat → Nat) (q7 : Nat → Nat) (q8 : Nat → Nat) (q0 : Nat → Nat) (q6 : Nat → Nat) (q3 : Nat → Nat) (q2 : Nat → Nat) (q5 : Nat → Nat) (q1 : Nat → Nat) (beaten_1 : Nat → Int32) (unused_1 : Nat → Int32) (ways_1 : Nat → Int32) (lw_1 : Nat) (parts_4 : Nat → Int32) (wins_4 : Nat → Int32) (draws_4 : Nat → Int32) (points_4 : Nat → Int32) (count_4 : Int32) (changes_4 : Int32) (ml : List Mt) (n : Nat) (hM : MR parts_4 wins_4 draws_4 points_4 ml) (hm120 : ml.length ≤ 120) (hn1 : 1 ≤ n) (hn10 : n ≤ 10) : ∀ sz, Met l yX9_champion wsX9_champion rmX9_champion (va_Pc [.ref (q9 0)] (PW D (kT cI cJ cB) sz (wX9 q9 q4 q7 q8 q0 q6 q3 q2 q5 q1 cI cJ cB (nI n) ++ wX1 q1 cI cJ cB beaten_1 unused_1 ways_1 lw_1 ++ wX4 q4 cI cJ cB parts_4 wins_4 draws_4 points_4 count_4 changes_4))) (va_Qi (S := (Nat → Int32)) (fun r beaten_1' => r = oI (srch (fun p => decide (btF ml n p ||| 2 ^ p = 2 ^ n - 1)) 0 n)) (QW D sz (wX9 q9 q4 q7 q8 q0 q6 q3 q2 q5 q1 cI cJ cB (nI n) ++ wX1 q1 cI cJ cB beaten_1 unused_1 ways_1 lw_1 ++ wX4 q4 cI cJ cB parts_4 wins_4 draws_4 points_4 count_4 changes_4) (fun beaten_1' => (wX9 q9 q4 q7 q8 q0 q6 q3 q2 q5 q1 cI cJ cB (nI n) ++ wX1 q1 cI cJ cB beaten_1' unused_1 ways_1 lw_1 ++ wX4 q4 cI cJ cB parts_4 wins_4 draws_4 points_4 count_4 changes_4))) (va_A (wX9 q9 q4 q7 q8 q0 q6 q3 q2 q5 q1 cI cJ cB (nI n) ++ wX1 q1 cI cJ cB beaten_1 unused_1 ways_1 lw_1 ++ wX4 q4 cI cJ cB parts_4 wins_4 draws_4 points_4 count_4 changes_4) sz)) 0 0 (va_A (wX9 q9 q4 q7 q8 q0 q6 q3 q2 q5 q1 cI cJ cB (nI n) ++ wX1 q1 cI cJ cB beaten_1 unused_1 ways_1 lw_1 ++ wX4 q4 cI cJ cB parts_4 wins_4 draws_4 points_4 count_4 changes_4) sz) := by
  intro sz
  refine Met.ofW (cc := cX9_champion) (maxL := 1) (ret := (some .int)) (by decide) rfl ?_
  intro p e s m args below meth c s₁ B hml hv
  obtain ⟨hav, hsz, hP, hKW, hD0⟩ := hv
  have hx := B.exec
  have hb := B.bytes
  have hr := B.returns
  have hts := atoms_spec (ws := wsX9_champion) B.pre
  have hown : s.vm.findClass RX9 = some m.cls := findClass_of_methodNamed B.named
  have hlocks := B.notSynchronized
  subst hsz
  have hD := hD0.self (sz := s.heap.size)
  obtain ⟨A, hAe⟩ : ∃ A : Nat → Prop, A = va_A (wX9 q9 q4 q7 q8 q0 q6 q3 q2 q5 q1 cI cJ cB (nI n) ++ wX1 q1 cI cJ cB beaten_1 unused_1 ways_1 lw_1 ++ wX4 q4 cI cJ cB parts_4 wins_4 draws_4 points_4 count_4 changes_4) s.heap.size := ⟨_, rfl⟩
  rw [← hAe] at hD
  have hA : ∀ q : Nat, s.heap.size ≤ q → A q := fun q h => by rw [hAe]; exact Or.inr h
  have hS : va_S A s.heap s.heap [] := va_S.rf
  refine k_gen (fun Q hQ => ?_)
  have hl := lv_entry ([.ref (q9 0)]) (n := 1) (Nat.le_of_ble_eq_true rfl)
  refine k_entry hav (lg_entry_eq ..) ?_
  generalize (lg_sl ([.ref (q9 0)]) ++ List.replicate (1 - (lg_sl ([.ref (q9 0)])).length) Slot.unset).toArray = ls at hl ⊢
  have hl : lv_has ls 1 [(0, .ref (q9 0))] := hl
  have hu_9 : ∀ w ∈ u_ws RX9 TX9 10, w ∈ wsX9_champion := by decide +kernel
  have hf_12 : Cond.fieldLink RX9 12 "MeetingRanks" "meetings" "LMeetingRanks$Meetings;" ∈ wsX9_champion := by decide +kernel
  have hf_68 : Cond.fieldLink RX9 68 "MeetingRanks" "beating" "LMeetingRanks$Beating;" ∈ wsX9_champion := by decide +kernel
  have hf_72 : Cond.fieldLink RX9 72 "MeetingRanks" "players" "I" ∈ wsX9_champion := by decide +kernel
  refine lv_aload_n hx hb dX9_champion_0 rfl (lv_at hl 0 rfl) ?_
  refine k_get (ci := 9) (v := .ref (q1 0)) (C := RX9) (Tb := TX9) (N := 10) hx hb hts hu_9 hown hKW hP 0 rfl rfl 8 (by decide) hf_68 rfl rfl dX9_champion_1 ?_
  refine lv_aload_n hx hb dX9_champion_4 rfl (lv_at hl 0 rfl) ?_
  refine k_get (ci := 9) (v := .ref (q4 0)) (C := RX9) (Tb := TX9) (N := 10) hx hb hts hu_9 hown hKW hP 0 rfl rfl 0 (by decide) hf_12 rfl rfl dX9_champion_5 ?_
  refine lv_aload_n hx hb dX9_champion_8 rfl (lv_at hl 0 rfl) ?_
  refine k_get (ci := 9) (v := .int (nI n)) (C := RX9) (Tb := TX9) (N := 10) hx hb hts hu_9 hown hKW hP 0 rfl rfl 9 (by decide) hf_72 rfl rfl dX9_champion_9 ?_
  have hs_12 : kSplit (wX9 q9 q4 q7 q8 q0 q6 q3 q2 q5 q1 cI cJ cB (nI n) ++ wX1 q1 cI cJ cB beaten_1 unused_1 ways_1 lw_1 ++ wX4 q4 cI cJ cB parts_4 wins_4 draws_4 points_4 count_4 changes_4) (wX1 q1 cI cJ cB beaten_1 unused_1 ways_1 lw_1 ++ wX4 q4 cI cJ cB parts_4 wins_4 draws_4 points_4 count_4 changes_4) (wX9 q9 q4 q7 q8 q0 q6 q3 q2 q5 q1 cI cJ cB (nI n)) [1, 2, 3, 4, 5, 6, 7, 8, 9] [0] := ⟨rfl, rfl, rfl, rfl, rfl, by decide⟩
  refine kc_i hP hD hS hA hs_12 (kV (As := [.ref (q4 0), .int (nI n)]) (rest := []) hx hb hml hown hts hKW hP hD hs_12 (c_X1_findChampion l D cI cJ cB q1 q4 beaten_1 unused_1 ways_1 lw_1 parts_4 wins_4 draws_4 points_4 count_4 changes_4 ml n (by first | assumption | omega) (by first | assumption | omega) (by first | assumption | omega)) (cwV 2 hts gX9_champion_X1_findChampion rfl rfl rfl (by decide +kernel) ⟨Nat.le_of_ble_eq_true rfl, Nat.le_of_ble_eq_true rfl⟩) 0 1 rfl rfl rfl rfl hl.1 rfl (Nat.le_of_ble_eq_true rfl) dX9_champion_12 ⟨Nat.zero_le _, Nat.zero_le _⟩) (fun r_12 u_12 H locs hw_12 hP hD hS => ?_)
  obtain ⟨beaten_1_12, rfl⟩ : ∃ z, z = u_12 := ⟨_, rfl⟩
  have hP : va_P D vwCl (wX9 q9 q4 q7 q8 q0 q6 q3 q2 q5 q1 cI cJ cB (nI n) ++ wX1 q1 cI cJ cB beaten_1_12 unused_1 ways_1 lw_1 ++ wX4 q4 cI cJ cB parts_4 wins_4 draws_4 points_4 count_4 changes_4) H := hP.sub (ws' := (wX9 q9 q4 q7 q8 q0 q6 q3 q2 q5 q1 cI cJ cB (nI n) ++ wX1 q1 cI cJ cB beaten_1_12 unused_1 ways_1 lw_1 ++ wX4 q4 cI cJ cB parts_4 wins_4 draws_4 points_4 count_4 changes_4)) [0, 1, 2, 3, 4, 5, 6, 7, 8, 9] rfl
  have hD : va_D A (wX9 q9 q4 q7 q8 q0 q6 q3 q2 q5 q1 cI cJ cB (nI n) ++ wX1 q1 cI cJ cB beaten_1_12 unused_1 ways_1 lw_1 ++ wX4 q4 cI cJ cB parts_4 wins_4 draws_4 points_4 count_4 changes_4) := hD.sub (ws' := (wX9 q9 q4 q7 q8 q0 q6 q3 q2 q5 q1 cI cJ cB (nI n) ++ wX1 q1 cI cJ cB beaten_1_12 unused_1 ways_1 lw_1 ++ wX4 q4 cI cJ cB parts_4 wins_4 draws_4 points_4 count_4 changes_4)) [0, 1, 2, 3, 4, 5, 6, 7, 8, 9] (by decide) rfl
  subst hQ; subst hAe
  exact W.iret (v := r_12) hx hb hr (fun tt9 ht9 _ => ⟨⟨r_12, (beaten_1_12), rfl, hw_12, by rw [ht9]; exact hP, hD⟩, hS.F ht9⟩) hS.2.2 dX9_champion_15
def rmX9_walks (mc ms : Nat) : Room := { frames := 3, cells := mc, slots := ms, locals := 71 }
set_option maxHeartbeats 4000000 in
set_option maxRecDepth 100000 in
theorem c_X9_walks (l : Launch) (D : va_G) (cI cJ cB : ClassId) (q9 : Nat → Nat) (q4 : Nat → Nat) (q7 : Nat → Nat) (q8 : Nat → Nat) (q0 : Nat → Nat) (q6 : Nat → Nat) (q3 : Nat → Nat) (q2 : Nat → Nat) (q5 : Nat → Nat) (q1 : Nat → Nat) (beaten_1 : Nat → Int32) (unused_1 : Nat → Int32) (ways_1 : Nat → Int32) (lw_1 : Nat) (parts_4 : Nat → Int32) (wins_4 : Nat → Int32) (draws_4 : Nat → Int32) (points_4 : Nat → Int32) (count_4 : Int32) (changes_4 : Int32) (ml : List Mt) (n : Nat) (mc : Nat) (ms : Nat) (hM : MR parts_4 wins_4 draws_4 points_4 ml) (hm120 : ml.length ≤ 120) (hn1 : 1 ≤ n) (hn10 : n ≤ 10) (hlw : CW lw_1 mc ms) : ∀ sz, Met l yX9_walks wsX9_walks (rmX9_walks mc ms) (va_Pc [.ref (q9 0)] (PW D (kT cI cJ cB) sz (wX9 q9 q4 q7 q8 q0 q6 q3 q2 q5 q1 cI cJ cB (nI n) ++ wX1 q1 cI cJ cB beaten_1 unused_1 ways_1 lw_1 ++ wX4 q4 cI cJ cB parts_4 wins_4 draws_4 points_4 count_4 changes_4))) (va_Qi (S := (Nat → Nat) × (Nat → Int32) × (Nat → Int32)) (fun r uu => match uu with | (q1', beaten_1', ways_1') => q1' 0 = q1 0 ∧ ∃ W0, (∀ i, i < 10240 → W0 i = nI 0) ∧ r = sI (fun la => wcS (fun a => btF ml n a) n (wcI W0 n) (2 ^ n - 2) ((2 ^ n - 1) * 10 + la)) n) (QW D sz (wX9 q9 q4 q7 q8 q0 q6 q3 q2 q5 q1 cI cJ cB (nI n) ++ wX1 q1 cI cJ cB beaten_1 unused_1 ways_1 lw_1 ++ wX4 q4 cI cJ cB parts_4 wins_4 draws_4 points_4 count_4 changes_4) (fun uu => match uu with | (q1', beaten_1', ways_1') => (wX9 q9 q4 q7 q8 q0 q6 q3 q2 q5 q1 cI cJ cB (nI n) ++ wX1 q1' cI cJ cB beaten_1' unused_1 ways_1' 10240 ++ wX4 q4 cI cJ cB parts_4 wins_4 draws_4 points_4 count_4 changes_4))) (va_A (wX9 q9 q4 q7 q8 q0 q6 q3 q2 q5 q1 cI cJ cB (nI n) ++ wX1 q1 cI cJ cB beaten_1 unused_1 ways_1 lw_1 ++ wX4 q4 cI cJ cB parts_4 wins_4 draws_4 points_4 count_4 changes_4) sz)) mc ms (va_A (wX9 q9 q4 q7 q8 q0 q6 q3 q2 q5 q1 cI cJ cB (nI n) ++ wX1 q1 cI cJ cB beaten_1 unused_1 ways_1 lw_1 ++ wX4 q4 cI cJ cB parts_4 wins_4 draws_4 points_4 count_4 changes_4) sz) := by
  intro sz
  refine Met.ofW (cc := cX9_walks) (maxL := 1) (ret := (some .int)) (by decide) rfl ?_
  intro p e s m args below meth c s₁ B hml hv
  obtain ⟨hav, hsz, hP, hKW, hD0⟩ := hv
  have hx := B.exec
  have hb := B.bytes
  have hr := B.returns
  have hts := atoms_spec (ws := wsX9_walks) B.pre
  have hown : s.vm.findClass RX9 = some m.cls := findClass_of_methodNamed B.named
  have hlocks := B.notSynchronized
  subst hsz
  have hD := hD0.self (sz := s.heap.size)
  obtain ⟨A, hAe⟩ : ∃ A : Nat → Prop, A = va_A (wX9 q9 q4 q7 q8 q0 q6 q3 q2 q5 q1 cI cJ cB (nI n) ++ wX1 q1 cI cJ cB beaten_1 unused_1 ways_1 lw_1 ++ wX4 q4 cI cJ cB parts_4 wins_4 draws_4 points_4 count_4 changes_4) s.heap.size := ⟨_, rfl⟩
  rw [← hAe] at hD
  have hA : ∀ q : Nat, s.heap.size ≤ q → A q := fun q h => by rw [hAe]; exact Or.inr h
  have hS : va_S A s.heap s.heap [] := va_S.rf
  refine k_gen (fun Q hQ => ?_)
  have hl := lv_entry ([.ref (q9 0)]) (n := 1) (Nat.le_of_ble_eq_true rfl)
  refine k_entry hav (lg_entry_eq ..) ?_
  generalize (lg_sl ([.ref (q9 0)]) ++ List.replicate (1 - (lg_sl ([.ref (q9 0)])).length) Slot.unset).toArray = ls at hl ⊢
  have hl : lv_has ls 1 [(0, .ref (q9 0))] := hl
  have hu_9 : ∀ w ∈ u_ws RX9 TX9 10, w ∈ wsX9_walks := by decide +kernel
  have hf_12 : Cond.fieldLink RX9 12 "MeetingRanks" "meetings" "LMeetingRanks$Meetings;" ∈ wsX9_walks := by decide +kernel
  have hf_68 : Cond.fieldLink RX9 68 "MeetingRanks" "beating" "LMeetingRanks$Beating;" ∈ wsX9_walks := by decide +kernel
  have hf_72 : Cond.fieldLink RX9 72 "MeetingRanks" "players" "I" ∈ wsX9_walks := by decide +kernel
  refine lv_aload_n hx hb dX9_walks_0 rfl (lv_at hl 0 rfl) ?_
  refine k_get (ci := 9) (v := .ref (q1 0)) (C := RX9) (Tb := TX9) (N := 10) hx hb hts hu_9 hown hKW hP 0 rfl rfl 8 (by decide) hf_68 rfl rfl dX9_walks_1 ?_
  refine lv_aload_n hx hb dX9_walks_4 rfl (lv_at hl 0 rfl) ?_
  refine k_get (ci := 9) (v := .ref (q4 0)) (C := RX9) (Tb := TX9) (N := 10) hx hb hts hu_9 hown hKW hP 0 rfl rfl 0 (by decide) hf_12 rfl rfl dX9_walks_5 ?_
  refine lv_aload_n hx hb dX9_walks_8 rfl (lv_at hl 0 rfl) ?_
  refine k_get (ci := 9) (v := .int (nI n)) (C := RX9) (Tb := TX9) (N := 10) hx hb hts hu_9 hown hKW hP 0 rfl rfl 9 (by decide) hf_72 rfl rfl dX9_walks_9 ?_
  have hs_12 : kSplit (wX9 q9 q4 q7 q8 q0 q6 q3 q2 q5 q1 cI cJ cB (nI n) ++ wX1 q1 cI cJ cB beaten_1 unused_1 ways_1 lw_1 ++ wX4 q4 cI cJ cB parts_4 wins_4 draws_4 points_4 count_4 changes_4) (wX1 q1 cI cJ cB beaten_1 unused_1 ways_1 lw_1 ++ wX4 q4 cI cJ cB parts_4 wins_4 draws_4 points_4 count_4 changes_4) (wX9 q9 q4 q7 q8 q0 q6 q3 q2 q5 q1 cI cJ cB (nI n)) [1, 2, 3, 4, 5, 6, 7, 8, 9] [0] := ⟨rfl, rfl, rfl, rfl, rfl, by decide⟩
  refine kc_ni hP hD hS hA hs_12 (kVc (As := [.ref (q4 0), .int (nI n)]) (rest := []) hx hb hml hown hts hKW hP hD hs_12 (c_X1_countWalks l D cI cJ cB q1 q4 beaten_1 unused_1 ways_1 lw_1 parts_4 wins_4 draws_4 points_4 count_4 changes_4 ml n mc ms (by first | assumption | omega) (by first | assumption | omega) (by first | assumption | omega) (by first | assumption | omega) hlw) (cwV 2 hts gX9_walks_X1_countWalks rfl rfl rfl (by decide +kernel) ⟨Nat.le_of_ble_eq_true rfl, Nat.le_of_ble_eq_true rfl⟩) 0 1 rfl rfl rfl rfl hl.1 rfl (Nat.le_of_ble_eq_true rfl) dX9_walks_12 ⟨Nat.le_of_eq (Nat.zero_add _), Nat.le_of_eq (Nat.zero_add _)⟩) (fun r_12 u_12 H locs hw_12 hP hD hS => ?_)
  refine W.widen (k := mc) (n := ms) (Nat.le_of_eq (Nat.zero_add _)) (Nat.le_of_eq (Nat.zero_add _)) ?_
  obtain ⟨q1_12, beaten_1_12, ways_1_12⟩ := u_12
  have hP : va_P D vwCl (wX9 q9 q4 q7 q8 q0 q6 q3 q2 q5 q1 cI cJ cB (nI n) ++ wX1 q1_12 cI cJ cB beaten_1_12 unused_1 ways_1_12 10240 ++ wX4 q4 cI cJ cB parts_4 wins_4 draws_4 points_4 count_4 changes_4) H := hP.sub (ws' := (wX9 q9 q4 q7 q8 q0 q6 q3 q2 q5 q1 cI cJ cB (nI n) ++ wX1 q1_12 cI cJ cB beaten_1_12 unused_1 ways_1_12 10240 ++ wX4 q4 cI cJ cB parts_4 wins_4 draws_4 points_4 count_4 changes_4)) [0, 1, 2, 3, 4, 5, 6, 7, 8, 9] rfl
  have hD : va_D A (wX9 q9 q4 q7 q8 q0 q6 q3 q2 q5 q1 cI cJ cB (nI n) ++ wX1 q1_12 cI cJ cB beaten_1_12 unused_1 ways_1_12 10240 ++ wX4 q4 cI cJ cB parts_4 wins_4 draws_4 points_4 count_4 changes_4) := hD.sub (ws' := (wX9 q9 q4 q7 q8 q0 q6 q3 q2 q5 q1 cI cJ cB (nI n) ++ wX1 q1_12 cI cJ cB beaten_1_12 unused_1 ways_1_12 10240 ++ wX4 q4 cI cJ cB parts_4 wins_4 draws_4 points_4 count_4 changes_4)) [0, 1, 2, 3, 4, 5, 6, 7, 8, 9] (by decide) rfl
  subst hQ; subst hAe
  exact W.iret (v := r_12) hx hb hr (fun tt9 ht9 _ => ⟨⟨r_12, (q1_12, beaten_1_12, ways_1_12), rfl, hw_12, by rw [ht9]; exact hP, hD⟩, hS.F ht9⟩) hS.2.2 dX9_walks_15
