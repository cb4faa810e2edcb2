def rmX9_isPlayer : Room := { frames := 0, cells := 0, slots := 0, locals := 0 }
set_option maxHeartbeats 4000000 in
set_option maxRecDepth 100000 in
theorem c_X9_isPlayer (l : Launch) (D : va_G) (cI cJ cB : ClassId) (q9 : Nat → Nat) (q4 : Nat → Nat) (q7 : Nat → Nat) (q8 : Nat → Nat) (q0 : Nat → Nat) (q6 : Nat → Nat) (q3 : Nat → Nat) (q2 : Nat → Nat) (q5 : Nat → Nat) (q1 : Nat → Nat) (n : Nat) (x : Int32) (hn10 : n ≤ 10) : ∀ sz, Met l yX9_isPlayer wsX9_isPlayer rmX9_isPlayer (va_Pc [.ref (q9 0), .int x] (PW D (kT cI cJ cB) sz (wX9 q9 q4 q7 q8 q0 q6 q3 q2 q5 q1 cI cJ cB (nI n)))) (va_Qi (S := Unit) (fun r _ => r = if kIn x n then 1 else 0) (QW D sz (wX9 q9 q4 q7 q8 q0 q6 q3 q2 q5 q1 cI cJ cB (nI n)) (fun _ => (wX9 q9 q4 q7 q8 q0 q6 q3 q2 q5 q1 cI cJ cB (nI n)))) (va_A (wX9 q9 q4 q7 q8 q0 q6 q3 q2 q5 q1 cI cJ cB (nI n)) sz)) 0 0 (va_A (wX9 q9 q4 q7 q8 q0 q6 q3 q2 q5 q1 cI cJ cB (nI n)) sz) := by
  intro sz
  refine Met.ofW (cc := cX9_isPlayer) (maxL := 2) (ret := (some .boolean)) (by decide) rfl ?_
  intro p e s m args below meth c s₁ B hml hv
  obtain ⟨hav, hsz, hP, hKW, hD0⟩ := hv
  have hx := B.exec
  have hb := B.bytes
  have hr := B.returns
  have hts := atoms_spec (ws := wsX9_isPlayer) B.pre
  have hown : s.vm.findClass RX9 = some m.cls := findClass_of_methodNamed B.named
  have hlocks := B.notSynchronized
  subst hsz
  have hD := hD0.self (sz := s.heap.size)
  obtain ⟨A, hAe⟩ : ∃ A : Nat → Prop, A = va_A (wX9 q9 q4 q7 q8 q0 q6 q3 q2 q5 q1 cI cJ cB (nI n)) s.heap.size := ⟨_, rfl⟩
  rw [← hAe] at hD
  have hA : ∀ q : Nat, s.heap.size ≤ q → A q := fun q h => by rw [hAe]; exact Or.inr h
  have hS : va_S A s.heap s.heap [] := va_S.rf
  refine k_gen (fun Q hQ => ?_)
  have hl := lv_entry ([.ref (q9 0), .int x]) (n := 2) (Nat.le_of_ble_eq_true rfl)
  refine k_entry hav (lg_entry_eq ..) ?_
  generalize (lg_sl ([.ref (q9 0), .int x]) ++ List.replicate (2 - (lg_sl ([.ref (q9 0), .int x])).length) Slot.unset).toArray = ls at hl ⊢
  have hl : lv_has ls 2 [(0, .ref (q9 0)), (1, .int x)] := hl
  have hu_9 : ∀ w ∈ u_ws RX9 TX9 10, w ∈ wsX9_isPlayer := by decide +kernel
  have hf_72 : Cond.fieldLink RX9 72 "MeetingRanks" "players" "I" ∈ wsX9_isPlayer := by decide +kernel
  refine lv_iload_n hx hb dX9_isPlayer_0 rfl (lv_at hl 1 rfl) ?_
  refine lv_if_lt (tgt := 16) hx hb dX9_isPlayer_1 (by decide) (fun c_1 => ?_) (fun c_1 => ?_)
  · skip
    refine lv_iconst (v := nI 0) hx hb dX9_isPlayer_16 (by decide) ?_
    subst hQ; subst hAe
    exact W.zret (v := nI 0) (ty := .boolean) hx hb hr (by decide) (fun tt9 ht9 _ => ⟨⟨nI 0, (), rfl, k_if0 (kIn_lo c_1), by rw [ht9]; exact hP, hD⟩, hS.F ht9⟩) hS.2.2 dX9_isPlayer_17
  · skip
    refine lv_iload_n hx hb dX9_isPlayer_4 rfl (lv_at hl 1 rfl) ?_
    refine lv_aload_n hx hb dX9_isPlayer_5 rfl (lv_at hl 0 rfl) ?_
    refine k_get (ci := 9) (v := .int (nI n)) (C := RX9) (Tb := TX9) (N := 10) hx hb hts hu_9 hown hKW hP 0 rfl rfl 9 (by decide) hf_72 rfl rfl dX9_isPlayer_6 ?_
    refine lv_icmp_ge (tgt := 16) hx hb dX9_isPlayer_9 (by decide) (fun c_9 => ?_) (fun c_9 => ?_)
    · skip
      refine lv_iconst (v := nI 0) hx hb dX9_isPlayer_16 (by decide) ?_
      subst hQ; subst hAe
      exact W.zret (v := nI 0) (ty := .boolean) hx hb hr (by decide) (fun tt9 ht9 _ => ⟨⟨nI 0, (), rfl, k_if0 (kIn_hi (by omega) c_9), by rw [ht9]; exact hP, hD⟩, hS.F ht9⟩) hS.2.2 dX9_isPlayer_17
    · skip
      refine lv_iconst (v := nI 1) hx hb dX9_isPlayer_12 (by decide) ?_
      refine lv_goto (tgt := 17) hx hb dX9_isPlayer_13 (by decide) ?_
      subst hQ; subst hAe
      exact W.zret (v := nI 1) (ty := .boolean) hx hb hr (by decide) (fun tt9 ht9 _ => ⟨⟨nI 1, (), rfl, k_if1 (kIn_of (by omega) c_1 c_9), by rw [ht9]; exact hP, hD⟩, hS.F ht9⟩) hS.2.2 dX9_isPlayer_17
def rmX9_areTwo : Room := { frames := 1, cells := 0, slots := 0, locals := 21 }
set_option maxHeartbeats 4000000 in
set_option maxRecDepth 100000 in
theorem c_X9_areTwo (l : Launch) (D : va_G) (cI cJ cB : ClassId) (q9 : Nat → Nat) (q4 : Nat → Nat) (q7 : Nat → Nat) (q8 : Nat → Nat) (q0 : Nat → Nat) (q6 : Nat → Nat) (q3 : Nat → Nat) (q2 : Nat → Nat) (q5 : Nat → Nat) (q1 : Nat → Nat) (n : Nat) (a : Int32) (b : Int32) (hn10 : n ≤ 10) : ∀ sz, Met l yX9_areTwo wsX9_areTwo rmX9_areTwo (va_Pc [.ref (q9 0), .int a, .int b] (PW D (kT cI cJ cB) sz (wX9 q9 q4 q7 q8 q0 q6 q3 q2 q5 q1 cI cJ cB (nI n)))) (va_Qi (S := Unit) (fun r _ => r = if kIn a n ∧ kIn b n ∧ ¬ a = b then 1 else 0) (QW D sz (wX9 q9 q4 q7 q8 q0 q6 q3 q2 q5 q1 cI cJ cB (nI n)) (fun _ => (wX9 q9 q4 q7 q8 q0 q6 q3 q2 q5 q1 cI cJ cB (nI n)))) (va_A (wX9 q9 q4 q7 q8 q0 q6 q3 q2 q5 q1 cI cJ cB (nI n)) sz)) 0 0 (va_A (wX9 q9 q4 q7 q8 q0 q6 q3 q2 q5 q1 cI cJ cB (nI n)) sz) := by
  intro sz
  refine Met.ofW (cc := cX9_areTwo) (maxL := 3) (ret := (some .boolean)) (by decide) rfl ?_
  intro p e s m args below meth c s₁ B hml hv
  obtain ⟨hav, hsz, hP, hKW, hD0⟩ := hv
  have hx := B.exec
  have hb := B.bytes
  have hr := B.returns
  have hts := atoms_spec (ws := wsX9_areTwo) B.pre
  have hown : s.vm.findClass RX9 = some m.cls := findClass_of_methodNamed B.named
  have hlocks := B.notSynchronized
  subst hsz
  have hD := hD0.self (sz := s.heap.size)
  obtain ⟨A, hAe⟩ : ∃ A : Nat → Prop, A = va_A (wX9 q9 q4 q7 q8 q0 q6 q3 q2 q5 q1 cI cJ cB (nI n)) s.heap.size := ⟨_, rfl⟩
  rw [← hAe] at hD
  have hA : ∀ q : Nat, s.heap.size ≤ q → A q := fun q h => by rw [hAe]; exact Or.inr h
  have hS : va_S A s.heap s.heap [] := va_S.rf
  refine k_gen (fun Q hQ => ?_)
  have hl := lv_entry ([.ref (q9 0), .int a, .int b]) (n := 3) (Nat.le_of_ble_eq_true rfl)
  refine k_entry hav (lg_entry_eq ..) ?_
  generalize (lg_sl ([.ref (q9 0), .int a, .int b]) ++ List.replicate (3 - (lg_sl ([.ref (q9 0), .int a, .int b])).length) Slot.unset).toArray = ls at hl ⊢
  have hl : lv_has ls 3 [(0, .ref (q9 0)), (1, .int a), (2, .int b)] := hl
  refine lv_aload_n hx hb dX9_areTwo_0 rfl (lv_at hl 0 rfl) ?_
  refine lv_iload_n hx hb dX9_areTwo_1 rfl (lv_at hl 1 rfl) ?_
  have hs_2 : kSplit (wX9 q9 q4 q7 q8 q0 q6 q3 q2 q5 q1 cI cJ cB (nI n)) (wX9 q9 q4 q7 q8 q0 q6 q3 q2 q5 q1 cI cJ cB (nI n)) ([] : va_W) [0] [] := ⟨rfl, rfl, rfl, rfl, rfl, by decide⟩
  refine kc_i hP hD hS hA hs_2 (kV (As := [.int a]) (rest := []) hx hb hml hown hts hKW hP hD hs_2 (c_X9_isPlayer l D cI cJ cB q9 q4 q7 q8 q0 q6 q3 q2 q5 q1 n a (by first | assumption | omega)) (cwV 1 hts gX9_areTwo_X9_isPlayer rfl rfl rfl (by decide +kernel) ⟨Nat.le_of_ble_eq_true rfl, Nat.le_of_ble_eq_true rfl⟩) 0 9 rfl rfl rfl rfl hl.1 rfl (Nat.le_of_ble_eq_true rfl) dX9_areTwo_2 ⟨Nat.zero_le _, Nat.zero_le _⟩) (fun r_2 u_2 H locs hw_2 hP hD hS => ?_)
  have er_2 := hw_2
  have er_2 := er_2.symm
  subst er_2
  have hP : va_P D vwCl (wX9 q9 q4 q7 q8 q0 q6 q3 q2 q5 q1 cI cJ cB (nI n)) H := hP.sub (ws' := (wX9 q9 q4 q7 q8 q0 q6 q3 q2 q5 q1 cI cJ cB (nI n))) [0] rfl
  have hD : va_D A (wX9 q9 q4 q7 q8 q0 q6 q3 q2 q5 q1 cI cJ cB (nI n)) := hD.sub (ws' := (wX9 q9 q4 q7 q8 q0 q6 q3 q2 q5 q1 cI cJ cB (nI n))) [0] (by decide) rfl
  refine lv_if_eq (tgt := 25) hx hb dX9_areTwo_5 (by decide) (fun c_5 => ?_) (fun c_5 => ?_)
  · skip
    have c_5 := k_b0 c_5
    refine lv_iconst (v := nI 0) hx hb dX9_areTwo_25 (by decide) ?_
    subst hQ; subst hAe
    exact W.zret (v := nI 0) (ty := .boolean) hx hb hr (by decide) (fun tt9 ht9 _ => ⟨⟨nI 0, (), rfl, k_if0 (fun z => c_5 z.1), by rw [ht9]; exact hP, hD⟩, hS.F ht9⟩) hS.2.2 dX9_areTwo_26
  · skip
    have c_5 := k_b1 c_5
    refine lv_aload_n hx hb dX9_areTwo_8 rfl (lv_at hl 0 rfl) ?_
    refine lv_iload_n hx hb dX9_areTwo_9 rfl (lv_at hl 2 rfl) ?_
    have hs_10 : kSplit (wX9 q9 q4 q7 q8 q0 q6 q3 q2 q5 q1 cI cJ cB (nI n)) (wX9 q9 q4 q7 q8 q0 q6 q3 q2 q5 q1 cI cJ cB (nI n)) ([] : va_W) [0] [] := ⟨rfl, rfl, rfl, rfl, rfl, by decide⟩
    refine kc_i hP hD hS hA hs_10 (kV (As := [.int b]) (rest := []) hx hb hml hown hts hKW hP hD hs_10 (c_X9_isPlayer l D cI cJ cB q9 q4 q7 q8 q0 q6 q3 q2 q5 q1 n b (by first | assumption | omega)) (cwV 1 hts gX9_areTwo_X9_isPlayer rfl rfl rfl (by decide +kernel) ⟨Nat.le_of_ble_eq_true rfl, Nat.le_of_ble_eq_true rfl⟩) 0 9 rfl rfl rfl rfl hl.1 rfl (Nat.le_of_ble_eq_true rfl) dX9_areTwo_10 ⟨Nat.zero_le _, Nat.zero_le _⟩) (fun r_10 u_10 H locs hw_10 hP hD hS => ?_)
    have er_10 := hw_10
    have er_10 := er_10.symm
    subst er_10
    have hP : va_P D vwCl (wX9 q9 q4 q7 q8 q0 q6 q3 q2 q5 q1 cI cJ cB (nI n)) H := hP.sub (ws' := (wX9 q9 q4 q7 q8 q0 q6 q3 q2 q5 q1 cI cJ cB (nI n))) [0] rfl
    have hD : va_D A (wX9 q9 q4 q7 q8 q0 q6 q3 q2 q5 q1 cI cJ cB (nI n)) := hD.sub (ws' := (wX9 q9 q4 q7 q8 q0 q6 q3 q2 q5 q1 cI cJ cB (nI n))) [0] (by decide) rfl
    refine lv_if_eq (tgt := 25) hx hb dX9_areTwo_13 (by decide) (fun c_13 => ?_) (fun c_13 => ?_)
    · skip
      have c_13 := k_b0 c_13
      refine lv_iconst (v := nI 0) hx hb dX9_areTwo_25 (by decide) ?_
      subst hQ; subst hAe
      exact W.zret (v := nI 0) (ty := .boolean) hx hb hr (by decide) (fun tt9 ht9 _ => ⟨⟨nI 0, (), rfl, k_if0 (fun z => c_13 z.2.1), by rw [ht9]; exact hP, hD⟩, hS.F ht9⟩) hS.2.2 dX9_areTwo_26
    · skip
      have c_13 := k_b1 c_13
      refine lv_iload_n hx hb dX9_areTwo_16 rfl (lv_at hl 1 rfl) ?_
      refine lv_iload_n hx hb dX9_areTwo_17 rfl (lv_at hl 2 rfl) ?_
      refine lv_icmp_eq (tgt := 25) hx hb dX9_areTwo_18 (by decide) (fun c_18 => ?_) (fun c_18 => ?_)
      · skip
        refine lv_iconst (v := nI 0) hx hb dX9_areTwo_25 (by decide) ?_
        subst hQ; subst hAe
        exact W.zret (v := nI 0) (ty := .boolean) hx hb hr (by decide) (fun tt9 ht9 _ => ⟨⟨nI 0, (), rfl, k_if0 (fun z => z.2.2 c_18), by rw [ht9]; exact hP, hD⟩, hS.F ht9⟩) hS.2.2 dX9_areTwo_26
      · skip
        refine lv_iconst (v := nI 1) hx hb dX9_areTwo_21 (by decide) ?_
        refine lv_goto (tgt := 26) hx hb dX9_areTwo_22 (by decide) ?_
        subst hQ; subst hAe
        exact W.zret (v := nI 1) (ty := .boolean) hx hb hr (by decide) (fun tt9 ht9 _ => ⟨⟨nI 1, (), rfl, k_if1 ⟨c_5, c_13, c_18⟩, by rw [ht9]; exact hP, hD⟩, hS.F ht9⟩) hS.2.2 dX9_areTwo_26
def rmX9_canBePoints : Room := { frames := 0, cells := 0, slots := 0, locals := 0 }
set_option maxHeartbeats 4000000 in
set_option maxRecDepth 100000 in
theorem c_X9_canBePoints (l : Launch) (D : va_G) (cI cJ cB : ClassId) (x : Int32) : ∀ sz, Met l yX9_canBePoints wsX9_canBePoints rmX9_canBePoints (va_Pc [.int x] (PW D (kT cI cJ cB) sz ([] : va_W))) (va_Qi (S := Unit) (fun r _ => r = if kIn x 100 then 1 else 0) (QW D sz ([] : va_W) (fun _ => ([] : va_W))) (va_A ([] : va_W) sz)) 0 0 (va_A ([] : va_W) sz) := by
  intro sz
  refine Met.ofW (cc := cX9_canBePoints) (maxL := 1) (ret := (some .boolean)) (by decide) rfl ?_
  intro p e s m args below meth c s₁ B hml hv
  obtain ⟨hav, hsz, hP, hKW, hD0⟩ := hv
  have hx := B.exec
  have hb := B.bytes
  have hr := B.returns
  have hts := atoms_spec (ws := wsX9_canBePoints) B.pre
  have hown : s.vm.findClass RX9 = some m.cls := findClass_of_methodNamed B.named
  have hlocks := B.notSynchronized
  subst hsz
  have hD := hD0.self (sz := s.heap.size)
  obtain ⟨A, hAe⟩ : ∃ A : Nat → Prop, A = va_A ([] : va_W) s.heap.size := ⟨_, rfl⟩
  rw [← hAe] at hD
  have hA : ∀ q : Nat, s.heap.size ≤ q → A q := fun q h => by rw [hAe]; exact Or.inr h
  have hS : va_S A s.heap s.heap [] := va_S.rf
  refine k_gen (fun Q hQ => ?_)
  have hl := lv_entry ([.int x]) (n := 1) (Nat.le_of_ble_eq_true rfl)
  refine k_entry hav (lg_entry_eq ..) ?_
  generalize (lg_sl ([.int x]) ++ List.replicate (1 - (lg_sl ([.int x])).length) Slot.unset).toArray = ls at hl ⊢
  have hl : lv_has ls 1 [(0, .int x)] := hl
  refine lv_iload_n hx hb dX9_canBePoints_0 rfl (lv_at hl 0 rfl) ?_
  refine lv_if_lt (tgt := 14) hx hb dX9_canBePoints_1 (by decide) (fun c_1 => ?_) (fun c_1 => ?_)
  · skip
    refine lv_iconst (v := nI 0) hx hb dX9_canBePoints_14 (by decide) ?_
    subst hQ; subst hAe
    exact W.zret (v := nI 0) (ty := .boolean) hx hb hr (by decide) (fun tt9 ht9 _ => ⟨⟨nI 0, (), rfl, k_if0 (kIn_lo c_1), by rw [ht9]; exact hP, hD⟩, hS.F ht9⟩) hS.2.2 dX9_canBePoints_15
  · skip
    refine lv_iload_n hx hb dX9_canBePoints_4 rfl (lv_at hl 0 rfl) ?_
    refine lv_bipush (v := nI 99) hx hb dX9_canBePoints_5 (by decide) ?_
    refine lv_icmp_gt (tgt := 14) hx hb dX9_canBePoints_7 (by decide) (fun c_7 => ?_) (fun c_7 => ?_)
    · skip
      refine lv_iconst (v := nI 0) hx hb dX9_canBePoints_14 (by decide) ?_
      subst hQ; subst hAe
      exact W.zret (v := nI 0) (ty := .boolean) hx hb hr (by decide) (fun tt9 ht9 _ => ⟨⟨nI 0, (), rfl, k_if0 (kIn_gt (m := 99) (by decide) c_7), by rw [ht9]; exact hP, hD⟩, hS.F ht9⟩) hS.2.2 dX9_canBePoints_15
    · skip
      refine lv_iconst (v := nI 1) hx hb dX9_canBePoints_10 (by decide) ?_
      refine lv_goto (tgt := 15) hx hb dX9_canBePoints_11 (by decide) ?_
      subst hQ; subst hAe
      exact W.zret (v := nI 1) (ty := .boolean) hx hb hr (by decide) (fun tt9 ht9 _ => ⟨⟨nI 1, (), rfl, k_if1 (kIn_le (m := 99) (by decide) c_1 c_7), by rw [ht9]; exact hP, hD⟩, hS.F ht9⟩) hS.2.2 dX9_canBePoints_15
def rmX9_canBeWorth : Room := { frames := 0, cells := 0, slots := 0, locals := 0 }
set_option maxHeartbeats 4000000 in
set_option maxRecDepth 100000 in
theorem c_X9_canBeWorth (l : Launch) (D : va_G) (cI cJ cB : ClassId) (x : Int32) : ∀ sz, Met l yX9_canBeWorth wsX9_canBeWorth rmX9_canBeWorth (va_Pc [.int x] (PW D (kT cI cJ cB) sz ([] : va_W))) (va_Qi (S := Unit) (fun r _ => r = if ptOK x then 1 else 0) (QW D sz ([] : va_W) (fun _ => ([] : va_W))) (va_A ([] : va_W) sz)) 0 0 (va_A ([] : va_W) sz) := by
  intro sz
  refine Met.ofW (cc := cX9_canBeWorth) (maxL := 1) (ret := (some .boolean)) (by decide) rfl ?_
  intro p e s m args below meth c s₁ B hml hv
  obtain ⟨hav, hsz, hP, hKW, hD0⟩ := hv
  have hx := B.exec
  have hb := B.bytes
  have hr := B.returns
  have hts := atoms_spec (ws := wsX9_canBeWorth) B.pre
  have hown : s.vm.findClass RX9 = some m.cls := findClass_of_methodNamed B.named
  have hlocks := B.notSynchronized
  subst hsz
  have hD := hD0.self (sz := s.heap.size)
  obtain ⟨A, hAe⟩ : ∃ A : Nat → Prop, A = va_A ([] : va_W) s.heap.size := ⟨_, rfl⟩
  rw [← hAe] at hD
  have hA : ∀ q : Nat, s.heap.size ≤ q → A q := fun q h => by rw [hAe]; exact Or.inr h
  have hS : va_S A s.heap s.heap [] := va_S.rf
  refine k_gen (fun Q hQ => ?_)
  have hl := lv_entry ([.int x]) (n := 1) (Nat.le_of_ble_eq_true rfl)
  refine k_entry hav (lg_entry_eq ..) ?_
  generalize (lg_sl ([.int x]) ++ List.replicate (1 - (lg_sl ([.int x])).length) Slot.unset).toArray = ls at hl ⊢
  have hl : lv_has ls 1 [(0, .int x)] := hl
  refine lv_iload_n hx hb dX9_canBeWorth_0 rfl (lv_at hl 0 rfl) ?_
  refine lv_bipush (v := (-10)) hx hb dX9_canBeWorth_1 (by decide) ?_
  refine lv_icmp_lt (tgt := 16) hx hb dX9_canBeWorth_3 (by decide) (fun c_3 => ?_) (fun c_3 => ?_)
  · skip
    refine lv_iconst (v := nI 0) hx hb dX9_canBeWorth_16 (by decide) ?_
    subst hQ; subst hAe
    exact W.zret (v := nI 0) (ty := .boolean) hx hb hr (by decide) (fun tt9 ht9 _ => ⟨⟨nI 0, (), rfl, k_if0 (ptOK_lo c_3), by rw [ht9]; exact hP, hD⟩, hS.F ht9⟩) hS.2.2 dX9_canBeWorth_17
  · skip
    refine lv_iload_n hx hb dX9_canBeWorth_6 rfl (lv_at hl 0 rfl) ?_
    refine lv_bipush (v := nI 10) hx hb dX9_canBeWorth_7 (by decide) ?_
    refine lv_icmp_gt (tgt := 16) hx hb dX9_canBeWorth_9 (by decide) (fun c_9 => ?_) (fun c_9 => ?_)
    · skip
      refine lv_iconst (v := nI 0) hx hb dX9_canBeWorth_16 (by decide) ?_
      subst hQ; subst hAe
      exact W.zret (v := nI 0) (ty := .boolean) hx hb hr (by decide) (fun tt9 ht9 _ => ⟨⟨nI 0, (), rfl, k_if0 (ptOK_hi c_9), by rw [ht9]; exact hP, hD⟩, hS.F ht9⟩) hS.2.2 dX9_canBeWorth_17
    · skip
      refine lv_iconst (v := nI 1) hx hb dX9_canBeWorth_12 (by decide) ?_
      refine lv_goto (tgt := 17) hx hb dX9_canBeWorth_13 (by decide) ?_
      subst hQ; subst hAe
      exact W.zret (v := nI 1) (ty := .boolean) hx hb hr (by decide) (fun tt9 ht9 _ => ⟨⟨nI 1, (), rfl, k_if1 (ptOK_of c_3 c_9), by rw [ht9]; exact hP, hD⟩, hS.F ht9⟩) hS.2.2 dX9_canBeWorth_17
def rmX9_isKind : Room := { frames := 0, cells := 0, slots := 0, locals := 0 }
set_option maxHeartbeats 4000000 in
set_option maxRecDepth 100000 in
theorem c_X9_isKind (l : Launch) (D : va_G) (cI cJ cB : ClassId) (x : Int32) : ∀ sz, Met l yX9_isKind wsX9_isKind rmX9_isKind (va_Pc [.int x] (PW D (kT cI cJ cB) sz ([] : va_W))) (va_Qi (S := Unit) (fun r _ => r = if kIn x 6 then 1 else 0) (QW D sz ([] : va_W) (fun _ => ([] : va_W))) (va_A ([] : va_W) sz)) 0 0 (va_A ([] : va_W) sz) := by
  intro sz
  refine Met.ofW (cc := cX9_isKind) (maxL := 1) (ret := (some .boolean)) (by decide) rfl ?_
  intro p e s m args below meth c s₁ B hml hv
  obtain ⟨hav, hsz, hP, hKW, hD0⟩ := hv
  have hx := B.exec
  have hb := B.bytes
  have hr := B.returns
  have hts := atoms_spec (ws := wsX9_isKind) B.pre
  have hown : s.vm.findClass RX9 = some m.cls := findClass_of_methodNamed B.named
  have hlocks := B.notSynchronized
  subst hsz
  have hD := hD0.self (sz := s.heap.size)
  obtain ⟨A, hAe⟩ : ∃ A : Nat → Prop, A = va_A ([] : va_W) s.heap.size := ⟨_, rfl⟩
  rw [← hAe] at hD
  have hA : ∀ q : Nat, s.heap.size ≤ q → A q := fun q h => by rw [hAe]; exact Or.inr h
  have hS : va_S A s.heap s.heap [] := va_S.rf
  refine k_gen (fun Q hQ => ?_)
  have hl := lv_entry ([.int x]) (n := 1) (Nat.le_of_ble_eq_true rfl)
  refine k_entry hav (lg_entry_eq ..) ?_
  generalize (lg_sl ([.int x]) ++ List.replicate (1 - (lg_sl ([.int x])).length) Slot.unset).toArray = ls at hl ⊢
  have hl : lv_has ls 1 [(0, .int x)] := hl
  refine lv_iload_n hx hb dX9_isKind_0 rfl (lv_at hl 0 rfl) ?_
  refine lv_if_lt (tgt := 14) hx hb dX9_isKind_1 (by decide) (fun c_1 => ?_) (fun c_1 => ?_)
  · skip
    refine lv_iconst (v := nI 0) hx hb dX9_isKind_14 (by decide) ?_
    subst hQ; subst hAe
    exact W.zret (v := nI 0) (ty := .boolean) hx hb hr (by decide) (fun tt9 ht9 _ => ⟨⟨nI 0, (), rfl, k_if0 (kIn_lo c_1), by rw [ht9]; exact hP, hD⟩, hS.F ht9⟩) hS.2.2 dX9_isKind_15
  · skip
    refine lv_iload_n hx hb dX9_isKind_4 rfl (lv_at hl 0 rfl) ?_
    refine lv_bipush (v := nI 6) hx hb dX9_isKind_5 (by decide) ?_
    refine lv_icmp_ge (tgt := 14) hx hb dX9_isKind_7 (by decide) (fun c_7 => ?_) (fun c_7 => ?_)
    · skip
      refine lv_iconst (v := nI 0) hx hb dX9_isKind_14 (by decide) ?_
      subst hQ; subst hAe
      exact W.zret (v := nI 0) (ty := .boolean) hx hb hr (by decide) (fun tt9 ht9 _ => ⟨⟨nI 0, (), rfl, k_if0 (kIn_hi (n := 6) (by decide) c_7), by rw [ht9]; exact hP, hD⟩, hS.F ht9⟩) hS.2.2 dX9_isKind_15
    · skip
      refine lv_iconst (v := nI 1) hx hb dX9_isKind_10 (by decide) ?_
      refine lv_goto (tgt := 15) hx hb dX9_isKind_11 (by decide) ?_
      subst hQ; subst hAe
      exact W.zret (v := nI 1) (ty := .boolean) hx hb hr (by decide) (fun tt9 ht9 _ => ⟨⟨nI 1, (), rfl, k_if1 (kIn_of (n := 6) (by decide) c_1 c_7), by rw [ht9]; exact hP, hD⟩, hS.F ht9⟩) hS.2.2 dX9_isKind_15
