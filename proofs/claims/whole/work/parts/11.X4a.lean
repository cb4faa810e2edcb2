def rmX9_isIn : Room := { frames := 0, cells := 0, slots := 0, locals := 0 }
set_option maxHeartbeats 4000000 in
set_option maxRecDepth 100000 in
theorem c_X9_isIn (l : Launch) (D : va_G) (cI cJ cB : ClassId) (S : Nat) (i : Nat) (hS31 : S < 2 ^ 31) (hi : i < 31) : ∀ sz, Met l yX9_isIn wsX9_isIn rmX9_isIn (va_Pc [.int (nI S), .int (nI i)] (PW D (kT cI cJ cB) sz ([] : va_W))) (va_Qi (S := Unit) (fun r _ => r = if S.testBit i = true then 1 else 0) (QW D sz ([] : va_W) (fun _ => ([] : va_W))) (va_A ([] : va_W) sz)) 0 0 (va_A ([] : va_W) sz) := by
  intro sz
  refine Met.ofW (cc := cX9_isIn) (maxL := 2) (ret := (some .boolean)) (by decide) rfl ?_
  intro p e s m args below meth c s₁ B hml hv
  obtain ⟨hav, hsz, hP, hKW, hD0⟩ := hv
  have hx := B.exec
  have hb := B.bytes
  have hr := B.returns
  have hts := atoms_spec (ws := wsX9_isIn) B.pre
  have hown : s.vm.findClass RX9 = some m.cls := findClass_of_methodNamed B.named
  have hlocks := B.notSynchronized
  subst hsz
  have hD := hD0.self (sz := s.heap.size)
  obtain ⟨A, hAe⟩ : ∃ A : Nat → Prop, A = va_A ([] : va_W) s.heap.size := ⟨_, rfl⟩
  rw [← hAe] at hD
  have hA : ∀ q : Nat, s.heap.size ≤ q → A q := fun q h => by rw [hAe]; exact Or.inr h
  have hS : va_S A s.heap s.heap [] := va_S.rf
  refine k_gen (fun Q hQ => ?_)
  have hl := lv_entry ([.int (nI S), .int (nI i)]) (n := 2) (Nat.le_of_ble_eq_true rfl)
  refine k_entry hav (lg_entry_eq ..) ?_
  generalize (lg_sl ([.int (nI S), .int (nI i)]) ++ List.replicate (2 - (lg_sl ([.int (nI S), .int (nI i)])).length) Slot.unset).toArray = ls at hl ⊢
  have hl : lv_has ls 2 [(0, .int (nI S)), (1, .int (nI i))] := hl
  refine lv_iload_n hx hb dX9_isIn_0 rfl (lv_at hl 0 rfl) ?_
  refine lv_iload_n hx hb dX9_isIn_1 rfl (lv_at hl 1 rfl) ?_
  refine lv_ishr hx hb dX9_isIn_2 ?_
  refine k_top (y := nI (S / 2 ^ i)) (k_shr hS31 hi) ?_
  refine lv_iconst (v := nI 1) hx hb dX9_isIn_3 (by decide) ?_
  refine lv_iand hx hb dX9_isIn_4 ?_
  refine k_top (y := nI (S / 2 ^ i % 2)) (k_and1 _ (k_shr_lt hS31)) ?_
  refine lv_if_eq (tgt := 12) hx hb dX9_isIn_5 (by decide) (fun c_5 => ?_) (fun c_5 => ?_)
  · skip
    have c_5 := k0_eq (by omega) c_5
    refine lv_iconst (v := nI 0) hx hb dX9_isIn_12 (by decide) ?_
    subst hQ; subst hAe
    exact W.zret (v := nI 0) (ty := .boolean) hx hb hr (by decide) (fun t ht _ => ⟨⟨nI 0, (), rfl, by first | exact (k_bit_t c_5).symm | exact (k_bit_f c_5).symm, by rw [ht]; exact hP, hD⟩, hS.F ht⟩) hS.2.2 dX9_isIn_13
  · skip
    have c_5 := k0_eq_n (by omega) c_5
    refine lv_iconst (v := nI 1) hx hb dX9_isIn_8 (by decide) ?_
    refine lv_goto (tgt := 13) hx hb dX9_isIn_9 (by decide) ?_
    subst hQ; subst hAe
    exact W.zret (v := nI 1) (ty := .boolean) hx hb hr (by decide) (fun t ht _ => ⟨⟨nI 1, (), rfl, by first | exact (k_bit_t c_5).symm | exact (k_bit_f c_5).symm, by rw [ht]; exact hP, hD⟩, hS.F ht⟩) hS.2.2 dX9_isIn_13
def rmX9_everyone : Room := { frames := 0, cells := 0, slots := 0, locals := 0 }
set_option maxHeartbeats 4000000 in
set_option maxRecDepth 100000 in
theorem c_X9_everyone (l : Launch) (D : va_G) (cI cJ cB : ClassId) (n : Nat) (hn : n < 31) : ∀ sz, Met l yX9_everyone wsX9_everyone rmX9_everyone (va_Pc [.int (nI n)] (PW D (kT cI cJ cB) sz ([] : va_W))) (va_Qi (S := Unit) (fun r _ => r = nI (2 ^ n - 1)) (QW D sz ([] : va_W) (fun _ => ([] : va_W))) (va_A ([] : va_W) sz)) 0 0 (va_A ([] : va_W) sz) := by
  intro sz
  refine Met.ofW (cc := cX9_everyone) (maxL := 1) (ret := (some .int)) (by decide) rfl ?_
  intro p e s m args below meth c s₁ B hml hv
  obtain ⟨hav, hsz, hP, hKW, hD0⟩ := hv
  have hx := B.exec
  have hb := B.bytes
  have hr := B.returns
  have hts := atoms_spec (ws := wsX9_everyone) B.pre
  have hown : s.vm.findClass RX9 = some m.cls := findClass_of_methodNamed B.named
  have hlocks := B.notSynchronized
  subst hsz
  have hD := hD0.self (sz := s.heap.size)
  obtain ⟨A, hAe⟩ : ∃ A : Nat → Prop, A = va_A ([] : va_W) s.heap.size := ⟨_, rfl⟩
  rw [← hAe] at hD
  have hA : ∀ q : Nat, s.heap.size ≤ q → A q := fun q h => by rw [hAe]; exact Or.inr h
  have hS : va_S A s.heap s.heap [] := va_S.rf
  refine k_gen (fun Q hQ => ?_)
  have hl := lv_entry ([.int (nI n)]) (n := 1) (Nat.le_of_ble_eq_true rfl)
  refine k_entry hav (lg_entry_eq ..) ?_
  generalize (lg_sl ([.int (nI n)]) ++ List.replicate (1 - (lg_sl ([.int (nI n)])).length) Slot.unset).toArray = ls at hl ⊢
  have hl : lv_has ls 1 [(0, .int (nI n))] := hl
  refine lv_iconst (v := nI 1) hx hb dX9_everyone_0 (by decide) ?_
  refine lv_iload_n hx hb dX9_everyone_1 rfl (lv_at hl 0 rfl) ?_
  refine lv_ishl hx hb dX9_everyone_2 ?_
  refine k_top (y := nI (2 ^ n)) (k_shl1 hn) ?_
  refine lv_iconst (v := nI 1) hx hb dX9_everyone_3 (by decide) ?_
  refine k_isub hx hb (Nat.one_le_two_pow) dX9_everyone_4 ?_
  subst hQ; subst hAe
  exact W.iret (v := nI ((2 ^ n) - 1)) hx hb hr (fun t ht _ => ⟨⟨nI ((2 ^ n) - 1), (), rfl, rfl, by rw [ht]; exact hP, hD⟩, hS.F ht⟩) hS.2.2 dX9_everyone_5
def rmX4_wins : Room := { frames := 0, cells := 0, slots := 0, locals := 0 }
set_option maxHeartbeats 4000000 in
set_option maxRecDepth 100000 in
theorem c_X4_wins (l : Launch) (D : va_G) (cI cJ cB : ClassId) (q4 : Nat → Nat) (parts_4 : Nat → Int32) (wins_4 : Nat → Int32) (draws_4 : Nat → Int32) (points_4 : Nat → Int32) (count_4 : Int32) (changes_4 : Int32) (a : Nat) (b : Nat) (ha : a < 10) (hb2 : b < 10) : ∀ sz, Met l yX4_wins wsX4_wins rmX4_wins (va_Pc [.ref (q4 0), .int (nI a), .int (nI b)] (PW D (kT cI cJ cB) sz (wX4 q4 cI cJ cB parts_4 wins_4 draws_4 points_4 count_4 changes_4))) (va_Qi (S := Unit) (fun r _ => r = wins_4 (a * 10 + b)) (QW D sz (wX4 q4 cI cJ cB parts_4 wins_4 draws_4 points_4 count_4 changes_4) (fun _ => (wX4 q4 cI cJ cB parts_4 wins_4 draws_4 points_4 count_4 changes_4))) (va_A (wX4 q4 cI cJ cB parts_4 wins_4 draws_4 points_4 count_4 changes_4) sz)) 0 0 (va_A (wX4 q4 cI cJ cB parts_4 wins_4 draws_4 points_4 count_4 changes_4) sz) := by
  intro sz
  refine Met.ofW (cc := cX4_wins) (maxL := 3) (ret := (some .int)) (by decide) rfl ?_
  intro p e s m args below meth c s₁ B hml hv
  obtain ⟨hav, hsz, hP, hKW, hD0⟩ := hv
  have hx := B.exec
  have hb := B.bytes
  have hr := B.returns
  have hts := atoms_spec (ws := wsX4_wins) B.pre
  have hown : s.vm.findClass RX4 = some m.cls := findClass_of_methodNamed B.named
  have hlocks := B.notSynchronized
  subst hsz
  have hD := hD0.self (sz := s.heap.size)
  obtain ⟨A, hAe⟩ : ∃ A : Nat → Prop, A = va_A (wX4 q4 cI cJ cB parts_4 wins_4 draws_4 points_4 count_4 changes_4) s.heap.size := ⟨_, rfl⟩
  rw [← hAe] at hD
  have hA : ∀ q : Nat, s.heap.size ≤ q → A q := fun q h => by rw [hAe]; exact Or.inr h
  have hS : va_S A s.heap s.heap [] := va_S.rf
  refine k_gen (fun Q hQ => ?_)
  have hl := lv_entry ([.ref (q4 0), .int (nI a), .int (nI b)]) (n := 3) (Nat.le_of_ble_eq_true rfl)
  refine k_entry hav (lg_entry_eq ..) ?_
  generalize (lg_sl ([.ref (q4 0), .int (nI a), .int (nI b)]) ++ List.replicate (3 - (lg_sl ([.ref (q4 0), .int (nI a), .int (nI b)])).length) Slot.unset).toArray = ls at hl ⊢
  have hl : lv_has ls 3 [(0, .ref (q4 0)), (1, .int (nI a)), (2, .int (nI b))] := hl
  have hu_4 : ∀ w ∈ u_ws RX4 TX4 6, w ∈ wsX4_wins := by decide +kernel
  have hf_15 : Cond.fieldLink RX4 15 "MeetingRanks$Meetings" "wins" "[I" ∈ wsX4_wins := by decide +kernel
  refine lv_aload_n hx hb dX4_wins_0 rfl (lv_at hl 0 rfl) ?_
  refine k_get (ci := 4) (v := .ref (q4 2)) (C := RX4) (Tb := TX4) (N := 6) hx hb hts hu_4 hown hKW hP 0 rfl rfl 1 (by decide) hf_15 rfl rfl dX4_wins_1 ?_
  refine lv_iload_n hx hb dX4_wins_4 rfl (lv_at hl 1 rfl) ?_
  refine lv_bipush (v := nI 10) hx hb dX4_wins_5 (by decide) ?_
  refine k_imul hx hb dX4_wins_7 ?_
  refine lv_iload_n hx hb dX4_wins_8 rfl (lv_at hl 2 rfl) ?_
  refine k_iadd hx hb dX4_wins_9 ?_
  refine k_iald (n := 100) (i := (a * 10) + b) hx hb hKW hP 2 0 rfl rfl (by omega) (by omega) dX4_wins_10 ?_
  subst hQ; subst hAe
  exact W.iret (v := wins_4 ((a * 10) + b)) hx hb hr (fun t ht _ => ⟨⟨wins_4 ((a * 10) + b), (), rfl, by first | rfl | assumption | omega, by rw [ht]; exact hP, hD⟩, hS.F ht⟩) hS.2.2 dX4_wins_11
def rmX4_draws : Room := { frames := 0, cells := 0, slots := 0, locals := 0 }
set_option maxHeartbeats 4000000 in
set_option maxRecDepth 100000 in
theorem c_X4_draws (l : Launch) (D : va_G) (cI cJ cB : ClassId) (q4 : Nat → Nat) (parts_4 : Nat → Int32) (wins_4 : Nat → Int32) (draws_4 : Nat → Int32) (points_4 : Nat → Int32) (count_4 : Int32) (changes_4 : Int32) (a : Nat) (b : Nat) (ha : a < 10) (hb2 : b < 10) : ∀ sz, Met l yX4_draws wsX4_draws rmX4_draws (va_Pc [.ref (q4 0), .int (nI a), .int (nI b)] (PW D (kT cI cJ cB) sz (wX4 q4 cI cJ cB parts_4 wins_4 draws_4 points_4 count_4 changes_4))) (va_Qi (S := Unit) (fun r _ => r = draws_4 (a * 10 + b)) (QW D sz (wX4 q4 cI cJ cB parts_4 wins_4 draws_4 points_4 count_4 changes_4) (fun _ => (wX4 q4 cI cJ cB parts_4 wins_4 draws_4 points_4 count_4 changes_4))) (va_A (wX4 q4 cI cJ cB parts_4 wins_4 draws_4 points_4 count_4 changes_4) sz)) 0 0 (va_A (wX4 q4 cI cJ cB parts_4 wins_4 draws_4 points_4 count_4 changes_4) sz) := by
  intro sz
  refine Met.ofW (cc := cX4_draws) (maxL := 3) (ret := (some .int)) (by decide) rfl ?_
  intro p e s m args below meth c s₁ B hml hv
  obtain ⟨hav, hsz, hP, hKW, hD0⟩ := hv
  have hx := B.exec
  have hb := B.bytes
  have hr := B.returns
  have hts := atoms_spec (ws := wsX4_draws) B.pre
  have hown : s.vm.findClass RX4 = some m.cls := findClass_of_methodNamed B.named
  have hlocks := B.notSynchronized
  subst hsz
  have hD := hD0.self (sz := s.heap.size)
  obtain ⟨A, hAe⟩ : ∃ A : Nat → Prop, A = va_A (wX4 q4 cI cJ cB parts_4 wins_4 draws_4 points_4 count_4 changes_4) s.heap.size := ⟨_, rfl⟩
  rw [← hAe] at hD
  have hA : ∀ q : Nat, s.heap.size ≤ q → A q := fun q h => by rw [hAe]; exact Or.inr h
  have hS : va_S A s.heap s.heap [] := va_S.rf
  refine k_gen (fun Q hQ => ?_)
  have hl := lv_entry ([.ref (q4 0), .int (nI a), .int (nI b)]) (n := 3) (Nat.le_of_ble_eq_true rfl)
  refine k_entry hav (lg_entry_eq ..) ?_
  generalize (lg_sl ([.ref (q4 0), .int (nI a), .int (nI b)]) ++ List.replicate (3 - (lg_sl ([.ref (q4 0), .int (nI a), .int (nI b)])).length) Slot.unset).toArray = ls at hl ⊢
  have hl : lv_has ls 3 [(0, .ref (q4 0)), (1, .int (nI a)), (2, .int (nI b))] := hl
  have hu_4 : ∀ w ∈ u_ws RX4 TX4 6, w ∈ wsX4_draws := by decide +kernel
  have hf_18 : Cond.fieldLink RX4 18 "MeetingRanks$Meetings" "draws" "[I" ∈ wsX4_draws := by decide +kernel
  refine lv_aload_n hx hb dX4_draws_0 rfl (lv_at hl 0 rfl) ?_
  refine k_get (ci := 4) (v := .ref (q4 3)) (C := RX4) (Tb := TX4) (N := 6) hx hb hts hu_4 hown hKW hP 0 rfl rfl 2 (by decide) hf_18 rfl rfl dX4_draws_1 ?_
  refine lv_iload_n hx hb dX4_draws_4 rfl (lv_at hl 1 rfl) ?_
  refine lv_bipush (v := nI 10) hx hb dX4_draws_5 (by decide) ?_
  refine k_imul hx hb dX4_draws_7 ?_
  refine lv_iload_n hx hb dX4_draws_8 rfl (lv_at hl 2 rfl) ?_
  refine k_iadd hx hb dX4_draws_9 ?_
  refine k_iald (n := 100) (i := (a * 10) + b) hx hb hKW hP 3 0 rfl rfl (by omega) (by omega) dX4_draws_10 ?_
  subst hQ; subst hAe
  exact W.iret (v := draws_4 ((a * 10) + b)) hx hb hr (fun t ht _ => ⟨⟨draws_4 ((a * 10) + b), (), rfl, by first | rfl | assumption | omega, by rw [ht]; exact hP, hD⟩, hS.F ht⟩) hS.2.2 dX4_draws_11
def rmX4_points : Room := { frames := 0, cells := 0, slots := 0, locals := 0 }
set_option maxHeartbeats 4000000 in
set_option maxRecDepth 100000 in
theorem c_X4_points (l : Launch) (D : va_G) (cI cJ cB : ClassId) (q4 : Nat → Nat) (parts_4 : Nat → Int32) (wins_4 : Nat → Int32) (draws_4 : Nat → Int32) (points_4 : Nat → Int32) (count_4 : Int32) (changes_4 : Int32) (a : Nat) (b : Nat) (ha : a < 10) (hb2 : b < 10) : ∀ sz, Met l yX4_points wsX4_points rmX4_points (va_Pc [.ref (q4 0), .int (nI a), .int (nI b)] (PW D (kT cI cJ cB) sz (wX4 q4 cI cJ cB parts_4 wins_4 draws_4 points_4 count_4 changes_4))) (va_Qi (S := Unit) (fun r _ => r = points_4 (a * 10 + b)) (QW D sz (wX4 q4 cI cJ cB parts_4 wins_4 draws_4 points_4 count_4 changes_4) (fun _ => (wX4 q4 cI cJ cB parts_4 wins_4 draws_4 points_4 count_4 changes_4))) (va_A (wX4 q4 cI cJ cB parts_4 wins_4 draws_4 points_4 count_4 changes_4) sz)) 0 0 (va_A (wX4 q4 cI cJ cB parts_4 wins_4 draws_4 points_4 count_4 changes_4) sz) := by
  intro sz
  refine Met.ofW (cc := cX4_points) (maxL := 3) (ret := (some .int)) (by decide) rfl ?_
  intro p e s m args below meth c s₁ B hml hv
  obtain ⟨hav, hsz, hP, hKW, hD0⟩ := hv
  have hx := B.exec
  have hb := B.bytes
  have hr := B.returns
  have hts := atoms_spec (ws := wsX4_points) B.pre
  have hown : s.vm.findClass RX4 = some m.cls := findClass_of_methodNamed B.named
  have hlocks := B.notSynchronized
  subst hsz
  have hD := hD0.self (sz := s.heap.size)
  obtain ⟨A, hAe⟩ : ∃ A : Nat → Prop, A = va_A (wX4 q4 cI cJ cB parts_4 wins_4 draws_4 points_4 count_4 changes_4) s.heap.size := ⟨_, rfl⟩
  rw [← hAe] at hD
  have hA : ∀ q : Nat, s.heap.size ≤ q → A q := fun q h => by rw [hAe]; exact Or.inr h
  have hS : va_S A s.heap s.heap [] := va_S.rf
  refine k_gen (fun Q hQ => ?_)
  have hl := lv_entry ([.ref (q4 0), .int (nI a), .int (nI b)]) (n := 3) (Nat.le_of_ble_eq_true rfl)
  refine k_entry hav (lg_entry_eq ..) ?_
  generalize (lg_sl ([.ref (q4 0), .int (nI a), .int (nI b)]) ++ List.replicate (3 - (lg_sl ([.ref (q4 0), .int (nI a), .int (nI b)])).length) Slot.unset).toArray = ls at hl ⊢
  have hl : lv_has ls 3 [(0, .ref (q4 0)), (1, .int (nI a)), (2, .int (nI b))] := hl
  have hu_4 : ∀ w ∈ u_ws RX4 TX4 6, w ∈ wsX4_points := by decide +kernel
  have hf_21 : Cond.fieldLink RX4 21 "MeetingRanks$Meetings" "points" "[I" ∈ wsX4_points := by decide +kernel
  refine lv_aload_n hx hb dX4_points_0 rfl (lv_at hl 0 rfl) ?_
  refine k_get (ci := 4) (v := .ref (q4 4)) (C := RX4) (Tb := TX4) (N := 6) hx hb hts hu_4 hown hKW hP 0 rfl rfl 3 (by decide) hf_21 rfl rfl dX4_points_1 ?_
  refine lv_iload_n hx hb dX4_points_4 rfl (lv_at hl 1 rfl) ?_
  refine lv_bipush (v := nI 10) hx hb dX4_points_5 (by decide) ?_
  refine k_imul hx hb dX4_points_7 ?_
  refine lv_iload_n hx hb dX4_points_8 rfl (lv_at hl 2 rfl) ?_
  refine k_iadd hx hb dX4_points_9 ?_
  refine k_iald (n := 100) (i := (a * 10) + b) hx hb hKW hP 4 0 rfl rfl (by omega) (by omega) dX4_points_10 ?_
  subst hQ; subst hAe
  exact W.iret (v := points_4 ((a * 10) + b)) hx hb hr (fun t ht _ => ⟨⟨points_4 ((a * 10) + b), (), rfl, by first | rfl | assumption | omega, by rw [ht]; exact hP, hD⟩, hS.F ht⟩) hS.2.2 dX4_points_11
def rmX4_times : Room := { frames := 1, cells := 0, slots := 0, locals := 22 }
set_option maxHeartbeats 4000000 in
set_option maxRecDepth 100000 in
theorem c_X4_times (l : Launch) (D : va_G) (cI cJ cB : ClassId) (q4 : Nat → Nat) (parts_4 : Nat → Int32) (wins_4 : Nat → Int32) (draws_4 : Nat → Int32) (points_4 : Nat → Int32) (count_4 : Int32) (changes_4 : Int32) (a : Nat) (b : Nat) (ha : a < 10) (hb2 : b < 10) : ∀ sz, Met l yX4_times wsX4_times rmX4_times (va_Pc [.ref (q4 0), .int (nI a), .int (nI b)] (PW D (kT cI cJ cB) sz (wX4 q4 cI cJ cB parts_4 wins_4 draws_4 points_4 count_4 changes_4))) (va_Qi (S := Unit) (fun r _ => r = wins_4 (a * 10 + b) + draws_4 (a * 10 + b) + wins_4 (b * 10 + a)) (QW D sz (wX4 q4 cI cJ cB parts_4 wins_4 draws_4 points_4 count_4 changes_4) (fun _ => (wX4 q4 cI cJ cB parts_4 wins_4 draws_4 points_4 count_4 changes_4))) (va_A (wX4 q4 cI cJ cB parts_4 wins_4 draws_4 points_4 count_4 changes_4) sz)) 0 0 (va_A (wX4 q4 cI cJ cB parts_4 wins_4 draws_4 points_4 count_4 changes_4) sz) := by
  intro sz
  refine Met.ofW (cc := cX4_times) (maxL := 3) (ret := (some .int)) (by decide) rfl ?_
  intro p e s m args below meth c s₁ B hml hv
  obtain ⟨hav, hsz, hP, hKW, hD0⟩ := hv
  have hx := B.exec
  have hb := B.bytes
  have hr := B.returns
  have hts := atoms_spec (ws := wsX4_times) B.pre
  have hown : s.vm.findClass RX4 = some m.cls := findClass_of_methodNamed B.named
  have hlocks := B.notSynchronized
  subst hsz
  have hD := hD0.self (sz := s.heap.size)
  obtain ⟨A, hAe⟩ : ∃ A : Nat → Prop, A = va_A (wX4 q4 cI cJ cB parts_4 wins_4 draws_4 points_4 count_4 changes_4) s.heap.size := ⟨_, rfl⟩
  rw [← hAe] at hD
  have hA : ∀ q : Nat, s.heap.size ≤ q → A q := fun q h => by rw [hAe]; exact Or.inr h
  have hS : va_S A s.heap s.heap [] := va_S.rf
  refine k_gen (fun Q hQ => ?_)
  have hl := lv_entry ([.ref (q4 0), .int (nI a), .int (nI b)]) (n := 3) (Nat.le_of_ble_eq_true rfl)
  refine k_entry hav (lg_entry_eq ..) ?_
  generalize (lg_sl ([.ref (q4 0), .int (nI a), .int (nI b)]) ++ List.replicate (3 - (lg_sl ([.ref (q4 0), .int (nI a), .int (nI b)])).length) Slot.unset).toArray = ls at hl ⊢
  have hl : lv_has ls 3 [(0, .ref (q4 0)), (1, .int (nI a)), (2, .int (nI b))] := hl
  refine lv_aload_n hx hb dX4_times_0 rfl (lv_at hl 0 rfl) ?_
  refine lv_iload_n hx hb dX4_times_1 rfl (lv_at hl 1 rfl) ?_
  refine lv_iload_n hx hb dX4_times_2 rfl (lv_at hl 2 rfl) ?_
  have hs_3 : kSplit (wX4 q4 cI cJ cB parts_4 wins_4 draws_4 points_4 count_4 changes_4) (wX4 q4 cI cJ cB parts_4 wins_4 draws_4 points_4 count_4 changes_4) ([] : va_W) [0, 1, 2, 3, 4] [] := ⟨rfl, rfl, rfl, rfl, rfl, by decide⟩
  refine kc_i hP hD hS hA hs_3 (kV (As := [.int (nI a), .int (nI b)]) (rest := []) hx hb hml hown hts hKW hP hD hs_3 (c_X4_wins l D cI cJ cB q4 parts_4 wins_4 draws_4 points_4 count_4 changes_4 a b (by first | assumption | omega) (by first | assumption | omega)) (cwV 2 hts gX4_times_X4_wins rfl rfl rfl (by decide +kernel) ⟨Nat.le_of_ble_eq_true rfl, Nat.le_of_ble_eq_true rfl⟩) 0 4 rfl rfl rfl rfl hl.1 rfl (Nat.le_of_ble_eq_true rfl) dX4_times_3 ⟨Nat.zero_le _, Nat.zero_le _⟩) (fun r_3 u_3 H locs hw_3 hP hD hS => ?_)
  have er_3 := hw_3
  subst er_3
  have hP : va_P D vwCl (wX4 q4 cI cJ cB parts_4 wins_4 draws_4 points_4 count_4 changes_4) H := hP.sub (ws' := (wX4 q4 cI cJ cB parts_4 wins_4 draws_4 points_4 count_4 changes_4)) [0, 1, 2, 3, 4] rfl
  have hD : va_D A (wX4 q4 cI cJ cB parts_4 wins_4 draws_4 points_4 count_4 changes_4) := hD.sub (ws' := (wX4 q4 cI cJ cB parts_4 wins_4 draws_4 points_4 count_4 changes_4)) [0, 1, 2, 3, 4] (by decide) rfl
  refine lv_aload_n hx hb dX4_times_6 rfl (lv_at hl 0 rfl) ?_
  refine lv_iload_n hx hb dX4_times_7 rfl (lv_at hl 1 rfl) ?_
  refine lv_iload_n hx hb dX4_times_8 rfl (lv_at hl 2 rfl) ?_
  have hs_9 : kSplit (wX4 q4 cI cJ cB parts_4 wins_4 draws_4 points_4 count_4 changes_4) (wX4 q4 cI cJ cB parts_4 wins_4 draws_4 points_4 count_4 changes_4) ([] : va_W) [0, 1, 2, 3, 4] [] := ⟨rfl, rfl, rfl, rfl, rfl, by decide⟩
  refine kc_i hP hD hS hA hs_9 (kV (As := [.int (nI a), .int (nI b)]) (rest := [.int (wins_4 (a * 10 + b))]) hx hb hml hown hts hKW hP hD hs_9 (c_X4_draws l D cI cJ cB q4 parts_4 wins_4 draws_4 points_4 count_4 changes_4 a b (by first | assumption | omega) (by first | assumption | omega)) (cwV 2 hts gX4_times_X4_draws rfl rfl rfl (by decide +kernel) ⟨Nat.le_of_ble_eq_true rfl, Nat.le_of_ble_eq_true rfl⟩) 0 4 rfl rfl rfl rfl hl.1 rfl (Nat.le_of_ble_eq_true rfl) dX4_times_9 ⟨Nat.zero_le _, Nat.zero_le _⟩) (fun r_9 u_9 H locs hw_9 hP hD hS => ?_)
  have er_9 := hw_9
  subst er_9
  have hP : va_P D vwCl (wX4 q4 cI cJ cB parts_4 wins_4 draws_4 points_4 count_4 changes_4) H := hP.sub (ws' := (wX4 q4 cI cJ cB parts_4 wins_4 draws_4 points_4 count_4 changes_4)) [0, 1, 2, 3, 4] rfl
  have hD : va_D A (wX4 q4 cI cJ cB parts_4 wins_4 draws_4 points_4 count_4 changes_4) := hD.sub (ws' := (wX4 q4 cI cJ cB parts_4 wins_4 draws_4 points_4 count_4 changes_4)) [0, 1, 2, 3, 4] (by decide) rfl
  refine lv_iadd hx hb dX4_times_12 ?_
  refine lv_aload_n hx hb dX4_times_13 rfl (lv_at hl 0 rfl) ?_
  refine lv_iload_n hx hb dX4_times_14 rfl (lv_at hl 2 rfl) ?_
  refine lv_iload_n hx hb dX4_times_15 rfl (lv_at hl 1 rfl) ?_
  have hs_16 : kSplit (wX4 q4 cI cJ cB parts_4 wins_4 draws_4 points_4 count_4 changes_4) (wX4 q4 cI cJ cB parts_4 wins_4 draws_4 points_4 count_4 changes_4) ([] : va_W) [0, 1, 2, 3, 4] [] := ⟨rfl, rfl, rfl, rfl, rfl, by decide⟩
  refine kc_i hP hD hS hA hs_16 (kV (As := [.int (nI b), .int (nI a)]) (rest := [.int ((wins_4 (a * 10 + b)) + (draws_4 (a * 10 + b)))]) hx hb hml hown hts hKW hP hD hs_16 (c_X4_wins l D cI cJ cB q4 parts_4 wins_4 draws_4 points_4 count_4 changes_4 b a (by first | assumption | omega) (by first | assumption | omega)) (cwV 2 hts gX4_times_X4_wins rfl rfl rfl (by decide +kernel) ⟨Nat.le_of_ble_eq_true rfl, Nat.le_of_ble_eq_true rfl⟩) 0 4 rfl rfl rfl rfl hl.1 rfl (Nat.le_of_ble_eq_true rfl) dX4_times_16 ⟨Nat.zero_le _, Nat.zero_le _⟩) (fun r_16 u_16 H locs hw_16 hP hD hS => ?_)
  have er_16 := hw_16
  subst er_16
  have hP : va_P D vwCl (wX4 q4 cI cJ cB parts_4 wins_4 draws_4 points_4 count_4 changes_4) H := hP.sub (ws' := (wX4 q4 cI cJ cB parts_4 wins_4 draws_4 points_4 count_4 changes_4)) [0, 1, 2, 3, 4] rfl
  have hD : va_D A (wX4 q4 cI cJ cB parts_4 wins_4 draws_4 points_4 count_4 changes_4) := hD.sub (ws' := (wX4 q4 cI cJ cB parts_4 wins_4 draws_4 points_4 count_4 changes_4)) [0, 1, 2, 3, 4] (by decide) rfl
  refine lv_iadd hx hb dX4_times_19 ?_
  subst hQ; subst hAe
  exact W.iret (v := ((wins_4 (a * 10 + b)) + (draws_4 (a * 10 + b))) + (wins_4 (b * 10 + a))) hx hb hr (fun t ht _ => ⟨⟨((wins_4 (a * 10 + b)) + (draws_4 (a * 10 + b))) + (wins_4 (b * 10 + a)), (), rfl, by first | rfl | assumption | omega, by rw [ht]; exact hP, hD⟩, hS.F ht⟩) hS.2.2 dX4_times_20
def rmX4_count : Room := { frames := 0, cells := 0, slots := 0, locals := 0 }
set_option maxHeartbeats 4000000 in
set_option maxRecDepth 100000 in
theorem c_X4_count (l : Launch) (D : va_G) (cI cJ cB : ClassId) (q4 : Nat → Nat) (parts_4 : Nat → Int32) (wins_4 : Nat → Int32) (draws_4 : Nat → Int32) (points_4 : Nat → Int32) (count_4 : Int32) (changes_4 : Int32) : ∀ sz, Met l yX4_count wsX4_count rmX4_count (va_Pc [.ref (q4 0)] (PW D (kT cI cJ cB) sz (wX4 q4 cI cJ cB parts_4 wins_4 draws_4 points_4 count_4 changes_4))) (va_Qi (S := Unit) (fun r _ => r = count_4) (QW D sz (wX4 q4 cI cJ cB parts_4 wins_4 draws_4 points_4 count_4 changes_4) (fun _ => (wX4 q4 cI cJ cB parts_4 wins_4 draws_4 points_4 count_4 changes_4))) (va_A (wX4 q4 cI cJ cB parts_4 wins_4 draws_4 points_4 count_4 changes_4) sz)) 0 0 (va_A (wX4 q4 cI cJ cB parts_4 wins_4 draws_4 points_4 count_4 changes_4) sz) := by
  intro sz
  refine Met.ofW (cc := cX4_count) (maxL := 1) (ret := (some .int)) (by decide) rfl ?_
  intro p e s m args below meth c s₁ B hml hv
  obtain ⟨hav, hsz, hP, hKW, hD0⟩ := hv
  have hx := B.exec
  have hb := B.bytes
  have hr := B.returns
  have hts := atoms_spec (ws := wsX4_count) B.pre
  have hown : s.vm.findClass RX4 = some m.cls := findClass_of_methodNamed B.named
  have hlocks := B.notSynchronized
  subst hsz
  have hD := hD0.self (sz := s.heap.size)
  obtain ⟨A, hAe⟩ : ∃ A : Nat → Prop, A = va_A (wX4 q4 cI cJ cB parts_4 wins_4 draws_4 points_4 count_4 changes_4) s.heap.size := ⟨_, rfl⟩
  rw [← hAe] at hD
  have hA : ∀ q : Nat, s.heap.size ≤ q → A q := fun q h => by rw [hAe]; exact Or.inr h
  have hS : va_S A s.heap s.heap [] := va_S.rf
  refine k_gen (fun Q hQ => ?_)
  have hl := lv_entry ([.ref (q4 0)]) (n := 1) (Nat.le_of_ble_eq_true rfl)
  refine k_entry hav (lg_entry_eq ..) ?_
  generalize (lg_sl ([.ref (q4 0)]) ++ List.replicate (1 - (lg_sl ([.ref (q4 0)])).length) Slot.unset).toArray = ls at hl ⊢
  have hl : lv_has ls 1 [(0, .ref (q4 0))] := hl
  have hu_4 : ∀ w ∈ u_ws RX4 TX4 6, w ∈ wsX4_count := by decide +kernel
  have hf_24 : Cond.fieldLink RX4 24 "MeetingRanks$Meetings" "count" "I" ∈ wsX4_count := by decide +kernel
  refine lv_aload_n hx hb dX4_count_0 rfl (lv_at hl 0 rfl) ?_
  refine k_get (ci := 4) (v := .int count_4) (C := RX4) (Tb := TX4) (N := 6) hx hb hts hu_4 hown hKW hP 0 rfl rfl 4 (by decide) hf_24 rfl rfl dX4_count_1 ?_
  subst hQ; subst hAe
  exact W.iret (v := count_4) hx hb hr (fun t ht _ => ⟨⟨count_4, (), rfl, by first | rfl | assumption | omega, by rw [ht]; exact hP, hD⟩, hS.F ht⟩) hS.2.2 dX4_count_4
def rmX4_changes : Room := { frames := 0, cells := 0, slots := 0, locals := 0 }
set_option maxHeartbeats 4000000 in
set_option maxRecDepth 100000 in
theorem c_X4_changes (l : Launch) (D : va_G) (cI cJ cB : ClassId) (q4 : Nat → Nat) (parts_4 : Nat → Int32) (wins_4 : Nat → Int32) (draws_4 : Nat → Int32) (points_4 : Nat → Int32) (count_4 : Int32) (changes_4 : Int32) : ∀ sz, Met l yX4_changes wsX4_changes rmX4_changes (va_Pc [.ref (q4 0)] (PW D (kT cI cJ cB) sz (wX4 q4 cI cJ cB parts_4 wins_4 draws_4 points_4 count_4 changes_4))) (va_Qi (S := Unit) (fun r _ => r = changes_4) (QW D sz (wX4 q4 cI cJ cB parts_4 wins_4 draws_4 points_4 count_4 changes_4) (fun _ => (wX4 q4 cI cJ cB parts_4 wins_4 draws_4 points_4 count_4 changes_4))) (va_A (wX4 q4 cI cJ cB parts_4 wins_4 draws_4 points_4 count_4 changes_4) sz)) 0 0 (va_A (wX4 q4 cI cJ cB parts_4 wins_4 draws_4 points_4 count_4 changes_4) sz) := by
  intro sz
  refine Met.ofW (cc := cX4_changes) (maxL := 1) (ret := (some .int)) (by decide) rfl ?_
  intro p e s m args below meth c s₁ B hml hv
  obtain ⟨hav, hsz, hP, hKW, hD0⟩ := hv
  have hx := B.exec
  have hb := B.bytes
  have hr := B.returns
  have hts := atoms_spec (ws := wsX4_changes) B.pre
  have hown : s.vm.findClass RX4 = some m.cls := findClass_of_methodNamed B.named
  have hlocks := B.notSynchronized
  subst hsz
  have hD := hD0.self (sz := s.heap.size)
  obtain ⟨A, hAe⟩ : ∃ A : Nat → Prop, A = va_A (wX4 q4 cI cJ cB parts_4 wins_4 draws_4 points_4 count_4 changes_4) s.heap.size := ⟨_, rfl⟩
  rw [← hAe] at hD
  have hA : ∀ q : Nat, s.heap.size ≤ q → A q := fun q h => by rw [hAe]; exact Or.inr h
  have hS : va_S A s.heap s.heap [] := va_S.rf
  refine k_gen (fun Q hQ => ?_)
  have hl := lv_entry ([.ref (q4 0)]) (n := 1) (Nat.le_of_ble_eq_true rfl)
  refine k_entry hav (lg_entry_eq ..) ?_
  generalize (lg_sl ([.ref (q4 0)]) ++ List.replicate (1 - (lg_sl ([.ref (q4 0)])).length) Slot.unset).toArray = ls at hl ⊢
  have hl : lv_has ls 1 [(0, .ref (q4 0))] := hl
  have hu_4 : ∀ w ∈ u_ws RX4 TX4 6, w ∈ wsX4_changes := by decide +kernel
  have hf_28 : Cond.fieldLink RX4 28 "MeetingRanks$Meetings" "changes" "I" ∈ wsX4_changes := by decide +kernel
  refine lv_aload_n hx hb dX4_changes_0 rfl (lv_at hl 0 rfl) ?_
  refine k_get (ci := 4) (v := .int changes_4) (C := RX4) (Tb := TX4) (N := 6) hx hb hts hu_4 hown hKW hP 0 rfl rfl 5 (by decide) hf_28 rfl rfl dX4_changes_1 ?_
  subst hQ; subst hAe
  exact W.iret (v := changes_4) hx hb hr (fun t ht _ => ⟨⟨changes_4, (), rfl, by first | rfl | assumption | omega, by rw [ht]; exact hP, hD⟩, hS.F ht⟩) hS.2.2 dX4_changes_4
def rmX4_has : Room := { frames := 0, cells := 0, slots := 0, locals := 0 }
set_option maxHeartbeats 4000000 in
set_option maxRecDepth 100000 in
theorem c_X4_has (l : Launch) (D : va_G) (cI cJ cB : ClassId) (q4 : Nat → Nat) (parts_4 : Nat → Int32) (wins_4 : Nat → Int32) (draws_4 : Nat → Int32) (points_4 : Nat → Int32) (changes_4 : Int32) (mc : Nat) (k : Int32) (hmc : mc < 2 ^ 31) : ∀ sz, Met l yX4_has wsX4_has rmX4_has (va_Pc [.ref (q4 0), .int k] (PW D (kT cI cJ cB) sz (wX4 q4 cI cJ cB parts_4 wins_4 draws_4 points_4 (nI mc) changes_4))) (va_Qi (S := Unit) (fun r _ => r = if kIn k mc then 1 else 0) (QW D sz (wX4 q4 cI cJ cB parts_4 wins_4 draws_4 points_4 (nI mc) changes_4) (fun _ => (wX4 q4 cI cJ cB parts_4 wins_4 draws_4 points_4 (nI mc) changes_4))) (va_A (wX4 q4 cI cJ cB parts_4 wins_4 draws_4 points_4 (nI mc) changes_4) sz)) 0 0 (va_A (wX4 q4 cI cJ cB parts_4 wins_4 draws_4 points_4 (nI mc) changes_4) sz) := by
  intro sz
  refine Met.ofW (cc := cX4_has) (maxL := 2) (ret := (some .boolean)) (by decide) rfl ?_
  intro p e s m args below meth c s₁ B hml hv
  obtain ⟨hav, hsz, hP, hKW, hD0⟩ := hv
  have hx := B.exec
  have hb := B.bytes
  have hr := B.returns
  have hts := atoms_spec (ws := wsX4_has) B.pre
  have hown : s.vm.findClass RX4 = some m.cls := findClass_of_methodNamed B.named
  have hlocks := B.notSynchronized
  subst hsz
  have hD := hD0.self (sz := s.heap.size)
  obtain ⟨A, hAe⟩ : ∃ A : Nat → Prop, A = va_A (wX4 q4 cI cJ cB parts_4 wins_4 draws_4 points_4 (nI mc) changes_4) s.heap.size := ⟨_, rfl⟩
  rw [← hAe] at hD
  have hA : ∀ q : Nat, s.heap.size ≤ q → A q := fun q h => by rw [hAe]; exact Or.inr h
  have hS : va_S A s.heap s.heap [] := va_S.rf
  refine k_gen (fun Q hQ => ?_)
  have hl := lv_entry ([.ref (q4 0), .int k]) (n := 2) (Nat.le_of_ble_eq_true rfl)
  refine k_entry hav (lg_entry_eq ..) ?_
  generalize (lg_sl ([.ref (q4 0), .int k]) ++ List.replicate (2 - (lg_sl ([.ref (q4 0), .int k])).length) Slot.unset).toArray = ls at hl ⊢
  have hl : lv_has ls 2 [(0, .ref (q4 0)), (1, .int k)] := hl
  have hu_4 : ∀ w ∈ u_ws RX4 TX4 6, w ∈ wsX4_has := by decide +kernel
  have hf_24 : Cond.fieldLink RX4 24 "MeetingRanks$Meetings" "count" "I" ∈ wsX4_has := by decide +kernel
  refine lv_iload_n hx hb dX4_has_0 rfl (lv_at hl 1 rfl) ?_
  refine lv_if_lt (tgt := 16) hx hb dX4_has_1 (by decide) (fun c_1 => ?_) (fun c_1 => ?_)
  · skip
    refine lv_iconst (v := nI 0) hx hb dX4_has_16 (by decide) ?_
    subst hQ; subst hAe
    exact W.zret (v := nI 0) (ty := .boolean) hx hb hr (by decide) (fun t ht _ => ⟨⟨nI 0, (), rfl, by first | exact k_if1 (kIn_of hmc c_1 c_9) | exact k_if0 (kIn_hi hmc c_9) | exact k_if0 (kIn_lo c_1), by rw [ht]; exact hP, hD⟩, hS.F ht⟩) hS.2.2 dX4_has_17
  · skip
    refine lv_iload_n hx hb dX4_has_4 rfl (lv_at hl 1 rfl) ?_
    refine lv_aload_n hx hb dX4_has_5 rfl (lv_at hl 0 rfl) ?_
    refine k_get (ci := 4) (v := .int (nI mc)) (C := RX4) (Tb := TX4) (N := 6) hx hb hts hu_4 hown hKW hP 0 rfl rfl 4 (by decide) hf_24 rfl rfl dX4_has_6 ?_
    refine lv_icmp_ge (tgt := 16) hx hb dX4_has_9 (by decide) (fun c_9 => ?_) (fun c_9 => ?_)
    · skip
      refine lv_iconst (v := nI 0) hx hb dX4_has_16 (by decide) ?_
      subst hQ; subst hAe
      exact W.zret (v := nI 0) (ty := .boolean) hx hb hr (by decide) (fun t ht _ => ⟨⟨nI 0, (), rfl, by first | exact k_if1 (kIn_of hmc c_1 c_9) | exact k_if0 (kIn_hi hmc c_9) | exact k_if0 (kIn_lo c_1), by rw [ht]; exact hP, hD⟩, hS.F ht⟩) hS.2.2 dX4_has_17
    · skip
      refine lv_iconst (v := nI 1) hx hb dX4_has_12 (by decide) ?_
      refine lv_goto (tgt := 17) hx hb dX4_has_13 (by decide) ?_
      subst hQ; subst hAe
      exact W.zret (v := nI 1) (ty := .boolean) hx hb hr (by decide) (fun t ht _ => ⟨⟨nI 1, (), rfl, by first | exact k_if1 (kIn_of hmc c_1 c_9) | exact k_if0 (kIn_hi hmc c_9) | exact k_if0 (kIn_lo c_1), by rw [ht]; exact hP, hD⟩, hS.F ht⟩) hS.2.2 dX4_has_17
def rmX4_part : Room := { frames := 1, cells := 0, slots := 0, locals := 21 }
set_option maxHeartbeats 4000000 in
set_option maxRecDepth 100000 in
theorem c_X4_part (l : Launch) (D : va_G) (cI cJ cB : ClassId) (q4 : Nat → Nat) (parts_4 : Nat → Int32) (wins_4 : Nat → Int32) (draws_4 : Nat → Int32) (points_4 : Nat → Int32) (changes_4 : Int32) (mc : Nat) (k : Int32) (what : Int32) (hmc : mc ≤ 120) : ∀ sz, Met l yX4_part wsX4_part rmX4_part (va_Pc [.ref (q4 0), .int k, .int what] (PW D (kT cI cJ cB) sz (wX4 q4 cI cJ cB parts_4 wins_4 draws_4 points_4 (nI mc) changes_4))) (va_Qi (S := Unit) (fun r _ => r = if kIn k mc ∧ kIn what 4 then parts_4 (k.toInt.toNat * 4 + what.toInt.toNat) else -1) (QW D sz (wX4 q4 cI cJ cB parts_4 wins_4 draws_4 points_4 (nI mc) changes_4) (fun _ => (wX4 q4 cI cJ cB parts_4 wins_4 draws_4 points_4 (nI mc) changes_4))) (va_A (wX4 q4 cI cJ cB parts_4 wins_4 draws_4 points_4 (nI mc) changes_4) sz)) 0 0 (va_A (wX4 q4 cI cJ cB parts_4 wins_4 draws_4 points_4 (nI mc) changes_4) sz) := by
  intro sz
  refine Met.ofW (cc := cX4_part) (maxL := 3) (ret := (some .int)) (by decide) rfl ?_
  intro p e s m args below meth c s₁ B hml hv
  obtain ⟨hav, hsz, hP, hKW, hD0⟩ := hv
  have hx := B.exec
  have hb := B.bytes
  have hr := B.returns
  have hts := atoms_spec (ws := wsX4_part) B.pre
  have hown : s.vm.findClass RX4 = some m.cls := findClass_of_methodNamed B.named
  have hlocks := B.notSynchronized
  subst hsz
  have hD := hD0.self (sz := s.heap.size)
  obtain ⟨A, hAe⟩ : ∃ A : Nat → Prop, A = va_A (wX4 q4 cI cJ cB parts_4 wins_4 draws_4 points_4 (nI mc) changes_4) s.heap.size := ⟨_, rfl⟩
  rw [← hAe] at hD
  have hA : ∀ q : Nat, s.heap.size ≤ q → A q := fun q h => by rw [hAe]; exact Or.inr h
  have hS : va_S A s.heap s.heap [] := va_S.rf
  refine k_gen (fun Q hQ => ?_)
  have hl := lv_entry ([.ref (q4 0), .int k, .int what]) (n := 3) (Nat.le_of_ble_eq_true rfl)
  refine k_entry hav (lg_entry_eq ..) ?_
  generalize (lg_sl ([.ref (q4 0), .int k, .int what]) ++ List.replicate (3 - (lg_sl ([.ref (q4 0), .int k, .int what])).length) Slot.unset).toArray = ls at hl ⊢
  have hl : lv_has ls 3 [(0, .ref (q4 0)), (1, .int k), (2, .int what)] := hl
  have hu_4 : ∀ w ∈ u_ws RX4 TX4 6, w ∈ wsX4_part := by decide +kernel
  have hf_9 : Cond.fieldLink RX4 9 "MeetingRanks$Meetings" "parts" "[I" ∈ wsX4_part := by decide +kernel
  refine lv_aload_n hx hb dX4_part_0 rfl (lv_at hl 0 rfl) ?_
  refine lv_iload_n hx hb dX4_part_1 rfl (lv_at hl 1 rfl) ?_
  have hs_2 : kSplit (wX4 q4 cI cJ cB parts_4 wins_4 draws_4 points_4 (nI mc) changes_4) (wX4 q4 cI cJ cB parts_4 wins_4 draws_4 points_4 (nI mc) changes_4) ([] : va_W) [0, 1, 2, 3, 4] [] := ⟨rfl, rfl, rfl, rfl, rfl, by decide⟩
  refine kc_i hP hD hS hA hs_2 (kV (As := [.int k]) (rest := []) hx hb hml hown hts hKW hP hD hs_2 (c_X4_has l D cI cJ cB q4 parts_4 wins_4 draws_4 points_4 changes_4 mc k (by omega)) (cwV 1 hts gX4_part_X4_has rfl rfl rfl (by decide +kernel) ⟨Nat.le_of_ble_eq_true rfl, Nat.le_of_ble_eq_true rfl⟩) 0 4 rfl rfl rfl rfl hl.1 rfl (Nat.le_of_ble_eq_true rfl) dX4_part_2 ⟨Nat.zero_le _, Nat.zero_le _⟩) (fun r_2 u_2 H locs hw_2 hP hD hS => ?_)
  have er_2 := hw_2
  subst er_2
  have hP : va_P D vwCl (wX4 q4 cI cJ cB parts_4 wins_4 draws_4 points_4 (nI mc) changes_4) H := hP.sub (ws' := (wX4 q4 cI cJ cB parts_4 wins_4 draws_4 points_4 (nI mc) changes_4)) [0, 1, 2, 3, 4] rfl
  have hD : va_D A (wX4 q4 cI cJ cB parts_4 wins_4 draws_4 points_4 (nI mc) changes_4) := hD.sub (ws' := (wX4 q4 cI cJ cB parts_4 wins_4 draws_4 points_4 (nI mc) changes_4)) [0, 1, 2, 3, 4] (by decide) rfl
  refine lv_if_eq (tgt := 17) hx hb dX4_part_5 (by decide) (fun c_5 => ?_) (fun c_5 => ?_)
  · skip
    have c_5 := k_b0 c_5
    refine lv_iconst (v := (-1)) hx hb dX4_part_17 (by decide) ?_
    subst hQ; subst hAe
    exact W.iret (v := (-1)) hx hb hr (fun t ht _ => ⟨⟨(-1), (), rfl, by first | (rw [if_pos ⟨(kIn_nI (by omega)).mpr (by omega), (kIn_nI (by omega)).mpr (by omega)⟩, k_tt (by omega), k_tt (by omega)]; done) | exact (if_neg (fun z => kIn_nlt (by decide) c_14 z.2)).symm | exact (if_neg (fun z => kIn_lo c_9 z.2)).symm | exact (if_neg (fun z => c_5 z.1)).symm, by rw [ht]; exact hP, hD⟩, hS.F ht⟩) hS.2.2 dX4_part_18
  · skip
    have c_5 := k_b1 c_5
    refine lv_iload_n hx hb dX4_part_8 rfl (lv_at hl 2 rfl) ?_
    refine lv_if_lt (tgt := 17) hx hb dX4_part_9 (by decide) (fun c_9 => ?_) (fun c_9 => ?_)
    · skip
      refine lv_iconst (v := (-1)) hx hb dX4_part_17 (by decide) ?_
      subst hQ; subst hAe
      exact W.iret (v := (-1)) hx hb hr (fun t ht _ => ⟨⟨(-1), (), rfl, by first | (rw [if_pos ⟨(kIn_nI (by omega)).mpr (by omega), (kIn_nI (by omega)).mpr (by omega)⟩, k_tt (by omega), k_tt (by omega)]; done) | exact (if_neg (fun z => kIn_nlt (by decide) c_14 z.2)).symm | exact (if_neg (fun z => kIn_lo c_9 z.2)).symm | exact (if_neg (fun z => c_5 z.1)).symm, by rw [ht]; exact hP, hD⟩, hS.F ht⟩) hS.2.2 dX4_part_18
    · skip
      refine lv_iload_n hx hb dX4_part_12 rfl (lv_at hl 2 rfl) ?_
      refine lv_iconst (v := nI 4) hx hb dX4_part_13 (by decide) ?_
      refine lv_icmp_lt (tgt := 19) hx hb dX4_part_14 (by decide) (fun c_14 => ?_) (fun c_14 => ?_)
      · skip
        obtain ⟨w, hw4, rfl⟩ := kIn_nat (kIn_lt (n := 4) (by decide) c_9 c_14)
        obtain ⟨j, hj, rfl⟩ := kIn_nat c_5
        refine lv_aload_n hx hb dX4_part_19 rfl (lv_at hl 0 rfl) ?_
        refine k_get (ci := 4) (v := .ref (q4 1)) (C := RX4) (Tb := TX4) (N := 6) hx hb hts hu_4 hown hKW hP 0 rfl rfl 0 (by decide) hf_9 rfl rfl dX4_part_20 ?_
        refine lv_iload_n hx hb dX4_part_23 rfl (lv_at hl 1 rfl) ?_
        refine lv_iconst (v := nI 4) hx hb dX4_part_24 (by decide) ?_
        refine k_imul hx hb dX4_part_25 ?_
        refine lv_iload_n hx hb dX4_part_26 rfl (lv_at hl 2 rfl) ?_
        refine k_iadd hx hb dX4_part_27 ?_
        refine k_iald (n := 480) (i := (j * 4) + w) hx hb hKW hP 1 0 rfl rfl (by omega) (by omega) dX4_part_28 ?_
        subst hQ; subst hAe
        exact W.iret (v := parts_4 ((j * 4) + w)) hx hb hr (fun t ht _ => ⟨⟨parts_4 ((j * 4) + w), (), rfl, by first | (rw [if_pos ⟨(kIn_nI (by omega)).mpr (by omega), (kIn_nI (by omega)).mpr (by omega)⟩, k_tt (by omega), k_tt (by omega)]; done) | exact (if_neg (fun z => kIn_nlt (by decide) c_14 z.2)).symm | exact (if_neg (fun z => kIn_lo c_9 z.2)).symm | exact (if_neg (fun z => c_5 z.1)).symm, by rw [ht]; exact hP, hD⟩, hS.F ht⟩) hS.2.2 dX4_part_29
      · skip
        refine lv_iconst (v := (-1)) hx hb dX4_part_17 (by decide) ?_
        subst hQ; subst hAe
        exact W.iret (v := (-1)) hx hb hr (fun t ht _ => ⟨⟨(-1), (), rfl, by first | (rw [if_pos ⟨(kIn_nI (by omega)).mpr (by omega), (kIn_nI (by omega)).mpr (by omega)⟩, k_tt (by omega), k_tt (by omega)]; done) | exact (if_neg (fun z => kIn_nlt (by decide) c_14 z.2)).symm | exact (if_neg (fun z => kIn_lo c_9 z.2)).symm | exact (if_neg (fun z => c_5 z.1)).symm, by rw [ht]; exact hP, hD⟩, hS.F ht⟩) hS.2.2 dX4_part_18
