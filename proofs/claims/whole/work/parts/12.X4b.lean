def rmX0_size : Room := { frames := 0, cells := 0, slots := 0, locals := 0 }
set_option maxHeartbeats 4000000 in
set_option maxRecDepth 100000 in
theorem c_X0_size (l : Launch) (D : va_G) (cI cJ cB : ClassId) (q0 : Nat → Nat) (parts_0 : Nat → Int32) (end_0 : Int32) (size_0 : Int32) : ∀ sz, Met l yX0_size wsX0_size rmX0_size (va_Pc [.ref (q0 0)] (PW D (kT cI cJ cB) sz (wX0 q0 cI cJ cB parts_0 end_0 size_0))) (va_Qi (S := Unit) (fun r _ => r = size_0) (QW D sz (wX0 q0 cI cJ cB parts_0 end_0 size_0) (fun _ => (wX0 q0 cI cJ cB parts_0 end_0 size_0))) (va_A (wX0 q0 cI cJ cB parts_0 end_0 size_0) sz)) 0 0 (va_A (wX0 q0 cI cJ cB parts_0 end_0 size_0) sz) := by
  intro sz
  refine Met.ofW (cc := cX0_size) (maxL := 1) (ret := (some .int)) (by decide) rfl ?_
  intro p e s m args below meth c s₁ B hml hv
  obtain ⟨hav, hsz, hP, hKW, hD0⟩ := hv
  have hx := B.exec
  have hb := B.bytes
  have hr := B.returns
  have hts := atoms_spec (ws := wsX0_size) B.pre
  have hown : s.vm.findClass RX0 = some m.cls := findClass_of_methodNamed B.named
  have hlocks := B.notSynchronized
  subst hsz
  have hD := hD0.self (sz := s.heap.size)
  obtain ⟨A, hAe⟩ : ∃ A : Nat → Prop, A = va_A (wX0 q0 cI cJ cB parts_0 end_0 size_0) s.heap.size := ⟨_, rfl⟩
  rw [← hAe] at hD
  have hA : ∀ q : Nat, s.heap.size ≤ q → A q := fun q h => by rw [hAe]; exact Or.inr h
  have hS : va_S A s.heap s.heap [] := va_S.rf
  refine k_gen (fun Q hQ => ?_)
  have hl := lv_entry ([.ref (q0 0)]) (n := 1) (Nat.le_of_ble_eq_true rfl)
  refine k_entry hav (lg_entry_eq ..) ?_
  generalize (lg_sl ([.ref (q0 0)]) ++ List.replicate (1 - (lg_sl ([.ref (q0 0)])).length) Slot.unset).toArray = ls at hl ⊢
  have hl : lv_has ls 1 [(0, .ref (q0 0))] := hl
  have hu_0 : ∀ w ∈ u_ws RX0 TX0 3, w ∈ wsX0_size := by decide +kernel
  have hf_19 : Cond.fieldLink RX0 19 "MeetingRanks$Acts" "size" "I" ∈ wsX0_size := by decide +kernel
  refine lv_aload_n hx hb dX0_size_0 rfl (lv_at hl 0 rfl) ?_
  refine k_get (ci := 0) (v := .int size_0) (C := RX0) (Tb := TX0) (N := 3) hx hb hts hu_0 hown hKW hP 0 rfl rfl 2 (by decide) hf_19 rfl rfl dX0_size_1 ?_
  subst hQ; subst hAe
  exact W.iret (v := size_0) hx hb hr (fun t ht _ => ⟨⟨size_0, (), rfl, by first | rfl | assumption | omega, by rw [ht]; exact hP, hD⟩, hS.F ht⟩) hS.2.2 dX0_size_4
def rmX0_latestPlace : Room := { frames := 0, cells := 0, slots := 0, locals := 0 }
set_option maxHeartbeats 4000000 in
set_option maxRecDepth 100000 in
theorem c_X0_latestPlace (l : Launch) (D : va_G) (cI cJ cB : ClassId) (q0 : Nat → Nat) (parts_0 : Nat → Int32) (e2 : Nat) (z : Nat) (he : e2 < 40) (hz : z ≤ 40) : ∀ sz, Met l yX0_latestPlace wsX0_latestPlace rmX0_latestPlace (va_Pc [.ref (q0 0)] (PW D (kT cI cJ cB) sz (wX0 q0 cI cJ cB parts_0 (nI e2) (nI z)))) (va_Qi (S := Unit) (fun r _ => r = nI (lpF e2)) (QW D sz (wX0 q0 cI cJ cB parts_0 (nI e2) (nI z)) (fun _ => (wX0 q0 cI cJ cB parts_0 (nI e2) (nI z)))) (va_A (wX0 q0 cI cJ cB parts_0 (nI e2) (nI z)) sz)) 0 0 (va_A (wX0 q0 cI cJ cB parts_0 (nI e2) (nI z)) sz) := by
  intro sz
  refine Met.ofW (cc := cX0_latestPlace) (maxL := 1) (ret := (some .int)) (by decide) rfl ?_
  intro p e s m args below meth c s₁ B hml hv
  obtain ⟨hav, hsz, hP, hKW, hD0⟩ := hv
  have hx := B.exec
  have hb := B.bytes
  have hr := B.returns
  have hts := atoms_spec (ws := wsX0_latestPlace) B.pre
  have hown : s.vm.findClass RX0 = some m.cls := findClass_of_methodNamed B.named
  have hlocks := B.notSynchronized
  subst hsz
  have hD := hD0.self (sz := s.heap.size)
  obtain ⟨A, hAe⟩ : ∃ A : Nat → Prop, A = va_A (wX0 q0 cI cJ cB parts_0 (nI e2) (nI z)) s.heap.size := ⟨_, rfl⟩
  rw [← hAe] at hD
  have hA : ∀ q : Nat, s.heap.size ≤ q → A q := fun q h => by rw [hAe]; exact Or.inr h
  have hS : va_S A s.heap s.heap [] := va_S.rf
  refine k_gen (fun Q hQ => ?_)
  have hl := lv_entry ([.ref (q0 0)]) (n := 1) (Nat.le_of_ble_eq_true rfl)
  refine k_entry hav (lg_entry_eq ..) ?_
  generalize (lg_sl ([.ref (q0 0)]) ++ List.replicate (1 - (lg_sl ([.ref (q0 0)])).length) Slot.unset).toArray = ls at hl ⊢
  have hl : lv_has ls 1 [(0, .ref (q0 0))] := hl
  have hu_0 : ∀ w ∈ u_ws RX0 TX0 3, w ∈ wsX0_latestPlace := by decide +kernel
  have hf_15 : Cond.fieldLink RX0 15 "MeetingRanks$Acts" "end" "I" ∈ wsX0_latestPlace := by decide +kernel
  refine lv_aload_n hx hb dX0_latestPlace_0 rfl (lv_at hl 0 rfl) ?_
  refine k_get (ci := 0) (v := .int (nI e2)) (C := RX0) (Tb := TX0) (N := 3) hx hb hts hu_0 hown hKW hP 0 rfl rfl 1 (by decide) hf_15 rfl rfl dX0_latestPlace_1 ?_
  refine lv_if_ne (tgt := 12) hx hb dX0_latestPlace_4 (by decide) (fun c_4 => ?_) (fun c_4 => ?_)
  · skip
    have c_4 := k0_ne (by omega) c_4
    refine lv_aload_n hx hb dX0_latestPlace_12 rfl (lv_at hl 0 rfl) ?_
    refine k_get (ci := 0) (v := .int (nI e2)) (C := RX0) (Tb := TX0) (N := 3) hx hb hts hu_0 hown hKW hP 0 rfl rfl 1 (by decide) hf_15 rfl rfl dX0_latestPlace_13 ?_
    refine lv_iconst (v := nI 1) hx hb dX0_latestPlace_16 (by decide) ?_
    refine k_isub hx hb (by omega) dX0_latestPlace_17 ?_
    subst hQ; subst hAe
    exact W.iret (v := nI (e2 - 1)) hx hb hr (fun t ht _ => ⟨⟨nI (e2 - 1), (), rfl, by unfold lpF; first | (rw [if_pos c_4]; done) | (rw [if_neg c_4]; done), by rw [ht]; exact hP, hD⟩, hS.F ht⟩) hS.2.2 dX0_latestPlace_18
  · skip
    have c_4 := k0_ne_n (by omega) c_4
    refine lv_bipush (v := nI 39) hx hb dX0_latestPlace_7 (by decide) ?_
    refine lv_goto (tgt := 18) hx hb dX0_latestPlace_9 (by decide) ?_
    subst hQ; subst hAe
    exact W.iret (v := nI 39) hx hb hr (fun t ht _ => ⟨⟨nI 39, (), rfl, by unfold lpF; first | (rw [if_pos c_4]; done) | (rw [if_neg c_4]; done), by rw [ht]; exact hP, hD⟩, hS.F ht⟩) hS.2.2 dX0_latestPlace_18
def rmX0_latest : Room := { frames := 1, cells := 0, slots := 0, locals := 20 }
set_option maxHeartbeats 4000000 in
set_option maxRecDepth 100000 in
theorem c_X0_latest (l : Launch) (D : va_G) (cI cJ cB : ClassId) (q0 : Nat → Nat) (parts_0 : Nat → Int32) (e2 : Nat) (z : Nat) (j : Nat) (he : e2 < 40) (hz : z ≤ 40) (hz0 : 0 < z) (hj : j < 6) : ∀ sz, Met l yX0_latest wsX0_latest rmX0_latest (va_Pc [.ref (q0 0), .int (nI j)] (PW D (kT cI cJ cB) sz (wX0 q0 cI cJ cB parts_0 (nI e2) (nI z)))) (va_Qi (S := Unit) (fun r _ => r = parts_0 (lpF e2 * 6 + j)) (QW D sz (wX0 q0 cI cJ cB parts_0 (nI e2) (nI z)) (fun _ => (wX0 q0 cI cJ cB parts_0 (nI e2) (nI z)))) (va_A (wX0 q0 cI cJ cB parts_0 (nI e2) (nI z)) sz)) 0 0 (va_A (wX0 q0 cI cJ cB parts_0 (nI e2) (nI z)) sz) := by
  intro sz
  refine Met.ofW (cc := cX0_latest) (maxL := 2) (ret := (some .int)) (by decide) rfl ?_
  intro p e s m args below meth c s₁ B hml hv
  obtain ⟨hav, hsz, hP, hKW, hD0⟩ := hv
  have hx := B.exec
  have hb := B.bytes
  have hr := B.returns
  have hts := atoms_spec (ws := wsX0_latest) B.pre
  have hown : s.vm.findClass RX0 = some m.cls := findClass_of_methodNamed B.named
  have hlocks := B.notSynchronized
  subst hsz
  have hD := hD0.self (sz := s.heap.size)
  obtain ⟨A, hAe⟩ : ∃ A : Nat → Prop, A = va_A (wX0 q0 cI cJ cB parts_0 (nI e2) (nI z)) s.heap.size := ⟨_, rfl⟩
  rw [← hAe] at hD
  have hA : ∀ q : Nat, s.heap.size ≤ q → A q := fun q h => by rw [hAe]; exact Or.inr h
  have hS : va_S A s.heap s.heap [] := va_S.rf
  refine k_gen (fun Q hQ => ?_)
  have hl := lv_entry ([.ref (q0 0), .int (nI j)]) (n := 2) (Nat.le_of_ble_eq_true rfl)
  refine k_entry hav (lg_entry_eq ..) ?_
  generalize (lg_sl ([.ref (q0 0), .int (nI j)]) ++ List.replicate (2 - (lg_sl ([.ref (q0 0), .int (nI j)])).length) Slot.unset).toArray = ls at hl ⊢
  have hl : lv_has ls 2 [(0, .ref (q0 0)), (1, .int (nI j))] := hl
  have hu_0 : ∀ w ∈ u_ws RX0 TX0 3, w ∈ wsX0_latest := by decide +kernel
  have hf_11 : Cond.fieldLink RX0 11 "MeetingRanks$Acts" "parts" "[I" ∈ wsX0_latest := by decide +kernel
  have hf_19 : Cond.fieldLink RX0 19 "MeetingRanks$Acts" "size" "I" ∈ wsX0_latest := by decide +kernel
  refine lv_aload_n hx hb dX0_latest_0 rfl (lv_at hl 0 rfl) ?_
  refine k_get (ci := 0) (v := .int (nI z)) (C := RX0) (Tb := TX0) (N := 3) hx hb hts hu_0 hown hKW hP 0 rfl rfl 2 (by decide) hf_19 rfl rfl dX0_latest_1 ?_
  refine lv_if_eq (tgt := 17) hx hb dX0_latest_4 (by decide) (fun c_4 => ?_) (fun c_4 => ?_)
  · skip
    have c_4 := k0_eq (by omega) c_4
    exact absurd c_4 (by omega)
  · skip
    have c_4 := k0_eq_n (by omega) c_4
    refine lv_iload_n hx hb dX0_latest_7 rfl (lv_at hl 1 rfl) ?_
    refine lv_if_lt (tgt := 17) hx hb dX0_latest_8 (by decide) (fun c_8 => ?_) (fun c_8 => ?_)
    · skip
      exact (k0_lt (by omega) c_8).elim
    · skip
      have c_8 := k0_lt_n (by omega) c_8
      refine lv_iload_n hx hb dX0_latest_11 rfl (lv_at hl 1 rfl) ?_
      refine lv_bipush (v := nI 6) hx hb dX0_latest_12 (by decide) ?_
      refine lv_icmp_lt (tgt := 19) hx hb dX0_latest_14 (by decide) (fun c_14 => ?_) (fun c_14 => ?_)
      · skip
        have c_14 := k_lt (by omega) (by omega) c_14
        refine lv_aload_n hx hb dX0_latest_19 rfl (lv_at hl 0 rfl) ?_
        refine k_get (ci := 0) (v := .ref (q0 1)) (C := RX0) (Tb := TX0) (N := 3) hx hb hts hu_0 hown hKW hP 0 rfl rfl 0 (by decide) hf_11 rfl rfl dX0_latest_20 ?_
        refine lv_aload_n hx hb dX0_latest_23 rfl (lv_at hl 0 rfl) ?_
        have hs_24 : kSplit (wX0 q0 cI cJ cB parts_0 (nI e2) (nI z)) (wX0 q0 cI cJ cB parts_0 (nI e2) (nI z)) ([] : va_W) [0, 1] [] := ⟨rfl, rfl, rfl, rfl, rfl, by decide⟩
        refine kc_i hP hD hS hA hs_24 (kV (As := []) (rest := [.ref (q0 1)]) hx hb hml hown hts hKW hP hD hs_24 (c_X0_latestPlace l D cI cJ cB q0 parts_0 e2 z (by first | assumption | omega) (by first | assumption | omega)) (cwV 0 hts gX0_latest_X0_latestPlace rfl rfl rfl (by decide +kernel) ⟨Nat.le_of_ble_eq_true rfl, Nat.le_of_ble_eq_true rfl⟩) 0 0 rfl rfl rfl rfl hl.1 rfl (Nat.le_of_ble_eq_true rfl) dX0_latest_24 ⟨Nat.zero_le _, Nat.zero_le _⟩) (fun r_24 u_24 H locs hw_24 hP hD hS => ?_)
        have er_24 := hw_24
        subst er_24
        have hP : va_P D vwCl (wX0 q0 cI cJ cB parts_0 (nI e2) (nI z)) H := hP.sub (ws' := (wX0 q0 cI cJ cB parts_0 (nI e2) (nI z))) [0, 1] rfl
        have hD : va_D A (wX0 q0 cI cJ cB parts_0 (nI e2) (nI z)) := hD.sub (ws' := (wX0 q0 cI cJ cB parts_0 (nI e2) (nI z))) [0, 1] (by decide) rfl
        have hlp := lpF_lt (e := e2) he
        refine lv_bipush (v := nI 6) hx hb dX0_latest_27 (by decide) ?_
        refine k_imul hx hb dX0_latest_29 ?_
        refine lv_iload_n hx hb dX0_latest_30 rfl (lv_at hl 1 rfl) ?_
        refine k_iadd hx hb dX0_latest_31 ?_
        refine k_iald (n := 240) (i := ((lpF e2) * 6) + j) hx hb hKW hP 1 0 rfl rfl (by omega) (by omega) dX0_latest_32 ?_
        subst hQ; subst hAe
        exact W.iret (v := parts_0 (((lpF e2) * 6) + j)) hx hb hr (fun t ht _ => ⟨⟨parts_0 (((lpF e2) * 6) + j), (), rfl, rfl, by rw [ht]; exact hP, hD⟩, hS.F ht⟩) hS.2.2 dX0_latest_33
      · skip
        have c_14 := k_lt_n (by omega) (by omega) c_14
        exact absurd c_14 (by omega)
def rmX0_forgetLatest : Room := { frames := 1, cells := 0, slots := 0, locals := 20 }
set_option maxHeartbeats 4000000 in
set_option maxRecDepth 100000 in
theorem c_X0_forgetLatest (l : Launch) (D : va_G) (cI cJ cB : ClassId) (q0 : Nat → Nat) (parts_0 : Nat → Int32) (e2 : Nat) (z : Nat) (he : e2 < 40) (hz : z ≤ 40) (hz0 : 0 < z) : ∀ sz, Met l yX0_forgetLatest wsX0_forgetLatest rmX0_forgetLatest (va_Pc [.ref (q0 0)] (PW D (kT cI cJ cB) sz (wX0 q0 cI cJ cB parts_0 (nI e2) (nI z)))) (va_Qv (S := Int32 × Int32) (fun uu => match uu with | (end_0', size_0') => end_0' = nI (lpF e2) ∧ size_0' = nI (z - 1)) (QW D sz (wX0 q0 cI cJ cB parts_0 (nI e2) (nI z)) (fun uu => match uu with | (end_0', size_0') => (wX0 q0 cI cJ cB parts_0 end_0' size_0'))) (va_A (wX0 q0 cI cJ cB parts_0 (nI e2) (nI z)) sz)) 0 0 (va_A (wX0 q0 cI cJ cB parts_0 (nI e2) (nI z)) sz) := by
  intro sz
  refine Met.ofW (cc := cX0_forgetLatest) (maxL := 1) (ret := none) (by decide) rfl ?_
  intro p e s m args below meth c s₁ B hml hv
  obtain ⟨hav, hsz, hP, hKW, hD0⟩ := hv
  have hx := B.exec
  have hb := B.bytes
  have hr := B.returns
  have hts := atoms_spec (ws := wsX0_forgetLatest) B.pre
  have hown : s.vm.findClass RX0 = some m.cls := findClass_of_methodNamed B.named
  have hlocks := B.notSynchronized
  subst hsz
  have hD := hD0.self (sz := s.heap.size)
  obtain ⟨A, hAe⟩ : ∃ A : Nat → Prop, A = va_A (wX0 q0 cI cJ cB parts_0 (nI e2) (nI z)) s.heap.size := ⟨_, rfl⟩
  rw [← hAe] at hD
  have hA : ∀ q : Nat, s.heap.size ≤ q → A q := fun q h => by rw [hAe]; exact Or.inr h
  have hS : va_S A s.heap s.heap [] := va_S.rf
  refine k_gen (fun Q hQ => ?_)
  have hl := lv_entry ([.ref (q0 0)]) (n := 1) (Nat.le_of_ble_eq_true rfl)
  refine k_entry hav (lg_entry_eq ..) ?_
  generalize (lg_sl ([.ref (q0 0)]) ++ List.replicate (1 - (lg_sl ([.ref (q0 0)])).length) Slot.unset).toArray = ls at hl ⊢
  have hl : lv_has ls 1 [(0, .ref (q0 0))] := hl
  have hu_0 : ∀ w ∈ u_ws RX0 TX0 3, w ∈ wsX0_forgetLatest := by decide +kernel
  have hf_15 : Cond.fieldLink RX0 15 "MeetingRanks$Acts" "end" "I" ∈ wsX0_forgetLatest := by decide +kernel
  have hf_19 : Cond.fieldLink RX0 19 "MeetingRanks$Acts" "size" "I" ∈ wsX0_forgetLatest := by decide +kernel
  refine lv_aload_n hx hb dX0_forgetLatest_0 rfl (lv_at hl 0 rfl) ?_
  refine k_get (ci := 0) (v := .int (nI z)) (C := RX0) (Tb := TX0) (N := 3) hx hb hts hu_0 hown hKW hP 0 rfl rfl 2 (by decide) hf_19 rfl rfl dX0_forgetLatest_1 ?_
  refine lv_if_le (tgt := 25) hx hb dX0_forgetLatest_4 (by decide) (fun c_4 => ?_) (fun c_4 => ?_)
  · skip
    have c_4 := k0_le (by omega) c_4
    exact absurd c_4 (by omega)
  · skip
    have c_4 := k0_le_n (by omega) c_4
    refine lv_aload_n hx hb dX0_forgetLatest_7 rfl (lv_at hl 0 rfl) ?_
    refine lv_aload_n hx hb dX0_forgetLatest_8 rfl (lv_at hl 0 rfl) ?_
    have hs_9 : kSplit (wX0 q0 cI cJ cB parts_0 (nI e2) (nI z)) (wX0 q0 cI cJ cB parts_0 (nI e2) (nI z)) ([] : va_W) [0, 1] [] := ⟨rfl, rfl, rfl, rfl, rfl, by decide⟩
    refine kc_i hP hD hS hA hs_9 (kV (As := []) (rest := [.ref (q0 0)]) hx hb hml hown hts hKW hP hD hs_9 (c_X0_latestPlace l D cI cJ cB q0 parts_0 e2 z (by first | assumption | omega) (by first | assumption | omega)) (cwV 0 hts gX0_forgetLatest_X0_latestPlace rfl rfl rfl (by decide +kernel) ⟨Nat.le_of_ble_eq_true rfl, Nat.le_of_ble_eq_true rfl⟩) 0 0 rfl rfl rfl rfl hl.1 rfl (Nat.le_of_ble_eq_true rfl) dX0_forgetLatest_9 ⟨Nat.zero_le _, Nat.zero_le _⟩) (fun r_9 u_9 H locs hw_9 hP hD hS => ?_)
    have er_9 := hw_9
    subst er_9
    have hP : va_P D vwCl (wX0 q0 cI cJ cB parts_0 (nI e2) (nI z)) H := hP.sub (ws' := (wX0 q0 cI cJ cB parts_0 (nI e2) (nI z))) [0, 1] rfl
    have hD : va_D A (wX0 q0 cI cJ cB parts_0 (nI e2) (nI z)) := hD.sub (ws' := (wX0 q0 cI cJ cB parts_0 (nI e2) (nI z))) [0, 1] (by decide) rfl
    refine k_put (ci := 0) (ty := .int) (v := .int (nI (lpF e2))) (C := RX0) (Tb := TX0) (N := 3) (w' := (wX0 q0 cI cJ cB parts_0 (nI (lpF e2)) (nI z))) hx hb hts hu_0 tyX0 tyX0_ok nmX0 hown hKW hP hD hS 0 rfl rfl 1 (by decide) hf_15 rfl rfl (by decide +kernel) rfl rfl (Nat.le_of_ble_eq_true rfl) dX0_forgetLatest_12 rfl (fun H locs hP hD hS => ?_)
    refine lv_aload_n hx hb dX0_forgetLatest_15 rfl (lv_at hl 0 rfl) ?_
    refine lv_dup hx hb dX0_forgetLatest_16 rfl ?_
    refine k_get (ci := 0) (v := .int (nI z)) (C := RX0) (Tb := TX0) (N := 3) hx hb hts hu_0 hown hKW hP 0 rfl rfl 2 (by decide) hf_19 rfl rfl dX0_forgetLatest_17 ?_
    refine lv_iconst (v := nI 1) hx hb dX0_forgetLatest_20 (by decide) ?_
    refine k_isub hx hb (by omega) dX0_forgetLatest_21 ?_
    refine k_put (ci := 0) (ty := .int) (v := .int (nI (z - 1))) (C := RX0) (Tb := TX0) (N := 3) (w' := (wX0 q0 cI cJ cB parts_0 (nI (lpF e2)) (nI (z - 1)))) hx hb hts hu_0 tyX0 tyX0_ok nmX0 hown hKW hP hD hS 0 rfl rfl 2 (by decide) hf_19 rfl rfl (by decide +kernel) rfl rfl (Nat.le_of_ble_eq_true rfl) dX0_forgetLatest_22 rfl (fun H locs hP hD hS => ?_)
    subst hQ; subst hAe
    exact W.vret hx hb hr (fun t ht _ => ⟨⟨(nI (lpF e2), nI (z - 1)), rfl, ⟨rfl, rfl⟩, by rw [ht]; exact hP, hD⟩, hS.F ht⟩) hS.2.2 dX0_forgetLatest_25
def rmX0_put : Room := { frames := 1, cells := 0, slots := 0, locals := 21 }
set_option maxHeartbeats 4000000 in
set_option maxRecDepth 100000 in
theorem c_X0_put (l : Launch) (D : va_G) (cI cJ cB : ClassId) (q0 : Nat → Nat) (parts_0 : Nat → Int32) (e2 : Nat) (z : Nat) (v0 : Int32) (v1 : Int32) (v2 : Int32) (v3 : Int32) (v4 : Int32) (v5 : Int32) (he : e2 < 40) (hz : z ≤ 40) : ∀ sz, Met l yX0_put wsX0_put rmX0_put (va_Pc [.ref (q0 0), .int v0, .int v1, .int v2, .int v3, .int v4, .int v5] (PW D (kT cI cJ cB) sz (wX0 q0 cI cJ cB parts_0 (nI e2) (nI z)))) (va_Qv (S := Int32 × Int32) (fun uu => match uu with | (end_0', size_0') => end_0' = nI (if e2 = 39 then 0 else e2 + 1) ∧ size_0' = nI (if z < 40 then z + 1 else 40)) (QW D sz (wX0 q0 cI cJ cB parts_0 (nI e2) (nI z)) (fun uu => match uu with | (end_0', size_0') => (wX0 q0 cI cJ cB (upd (upd (upd (upd (upd (upd parts_0 (e2 * 6) v0) ((e2 * 6) + 1) v1) ((e2 * 6) + 2) v2) ((e2 * 6) + 3) v3) ((e2 * 6) + 4) v4) ((e2 * 6) + 5) v5) end_0' size_0'))) (va_A (wX0 q0 cI cJ cB parts_0 (nI e2) (nI z)) sz)) 0 0 (va_A (wX0 q0 cI cJ cB parts_0 (nI e2) (nI z)) sz) := by
  intro sz
  refine Met.ofW (cc := cX0_put) (maxL := 8) (ret := none) (by decide) rfl ?_
  intro p e s m args below meth c s₁ B hml hv
  obtain ⟨hav, hsz, hP, hKW, hD0⟩ := hv
  have hx := B.exec
  have hb := B.bytes
  have hr := B.returns
  have hts := atoms_spec (ws := wsX0_put) B.pre
  have hown : s.vm.findClass RX0 = some m.cls := findClass_of_methodNamed B.named
  have hlocks := B.notSynchronized
  subst hsz
  have hD := hD0.self (sz := s.heap.size)
  obtain ⟨A, hAe⟩ : ∃ A : Nat → Prop, A = va_A (wX0 q0 cI cJ cB parts_0 (nI e2) (nI z)) s.heap.size := ⟨_, rfl⟩
  rw [← hAe] at hD
  have hA : ∀ q : Nat, s.heap.size ≤ q → A q := fun q h => by rw [hAe]; exact Or.inr h
  have hS : va_S A s.heap s.heap [] := va_S.rf
  refine k_gen (fun Q hQ => ?_)
  have hl := lv_entry ([.ref (q0 0), .int v0, .int v1, .int v2, .int v3, .int v4, .int v5]) (n := 8) (Nat.le_of_ble_eq_true rfl)
  refine k_entry hav (lg_entry_eq ..) ?_
  generalize (lg_sl ([.ref (q0 0), .int v0, .int v1, .int v2, .int v3, .int v4, .int v5]) ++ List.replicate (8 - (lg_sl ([.ref (q0 0), .int v0, .int v1, .int v2, .int v3, .int v4, .int v5])).length) Slot.unset).toArray = ls at hl ⊢
  have hl : lv_has ls 8 [(0, .ref (q0 0)), (1, .int v0), (2, .int v1), (3, .int v2), (4, .int v3), (5, .int v4), (6, .int v5)] := hl
  have hu_0 : ∀ w ∈ u_ws RX0 TX0 3, w ∈ wsX0_put := by decide +kernel
  have hf_11 : Cond.fieldLink RX0 11 "MeetingRanks$Acts" "parts" "[I" ∈ wsX0_put := by decide +kernel
  have hf_15 : Cond.fieldLink RX0 15 "MeetingRanks$Acts" "end" "I" ∈ wsX0_put := by decide +kernel
  have hf_19 : Cond.fieldLink RX0 19 "MeetingRanks$Acts" "size" "I" ∈ wsX0_put := by decide +kernel
  refine lv_aload_n hx hb dX0_put_0 rfl (lv_at hl 0 rfl) ?_
  refine k_get (ci := 0) (v := .int (nI e2)) (C := RX0) (Tb := TX0) (N := 3) hx hb hts hu_0 hown hKW hP 0 rfl rfl 1 (by decide) hf_15 rfl rfl dX0_put_1 ?_
  refine lv_bipush (v := nI 6) hx hb dX0_put_4 (by decide) ?_
  refine k_imul hx hb dX0_put_6 ?_
  refine lv_istore (lv' := [(7, .int (nI (e2 * 6))), (0, .ref (q0 0)), (1, .int v0), (2, .int v1), (3, .int v2), (4, .int v3), (5, .int v4), (6, .int v5)]) hx hb dX0_put_7 hl (by decide) rfl (fun ls hl => ?_)
  refine lv_aload_n hx hb dX0_put_9 rfl (lv_at hl 1 rfl) ?_
  refine k_get (ci := 0) (v := .ref (q0 1)) (C := RX0) (Tb := TX0) (N := 3) hx hb hts hu_0 hown hKW hP 0 rfl rfl 0 (by decide) hf_11 rfl rfl dX0_put_10 ?_
  refine lv_iload hx hb dX0_put_13 (lv_at hl 0 rfl) ?_
  refine lv_iload_n hx hb dX0_put_15 rfl (lv_at hl 2 rfl) ?_
  refine k_iast (n := 240) (i := e2 * 6) (x := v0) (w' := (wX0 q0 cI cJ cB (upd parts_0 (e2 * 6) v0) (nI e2) (nI z))) hx hb hKW hP hD hS 1 0 rfl rfl (by omega) (by omega) dX0_put_16 rfl (fun H locs hP hD hS => ?_)
  refine lv_aload_n hx hb dX0_put_17 rfl (lv_at hl 1 rfl) ?_
  refine k_get (ci := 0) (v := .ref (q0 1)) (C := RX0) (Tb := TX0) (N := 3) hx hb hts hu_0 hown hKW hP 0 rfl rfl 0 (by decide) hf_11 rfl rfl dX0_put_18 ?_
  refine lv_iload hx hb dX0_put_21 (lv_at hl 0 rfl) ?_
  refine lv_iconst (v := nI 1) hx hb dX0_put_23 (by decide) ?_
  refine k_iadd hx hb dX0_put_24 ?_
  refine lv_iload_n hx hb dX0_put_25 rfl (lv_at hl 3 rfl) ?_
  refine k_iast (n := 240) (i := (e2 * 6) + 1) (x := v1) (w' := (wX0 q0 cI cJ cB (upd (upd parts_0 (e2 * 6) v0) ((e2 * 6) + 1) v1) (nI e2) (nI z))) hx hb hKW hP hD hS 1 0 rfl rfl (by omega) (by omega) dX0_put_26 rfl (fun H locs hP hD hS => ?_)
  refine lv_aload_n hx hb dX0_put_27 rfl (lv_at hl 1 rfl) ?_
  refine k_get (ci := 0) (v := .ref (q0 1)) (C := RX0) (Tb := TX0) (N := 3) hx hb hts hu_0 hown hKW hP 0 rfl rfl 0 (by decide) hf_11 rfl rfl dX0_put_28 ?_
  refine lv_iload hx hb dX0_put_31 (lv_at hl 0 rfl) ?_
  refine lv_iconst (v := nI 2) hx hb dX0_put_33 (by decide) ?_
  refine k_iadd hx hb dX0_put_34 ?_
  refine lv_iload_n hx hb dX0_put_35 rfl (lv_at hl 4 rfl) ?_
  refine k_iast (n := 240) (i := (e2 * 6) + 2) (x := v2) (w' := (wX0 q0 cI cJ cB (upd (upd (upd parts_0 (e2 * 6) v0) ((e2 * 6) + 1) v1) ((e2 * 6) + 2) v2) (nI e2) (nI z))) hx hb hKW hP hD hS 1 0 rfl rfl (by omega) (by omega) dX0_put_36 rfl (fun H locs hP hD hS => ?_)
  refine lv_aload_n hx hb dX0_put_37 rfl (lv_at hl 1 rfl) ?_
  refine k_get (ci := 0) (v := .ref (q0 1)) (C := RX0) (Tb := TX0) (N := 3) hx hb hts hu_0 hown hKW hP 0 rfl rfl 0 (by decide) hf_11 rfl rfl dX0_put_38 ?_
  refine lv_iload hx hb dX0_put_41 (lv_at hl 0 rfl) ?_
  refine lv_iconst (v := nI 3) hx hb dX0_put_43 (by decide) ?_
  refine k_iadd hx hb dX0_put_44 ?_
  refine lv_iload hx hb dX0_put_45 (lv_at hl 5 rfl) ?_
  refine k_iast (n := 240) (i := (e2 * 6) + 3) (x := v3) (w' := (wX0 q0 cI cJ cB (upd (upd (upd (upd parts_0 (e2 * 6) v0) ((e2 * 6) + 1) v1) ((e2 * 6) + 2) v2) ((e2 * 6) + 3) v3) (nI e2) (nI z))) hx hb hKW hP hD hS 1 0 rfl rfl (by omega) (by omega) dX0_put_47 rfl (fun H locs hP hD hS => ?_)
  refine lv_aload_n hx hb dX0_put_48 rfl (lv_at hl 1 rfl) ?_
  refine k_get (ci := 0) (v := .ref (q0 1)) (C := RX0) (Tb := TX0) (N := 3) hx hb hts hu_0 hown hKW hP 0 rfl rfl 0 (by decide) hf_11 rfl rfl dX0_put_49 ?_
  refine lv_iload hx hb dX0_put_52 (lv_at hl 0 rfl) ?_
  refine lv_iconst (v := nI 4) hx hb dX0_put_54 (by decide) ?_
  refine k_iadd hx hb dX0_put_55 ?_
  refine lv_iload hx hb dX0_put_56 (lv_at hl 6 rfl) ?_
  refine k_iast (n := 240) (i := (e2 * 6) + 4) (x := v4) (w' := (wX0 q0 cI cJ cB (upd (upd (upd (upd (upd parts_0 (e2 * 6) v0) ((e2 * 6) + 1) v1) ((e2 * 6) + 2) v2) ((e2 * 6) + 3) v3) ((e2 * 6) + 4) v4) (nI e2) (nI z))) hx hb hKW hP hD hS 1 0 rfl rfl (by omega) (by omega) dX0_put_58 rfl (fun H locs hP hD hS => ?_)
  refine lv_aload_n hx hb dX0_put_59 rfl (lv_at hl 1 rfl) ?_
  refine k_get (ci := 0) (v := .ref (q0 1)) (C := RX0) (Tb := TX0) (N := 3) hx hb hts hu_0 hown hKW hP 0 rfl rfl 0 (by decide) hf_11 rfl rfl dX0_put_60 ?_
  refine lv_iload hx hb dX0_put_63 (lv_at hl 0 rfl) ?_
  refine lv_iconst (v := nI 5) hx hb dX0_put_65 (by decide) ?_
  refine k_iadd hx hb dX0_put_66 ?_
  refine lv_iload hx hb dX0_put_67 (lv_at hl 7 rfl) ?_
  refine k_iast (n := 240) (i := (e2 * 6) + 5) (x := v5) (w' := (wX0 q0 cI cJ cB (upd (upd (upd (upd (upd (upd parts_0 (e2 * 6) v0) ((e2 * 6) + 1) v1) ((e2 * 6) + 2) v2) ((e2 * 6) + 3) v3) ((e2 * 6) + 4) v4) ((e2 * 6) + 5) v5) (nI e2) (nI z))) hx hb hKW hP hD hS 1 0 rfl rfl (by omega) (by omega) dX0_put_69 rfl (fun H locs hP hD hS => ?_)
  refine lv_aload_n hx hb dX0_put_70 rfl (lv_at hl 1 rfl) ?_
  refine lv_aload_n hx hb dX0_put_71 rfl (lv_at hl 1 rfl) ?_
  refine k_get (ci := 0) (v := .int (nI e2)) (C := RX0) (Tb := TX0) (N := 3) hx hb hts hu_0 hown hKW hP 0 rfl rfl 1 (by decide) hf_15 rfl rfl dX0_put_72 ?_
  refine lv_bipush (v := nI 39) hx hb dX0_put_75 (by decide) ?_
  refine lv_icmp_ne (tgt := 84) hx hb dX0_put_77 (by decide) (fun c_77 => ?_) (fun c_77 => ?_)
  · skip
    have c_77 := k_ne (by omega) (by omega) c_77
    refine lv_aload_n hx hb dX0_put_84 rfl (lv_at hl 1 rfl) ?_
    refine k_get (ci := 0) (v := .int (nI e2)) (C := RX0) (Tb := TX0) (N := 3) hx hb hts hu_0 hown hKW hP 0 rfl rfl 1 (by decide) hf_15 rfl rfl dX0_put_85 ?_
    refine lv_iconst (v := nI 1) hx hb dX0_put_88 (by decide) ?_
    refine k_iadd hx hb dX0_put_89 ?_
    refine k_put (ci := 0) (ty := .int) (v := .int (nI (e2 + 1))) (C := RX0) (Tb := TX0) (N := 3) (w' := (wX0 q0 cI cJ cB (upd (upd (upd (upd (upd (upd parts_0 (e2 * 6) v0) ((e2 * 6) + 1) v1) ((e2 * 6) + 2) v2) ((e2 * 6) + 3) v3) ((e2 * 6) + 4) v4) ((e2 * 6) + 5) v5) (nI (e2 + 1)) (nI z))) hx hb hts hu_0 tyX0 tyX0_ok nmX0 hown hKW hP hD hS 0 rfl rfl 1 (by decide) hf_15 rfl rfl (by decide +kernel) rfl rfl (Nat.le_of_ble_eq_true rfl) dX0_put_90 rfl (fun H locs hP hD hS => ?_)
    refine lv_aload_n hx hb dX0_put_93 rfl (lv_at hl 1 rfl) ?_
    refine lv_aload_n hx hb dX0_put_94 rfl (lv_at hl 1 rfl) ?_
    refine k_get (ci := 0) (v := .int (nI z)) (C := RX0) (Tb := TX0) (N := 3) hx hb hts hu_0 hown hKW hP 0 rfl rfl 2 (by decide) hf_19 rfl rfl dX0_put_95 ?_
    refine lv_iconst (v := nI 1) hx hb dX0_put_98 (by decide) ?_
    refine k_iadd hx hb dX0_put_99 ?_
    refine lv_bipush (v := nI 40) hx hb dX0_put_100 (by decide) ?_
    refine va_mmin hx hb (hml.trans hl.1.symm) hown (hts (.methodLink RX0 22 Lib.Math.min.name) (by decide +kernel)) (hts (.static Lib.Math.min.name) (by decide +kernel)) (hts (.initialized "java/lang/Math") (by decide +kernel)) (hts (.code Lib.Math.min.name Lib.Math.min.code 2 (some .int)) (by decide +kernel)) (Nat.le_of_ble_eq_true rfl) (Nat.le_of_ble_eq_true rfl) (Nat.zero_le _) (Nat.zero_le _) dX0_put_102 ?_
    refine k_top (y := nI (if z < 40 then z + 1 else 40)) (k_min40 hz) ?_
    refine k_put (ci := 0) (ty := .int) (v := .int (nI (if z < 40 then z + 1 else 40))) (C := RX0) (Tb := TX0) (N := 3) (w' := (wX0 q0 cI cJ cB (upd (upd (upd (upd (upd (upd parts_0 (e2 * 6) v0) ((e2 * 6) + 1) v1) ((e2 * 6) + 2) v2) ((e2 * 6) + 3) v3) ((e2 * 6) + 4) v4) ((e2 * 6) + 5) v5) (nI (e2 + 1)) (nI (if z < 40 then z + 1 else 40)))) hx hb hts hu_0 tyX0 tyX0_ok nmX0 hown hKW hP hD hS 0 rfl rfl 2 (by decide) hf_19 rfl rfl (by decide +kernel) rfl rfl (Nat.le_of_ble_eq_true rfl) dX0_put_105 rfl (fun H locs hP hD hS => ?_)
    subst hQ; subst hAe
    exact W.vret hx hb hr (fun t ht _ => ⟨⟨(nI (e2 + 1), nI (if z < 40 then z + 1 else 40)), rfl, by first | exact ⟨by rw [if_pos c_77], rfl⟩ | exact ⟨by rw [if_neg c_77], rfl⟩, by rw [ht]; exact hP, hD⟩, hS.F ht⟩) hS.2.2 dX0_put_108
  · skip
    have c_77 := k_ne_n (by omega) (by omega) c_77
    refine lv_iconst (v := nI 0) hx hb dX0_put_80 (by decide) ?_
    refine lv_goto (tgt := 90) hx hb dX0_put_81 (by decide) ?_
    refine k_put (ci := 0) (ty := .int) (v := .int (nI 0)) (C := RX0) (Tb := TX0) (N := 3) (w' := (wX0 q0 cI cJ cB (upd (upd (upd (upd (upd (upd parts_0 (e2 * 6) v0) ((e2 * 6) + 1) v1) ((e2 * 6) + 2) v2) ((e2 * 6) + 3) v3) ((e2 * 6) + 4) v4) ((e2 * 6) + 5) v5) (nI 0) (nI z))) hx hb hts hu_0 tyX0 tyX0_ok nmX0 hown hKW hP hD hS 0 rfl rfl 1 (by decide) hf_15 rfl rfl (by decide +kernel) rfl rfl (Nat.le_of_ble_eq_true rfl) dX0_put_90 rfl (fun H locs hP hD hS => ?_)
    refine lv_aload_n hx hb dX0_put_93 rfl (lv_at hl 1 rfl) ?_
    refine lv_aload_n hx hb dX0_put_94 rfl (lv_at hl 1 rfl) ?_
    refine k_get (ci := 0) (v := .int (nI z)) (C := RX0) (Tb := TX0) (N := 3) hx hb hts hu_0 hown hKW hP 0 rfl rfl 2 (by decide) hf_19 rfl rfl dX0_put_95 ?_
    refine lv_iconst (v := nI 1) hx hb dX0_put_98 (by decide) ?_
    refine k_iadd hx hb dX0_put_99 ?_
    refine lv_bipush (v := nI 40) hx hb dX0_put_100 (by decide) ?_
    refine va_mmin hx hb (hml.trans hl.1.symm) hown (hts (.methodLink RX0 22 Lib.Math.min.name) (by decide +kernel)) (hts (.static Lib.Math.min.name) (by decide +kernel)) (hts (.initialized "java/lang/Math") (by decide +kernel)) (hts (.code Lib.Math.min.name Lib.Math.min.code 2 (some .int)) (by decide +kernel)) (Nat.le_of_ble_eq_true rfl) (Nat.le_of_ble_eq_true rfl) (Nat.zero_le _) (Nat.zero_le _) dX0_put_102 ?_
    refine k_top (y := nI (if z < 40 then z + 1 else 40)) (k_min40 hz) ?_
    refine k_put (ci := 0) (ty := .int) (v := .int (nI (if z < 40 then z + 1 else 40))) (C := RX0) (Tb := TX0) (N := 3) (w' := (wX0 q0 cI cJ cB (upd (upd (upd (upd (upd (upd parts_0 (e2 * 6) v0) ((e2 * 6) + 1) v1) ((e2 * 6) + 2) v2) ((e2 * 6) + 3) v3) ((e2 * 6) + 4) v4) ((e2 * 6) + 5) v5) (nI 0) (nI (if z < 40 then z + 1 else 40)))) hx hb hts hu_0 tyX0 tyX0_ok nmX0 hown hKW hP hD hS 0 rfl rfl 2 (by decide) hf_19 rfl rfl (by decide +kernel) rfl rfl (Nat.le_of_ble_eq_true rfl) dX0_put_105 rfl (fun H locs hP hD hS => ?_)
    subst hQ; subst hAe
    exact W.vret hx hb hr (fun t ht _ => ⟨⟨(nI 0, nI (if z < 40 then z + 1 else 40)), rfl, by first | exact ⟨by rw [if_pos c_77], rfl⟩ | exact ⟨by rw [if_neg c_77], rfl⟩, by rw [ht]; exact hP, hD⟩, hS.F ht⟩) hS.2.2 dX0_put_108
def rmX7_size : Room := { frames := 0, cells := 0, slots := 0, locals := 0 }
set_option maxHeartbeats 4000000 in
set_option maxRecDepth 100000 in
theorem c_X7_size (l : Launch) (D : va_G) (cI cJ cB : ClassId) (q7 : Nat → Nat) (bytes_7 : Nat → Int32) (size_7 : Int32) : ∀ sz, Met l yX7_size wsX7_size rmX7_size (va_Pc [.ref (q7 0)] (PW D (kT cI cJ cB) sz (wX7 q7 cI cJ cB bytes_7 size_7))) (va_Qi (S := Unit) (fun r _ => r = size_7) (QW D sz (wX7 q7 cI cJ cB bytes_7 size_7) (fun _ => (wX7 q7 cI cJ cB bytes_7 size_7))) (va_A (wX7 q7 cI cJ cB bytes_7 size_7) sz)) 0 0 (va_A (wX7 q7 cI cJ cB bytes_7 size_7) sz) := by
  intro sz
  refine Met.ofW (cc := cX7_size) (maxL := 1) (ret := (some .int)) (by decide) rfl ?_
  intro p e s m args below meth c s₁ B hml hv
  obtain ⟨hav, hsz, hP, hKW, hD0⟩ := hv
  have hx := B.exec
  have hb := B.bytes
  have hr := B.returns
  have hts := atoms_spec (ws := wsX7_size) B.pre
  have hown : s.vm.findClass RX7 = some m.cls := findClass_of_methodNamed B.named
  have hlocks := B.notSynchronized
  subst hsz
  have hD := hD0.self (sz := s.heap.size)
  obtain ⟨A, hAe⟩ : ∃ A : Nat → Prop, A = va_A (wX7 q7 cI cJ cB bytes_7 size_7) s.heap.size := ⟨_, rfl⟩
  rw [← hAe] at hD
  have hA : ∀ q : Nat, s.heap.size ≤ q → A q := fun q h => by rw [hAe]; exact Or.inr h
  have hS : va_S A s.heap s.heap [] := va_S.rf
  refine k_gen (fun Q hQ => ?_)
  have hl := lv_entry ([.ref (q7 0)]) (n := 1) (Nat.le_of_ble_eq_true rfl)
  refine k_entry hav (lg_entry_eq ..) ?_
  generalize (lg_sl ([.ref (q7 0)]) ++ List.replicate (1 - (lg_sl ([.ref (q7 0)])).length) Slot.unset).toArray = ls at hl ⊢
  have hl : lv_has ls 1 [(0, .ref (q7 0))] := hl
  have hu_7 : ∀ w ∈ u_ws RX7 TX7 2, w ∈ wsX7_size := by decide +kernel
  have hf_15 : Cond.fieldLink RX7 15 "MeetingRanks$Tape" "size" "I" ∈ wsX7_size := by decide +kernel
  refine lv_aload_n hx hb dX7_size_0 rfl (lv_at hl 0 rfl) ?_
  refine k_get (ci := 7) (v := .int size_7) (C := RX7) (Tb := TX7) (N := 2) hx hb hts hu_7 hown hKW hP 0 rfl rfl 1 (by decide) hf_15 rfl rfl dX7_size_1 ?_
  subst hQ; subst hAe
  exact W.iret (v := size_7) hx hb hr (fun t ht _ => ⟨⟨size_7, (), rfl, by first | rfl | assumption | omega, by rw [ht]; exact hP, hD⟩, hS.F ht⟩) hS.2.2 dX7_size_4
def rmX7_hasRoomForFeed : Room := { frames := 0, cells := 0, slots := 0, locals := 0 }
set_option maxHeartbeats 4000000 in
set_option maxRecDepth 100000 in
theorem c_X7_hasRoomForFeed (l : Launch) (D : va_G) (cI cJ cB : ClassId) (q7 : Nat → Nat) (bytes_7 : Nat → Int32) (z : Nat) (hz : z ≤ 480) : ∀ sz, Met l yX7_hasRoomForFeed wsX7_hasRoomForFeed rmX7_hasRoomForFeed (va_Pc [.ref (q7 0)] (PW D (kT cI cJ cB) sz (wX7 q7 cI cJ cB bytes_7 (nI z)))) (va_Qi (S := Unit) (fun r _ => r = if z + 20 ≤ 480 then 1 else 0) (QW D sz (wX7 q7 cI cJ cB bytes_7 (nI z)) (fun _ => (wX7 q7 cI cJ cB bytes_7 (nI z)))) (va_A (wX7 q7 cI cJ cB bytes_7 (nI z)) sz)) 0 0 (va_A (wX7 q7 cI cJ cB bytes_7 (nI z)) sz) := by
  intro sz
  refine Met.ofW (cc := cX7_hasRoomForFeed) (maxL := 1) (ret := (some .boolean)) (by decide) rfl ?_
  intro p e s m args below meth c s₁ B hml hv
  obtain ⟨hav, hsz, hP, hKW, hD0⟩ := hv
  have hx := B.exec
  have hb := B.bytes
  have hr := B.returns
  have hts := atoms_spec (ws := wsX7_hasRoomForFeed) B.pre
  have hown : s.vm.findClass RX7 = some m.cls := findClass_of_methodNamed B.named
  have hlocks := B.notSynchronized
  subst hsz
  have hD := hD0.self (sz := s.heap.size)
  obtain ⟨A, hAe⟩ : ∃ A : Nat → Prop, A = va_A (wX7 q7 cI cJ cB bytes_7 (nI z)) s.heap.size := ⟨_, rfl⟩
  rw [← hAe] at hD
  have hA : ∀ q : Nat, s.heap.size ≤ q → A q := fun q h => by rw [hAe]; exact Or.inr h
  have hS : va_S A s.heap s.heap [] := va_S.rf
  refine k_gen (fun Q hQ => ?_)
  have hl := lv_entry ([.ref (q7 0)]) (n := 1) (Nat.le_of_ble_eq_true rfl)
  refine k_entry hav (lg_entry_eq ..) ?_
  generalize (lg_sl ([.ref (q7 0)]) ++ List.replicate (1 - (lg_sl ([.ref (q7 0)])).length) Slot.unset).toArray = ls at hl ⊢
  have hl : lv_has ls 1 [(0, .ref (q7 0))] := hl
  have hu_7 : ∀ w ∈ u_ws RX7 TX7 2, w ∈ wsX7_hasRoomForFeed := by decide +kernel
  have hf_15 : Cond.fieldLink RX7 15 "MeetingRanks$Tape" "size" "I" ∈ wsX7_hasRoomForFeed := by decide +kernel
  refine lv_aload_n hx hb dX7_hasRoomForFeed_0 rfl (lv_at hl 0 rfl) ?_
  refine k_get (ci := 7) (v := .int (nI z)) (C := RX7) (Tb := TX7) (N := 2) hx hb hts hu_7 hown hKW hP 0 rfl rfl 1 (by decide) hf_15 rfl rfl dX7_hasRoomForFeed_1 ?_
  refine lv_bipush (v := nI 20) hx hb dX7_hasRoomForFeed_4 (by decide) ?_
  refine k_iadd hx hb dX7_hasRoomForFeed_6 ?_
  refine lv_sipush (v := nI 480) hx hb dX7_hasRoomForFeed_7 (by decide) ?_
  refine lv_icmp_gt (tgt := 17) hx hb dX7_hasRoomForFeed_10 (by decide) (fun c_10 => ?_) (fun c_10 => ?_)
  · skip
    have c_10 := k_gt (by omega) (by omega) c_10
    refine lv_iconst (v := nI 0) hx hb dX7_hasRoomForFeed_17 (by decide) ?_
    subst hQ; subst hAe
    exact W.zret (v := nI 0) (ty := .boolean) hx hb hr (by decide) (fun t ht _ => ⟨⟨nI 0, (), rfl, by first | exact k_if1 (by omega) | exact k_if0 (by omega), by rw [ht]; exact hP, hD⟩, hS.F ht⟩) hS.2.2 dX7_hasRoomForFeed_18
  · skip
    have c_10 := k_gt_n (by omega) (by omega) c_10
    refine lv_iconst (v := nI 1) hx hb dX7_hasRoomForFeed_13 (by decide) ?_
    refine lv_goto (tgt := 18) hx hb dX7_hasRoomForFeed_14 (by decide) ?_
    subst hQ; subst hAe
    exact W.zret (v := nI 1) (ty := .boolean) hx hb hr (by decide) (fun t ht _ => ⟨⟨nI 1, (), rfl, by first | exact k_if1 (by omega) | exact k_if0 (by omega), by rw [ht]; exact hP, hD⟩, hS.F ht⟩) hS.2.2 dX7_hasRoomForFeed_18
def rmX7_empty : Room := { frames := 0, cells := 0, slots := 0, locals := 0 }
set_option maxHeartbeats 4000000 in
set_option maxRecDepth 100000 in
theorem c_X7_empty (l : Launch) (D : va_G) (cI cJ cB : ClassId) (q7 : Nat → Nat) (bytes_7 : Nat → Int32) (size_7 : Int32) : ∀ sz, Met l yX7_empty wsX7_empty rmX7_empty (va_Pc [.ref (q7 0)] (PW D (kT cI cJ cB) sz (wX7 q7 cI cJ cB bytes_7 size_7))) (va_Qv (S := Unit) (fun _ => True) (QW D sz (wX7 q7 cI cJ cB bytes_7 size_7) (fun _ => (wX7 q7 cI cJ cB bytes_7 (nI 0)))) (va_A (wX7 q7 cI cJ cB bytes_7 size_7) sz)) 0 0 (va_A (wX7 q7 cI cJ cB bytes_7 size_7) sz) := by
  intro sz
  refine Met.ofW (cc := cX7_empty) (maxL := 1) (ret := none) (by decide) rfl ?_
  intro p e s m args below meth c s₁ B hml hv
  obtain ⟨hav, hsz, hP, hKW, hD0⟩ := hv
  have hx := B.exec
  have hb := B.bytes
  have hr := B.returns
  have hts := atoms_spec (ws := wsX7_empty) B.pre
  have hown : s.vm.findClass RX7 = some m.cls := findClass_of_methodNamed B.named
  have hlocks := B.notSynchronized
  subst hsz
  have hD := hD0.self (sz := s.heap.size)
  obtain ⟨A, hAe⟩ : ∃ A : Nat → Prop, A = va_A (wX7 q7 cI cJ cB bytes_7 size_7) s.heap.size := ⟨_, rfl⟩
  rw [← hAe] at hD
  have hA : ∀ q : Nat, s.heap.size ≤ q → A q := fun q h => by rw [hAe]; exact Or.inr h
  have hS : va_S A s.heap s.heap [] := va_S.rf
  refine k_gen (fun Q hQ => ?_)
  have hl := lv_entry ([.ref (q7 0)]) (n := 1) (Nat.le_of_ble_eq_true rfl)
  refine k_entry hav (lg_entry_eq ..) ?_
  generalize (lg_sl ([.ref (q7 0)]) ++ List.replicate (1 - (lg_sl ([.ref (q7 0)])).length) Slot.unset).toArray = ls at hl ⊢
  have hl : lv_has ls 1 [(0, .ref (q7 0))] := hl
  have hu_7 : ∀ w ∈ u_ws RX7 TX7 2, w ∈ wsX7_empty := by decide +kernel
  have hf_15 : Cond.fieldLink RX7 15 "MeetingRanks$Tape" "size" "I" ∈ wsX7_empty := by decide +kernel
  refine lv_aload_n hx hb dX7_empty_0 rfl (lv_at hl 0 rfl) ?_
  refine lv_iconst (v := nI 0) hx hb dX7_empty_1 (by decide) ?_
  refine k_put (ci := 7) (ty := .int) (v := .int (nI 0)) (C := RX7) (Tb := TX7) (N := 2) (w' := (wX7 q7 cI cJ cB bytes_7 (nI 0))) hx hb hts hu_7 tyX7 tyX7_ok nmX7 hown hKW hP hD hS 0 rfl rfl 1 (by decide) hf_15 rfl rfl (by decide +kernel) rfl rfl (Nat.le_of_ble_eq_true rfl) dX7_empty_2 rfl (fun H locs hP hD hS => ?_)
  subst hQ; subst hAe
  exact W.vret hx hb hr (fun t ht _ => ⟨⟨(), rfl, trivial, by rw [ht]; exact hP, hD⟩, hS.F ht⟩) hS.2.2 dX7_empty_5
def rmX7_at : Room := { frames := 0, cells := 0, slots := 0, locals := 0 }
set_option maxHeartbeats 4000000 in
set_option maxRecDepth 100000 in
theorem c_X7_at (l : Launch) (D : va_G) (cI cJ cB : ClassId) (q7 : Nat → Nat) (bytes_7 : Nat → Int32) (z : Nat) (i : Nat) (hz : z ≤ 480) (hi : i < z) : ∀ sz, Met l yX7_at wsX7_at rmX7_at (va_Pc [.ref (q7 0), .int (nI i)] (PW D (kT cI cJ cB) sz (wX7 q7 cI cJ cB bytes_7 (nI z)))) (va_Qi (S := Unit) (fun r _ => r = bytes_7 i &&& nI 255) (QW D sz (wX7 q7 cI cJ cB bytes_7 (nI z)) (fun _ => (wX7 q7 cI cJ cB bytes_7 (nI z)))) (va_A (wX7 q7 cI cJ cB bytes_7 (nI z)) sz)) 0 0 (va_A (wX7 q7 cI cJ cB bytes_7 (nI z)) sz) := by
  intro sz
  refine Met.ofW (cc := cX7_at) (maxL := 2) (ret := (some .int)) (by decide) rfl ?_
  intro p e s m args below meth c s₁ B hml hv
  obtain ⟨hav, hsz, hP, hKW, hD0⟩ := hv
  have hx := B.exec
  have hb := B.bytes
  have hr := B.returns
  have hts := atoms_spec (ws := wsX7_at) B.pre
  have hown : s.vm.findClass RX7 = some m.cls := findClass_of_methodNamed B.named
  have hlocks := B.notSynchronized
  subst hsz
  have hD := hD0.self (sz := s.heap.size)
  obtain ⟨A, hAe⟩ : ∃ A : Nat → Prop, A = va_A (wX7 q7 cI cJ cB bytes_7 (nI z)) s.heap.size := ⟨_, rfl⟩
  rw [← hAe] at hD
  have hA : ∀ q : Nat, s.heap.size ≤ q → A q := fun q h => by rw [hAe]; exact Or.inr h
  have hS : va_S A s.heap s.heap [] := va_S.rf
  refine k_gen (fun Q hQ => ?_)
  have hl := lv_entry ([.ref (q7 0), .int (nI i)]) (n := 2) (Nat.le_of_ble_eq_true rfl)
  refine k_entry hav (lg_entry_eq ..) ?_
  generalize (lg_sl ([.ref (q7 0), .int (nI i)]) ++ List.replicate (2 - (lg_sl ([.ref (q7 0), .int (nI i)])).length) Slot.unset).toArray = ls at hl ⊢
  have hl : lv_has ls 2 [(0, .ref (q7 0)), (1, .int (nI i))] := hl
  have hu_7 : ∀ w ∈ u_ws RX7 TX7 2, w ∈ wsX7_at := by decide +kernel
  have hf_9 : Cond.fieldLink RX7 9 "MeetingRanks$Tape" "bytes" "[B" ∈ wsX7_at := by decide +kernel
  have hf_15 : Cond.fieldLink RX7 15 "MeetingRanks$Tape" "size" "I" ∈ wsX7_at := by decide +kernel
  refine lv_iload_n hx hb dX7_at_0 rfl (lv_at hl 1 rfl) ?_
  refine lv_if_lt (tgt := 25) hx hb dX7_at_1 (by decide) (fun c_1 => ?_) (fun c_1 => ?_)
  · skip
    exact (k0_lt (by omega) c_1).elim
  · skip
    have c_1 := k0_lt_n (by omega) c_1
    refine lv_iload_n hx hb dX7_at_4 rfl (lv_at hl 1 rfl) ?_
    refine lv_aload_n hx hb dX7_at_5 rfl (lv_at hl 0 rfl) ?_
    refine k_get (ci := 7) (v := .int (nI z)) (C := RX7) (Tb := TX7) (N := 2) hx hb hts hu_7 hown hKW hP 0 rfl rfl 1 (by decide) hf_15 rfl rfl dX7_at_6 ?_
    refine lv_icmp_ge (tgt := 25) hx hb dX7_at_9 (by decide) (fun c_9 => ?_) (fun c_9 => ?_)
    · skip
      have c_9 := k_ge (by omega) (by omega) c_9
      exact absurd c_9 (by omega)
    · skip
      have c_9 := k_ge_n (by omega) (by omega) c_9
      refine lv_aload_n hx hb dX7_at_12 rfl (lv_at hl 0 rfl) ?_
      refine k_get (ci := 7) (v := .ref (q7 1)) (C := RX7) (Tb := TX7) (N := 2) hx hb hts hu_7 hown hKW hP 0 rfl rfl 0 (by decide) hf_9 rfl rfl dX7_at_13 ?_
      refine lv_iload_n hx hb dX7_at_16 rfl (lv_at hl 1 rfl) ?_
      refine k_bald (n := 480) (i := i) hx hb hKW hP 1 2 rfl rfl (by omega) (by omega) dX7_at_17 ?_
      refine lv_sipush (v := nI 255) hx hb dX7_at_18 (by decide) ?_
      refine lv_iand hx hb dX7_at_21 ?_
      refine lv_goto (tgt := 26) hx hb dX7_at_22 (by decide) ?_
      subst hQ; subst hAe
      exact W.iret (v := (bytes_7 i) &&& (nI 255)) hx hb hr (fun t ht _ => ⟨⟨(bytes_7 i) &&& (nI 255), (), rfl, rfl, by rw [ht]; exact hP, hD⟩, hS.F ht⟩) hS.2.2 dX7_at_26
def rmX7_append : Room := { frames := 0, cells := 0, slots := 0, locals := 0 }
set_option maxHeartbeats 4000000 in
set_option maxRecDepth 100000 in
theorem c_X7_append (l : Launch) (D : va_G) (cI cJ cB : ClassId) (q7 : Nat → Nat) (bytes_7 : Nat → Int32) (z : Nat) (x : Int32) (hz : z + 4 ≤ 480) : ∀ sz, Met l yX7_append wsX7_append rmX7_append (va_Pc [.ref (q7 0), .int x] (PW D (kT cI cJ cB) sz (wX7 q7 cI cJ cB bytes_7 (nI z)))) (va_Qv (S := Unit) (fun _ => True) (QW D sz (wX7 q7 cI cJ cB bytes_7 (nI z)) (fun _ => (wX7 q7 cI cJ cB (upd (upd (upd (upd bytes_7 z ((x >>> (nI 24 &&& 31)).toInt8.toInt32)) (z + 1) ((x >>> (nI 16 &&& 31)).toInt8.toInt32)) ((z + 1) + 1) ((x >>> (nI 8 &&& 31)).toInt8.toInt32)) (((z + 1) + 1) + 1) ((x >>> (nI 0 &&& 31)).toInt8.toInt32)) (nI (((z + 1) + 1) + 1 + 1))))) (va_A (wX7 q7 cI cJ cB bytes_7 (nI z)) sz)) 0 0 (va_A (wX7 q7 cI cJ cB bytes_7 (nI z)) sz) := by
  intro sz
  refine Met.ofW (cc := cX7_append) (maxL := 3) (ret := none) (by decide) rfl ?_
  intro p e s m args below meth c s₁ B hml hv
  obtain ⟨hav, hsz, hP, hKW, hD0⟩ := hv
  have hx := B.exec
  have hb := B.bytes
  have hr := B.returns
  have hts := atoms_spec (ws := wsX7_append) B.pre
  have hown : s.vm.findClass RX7 = some m.cls := findClass_of_methodNamed B.named
  have hlocks := B.notSynchronized
  subst hsz
  have hD := hD0.self (sz := s.heap.size)
  obtain ⟨A, hAe⟩ : ∃ A : Nat → Prop, A = va_A (wX7 q7 cI cJ cB bytes_7 (nI z)) s.heap.size := ⟨_, rfl⟩
  rw [← hAe] at hD
  have hA : ∀ q : Nat, s.heap.size ≤ q → A q := fun q h => by rw [hAe]; exact Or.inr h
  have hS : va_S A s.heap s.heap [] := va_S.rf
  refine k_gen (fun Q hQ => ?_)
  have hl := lv_entry ([.ref (q7 0), .int x]) (n := 3) (Nat.le_of_ble_eq_true rfl)
  refine k_entry hav (lg_entry_eq ..) ?_
  generalize (lg_sl ([.ref (q7 0), .int x]) ++ List.replicate (3 - (lg_sl ([.ref (q7 0), .int x])).length) Slot.unset).toArray = ls at hl ⊢
  have hl : lv_has ls 3 [(0, .ref (q7 0)), (1, .int x)] := hl
  have hu_7 : ∀ w ∈ u_ws RX7 TX7 2, w ∈ wsX7_append := by decide +kernel
  have hf_9 : Cond.fieldLink RX7 9 "MeetingRanks$Tape" "bytes" "[B" ∈ wsX7_append := by decide +kernel
  have hf_15 : Cond.fieldLink RX7 15 "MeetingRanks$Tape" "size" "I" ∈ wsX7_append := by decide +kernel
  refine lv_bipush (v := nI 24) hx hb dX7_append_0 (by decide) ?_
  refine lv_istore_n (lv' := [(2, .int (nI 24)), (0, .ref (q7 0)), (1, .int x)]) hx hb dX7_append_2 rfl hl (by decide) rfl (fun ls hl => ?_)
  refine lv_iload_n hx hb dX7_append_3 rfl (lv_at hl 0 rfl) ?_
  refine lv_if_lt (tgt := 46) hx hb dX7_append_4 (by decide) (fun c_4 => ?_) (fun c_4 => ?_)
  · skip
    exact (k0_lt (by omega) c_4).elim
  · skip
    have c_4 := k0_lt_n (by omega) c_4
    refine lv_aload_n hx hb dX7_append_7 rfl (lv_at hl 1 rfl) ?_
    refine k_get (ci := 7) (v := .int (nI z)) (C := RX7) (Tb := TX7) (N := 2) hx hb hts hu_7 hown hKW hP 0 rfl rfl 1 (by decide) hf_15 rfl rfl dX7_append_8 ?_
    refine lv_sipush (v := nI 480) hx hb dX7_append_11 (by decide) ?_
    refine lv_icmp_ge (tgt := 46) hx hb dX7_append_14 (by decide) (fun c_14 => ?_) (fun c_14 => ?_)
    · skip
      have c_14 := k_ge (by omega) (by omega) c_14
      exact absurd c_14 (by omega)
    · skip
      have c_14 := k_ge_n (by omega) (by omega) c_14
      refine lv_aload_n hx hb dX7_append_17 rfl (lv_at hl 1 rfl) ?_
      refine k_get (ci := 7) (v := .ref (q7 1)) (C := RX7) (Tb := TX7) (N := 2) hx hb hts hu_7 hown hKW hP 0 rfl rfl 0 (by decide) hf_9 rfl rfl dX7_append_18 ?_
      refine lv_aload_n hx hb dX7_append_21 rfl (lv_at hl 1 rfl) ?_
      refine k_get (ci := 7) (v := .int (nI z)) (C := RX7) (Tb := TX7) (N := 2) hx hb hts hu_7 hown hKW hP 0 rfl rfl 1 (by decide) hf_15 rfl rfl dX7_append_22 ?_
      refine lv_iload_n hx hb dX7_append_25 rfl (lv_at hl 2 rfl) ?_
      refine lv_iload_n hx hb dX7_append_26 rfl (lv_at hl 0 rfl) ?_
      refine lv_ishr hx hb dX7_append_27 ?_
      refine lv_i2b (v := (x >>> ((nI 24) &&& 31)).toInt8.toInt32) hx hb dX7_append_28 rfl ?_
      refine k_bast (n := 480) (i := z) (x := (x >>> ((nI 24) &&& 31)).toInt8.toInt32) (w' := (wX7 q7 cI cJ cB (upd bytes_7 z ((x >>> ((nI 24) &&& 31)).toInt8.toInt32)) (nI z))) hx hb hKW hP hD hS 1 2 rfl rfl (by omega) (by omega) (pk_vb _) dX7_append_29 rfl (fun H locs hP hD hS => ?_)
      refine lv_aload_n hx hb dX7_append_30 rfl (lv_at hl 1 rfl) ?_
      refine lv_dup hx hb dX7_append_31 rfl ?_
      refine k_get (ci := 7) (v := .int (nI z)) (C := RX7) (Tb := TX7) (N := 2) hx hb hts hu_7 hown hKW hP 0 rfl rfl 1 (by decide) hf_15 rfl rfl dX7_append_32 ?_
      refine lv_iconst (v := nI 1) hx hb dX7_append_35 (by decide) ?_
      refine k_iadd hx hb dX7_append_36 ?_
      refine k_put (ci := 7) (ty := .int) (v := .int (nI (z + 1))) (C := RX7) (Tb := TX7) (N := 2) (w' := (wX7 q7 cI cJ cB (upd bytes_7 z ((x >>> ((nI 24) &&& 31)).toInt8.toInt32)) (nI (z + 1)))) hx hb hts hu_7 tyX7 tyX7_ok nmX7 hown hKW hP hD hS 0 rfl rfl 1 (by decide) hf_15 rfl rfl (by decide +kernel) rfl rfl (Nat.le_of_ble_eq_true rfl) dX7_append_37 rfl (fun H locs hP hD hS => ?_)
      refine lv_iinc (v := nI 16) (lv' := [(2, .int (nI 16)), (0, .ref (q7 0)), (1, .int x)]) hx hb dX7_append_40 hl (k := 0) rfl (by decide) (by decide) rfl (fun ls hl => ?_)
      refine lv_goto (tgt := 3) hx hb dX7_append_43 (by decide) ?_
      refine lv_iload_n hx hb dX7_append_3 rfl (lv_at hl 0 rfl) ?_
      refine lv_if_lt (tgt := 46) hx hb dX7_append_4 (by decide) (fun c_4 => ?_) (fun c_4 => ?_)
      · skip
        exact (k0_lt (by omega) c_4).elim
      · skip
        have c_4 := k0_lt_n (by omega) c_4
        refine lv_aload_n hx hb dX7_append_7 rfl (lv_at hl 1 rfl) ?_
        refine k_get (ci := 7) (v := .int (nI (z + 1))) (C := RX7) (Tb := TX7) (N := 2) hx hb hts hu_7 hown hKW hP 0 rfl rfl 1 (by decide) hf_15 rfl rfl dX7_append_8 ?_
        refine lv_sipush (v := nI 480) hx hb dX7_append_11 (by decide) ?_
        refine lv_icmp_ge (tgt := 46) hx hb dX7_append_14 (by decide) (fun c_14 => ?_) (fun c_14 => ?_)
        · skip
          have c_14 := k_ge (by omega) (by omega) c_14
          exact absurd c_14 (by omega)
        · skip
          have c_14 := k_ge_n (by omega) (by omega) c_14
          refine lv_aload_n hx hb dX7_append_17 rfl (lv_at hl 1 rfl) ?_
          refine k_get (ci := 7) (v := .ref (q7 1)) (C := RX7) (Tb := TX7) (N := 2) hx hb hts hu_7 hown hKW hP 0 rfl rfl 0 (by decide) hf_9 rfl rfl dX7_append_18 ?_
          refine lv_aload_n hx hb dX7_append_21 rfl (lv_at hl 1 rfl) ?_
          refine k_get (ci := 7) (v := .int (nI (z + 1))) (C := RX7) (Tb := TX7) (N := 2) hx hb hts hu_7 hown hKW hP 0 rfl rfl 1 (by decide) hf_15 rfl rfl dX7_append_22 ?_
          refine lv_iload_n hx hb dX7_append_25 rfl (lv_at hl 2 rfl) ?_
          refine lv_iload_n hx hb dX7_append_26 rfl (lv_at hl 0 rfl) ?_
          refine lv_ishr hx hb dX7_append_27 ?_
          refine lv_i2b (v := (x >>> ((nI 16) &&& 31)).toInt8.toInt32) hx hb dX7_append_28 rfl ?_
          refine k_bast (n := 480) (i := z + 1) (x := (x >>> ((nI 16) &&& 31)).toInt8.toInt32) (w' := (wX7 q7 cI cJ cB (upd (upd bytes_7 z ((x >>> ((nI 24) &&& 31)).toInt8.toInt32)) (z + 1) ((x >>> ((nI 16) &&& 31)).toInt8.toInt32)) (nI (z + 1)))) hx hb hKW hP hD hS 1 2 rfl rfl (by omega) (by omega) (pk_vb _) dX7_append_29 rfl (fun H locs hP hD hS => ?_)
          refine lv_aload_n hx hb dX7_append_30 rfl (lv_at hl 1 rfl) ?_
          refine lv_dup hx hb dX7_append_31 rfl ?_
          refine k_get (ci := 7) (v := .int (nI (z + 1))) (C := RX7) (Tb := TX7) (N := 2) hx hb hts hu_7 hown hKW hP 0 rfl rfl 1 (by decide) hf_15 rfl rfl dX7_append_32 ?_
          refine lv_iconst (v := nI 1) hx hb dX7_append_35 (by decide) ?_
          refine k_iadd hx hb dX7_append_36 ?_
          refine k_put (ci := 7) (ty := .int) (v := .int (nI ((z + 1) + 1))) (C := RX7) (Tb := TX7) (N := 2) (w' := (wX7 q7 cI cJ cB (upd (upd bytes_7 z ((x >>> ((nI 24) &&& 31)).toInt8.toInt32)) (z + 1) ((x >>> ((nI 16) &&& 31)).toInt8.toInt32)) (nI ((z + 1) + 1)))) hx hb hts hu_7 tyX7 tyX7_ok nmX7 hown hKW hP hD hS 0 rfl rfl 1 (by decide) hf_15 rfl rfl (by decide +kernel) rfl rfl (Nat.le_of_ble_eq_true rfl) dX7_append_37 rfl (fun H locs hP hD hS => ?_)
          refine lv_iinc (v := nI 8) (lv' := [(2, .int (nI 8)), (0, .ref (q7 0)), (1, .int x)]) hx hb dX7_append_40 hl (k := 0) rfl (by decide) (by decide) rfl (fun ls hl => ?_)
          refine lv_goto (tgt := 3) hx hb dX7_append_43 (by decide) ?_
          refine lv_iload_n hx hb dX7_append_3 rfl (lv_at hl 0 rfl) ?_
          refine lv_if_lt (tgt := 46) hx hb dX7_append_4 (by decide) (fun c_4 => ?_) (fun c_4 => ?_)
          · skip
            exact (k0_lt (by omega) c_4).elim
          · skip
            have c_4 := k0_lt_n (by omega) c_4
            refine lv_aload_n hx hb dX7_append_7 rfl (lv_at hl 1 rfl) ?_
            refine k_get (ci := 7) (v := .int (nI ((z + 1) + 1))) (C := RX7) (Tb := TX7) (N := 2) hx hb hts hu_7 hown hKW hP 0 rfl rfl 1 (by decide) hf_15 rfl rfl dX7_append_8 ?_
            refine lv_sipush (v := nI 480) hx hb dX7_append_11 (by decide) ?_
            refine lv_icmp_ge (tgt := 46) hx hb dX7_append_14 (by decide) (fun c_14 => ?_) (fun c_14 => ?_)
            · skip
              have c_14 := k_ge (by omega) (by omega) c_14
              exact absurd c_14 (by omega)
            · skip
              have c_14 := k_ge_n (by omega) (by omega) c_14
              refine lv_aload_n hx hb dX7_append_17 rfl (lv_at hl 1 rfl) ?_
              refine k_get (ci := 7) (v := .ref (q7 1)) (C := RX7) (Tb := TX7) (N := 2) hx hb hts hu_7 hown hKW hP 0 rfl rfl 0 (by decide) hf_9 rfl rfl dX7_append_18 ?_
              refine lv_aload_n hx hb dX7_append_21 rfl (lv_at hl 1 rfl) ?_
              refine k_get (ci := 7) (v := .int (nI ((z + 1) + 1))) (C := RX7) (Tb := TX7) (N := 2) hx hb hts hu_7 hown hKW hP 0 rfl rfl 1 (by decide) hf_15 rfl rfl dX7_append_22 ?_
              refine lv_iload_n hx hb dX7_append_25 rfl (lv_at hl 2 rfl) ?_
              refine lv_iload_n hx hb dX7_append_26 rfl (lv_at hl 0 rfl) ?_
              refine lv_ishr hx hb dX7_append_27 ?_
              refine lv_i2b (v := (x >>> ((nI 8) &&& 31)).toInt8.toInt32) hx hb dX7_append_28 rfl ?_
              refine k_bast (n := 480) (i := (z + 1) + 1) (x := (x >>> ((nI 8) &&& 31)).toInt8.toInt32) (w' := (wX7 q7 cI cJ cB (upd (upd (upd bytes_7 z ((x >>> ((nI 24) &&& 31)).toInt8.toInt32)) (z + 1) ((x >>> ((nI 16) &&& 31)).toInt8.toInt32)) ((z + 1) + 1) ((x >>> ((nI 8) &&& 31)).toInt8.toInt32)) (nI ((z + 1) + 1)))) hx hb hKW hP hD hS 1 2 rfl rfl (by omega) (by omega) (pk_vb _) dX7_append_29 rfl (fun H locs hP hD hS => ?_)
              refine lv_aload_n hx hb dX7_append_30 rfl (lv_at hl 1 rfl) ?_
              refine lv_dup hx hb dX7_append_31 rfl ?_
              refine k_get (ci := 7) (v := .int (nI ((z + 1) + 1))) (C := RX7) (Tb := TX7) (N := 2) hx hb hts hu_7 hown hKW hP 0 rfl rfl 1 (by decide) hf_15 rfl rfl dX7_append_32 ?_
              refine lv_iconst (v := nI 1) hx hb dX7_append_35 (by decide) ?_
              refine k_iadd hx hb dX7_append_36 ?_
              refine k_put (ci := 7) (ty := .int) (v := .int (nI (((z + 1) + 1) + 1))) (C := RX7) (Tb := TX7) (N := 2) (w' := (wX7 q7 cI cJ cB (upd (upd (upd bytes_7 z ((x >>> ((nI 24) &&& 31)).toInt8.toInt32)) (z + 1) ((x >>> ((nI 16) &&& 31)).toInt8.toInt32)) ((z + 1) + 1) ((x >>> ((nI 8) &&& 31)).toInt8.toInt32)) (nI (((z + 1) + 1) + 1)))) hx hb hts hu_7 tyX7 tyX7_ok nmX7 hown hKW hP hD hS 0 rfl rfl 1 (by decide) hf_15 rfl rfl (by decide +kernel) rfl rfl (Nat.le_of_ble_eq_true rfl) dX7_append_37 rfl (fun H locs hP hD hS => ?_)
              refine lv_iinc (v := nI 0) (lv' := [(2, .int (nI 0)), (0, .ref (q7 0)), (1, .int x)]) hx hb dX7_append_40 hl (k := 0) rfl (by decide) (by decide) rfl (fun ls hl => ?_)
              refine lv_goto (tgt := 3) hx hb dX7_append_43 (by decide) ?_
              refine lv_iload_n hx hb dX7_append_3 rfl (lv_at hl 0 rfl) ?_
              refine lv_if_lt (tgt := 46) hx hb dX7_append_4 (by decide) (fun c_4 => ?_) (fun c_4 => ?_)
              · skip
                exact (k0_lt (by omega) c_4).elim
              · skip
                have c_4 := k0_lt_n (by omega) c_4
                refine lv_aload_n hx hb dX7_append_7 rfl (lv_at hl 1 rfl) ?_
                refine k_get (ci := 7) (v := .int (nI (((z + 1) + 1) + 1))) (C := RX7) (Tb := TX7) (N := 2) hx hb hts hu_7 hown hKW hP 0 rfl rfl 1 (by decide) hf_15 rfl rfl dX7_append_8 ?_
                refine lv_sipush (v := nI 480) hx hb dX7_append_11 (by decide) ?_
                refine lv_icmp_ge (tgt := 46) hx hb dX7_append_14 (by decide) (fun c_14 => ?_) (fun c_14 => ?_)
                · skip
                  have c_14 := k_ge (by omega) (by omega) c_14
                  exact absurd c_14 (by omega)
                · skip
                  have c_14 := k_ge_n (by omega) (by omega) c_14
                  refine lv_aload_n hx hb dX7_append_17 rfl (lv_at hl 1 rfl) ?_
                  refine k_get (ci := 7) (v := .ref (q7 1)) (C := RX7) (Tb := TX7) (N := 2) hx hb hts hu_7 hown hKW hP 0 rfl rfl 0 (by decide) hf_9 rfl rfl dX7_append_18 ?_
                  refine lv_aload_n hx hb dX7_append_21 rfl (lv_at hl 1 rfl) ?_
                  refine k_get (ci := 7) (v := .int (nI (((z + 1) + 1) + 1))) (C := RX7) (Tb := TX7) (N := 2) hx hb hts hu_7 hown hKW hP 0 rfl rfl 1 (by decide) hf_15 rfl rfl dX7_append_22 ?_
                  refine lv_iload_n hx hb dX7_append_25 rfl (lv_at hl 2 rfl) ?_
                  refine lv_iload_n hx hb dX7_append_26 rfl (lv_at hl 0 rfl) ?_
                  refine lv_ishr hx hb dX7_append_27 ?_
                  refine lv_i2b (v := (x >>> ((nI 0) &&& 31)).toInt8.toInt32) hx hb dX7_append_28 rfl ?_
                  refine k_bast (n := 480) (i := ((z + 1) + 1) + 1) (x := (x >>> ((nI 0) &&& 31)).toInt8.toInt32) (w' := (wX7 q7 cI cJ cB (upd (upd (upd (upd bytes_7 z ((x >>> ((nI 24) &&& 31)).toInt8.toInt32)) (z + 1) ((x >>> ((nI 16) &&& 31)).toInt8.toInt32)) ((z + 1) + 1) ((x >>> ((nI 8) &&& 31)).toInt8.toInt32)) (((z + 1) + 1) + 1) ((x >>> ((nI 0) &&& 31)).toInt8.toInt32)) (nI (((z + 1) + 1) + 1)))) hx hb hKW hP hD hS 1 2 rfl rfl (by omega) (by omega) (pk_vb _) dX7_append_29 rfl (fun H locs hP hD hS => ?_)
                  refine lv_aload_n hx hb dX7_append_30 rfl (lv_at hl 1 rfl) ?_
                  refine lv_dup hx hb dX7_append_31 rfl ?_
                  refine k_get (ci := 7) (v := .int (nI (((z + 1) + 1) + 1))) (C := RX7) (Tb := TX7) (N := 2) hx hb hts hu_7 hown hKW hP 0 rfl rfl 1 (by decide) hf_15 rfl rfl dX7_append_32 ?_
                  refine lv_iconst (v := nI 1) hx hb dX7_append_35 (by decide) ?_
                  refine k_iadd hx hb dX7_append_36 ?_
                  refine k_put (ci := 7) (ty := .int) (v := .int (nI ((((z + 1) + 1) + 1) + 1))) (C := RX7) (Tb := TX7) (N := 2) (w' := (wX7 q7 cI cJ cB (upd (upd (upd (upd bytes_7 z ((x >>> ((nI 24) &&& 31)).toInt8.toInt32)) (z + 1) ((x >>> ((nI 16) &&& 31)).toInt8.toInt32)) ((z + 1) + 1) ((x >>> ((nI 8) &&& 31)).toInt8.toInt32)) (((z + 1) + 1) + 1) ((x >>> ((nI 0) &&& 31)).toInt8.toInt32)) (nI ((((z + 1) + 1) + 1) + 1)))) hx hb hts hu_7 tyX7 tyX7_ok nmX7 hown hKW hP hD hS 0 rfl rfl 1 (by decide) hf_15 rfl rfl (by decide +kernel) rfl rfl (Nat.le_of_ble_eq_true rfl) dX7_append_37 rfl (fun H locs hP hD hS => ?_)
                  refine lv_iinc (v := (-8)) (lv' := [(2, .int (-8)), (0, .ref (q7 0)), (1, .int x)]) hx hb dX7_append_40 hl (k := 0) rfl (by decide) (by decide) rfl (fun ls hl => ?_)
                  refine lv_goto (tgt := 3) hx hb dX7_append_43 (by decide) ?_
                  refine lv_iload_n hx hb dX7_append_3 rfl (lv_at hl 0 rfl) ?_
                  refine lv_if_lt (tgt := 46) hx hb dX7_append_4 (by decide) (fun c_4 => ?_) (fun c_4 => ?_)
                  · skip
                    subst hQ; subst hAe
                    exact W.vret hx hb hr (fun t ht _ => ⟨⟨(), rfl, trivial, by rw [ht]; exact hP, hD⟩, hS.F ht⟩) hS.2.2 dX7_append_46
                  · skip
                    exact absurd (by decide) c_4
def rmX4_tally : Room := { frames := 0, cells := 0, slots := 0, locals := 0 }
set_option maxHeartbeats 4000000 in
set_option maxRecDepth 100000 in
theorem c_X4_tally (l : Launch) (D : va_G) (cI cJ cB : ClassId) (q4 : Nat → Nat) (parts_4 : Nat → Int32) (wins_4 : Nat → Int32) (draws_4 : Nat → Int32) (points_4 : Nat → Int32) (count_4 : Int32) (changes_4 : Int32) (k : Nat) (sg : Int32) (a : Nat) (b : Nat) (p1 : Nat) (q1 : Nat) (hk : k < 120) (hp0 : parts_4 (k * 4) = nI a) (hp1 : parts_4 ((k * 4) + 1) = nI b) (hp2 : parts_4 ((k * 4) + 2) = nI p1) (hp3 : parts_4 ((k * 4) + 3) = nI q1) (ha : a < 10) (hb2 : b < 10) (hab : a ≠ b) (hp99 : p1 ≤ 99) (hq99 : q1 ≤ 99) : ∀ sz, Met l yX4_tally wsX4_tally rmX4_tally (va_Pc [.ref (q4 0), .int (nI k), .int sg] (PW D (kT cI cJ cB) sz (wX4 q4 cI cJ cB parts_4 wins_4 draws_4 points_4 count_4 changes_4))) (va_Qv (S := (Nat → Int32) × (Nat → Int32) × (Nat → Int32)) (fun uu => match uu with | (wins_4', draws_4', points_4') => TL (fun i j => ovX i j (a, b, p1, q1)) wins_4 wins_4' sg ∧ TL (fun i j => drX i j (a, b, p1, q1)) draws_4 draws_4' sg ∧ TL (fun i j => ptX i j (a, b, p1, q1)) points_4 points_4' sg) (QW D sz (wX4 q4 cI cJ cB parts_4 wins_4 draws_4 points_4 count_4 changes_4) (fun uu => match uu with | (wins_4', draws_4', points_4') => (wX4 q4 cI cJ cB parts_4 wins_4' draws_4' points_4' count_4 (changes_4 + nI 1)))) (va_A (wX4 q4 cI cJ cB parts_4 wins_4 draws_4 points_4 count_4 changes_4) sz)) 0 0 (va_A (wX4 q4 cI cJ cB parts_4 wins_4 draws_4 points_4 count_4 changes_4) sz) := by
  intro sz
  refine Met.ofW (cc := cX4_tally) (maxL := 8) (ret := none) (by decide) rfl ?_
  intro p e s m args below meth c s₁ B hml hv
  obtain ⟨hav, hsz, hP, hKW, hD0⟩ := hv
  have hx := B.exec
  have hb := B.bytes
  have hr := B.returns
  have hts := atoms_spec (ws := wsX4_tally) B.pre
  have hown : s.vm.findClass RX4 = some m.cls := findClass_of_methodNamed B.named
  have hlocks := B.notSynchronized
  subst hsz
  have hD := hD0.self (sz := s.heap.size)
  obtain ⟨A, hAe⟩ : ∃ A : Nat → Prop, A = va_A (wX4 q4 cI cJ cB parts_4 wins_4 draws_4 points_4 count_4 changes_4) s.heap.size := ⟨_, rfl⟩
  rw [← hAe] at hD
  have hA : ∀ q : Nat, s.heap.size ≤ q → A q := fun q h => by rw [hAe]; exact Or.inr h
  have hS : va_S A s.heap s.heap [] := va_S.rf
  refine k_gen (fun Q hQ => ?_)
  have hl := lv_entry ([.ref (q4 0), .int (nI k), .int sg]) (n := 8) (Nat.le_of_ble_eq_true rfl)
  refine k_entry hav (lg_entry_eq ..) ?_
  generalize (lg_sl ([.ref (q4 0), .int (nI k), .int sg]) ++ List.replicate (8 - (lg_sl ([.ref (q4 0), .int (nI k), .int sg])).length) Slot.unset).toArray = ls at hl ⊢
  have hl : lv_has ls 8 [(0, .ref (q4 0)), (1, .int (nI k)), (2, .int sg)] := hl
  have hu_4 : ∀ w ∈ u_ws RX4 TX4 6, w ∈ wsX4_tally := by decide +kernel
  have hf_9 : Cond.fieldLink RX4 9 "MeetingRanks$Meetings" "parts" "[I" ∈ wsX4_tally := by decide +kernel
  have hf_15 : Cond.fieldLink RX4 15 "MeetingRanks$Meetings" "wins" "[I" ∈ wsX4_tally := by decide +kernel
  have hf_18 : Cond.fieldLink RX4 18 "MeetingRanks$Meetings" "draws" "[I" ∈ wsX4_tally := by decide +kernel
  have hf_21 : Cond.fieldLink RX4 21 "MeetingRanks$Meetings" "points" "[I" ∈ wsX4_tally := by decide +kernel
  have hf_28 : Cond.fieldLink RX4 28 "MeetingRanks$Meetings" "changes" "I" ∈ wsX4_tally := by decide +kernel
  refine lv_iload_n hx hb dX4_tally_0 rfl (lv_at hl 1 rfl) ?_
  refine lv_iconst (v := nI 4) hx hb dX4_tally_1 (by decide) ?_
  refine k_imul hx hb dX4_tally_2 ?_
  refine lv_istore_n (lv' := [(3, .int (nI (k * 4))), (0, .ref (q4 0)), (1, .int (nI k)), (2, .int sg)]) hx hb dX4_tally_3 rfl hl (by decide) rfl (fun ls hl => ?_)
  refine lv_aload_n hx hb dX4_tally_4 rfl (lv_at hl 1 rfl) ?_
  refine k_get (ci := 4) (v := .ref (q4 1)) (C := RX4) (Tb := TX4) (N := 6) hx hb hts hu_4 hown hKW hP 0 rfl rfl 0 (by decide) hf_9 rfl rfl dX4_tally_5 ?_
  refine lv_iload_n hx hb dX4_tally_8 rfl (lv_at hl 0 rfl) ?_
  refine k_iald (n := 480) (i := k * 4) hx hb hKW hP 1 0 rfl rfl (by omega) (by omega) dX4_tally_9 ?_
  refine k_top (y := nI a) (hp0) ?_
  refine lv_bipush (v := nI 10) hx hb dX4_tally_10 (by decide) ?_
  refine k_imul hx hb dX4_tally_12 ?_
  refine lv_aload_n hx hb dX4_tally_13 rfl (lv_at hl 1 rfl) ?_
  refine k_get (ci := 4) (v := .ref (q4 1)) (C := RX4) (Tb := TX4) (N := 6) hx hb hts hu_4 hown hKW hP 0 rfl rfl 0 (by decide) hf_9 rfl rfl dX4_tally_14 ?_
  refine lv_iload_n hx hb dX4_tally_17 rfl (lv_at hl 0 rfl) ?_
  refine lv_iconst (v := nI 1) hx hb dX4_tally_18 (by decide) ?_
  refine k_iadd hx hb dX4_tally_19 ?_
  refine k_iald (n := 480) (i := (k * 4) + 1) hx hb hKW hP 1 0 rfl rfl (by omega) (by omega) dX4_tally_20 ?_
  refine k_top (y := nI b) (hp1) ?_
  refine k_iadd hx hb dX4_tally_21 ?_
  refine lv_istore (lv' := [(4, .int (nI ((a * 10) + b))), (3, .int (nI (k * 4))), (0, .ref (q4 0)), (1, .int (nI k)), (2, .int sg)]) hx hb dX4_tally_22 hl (by decide) rfl (fun ls hl => ?_)
  refine lv_aload_n hx hb dX4_tally_24 rfl (lv_at hl 2 rfl) ?_
  refine k_get (ci := 4) (v := .ref (q4 1)) (C := RX4) (Tb := TX4) (N := 6) hx hb hts hu_4 hown hKW hP 0 rfl rfl 0 (by decide) hf_9 rfl rfl dX4_tally_25 ?_
  refine lv_iload_n hx hb dX4_tally_28 rfl (lv_at hl 1 rfl) ?_
  refine lv_iconst (v := nI 1) hx hb dX4_tally_29 (by decide) ?_
  refine k_iadd hx hb dX4_tally_30 ?_
  refine k_iald (n := 480) (i := (k * 4) + 1) hx hb hKW hP 1 0 rfl rfl (by omega) (by omega) dX4_tally_31 ?_
  refine k_top (y := nI b) (hp1) ?_
  refine lv_bipush (v := nI 10) hx hb dX4_tally_32 (by decide) ?_
  refine k_imul hx hb dX4_tally_34 ?_
  refine lv_aload_n hx hb dX4_tally_35 rfl (lv_at hl 2 rfl) ?_
  refine k_get (ci := 4) (v := .ref (q4 1)) (C := RX4) (Tb := TX4) (N := 6) hx hb hts hu_4 hown hKW hP 0 rfl rfl 0 (by decide) hf_9 rfl rfl dX4_tally_36 ?_
  refine lv_iload_n hx hb dX4_tally_39 rfl (lv_at hl 1 rfl) ?_
  refine k_iald (n := 480) (i := k * 4) hx hb hKW hP 1 0 rfl rfl (by omega) (by omega) dX4_tally_40 ?_
  refine k_top (y := nI a) (hp0) ?_
  refine k_iadd hx hb dX4_tally_41 ?_
  refine lv_istore (lv' := [(5, .int (nI ((b * 10) + a))), (4, .int (nI ((a * 10) + b))), (3, .int (nI (k * 4))), (0, .ref (q4 0)), (1, .int (nI k)), (2, .int sg)]) hx hb dX4_tally_42 hl (by decide) rfl (fun ls hl => ?_)
  refine lv_aload_n hx hb dX4_tally_44 rfl (lv_at hl 3 rfl) ?_
  refine k_get (ci := 4) (v := .ref (q4 1)) (C := RX4) (Tb := TX4) (N := 6) hx hb hts hu_4 hown hKW hP 0 rfl rfl 0 (by decide) hf_9 rfl rfl dX4_tally_45 ?_
  refine lv_iload_n hx hb dX4_tally_48 rfl (lv_at hl 2 rfl) ?_
  refine lv_iconst (v := nI 2) hx hb dX4_tally_49 (by decide) ?_
  refine k_iadd hx hb dX4_tally_50 ?_
  refine k_iald (n := 480) (i := (k * 4) + 2) hx hb hKW hP 1 0 rfl rfl (by omega) (by omega) dX4_tally_51 ?_
  refine k_top (y := nI p1) (hp2) ?_
  refine lv_istore (lv' := [(6, .int (nI p1)), (5, .int (nI ((b * 10) + a))), (4, .int (nI ((a * 10) + b))), (3, .int (nI (k * 4))), (0, .ref (q4 0)), (1, .int (nI k)), (2, .int sg)]) hx hb dX4_tally_52 hl (by decide) rfl (fun ls hl => ?_)
  refine lv_aload_n hx hb dX4_tally_54 rfl (lv_at hl 4 rfl) ?_
  refine k_get (ci := 4) (v := .ref (q4 1)) (C := RX4) (Tb := TX4) (N := 6) hx hb hts hu_4 hown hKW hP 0 rfl rfl 0 (by decide) hf_9 rfl rfl dX4_tally_55 ?_
  refine lv_iload_n hx hb dX4_tally_58 rfl (lv_at hl 3 rfl) ?_
  refine lv_iconst (v := nI 3) hx hb dX4_tally_59 (by decide) ?_
  refine k_iadd hx hb dX4_tally_60 ?_
  refine k_iald (n := 480) (i := (k * 4) + 3) hx hb hKW hP 1 0 rfl rfl (by omega) (by omega) dX4_tally_61 ?_
  refine k_top (y := nI q1) (hp3) ?_
  refine lv_istore (lv' := [(7, .int (nI q1)), (6, .int (nI p1)), (5, .int (nI ((b * 10) + a))), (4, .int (nI ((a * 10) + b))), (3, .int (nI (k * 4))), (0, .ref (q4 0)), (1, .int (nI k)), (2, .int sg)]) hx hb dX4_tally_62 hl (by decide) rfl (fun ls hl => ?_)
  refine lv_aload_n hx hb dX4_tally_64 rfl (lv_at hl 5 rfl) ?_
  refine k_get (ci := 4) (v := .ref (q4 4)) (C := RX4) (Tb := TX4) (N := 6) hx hb hts hu_4 hown hKW hP 0 rfl rfl 3 (by decide) hf_21 rfl rfl dX4_tally_65 ?_
  refine lv_iload hx hb dX4_tally_68 (lv_at hl 3 rfl) ?_
  refine lv_dup2_11 hx hb dX4_tally_70 rfl rfl ?_
  refine k_iald (n := 100) (i := (a * 10) + b) hx hb hKW hP 4 0 rfl rfl (by omega) (by omega) dX4_tally_71 ?_
  refine lv_iload_n hx hb dX4_tally_72 rfl (lv_at hl 7 rfl) ?_
  refine lv_iload hx hb dX4_tally_73 (lv_at hl 1 rfl) ?_
  refine lv_imul hx hb dX4_tally_75 ?_
  refine lv_iadd hx hb dX4_tally_76 ?_
  refine k_iast (n := 100) (i := (a * 10) + b) (x := (points_4 ((a * 10) + b)) + (sg * (nI p1))) (w' := (wX4 q4 cI cJ cB parts_4 wins_4 draws_4 (upd points_4 ((a * 10) + b) ((points_4 ((a * 10) + b)) + (sg * (nI p1)))) count_4 changes_4)) hx hb hKW hP hD hS 4 0 rfl rfl (by omega) (by omega) dX4_tally_77 rfl (fun H locs hP hD hS => ?_)
  refine lv_aload_n hx hb dX4_tally_78 rfl (lv_at hl 5 rfl) ?_
  refine k_get (ci := 4) (v := .ref (q4 4)) (C := RX4) (Tb := TX4) (N := 6) hx hb hts hu_4 hown hKW hP 0 rfl rfl 3 (by decide) hf_21 rfl rfl dX4_tally_79 ?_
  refine lv_iload hx hb dX4_tally_82 (lv_at hl 2 rfl) ?_
  refine lv_dup2_11 hx hb dX4_tally_84 rfl rfl ?_
  refine k_iald (n := 100) (i := (b * 10) + a) hx hb hKW hP 4 0 rfl rfl (by omega) (by omega) dX4_tally_85 ?_
  refine lv_iload_n hx hb dX4_tally_86 rfl (lv_at hl 7 rfl) ?_
  refine lv_iload hx hb dX4_tally_87 (lv_at hl 0 rfl) ?_
  refine lv_imul hx hb dX4_tally_89 ?_
  refine lv_iadd hx hb dX4_tally_90 ?_
  refine k_iast (n := 100) (i := (b * 10) + a) (x := ((upd points_4 ((a * 10) + b) ((points_4 ((a * 10) + b)) + (sg * (nI p1)))) ((b * 10) + a)) + (sg * (nI q1))) (w' := (wX4 q4 cI cJ cB parts_4 wins_4 draws_4 (upd (upd points_4 ((a * 10) + b) ((points_4 ((a * 10) + b)) + (sg * (nI p1)))) ((b * 10) + a) (((upd points_4 ((a * 10) + b) ((points_4 ((a * 10) + b)) + (sg * (nI p1)))) ((b * 10) + a)) + (sg * (nI q1)))) count_4 changes_4)) hx hb hKW hP hD hS 4 0 rfl rfl (by omega) (by omega) dX4_tally_91 rfl (fun H locs hP hD hS => ?_)
  refine lv_iload hx hb dX4_tally_92 (lv_at hl 1 rfl) ?_
  refine lv_iload hx hb dX4_tally_94 (lv_at hl 0 rfl) ?_
  refine lv_icmp_le (tgt := 113) hx hb dX4_tally_96 (by decide) (fun c_96 => ?_) (fun c_96 => ?_)
  · skip
    have c_96 := k_le (by omega) (by omega) c_96
    refine lv_iload hx hb dX4_tally_113 (lv_at hl 1 rfl) ?_
    refine lv_iload hx hb dX4_tally_115 (lv_at hl 0 rfl) ?_
    refine lv_icmp_ge (tgt := 134) hx hb dX4_tally_117 (by decide) (fun c_117 => ?_) (fun c_117 => ?_)
    · skip
      have c_117 := k_ge (by omega) (by omega) c_117
      refine lv_aload_n hx hb dX4_tally_134 rfl (lv_at hl 5 rfl) ?_
      refine k_get (ci := 4) (v := .ref (q4 3)) (C := RX4) (Tb := TX4) (N := 6) hx hb hts hu_4 hown hKW hP 0 rfl rfl 2 (by decide) hf_18 rfl rfl dX4_tally_135 ?_
      refine lv_iload hx hb dX4_tally_138 (lv_at hl 3 rfl) ?_
      refine lv_dup2_11 hx hb dX4_tally_140 rfl rfl ?_
      refine k_iald (n := 100) (i := (a * 10) + b) hx hb hKW hP 3 0 rfl rfl (by omega) (by omega) dX4_tally_141 ?_
      refine lv_iload_n hx hb dX4_tally_142 rfl (lv_at hl 7 rfl) ?_
      refine lv_iadd hx hb dX4_tally_143 ?_
      refine k_iast (n := 100) (i := (a * 10) + b) (x := (draws_4 ((a * 10) + b)) + sg) (w' := (wX4 q4 cI cJ cB parts_4 wins_4 (upd draws_4 ((a * 10) + b) ((draws_4 ((a * 10) + b)) + sg)) (upd (upd points_4 ((a * 10) + b) ((points_4 ((a * 10) + b)) + (sg * (nI p1)))) ((b * 10) + a) (((upd points_4 ((a * 10) + b) ((points_4 ((a * 10) + b)) + (sg * (nI p1)))) ((b * 10) + a)) + (sg * (nI q1)))) count_4 changes_4)) hx hb hKW hP hD hS 3 0 rfl rfl (by omega) (by omega) dX4_tally_144 rfl (fun H locs hP hD hS => ?_)
      refine lv_aload_n hx hb dX4_tally_145 rfl (lv_at hl 5 rfl) ?_
      refine k_get (ci := 4) (v := .ref (q4 3)) (C := RX4) (Tb := TX4) (N := 6) hx hb hts hu_4 hown hKW hP 0 rfl rfl 2 (by decide) hf_18 rfl rfl dX4_tally_146 ?_
      refine lv_iload hx hb dX4_tally_149 (lv_at hl 2 rfl) ?_
      refine lv_dup2_11 hx hb dX4_tally_151 rfl rfl ?_
      refine k_iald (n := 100) (i := (b * 10) + a) hx hb hKW hP 3 0 rfl rfl (by omega) (by omega) dX4_tally_152 ?_
      refine lv_iload_n hx hb dX4_tally_153 rfl (lv_at hl 7 rfl) ?_
      refine lv_iadd hx hb dX4_tally_154 ?_
      refine k_iast (n := 100) (i := (b * 10) + a) (x := ((upd draws_4 ((a * 10) + b) ((draws_4 ((a * 10) + b)) + sg)) ((b * 10) + a)) + sg) (w' := (wX4 q4 cI cJ cB parts_4 wins_4 (upd (upd draws_4 ((a * 10) + b) ((draws_4 ((a * 10) + b)) + sg)) ((b * 10) + a) (((upd draws_4 ((a * 10) + b) ((draws_4 ((a * 10) + b)) + sg)) ((b * 10) + a)) + sg)) (upd (upd points_4 ((a * 10) + b) ((points_4 ((a * 10) + b)) + (sg * (nI p1)))) ((b * 10) + a) (((upd points_4 ((a * 10) + b) ((points_4 ((a * 10) + b)) + (sg * (nI p1)))) ((b * 10) + a)) + (sg * (nI q1)))) count_4 changes_4)) hx hb hKW hP hD hS 3 0 rfl rfl (by omega) (by omega) dX4_tally_155 rfl (fun H locs hP hD hS => ?_)
      refine lv_aload_n hx hb dX4_tally_156 rfl (lv_at hl 5 rfl) ?_
      refine lv_dup hx hb dX4_tally_157 rfl ?_
      refine k_get (ci := 4) (v := .int changes_4) (C := RX4) (Tb := TX4) (N := 6) hx hb hts hu_4 hown hKW hP 0 rfl rfl 5 (by decide) hf_28 rfl rfl dX4_tally_158 ?_
      refine lv_iconst (v := nI 1) hx hb dX4_tally_161 (by decide) ?_
      refine lv_iadd hx hb dX4_tally_162 ?_
      refine k_put (ci := 4) (ty := .int) (v := .int (changes_4 + (nI 1))) (C := RX4) (Tb := TX4) (N := 6) (w' := (wX4 q4 cI cJ cB parts_4 wins_4 (upd (upd draws_4 ((a * 10) + b) ((draws_4 ((a * 10) + b)) + sg)) ((b * 10) + a) (((upd draws_4 ((a * 10) + b) ((draws_4 ((a * 10) + b)) + sg)) ((b * 10) + a)) + sg)) (upd (upd points_4 ((a * 10) + b) ((points_4 ((a * 10) + b)) + (sg * (nI p1)))) ((b * 10) + a) (((upd points_4 ((a * 10) + b) ((points_4 ((a * 10) + b)) + (sg * (nI p1)))) ((b * 10) + a)) + (sg * (nI q1)))) count_4 (changes_4 + (nI 1)))) hx hb hts hu_4 tyX4 tyX4_ok nmX4 hown hKW hP hD hS 0 rfl rfl 5 (by decide) hf_28 rfl rfl (by decide +kernel) rfl rfl (Nat.le_of_ble_eq_true rfl) dX4_tally_163 rfl (fun H locs hP hD hS => ?_)
      subst hQ; subst hAe
      exact W.vret hx hb hr (fun t ht _ => ⟨⟨(wins_4, upd (upd draws_4 ((a * 10) + b) ((draws_4 ((a * 10) + b)) + sg)) ((b * 10) + a) (((upd draws_4 ((a * 10) + b) ((draws_4 ((a * 10) + b)) + sg)) ((b * 10) + a)) + sg), upd (upd points_4 ((a * 10) + b) ((points_4 ((a * 10) + b)) + (sg * (nI p1)))) ((b * 10) + a) (((upd points_4 ((a * 10) + b) ((points_4 ((a * 10) + b)) + (sg * (nI p1)))) ((b * 10) + a)) + (sg * (nI q1)))), rfl, ⟨tl_ov_d (by omega), tl_dr_d ha hb2 hab (by omega), tl_pt ha hb2 hab⟩, by rw [ht]; exact hP, hD⟩, hS.F ht⟩) hS.2.2 dX4_tally_166
    · skip
      have c_117 := k_ge_n (by omega) (by omega) c_117
      refine lv_aload_n hx hb dX4_tally_120 rfl (lv_at hl 5 rfl) ?_
      refine k_get (ci := 4) (v := .ref (q4 2)) (C := RX4) (Tb := TX4) (N := 6) hx hb hts hu_4 hown hKW hP 0 rfl rfl 1 (by decide) hf_15 rfl rfl dX4_tally_121 ?_
      refine lv_iload hx hb dX4_tally_124 (lv_at hl 2 rfl) ?_
      refine lv_dup2_11 hx hb dX4_tally_126 rfl rfl ?_
      refine k_iald (n := 100) (i := (b * 10) + a) hx hb hKW hP 2 0 rfl rfl (by omega) (by omega) dX4_tally_127 ?_
      refine lv_iload_n hx hb dX4_tally_128 rfl (lv_at hl 7 rfl) ?_
      refine lv_iadd hx hb dX4_tally_129 ?_
      refine k_iast (n := 100) (i := (b * 10) + a) (x := (wins_4 ((b * 10) + a)) + sg) (w' := (wX4 q4 cI cJ cB parts_4 (upd wins_4 ((b * 10) + a) ((wins_4 ((b * 10) + a)) + sg)) draws_4 (upd (upd points_4 ((a * 10) + b) ((points_4 ((a * 10) + b)) + (sg * (nI p1)))) ((b * 10) + a) (((upd points_4 ((a * 10) + b) ((points_4 ((a * 10) + b)) + (sg * (nI p1)))) ((b * 10) + a)) + (sg * (nI q1)))) count_4 changes_4)) hx hb hKW hP hD hS 2 0 rfl rfl (by omega) (by omega) dX4_tally_130 rfl (fun H locs hP hD hS => ?_)
      refine lv_goto (tgt := 156) hx hb dX4_tally_131 (by decide) ?_
      refine lv_aload_n hx hb dX4_tally_156 rfl (lv_at hl 5 rfl) ?_
      refine lv_dup hx hb dX4_tally_157 rfl ?_
      refine k_get (ci := 4) (v := .int changes_4) (C := RX4) (Tb := TX4) (N := 6) hx hb hts hu_4 hown hKW hP 0 rfl rfl 5 (by decide) hf_28 rfl rfl dX4_tally_158 ?_
      refine lv_iconst (v := nI 1) hx hb dX4_tally_161 (by decide) ?_
      refine lv_iadd hx hb dX4_tally_162 ?_
      refine k_put (ci := 4) (ty := .int) (v := .int (changes_4 + (nI 1))) (C := RX4) (Tb := TX4) (N := 6) (w' := (wX4 q4 cI cJ cB parts_4 (upd wins_4 ((b * 10) + a) ((wins_4 ((b * 10) + a)) + sg)) draws_4 (upd (upd points_4 ((a * 10) + b) ((points_4 ((a * 10) + b)) + (sg * (nI p1)))) ((b * 10) + a) (((upd points_4 ((a * 10) + b) ((points_4 ((a * 10) + b)) + (sg * (nI p1)))) ((b * 10) + a)) + (sg * (nI q1)))) count_4 (changes_4 + (nI 1)))) hx hb hts hu_4 tyX4 tyX4_ok nmX4 hown hKW hP hD hS 0 rfl rfl 5 (by decide) hf_28 rfl rfl (by decide +kernel) rfl rfl (Nat.le_of_ble_eq_true rfl) dX4_tally_163 rfl (fun H locs hP hD hS => ?_)
      subst hQ; subst hAe
      exact W.vret hx hb hr (fun t ht _ => ⟨⟨(upd wins_4 ((b * 10) + a) ((wins_4 ((b * 10) + a)) + sg), draws_4, upd (upd points_4 ((a * 10) + b) ((points_4 ((a * 10) + b)) + (sg * (nI p1)))) ((b * 10) + a) (((upd points_4 ((a * 10) + b) ((points_4 ((a * 10) + b)) + (sg * (nI p1)))) ((b * 10) + a)) + (sg * (nI q1)))), rfl, ⟨tl_ov_l ha hb2 hab c_117, tl_dr_n (by omega), tl_pt ha hb2 hab⟩, by rw [ht]; exact hP, hD⟩, hS.F ht⟩) hS.2.2 dX4_tally_166
  · skip
    have c_96 := k_le_n (by omega) (by omega) c_96
    refine lv_aload_n hx hb dX4_tally_99 rfl (lv_at hl 5 rfl) ?_
    refine k_get (ci := 4) (v := .ref (q4 2)) (C := RX4) (Tb := TX4) (N := 6) hx hb hts hu_4 hown hKW hP 0 rfl rfl 1 (by decide) hf_15 rfl rfl dX4_tally_100 ?_
    refine lv_iload hx hb dX4_tally_103 (lv_at hl 3 rfl) ?_
    refine lv_dup2_11 hx hb dX4_tally_105 rfl rfl ?_
    refine k_iald (n := 100) (i := (a * 10) + b) hx hb hKW hP 2 0 rfl rfl (by omega) (by omega) dX4_tally_106 ?_
    refine lv_iload_n hx hb dX4_tally_107 rfl (lv_at hl 7 rfl) ?_
    refine lv_iadd hx hb dX4_tally_108 ?_
    refine k_iast (n := 100) (i := (a * 10) + b) (x := (wins_4 ((a * 10) + b)) + sg) (w' := (wX4 q4 cI cJ cB parts_4 (upd wins_4 ((a * 10) + b) ((wins_4 ((a * 10) + b)) + sg)) draws_4 (upd (upd points_4 ((a * 10) + b) ((points_4 ((a * 10) + b)) + (sg * (nI p1)))) ((b * 10) + a) (((upd points_4 ((a * 10) + b) ((points_4 ((a * 10) + b)) + (sg * (nI p1)))) ((b * 10) + a)) + (sg * (nI q1)))) count_4 changes_4)) hx hb hKW hP hD hS 2 0 rfl rfl (by omega) (by omega) dX4_tally_109 rfl (fun H locs hP hD hS => ?_)
    refine lv_goto (tgt := 156) hx hb dX4_tally_110 (by decide) ?_
    refine lv_aload_n hx hb dX4_tally_156 rfl (lv_at hl 5 rfl) ?_
    refine lv_dup hx hb dX4_tally_157 rfl ?_
    refine k_get (ci := 4) (v := .int changes_4) (C := RX4) (Tb := TX4) (N := 6) hx hb hts hu_4 hown hKW hP 0 rfl rfl 5 (by decide) hf_28 rfl rfl dX4_tally_158 ?_
    refine lv_iconst (v := nI 1) hx hb dX4_tally_161 (by decide) ?_
    refine lv_iadd hx hb dX4_tally_162 ?_
    refine k_put (ci := 4) (ty := .int) (v := .int (changes_4 + (nI 1))) (C := RX4) (Tb := TX4) (N := 6) (w' := (wX4 q4 cI cJ cB parts_4 (upd wins_4 ((a * 10) + b) ((wins_4 ((a * 10) + b)) + sg)) draws_4 (upd (upd points_4 ((a * 10) + b) ((points_4 ((a * 10) + b)) + (sg * (nI p1)))) ((b * 10) + a) (((upd points_4 ((a * 10) + b) ((points_4 ((a * 10) + b)) + (sg * (nI p1)))) ((b * 10) + a)) + (sg * (nI q1)))) count_4 (changes_4 + (nI 1)))) hx hb hts hu_4 tyX4 tyX4_ok nmX4 hown hKW hP hD hS 0 rfl rfl 5 (by decide) hf_28 rfl rfl (by decide +kernel) rfl rfl (Nat.le_of_ble_eq_true rfl) dX4_tally_163 rfl (fun H locs hP hD hS => ?_)
    subst hQ; subst hAe
    exact W.vret hx hb hr (fun t ht _ => ⟨⟨(upd wins_4 ((a * 10) + b) ((wins_4 ((a * 10) + b)) + sg), draws_4, upd (upd points_4 ((a * 10) + b) ((points_4 ((a * 10) + b)) + (sg * (nI p1)))) ((b * 10) + a) (((upd points_4 ((a * 10) + b) ((points_4 ((a * 10) + b)) + (sg * (nI p1)))) ((b * 10) + a)) + (sg * (nI q1)))), rfl, ⟨tl_ov_w ha hb2 hab c_96, tl_dr_n (by omega), tl_pt ha hb2 hab⟩, by rw [ht]; exact hP, hD⟩, hS.F ht⟩) hS.2.2 dX4_tally_166
def rmX4_insert : Room := { frames := 1, cells := 0, slots := 0, locals := 60 }
set_option maxHeartbeats 4000000 in
set_option maxRecDepth 100000 in
theorem c_X4_insert (l : Launch) (D : va_G) (cI cJ cB : ClassId) (q4 : Nat → Nat) (parts_4 : Nat → Int32) (wins_4 : Nat → Int32) (draws_4 : Nat → Int32) (points_4 : Nat → Int32) (changes_4 : Int32) (ml : List Mt) (k : Nat) (a : Nat) (b : Nat) (p1 : Nat) (q1 : Nat) (hM : MR parts_4 wins_4 draws_4 points_4 ml) (hL : okL 10 ml) (hlt : ml.length < 120) (hk : k ≤ ml.length) (hokx : okM 10 (a, b, p1, q1)) : ∀ sz, Met l yX4_insert wsX4_insert rmX4_insert (va_Pc [.ref (q4 0), .int (nI k), .int (nI a), .int (nI b), .int (nI p1), .int (nI q1)] (PW D (kT cI cJ cB) sz (wX4 q4 cI cJ cB parts_4 wins_4 draws_4 points_4 (nI ml.length) changes_4))) (va_Qv (S := (Nat → Int32) × (Nat → Int32) × (Nat → Int32) × (Nat → Int32)) (fun uu => match uu with | (parts_4', wins_4', draws_4', points_4') => MR parts_4' wins_4' draws_4' points_4' (ml.insertIdx k (a, b, p1, q1))) (QW D sz (wX4 q4 cI cJ cB parts_4 wins_4 draws_4 points_4 (nI ml.length) changes_4) (fun uu => match uu with | (parts_4', wins_4', draws_4', points_4') => (wX4 q4 cI cJ cB parts_4' wins_4' draws_4' points_4' (nI (ml.length + 1)) (changes_4 + nI 1)))) (va_A (wX4 q4 cI cJ cB parts_4 wins_4 draws_4 points_4 (nI ml.length) changes_4) sz)) 0 0 (va_A (wX4 q4 cI cJ cB parts_4 wins_4 draws_4 points_4 (nI ml.length) changes_4) sz) := by
  intro sz
  refine Met.ofW (cc := cX4_insert) (maxL := 7) (ret := none) (by decide) rfl ?_
  intro p e s m args below meth c s₁ B hml hv
  obtain ⟨hav, hsz, hP, hKW, hD0⟩ := hv
  have hx := B.exec
  have hb := B.bytes
  have hr := B.returns
  have hts := atoms_spec (ws := wsX4_insert) B.pre
  have hown : s.vm.findClass RX4 = some m.cls := findClass_of_methodNamed B.named
  have hlocks := B.notSynchronized
  subst hsz
  have hD := hD0.self (sz := s.heap.size)
  obtain ⟨A, hAe⟩ : ∃ A : Nat → Prop, A = va_A (wX4 q4 cI cJ cB parts_4 wins_4 draws_4 points_4 (nI ml.length) changes_4) s.heap.size := ⟨_, rfl⟩
  rw [← hAe] at hD
  have hA : ∀ q : Nat, s.heap.size ≤ q → A q := fun q h => by rw [hAe]; exact Or.inr h
  have hS : va_S A s.heap s.heap [] := va_S.rf
  refine k_gen (fun Q hQ => ?_)
  have hl := lv_entry ([.ref (q4 0), .int (nI k), .int (nI a), .int (nI b), .int (nI p1), .int (nI q1)]) (n := 7) (Nat.le_of_ble_eq_true rfl)
  refine k_entry hav (lg_entry_eq ..) ?_
  generalize (lg_sl ([.ref (q4 0), .int (nI k), .int (nI a), .int (nI b), .int (nI p1), .int (nI q1)]) ++ List.replicate (7 - (lg_sl ([.ref (q4 0), .int (nI k), .int (nI a), .int (nI b), .int (nI p1), .int (nI q1)])).length) Slot.unset).toArray = ls at hl ⊢
  have hl : lv_has ls 7 [(0, .ref (q4 0)), (1, .int (nI k)), (2, .int (nI a)), (3, .int (nI b)), (4, .int (nI p1)), (5, .int (nI q1))] := hl
  have hu_4 : ∀ w ∈ u_ws RX4 TX4 6, w ∈ wsX4_insert := by decide +kernel
  have hf_9 : Cond.fieldLink RX4 9 "MeetingRanks$Meetings" "parts" "[I" ∈ wsX4_insert := by decide +kernel
  have hf_24 : Cond.fieldLink RX4 24 "MeetingRanks$Meetings" "count" "I" ∈ wsX4_insert := by decide +kernel
  have hL1 := hL.2.1
  obtain ⟨ha, hb2, hab, hp99, hq99⟩ := id hokx
  refine lv_aload_n hx hb dX4_insert_0 rfl (lv_at hl 0 rfl) ?_
  refine k_get (ci := 4) (v := .int (nI ml.length)) (C := RX4) (Tb := TX4) (N := 6) hx hb hts hu_4 hown hKW hP 0 rfl rfl 4 (by decide) hf_24 rfl rfl dX4_insert_1 ?_
  refine lv_bipush (v := nI 120) hx hb dX4_insert_4 (by decide) ?_
  refine lv_icmp_ge (tgt := 21) hx hb dX4_insert_6 (by decide) (fun c_6 => ?_) (fun c_6 => ?_)
  · skip
    have c_6 := k_ge (by omega) (by omega) c_6
    exact absurd c_6 (by omega)
  · skip
    have c_6 := k_ge_n (by omega) (by omega) c_6
    refine lv_iload_n hx hb dX4_insert_9 rfl (lv_at hl 1 rfl) ?_
    refine lv_if_lt (tgt := 21) hx hb dX4_insert_10 (by decide) (fun c_10 => ?_) (fun c_10 => ?_)
    · skip
      exact (k0_lt (by omega) c_10).elim
    · skip
      have c_10 := k0_lt_n (by omega) c_10
      refine lv_iload_n hx hb dX4_insert_13 rfl (lv_at hl 1 rfl) ?_
      refine lv_aload_n hx hb dX4_insert_14 rfl (lv_at hl 0 rfl) ?_
      refine k_get (ci := 4) (v := .int (nI ml.length)) (C := RX4) (Tb := TX4) (N := 6) hx hb hts hu_4 hown hKW hP 0 rfl rfl 4 (by decide) hf_24 rfl rfl dX4_insert_15 ?_
      refine lv_icmp_le (tgt := 22) hx hb dX4_insert_18 (by decide) (fun c_18 => ?_) (fun c_18 => ?_)
      · skip
        have c_18 := k_le (by omega) (by omega) c_18
        refine lv_iload_n hx hb dX4_insert_22 rfl (lv_at hl 1 rfl) ?_
        refine lv_iconst (v := nI 4) hx hb dX4_insert_23 (by decide) ?_
        refine k_imul hx hb dX4_insert_24 ?_
        refine lv_istore (lv' := [(6, .int (nI (k * 4))), (0, .ref (q4 0)), (1, .int (nI k)), (2, .int (nI a)), (3, .int (nI b)), (4, .int (nI p1)), (5, .int (nI q1))]) hx hb dX4_insert_25 hl (by decide) rfl (fun ls hl => ?_)
        refine lv_aload_n hx hb dX4_insert_27 rfl (lv_at hl 1 rfl) ?_
        refine k_get (ci := 4) (v := .ref (q4 1)) (C := RX4) (Tb := TX4) (N := 6) hx hb hts hu_4 hown hKW hP 0 rfl rfl 0 (by decide) hf_9 rfl rfl dX4_insert_28 ?_
        refine lv_iload hx hb dX4_insert_31 (lv_at hl 0 rfl) ?_
        refine lv_aload_n hx hb dX4_insert_33 rfl (lv_at hl 1 rfl) ?_
        refine k_get (ci := 4) (v := .ref (q4 1)) (C := RX4) (Tb := TX4) (N := 6) hx hb hts hu_4 hown hKW hP 0 rfl rfl 0 (by decide) hf_9 rfl rfl dX4_insert_34 ?_
        refine lv_iload hx hb dX4_insert_37 (lv_at hl 0 rfl) ?_
        refine lv_iconst (v := nI 4) hx hb dX4_insert_39 (by decide) ?_
        refine k_iadd hx hb dX4_insert_40 ?_
        refine lv_aload_n hx hb dX4_insert_41 rfl (lv_at hl 1 rfl) ?_
        refine k_get (ci := 4) (v := .int (nI ml.length)) (C := RX4) (Tb := TX4) (N := 6) hx hb hts hu_4 hown hKW hP 0 rfl rfl 4 (by decide) hf_24 rfl rfl dX4_insert_42 ?_
        refine lv_iload_n hx hb dX4_insert_45 rfl (lv_at hl 2 rfl) ?_
        refine k_isub hx hb (hk) dX4_insert_46 ?_
        refine lv_iconst (v := nI 4) hx hb dX4_insert_47 (by decide) ?_
        refine k_imul hx hb dX4_insert_48 ?_
        refine k_copy (n := (ml.length - k) * 4) (i := k * 4) (j := (k * 4) + 4) (N := 480) (w' := (wX4 q4 cI cJ cB (va_cpy parts_4 parts_4 (k * 4) ((k * 4) + 4) ((ml.length - k) * 4)) wins_4 draws_4 points_4 (nI ml.length) changes_4)) hx hb (hml.trans hl.1.symm) hown (hts (.methodLink RX4 44 arraycopyName) (by decide +kernel)) (hts (.native arraycopyName) (by decide +kernel)) (hts (.static arraycopyName) (by decide +kernel)) (hts (.initialized "java/lang/System") (by decide +kernel)) hKW hP hD hS 1 0 rfl rfl (by omega) (by omega) (by omega) (Nat.le_of_ble_eq_true rfl) (Nat.le_of_ble_eq_true rfl) dX4_insert_49 rfl (fun H locs hP hD hS => ?_)
        refine lv_aload_n hx hb dX4_insert_52 rfl (lv_at hl 1 rfl) ?_
        refine k_get (ci := 4) (v := .ref (q4 1)) (C := RX4) (Tb := TX4) (N := 6) hx hb hts hu_4 hown hKW hP 0 rfl rfl 0 (by decide) hf_9 rfl rfl dX4_insert_53 ?_
        refine lv_iload hx hb dX4_insert_56 (lv_at hl 0 rfl) ?_
        refine lv_iload_n hx hb dX4_insert_58 rfl (lv_at hl 3 rfl) ?_
        refine k_iast (n := 480) (i := k * 4) (x := nI a) (w' := (wX4 q4 cI cJ cB (upd (va_cpy parts_4 parts_4 (k * 4) ((k * 4) + 4) ((ml.length - k) * 4)) (k * 4) (nI a)) wins_4 draws_4 points_4 (nI ml.length) changes_4)) hx hb hKW hP hD hS 1 0 rfl rfl (by omega) (by omega) dX4_insert_59 rfl (fun H locs hP hD hS => ?_)
        refine lv_aload_n hx hb dX4_insert_60 rfl (lv_at hl 1 rfl) ?_
        refine k_get (ci := 4) (v := .ref (q4 1)) (C := RX4) (Tb := TX4) (N := 6) hx hb hts hu_4 hown hKW hP 0 rfl rfl 0 (by decide) hf_9 rfl rfl dX4_insert_61 ?_
        refine lv_iload hx hb dX4_insert_64 (lv_at hl 0 rfl) ?_
        refine lv_iconst (v := nI 1) hx hb dX4_insert_66 (by decide) ?_
        refine k_iadd hx hb dX4_insert_67 ?_
        refine lv_iload_n hx hb dX4_insert_68 rfl (lv_at hl 4 rfl) ?_
        refine k_iast (n := 480) (i := (k * 4) + 1) (x := nI b) (w' := (wX4 q4 cI cJ cB (upd (upd (va_cpy parts_4 parts_4 (k * 4) ((k * 4) + 4) ((ml.length - k) * 4)) (k * 4) (nI a)) ((k * 4) + 1) (nI b)) wins_4 draws_4 points_4 (nI ml.length) changes_4)) hx hb hKW hP hD hS 1 0 rfl rfl (by omega) (by omega) dX4_insert_69 rfl (fun H locs hP hD hS => ?_)
        refine lv_aload_n hx hb dX4_insert_70 rfl (lv_at hl 1 rfl) ?_
        refine k_get (ci := 4) (v := .ref (q4 1)) (C := RX4) (Tb := TX4) (N := 6) hx hb hts hu_4 hown hKW hP 0 rfl rfl 0 (by decide) hf_9 rfl rfl dX4_insert_71 ?_
        refine lv_iload hx hb dX4_insert_74 (lv_at hl 0 rfl) ?_
        refine lv_iconst (v := nI 2) hx hb dX4_insert_76 (by decide) ?_
        refine k_iadd hx hb dX4_insert_77 ?_
        refine lv_iload hx hb dX4_insert_78 (lv_at hl 5 rfl) ?_
        refine k_iast (n := 480) (i := (k * 4) + 2) (x := nI p1) (w' := (wX4 q4 cI cJ cB (upd (upd (upd (va_cpy parts_4 parts_4 (k * 4) ((k * 4) + 4) ((ml.length - k) * 4)) (k * 4) (nI a)) ((k * 4) + 1) (nI b)) ((k * 4) + 2) (nI p1)) wins_4 draws_4 points_4 (nI ml.length) changes_4)) hx hb hKW hP hD hS 1 0 rfl rfl (by omega) (by omega) dX4_insert_80 rfl (fun H locs hP hD hS => ?_)
        refine lv_aload_n hx hb dX4_insert_81 rfl (lv_at hl 1 rfl) ?_
        refine k_get (ci := 4) (v := .ref (q4 1)) (C := RX4) (Tb := TX4) (N := 6) hx hb hts hu_4 hown hKW hP 0 rfl rfl 0 (by decide) hf_9 rfl rfl dX4_insert_82 ?_
        refine lv_iload hx hb dX4_insert_85 (lv_at hl 0 rfl) ?_
        refine lv_iconst (v := nI 3) hx hb dX4_insert_87 (by decide) ?_
        refine k_iadd hx hb dX4_insert_88 ?_
        refine lv_iload hx hb dX4_insert_89 (lv_at hl 6 rfl) ?_
        refine k_iast (n := 480) (i := (k * 4) + 3) (x := nI q1) (w' := (wX4 q4 cI cJ cB (upd (upd (upd (upd (va_cpy parts_4 parts_4 (k * 4) ((k * 4) + 4) ((ml.length - k) * 4)) (k * 4) (nI a)) ((k * 4) + 1) (nI b)) ((k * 4) + 2) (nI p1)) ((k * 4) + 3) (nI q1)) wins_4 draws_4 points_4 (nI ml.length) changes_4)) hx hb hKW hP hD hS 1 0 rfl rfl (by omega) (by omega) dX4_insert_91 rfl (fun H locs hP hD hS => ?_)
        refine lv_aload_n hx hb dX4_insert_92 rfl (lv_at hl 1 rfl) ?_
        refine lv_dup hx hb dX4_insert_93 rfl ?_
        refine k_get (ci := 4) (v := .int (nI ml.length)) (C := RX4) (Tb := TX4) (N := 6) hx hb hts hu_4 hown hKW hP 0 rfl rfl 4 (by decide) hf_24 rfl rfl dX4_insert_94 ?_
        refine lv_iconst (v := nI 1) hx hb dX4_insert_97 (by decide) ?_
        refine k_iadd hx hb dX4_insert_98 ?_
        refine k_put (ci := 4) (ty := .int) (v := .int (nI (ml.length + 1))) (C := RX4) (Tb := TX4) (N := 6) (w' := (wX4 q4 cI cJ cB (upd (upd (upd (upd (va_cpy parts_4 parts_4 (k * 4) ((k * 4) + 4) ((ml.length - k) * 4)) (k * 4) (nI a)) ((k * 4) + 1) (nI b)) ((k * 4) + 2) (nI p1)) ((k * 4) + 3) (nI q1)) wins_4 draws_4 points_4 (nI (ml.length + 1)) changes_4)) hx hb hts hu_4 tyX4 tyX4_ok nmX4 hown hKW hP hD hS 0 rfl rfl 4 (by decide) hf_24 rfl rfl (by decide +kernel) rfl rfl (Nat.le_of_ble_eq_true rfl) dX4_insert_99 rfl (fun H locs hP hD hS => ?_)
        refine lv_aload_n hx hb dX4_insert_102 rfl (lv_at hl 1 rfl) ?_
        refine lv_iload_n hx hb dX4_insert_103 rfl (lv_at hl 2 rfl) ?_
        refine lv_iconst (v := nI 1) hx hb dX4_insert_104 (by decide) ?_
        have hs_105 : kSplit (wX4 q4 cI cJ cB (upd (upd (upd (upd (va_cpy parts_4 parts_4 (k * 4) ((k * 4) + 4) ((ml.length - k) * 4)) (k * 4) (nI a)) ((k * 4) + 1) (nI b)) ((k * 4) + 2) (nI p1)) ((k * 4) + 3) (nI q1)) wins_4 draws_4 points_4 (nI (ml.length + 1)) changes_4) (wX4 q4 cI cJ cB (upd (upd (upd (upd (va_cpy parts_4 parts_4 (k * 4) ((k * 4) + 4) ((ml.length - k) * 4)) (k * 4) (nI a)) ((k * 4) + 1) (nI b)) ((k * 4) + 2) (nI p1)) ((k * 4) + 3) (nI q1)) wins_4 draws_4 points_4 (nI (ml.length + 1)) changes_4) ([] : va_W) [0, 1, 2, 3, 4] [] := ⟨rfl, rfl, rfl, rfl, rfl, by decide⟩
        refine kc_v hP hD hS hA hs_105 (kV (As := [.int (nI k), .int (nI 1)]) (rest := []) hx hb hml hown hts hKW hP hD hs_105 (c_X4_tally l D cI cJ cB q4 (upd (upd (upd (upd (va_cpy parts_4 parts_4 (k * 4) ((k * 4) + 4) ((ml.length - k) * 4)) (k * 4) (nI a)) ((k * 4) + 1) (nI b)) ((k * 4) + 2) (nI p1)) ((k * 4) + 3) (nI q1)) wins_4 draws_4 points_4 (nI (ml.length + 1)) changes_4 k (nI 1) a b p1 q1 (by first | assumption | omega) (by simp (disch := omega) only [pk_us, pk_un]) (by simp (disch := omega) only [pk_us, pk_un]) (by simp (disch := omega) only [pk_us, pk_un]) (by simp (disch := omega) only [pk_us, pk_un]) ha hb2 hab hp99 hq99) (cwV 2 hts gX4_insert_X4_tally rfl rfl rfl (by decide +kernel) ⟨Nat.le_of_ble_eq_true rfl, Nat.le_of_ble_eq_true rfl⟩) 0 4 rfl rfl rfl rfl hl.1 rfl (Nat.le_of_ble_eq_true rfl) dX4_insert_105 ⟨Nat.zero_le _, Nat.zero_le _⟩) (fun u_105 H locs hw_105 hP hD hS => ?_)
        obtain ⟨wins_4_105, draws_4_105, points_4_105⟩ := u_105
        have hP : va_P D vwCl (wX4 q4 cI cJ cB (upd (upd (upd (upd (va_cpy parts_4 parts_4 (k * 4) ((k * 4) + 4) ((ml.length - k) * 4)) (k * 4) (nI a)) ((k * 4) + 1) (nI b)) ((k * 4) + 2) (nI p1)) ((k * 4) + 3) (nI q1)) wins_4_105 draws_4_105 points_4_105 (nI (ml.length + 1)) (changes_4 + nI 1)) H := hP.sub (ws' := (wX4 q4 cI cJ cB (upd (upd (upd (upd (va_cpy parts_4 parts_4 (k * 4) ((k * 4) + 4) ((ml.length - k) * 4)) (k * 4) (nI a)) ((k * 4) + 1) (nI b)) ((k * 4) + 2) (nI p1)) ((k * 4) + 3) (nI q1)) wins_4_105 draws_4_105 points_4_105 (nI (ml.length + 1)) (changes_4 + nI 1))) [0, 1, 2, 3, 4] rfl
        have hD : va_D A (wX4 q4 cI cJ cB (upd (upd (upd (upd (va_cpy parts_4 parts_4 (k * 4) ((k * 4) + 4) ((ml.length - k) * 4)) (k * 4) (nI a)) ((k * 4) + 1) (nI b)) ((k * 4) + 2) (nI p1)) ((k * 4) + 3) (nI q1)) wins_4_105 draws_4_105 points_4_105 (nI (ml.length + 1)) (changes_4 + nI 1)) := hD.sub (ws' := (wX4 q4 cI cJ cB (upd (upd (upd (upd (va_cpy parts_4 parts_4 (k * 4) ((k * 4) + 4) ((ml.length - k) * 4)) (k * 4) (nI a)) ((k * 4) + 1) (nI b)) ((k * 4) + 2) (nI p1)) ((k * 4) + 3) (nI q1)) wins_4_105 draws_4_105 points_4_105 (nI (ml.length + 1)) (changes_4 + nI 1))) [0, 1, 2, 3, 4] (by decide) rfl
        subst hQ; subst hAe
        exact W.vret hx hb hr (fun t ht _ => ⟨⟨(upd (upd (upd (upd (va_cpy parts_4 parts_4 (k * 4) ((k * 4) + 4) ((ml.length - k) * 4)) (k * 4) (nI a)) ((k * 4) + 1) (nI b)) ((k * 4) + 2) (nI p1)) ((k * 4) + 3) (nI q1), wins_4_105, draws_4_105, points_4_105), rfl, hM.ins hk hw_105.1 hw_105.2.1 hw_105.2.2, by rw [ht]; exact hP, hD⟩, hS.F ht⟩) hS.2.2 dX4_insert_108
      · skip
        have c_18 := k_le_n (by omega) (by omega) c_18
        exact absurd c_18 (by omega)
def rmX4_append : Room := { frames := 2, cells := 0, slots := 0, locals := 86 }
set_option maxHeartbeats 4000000 in
set_option maxRecDepth 100000 in
theorem c_X4_append (l : Launch) (D : va_G) (cI cJ cB : ClassId) (q4 : Nat → Nat) (parts_4 : Nat → Int32) (wins_4 : Nat → Int32) (draws_4 : Nat → Int32) (points_4 : Nat → Int32) (changes_4 : Int32) (ml : List Mt) (a : Nat) (b : Nat) (p1 : Nat) (q1 : Nat) (hM : MR parts_4 wins_4 draws_4 points_4 ml) (hL : okL 10 ml) (hlt : ml.length < 120) (hokx : okM 10 (a, b, p1, q1)) : ∀ sz, Met l yX4_append wsX4_append rmX4_append (va_Pc [.ref (q4 0), .int (nI a), .int (nI b), .int (nI p1), .int (nI q1)] (PW D (kT cI cJ cB) sz (wX4 q4 cI cJ cB parts_4 wins_4 draws_4 points_4 (nI ml.length) changes_4))) (va_Qv (S := (Nat → Int32) × (Nat → Int32) × (Nat → Int32) × (Nat → Int32)) (fun uu => match uu with | (parts_4', wins_4', draws_4', points_4') => MR parts_4' wins_4' draws_4' points_4' (ml ++ [(a, b, p1, q1)])) (QW D sz (wX4 q4 cI cJ cB parts_4 wins_4 draws_4 points_4 (nI ml.length) changes_4) (fun uu => match uu with | (parts_4', wins_4', draws_4', points_4') => (wX4 q4 cI cJ cB parts_4' wins_4' draws_4' points_4' (nI (ml.length + 1)) (changes_4 + nI 1)))) (va_A (wX4 q4 cI cJ cB parts_4 wins_4 draws_4 points_4 (nI ml.length) changes_4) sz)) 0 0 (va_A (wX4 q4 cI cJ cB parts_4 wins_4 draws_4 points_4 (nI ml.length) changes_4) sz) := by
  intro sz
  refine Met.ofW (cc := cX4_append) (maxL := 5) (ret := none) (by decide) rfl ?_
  intro p e s m args below meth c s₁ B hml hv
  obtain ⟨hav, hsz, hP, hKW, hD0⟩ := hv
  have hx := B.exec
  have hb := B.bytes
  have hr := B.returns
  have hts := atoms_spec (ws := wsX4_append) B.pre
  have hown : s.vm.findClass RX4 = some m.cls := findClass_of_methodNamed B.named
  have hlocks := B.notSynchronized
  subst hsz
  have hD := hD0.self (sz := s.heap.size)
  obtain ⟨A, hAe⟩ : ∃ A : Nat → Prop, A = va_A (wX4 q4 cI cJ cB parts_4 wins_4 draws_4 points_4 (nI ml.length) changes_4) s.heap.size := ⟨_, rfl⟩
  rw [← hAe] at hD
  have hA : ∀ q : Nat, s.heap.size ≤ q → A q := fun q h => by rw [hAe]; exact Or.inr h
  have hS : va_S A s.heap s.heap [] := va_S.rf
  refine k_gen (fun Q hQ => ?_)
  have hl := lv_entry ([.ref (q4 0), .int (nI a), .int (nI b), .int (nI p1), .int (nI q1)]) (n := 5) (Nat.le_of_ble_eq_true rfl)
  refine k_entry hav (lg_entry_eq ..) ?_
  generalize (lg_sl ([.ref (q4 0), .int (nI a), .int (nI b), .int (nI p1), .int (nI q1)]) ++ List.replicate (5 - (lg_sl ([.ref (q4 0), .int (nI a), .int (nI b), .int (nI p1), .int (nI q1)])).length) Slot.unset).toArray = ls at hl ⊢
  have hl : lv_has ls 5 [(0, .ref (q4 0)), (1, .int (nI a)), (2, .int (nI b)), (3, .int (nI p1)), (4, .int (nI q1))] := hl
  have hu_4 : ∀ w ∈ u_ws RX4 TX4 6, w ∈ wsX4_append := by decide +kernel
  have hf_24 : Cond.fieldLink RX4 24 "MeetingRanks$Meetings" "count" "I" ∈ wsX4_append := by decide +kernel
  refine lv_aload_n hx hb dX4_append_0 rfl (lv_at hl 0 rfl) ?_
  refine lv_aload_n hx hb dX4_append_1 rfl (lv_at hl 0 rfl) ?_
  refine k_get (ci := 4) (v := .int (nI ml.length)) (C := RX4) (Tb := TX4) (N := 6) hx hb hts hu_4 hown hKW hP 0 rfl rfl 4 (by decide) hf_24 rfl rfl dX4_append_2 ?_
  refine lv_iload_n hx hb dX4_append_5 rfl (lv_at hl 1 rfl) ?_
  refine lv_iload_n hx hb dX4_append_6 rfl (lv_at hl 2 rfl) ?_
  refine lv_iload_n hx hb dX4_append_7 rfl (lv_at hl 3 rfl) ?_
  refine lv_iload hx hb dX4_append_8 (lv_at hl 4 rfl) ?_
  have hs_10 : kSplit (wX4 q4 cI cJ cB parts_4 wins_4 draws_4 points_4 (nI ml.length) changes_4) (wX4 q4 cI cJ cB parts_4 wins_4 draws_4 points_4 (nI ml.length) changes_4) ([] : va_W) [0, 1, 2, 3, 4] [] := ⟨rfl, rfl, rfl, rfl, rfl, by decide⟩
  refine kc_v hP hD hS hA hs_10 (kV (As := [.int (nI ml.length), .int (nI a), .int (nI b), .int (nI p1), .int (nI q1)]) (rest := []) hx hb hml hown hts hKW hP hD hs_10 (c_X4_insert l D cI cJ cB q4 parts_4 wins_4 draws_4 points_4 changes_4 ml ml.length a b p1 q1 (by first | assumption | omega) (by first | assumption | omega) (by first | assumption | omega) (Nat.le_refl _) (by first | assumption | omega)) (cwV 5 hts gX4_append_X4_insert rfl rfl rfl (by decide +kernel) ⟨Nat.le_of_ble_eq_true rfl, Nat.le_of_ble_eq_true rfl⟩) 0 4 rfl rfl rfl rfl hl.1 rfl (Nat.le_of_ble_eq_true rfl) dX4_append_10 ⟨Nat.zero_le _, Nat.zero_le _⟩) (fun u_10 H locs hw_10 hP hD hS => ?_)
  obtain ⟨parts_4_10, wins_4_10, draws_4_10, points_4_10⟩ := u_10
  have hP : va_P D vwCl (wX4 q4 cI cJ cB parts_4_10 wins_4_10 draws_4_10 points_4_10 (nI (ml.length + 1)) (changes_4 + nI 1)) H := hP.sub (ws' := (wX4 q4 cI cJ cB parts_4_10 wins_4_10 draws_4_10 points_4_10 (nI (ml.length + 1)) (changes_4 + nI 1))) [0, 1, 2, 3, 4] rfl
  have hD : va_D A (wX4 q4 cI cJ cB parts_4_10 wins_4_10 draws_4_10 points_4_10 (nI (ml.length + 1)) (changes_4 + nI 1)) := hD.sub (ws' := (wX4 q4 cI cJ cB parts_4_10 wins_4_10 draws_4_10 points_4_10 (nI (ml.length + 1)) (changes_4 + nI 1))) [0, 1, 2, 3, 4] (by decide) rfl
  subst hQ; subst hAe
  exact W.vret hx hb hr (fun t ht _ => ⟨⟨(parts_4_10, wins_4_10, draws_4_10, points_4_10), rfl, by rw [← ins_end]; exact hw_10, by rw [ht]; exact hP, hD⟩, hS.F ht⟩) hS.2.2 dX4_append_13
def rmX4_remove : Room := { frames := 1, cells := 0, slots := 0, locals := 60 }
set_option maxHeartbeats 4000000 in
set_option maxRecDepth 100000 in
theorem c_X4_remove (l : Launch) (D : va_G) (cI cJ cB : ClassId) (q4 : Nat → Nat) (parts_4 : Nat → Int32) (wins_4 : Nat → Int32) (draws_4 : Nat → Int32) (points_4 : Nat → Int32) (changes_4 : Int32) (ml : List Mt) (k : Nat) (hM : MR parts_4 wins_4 draws_4 points_4 ml) (hL : okL 10 ml) (hk : k < ml.length) : ∀ sz, Met l yX4_remove wsX4_remove rmX4_remove (va_Pc [.ref (q4 0), .int (nI k)] (PW D (kT cI cJ cB) sz (wX4 q4 cI cJ cB parts_4 wins_4 draws_4 points_4 (nI ml.length) changes_4))) (va_Qv (S := (Nat → Int32) × (Nat → Int32) × (Nat → Int32) × (Nat → Int32)) (fun uu => match uu with | (parts_4', wins_4', draws_4', points_4') => MR parts_4' wins_4' draws_4' points_4' (ml.eraseIdx k)) (QW D sz (wX4 q4 cI cJ cB parts_4 wins_4 draws_4 points_4 (nI ml.length) changes_4) (fun uu => match uu with | (parts_4', wins_4', draws_4', points_4') => (wX4 q4 cI cJ cB parts_4' wins_4' draws_4' points_4' (nI (ml.length - 1)) (changes_4 + nI 1)))) (va_A (wX4 q4 cI cJ cB parts_4 wins_4 draws_4 points_4 (nI ml.length) changes_4) sz)) 0 0 (va_A (wX4 q4 cI cJ cB parts_4 wins_4 draws_4 points_4 (nI ml.length) changes_4) sz) := by
  intro sz
  refine Met.ofW (cc := cX4_remove) (maxL := 3) (ret := none) (by decide) rfl ?_
  intro p e s m args below meth c s₁ B hml hv
  obtain ⟨hav, hsz, hP, hKW, hD0⟩ := hv
  have hx := B.exec
  have hb := B.bytes
  have hr := B.returns
  have hts := atoms_spec (ws := wsX4_remove) B.pre
  have hown : s.vm.findClass RX4 = some m.cls := findClass_of_methodNamed B.named
  have hlocks := B.notSynchronized
  subst hsz
  have hD := hD0.self (sz := s.heap.size)
  obtain ⟨A, hAe⟩ : ∃ A : Nat → Prop, A = va_A (wX4 q4 cI cJ cB parts_4 wins_4 draws_4 points_4 (nI ml.length) changes_4) s.heap.size := ⟨_, rfl⟩
  rw [← hAe] at hD
  have hA : ∀ q : Nat, s.heap.size ≤ q → A q := fun q h => by rw [hAe]; exact Or.inr h
  have hS : va_S A s.heap s.heap [] := va_S.rf
  refine k_gen (fun Q hQ => ?_)
  have hl := lv_entry ([.ref (q4 0), .int (nI k)]) (n := 3) (Nat.le_of_ble_eq_true rfl)
  refine k_entry hav (lg_entry_eq ..) ?_
  generalize (lg_sl ([.ref (q4 0), .int (nI k)]) ++ List.replicate (3 - (lg_sl ([.ref (q4 0), .int (nI k)])).length) Slot.unset).toArray = ls at hl ⊢
  have hl : lv_has ls 3 [(0, .ref (q4 0)), (1, .int (nI k))] := hl
  have hu_4 : ∀ w ∈ u_ws RX4 TX4 6, w ∈ wsX4_remove := by decide +kernel
  have hf_9 : Cond.fieldLink RX4 9 "MeetingRanks$Meetings" "parts" "[I" ∈ wsX4_remove := by decide +kernel
  have hf_24 : Cond.fieldLink RX4 24 "MeetingRanks$Meetings" "count" "I" ∈ wsX4_remove := by decide +kernel
  have hL1 := hL.2.1
  obtain ⟨ha, hb2, hab, hp99, hq99⟩ := hL.2.2 _ (mg_mem hk)
  have hmk := hM.1 k hk
  refine lv_aload_n hx hb dX4_remove_0 rfl (lv_at hl 0 rfl) ?_
  refine lv_iload_n hx hb dX4_remove_1 rfl (lv_at hl 1 rfl) ?_
  have hs_2 : kSplit (wX4 q4 cI cJ cB parts_4 wins_4 draws_4 points_4 (nI ml.length) changes_4) (wX4 q4 cI cJ cB parts_4 wins_4 draws_4 points_4 (nI ml.length) changes_4) ([] : va_W) [0, 1, 2, 3, 4] [] := ⟨rfl, rfl, rfl, rfl, rfl, by decide⟩
  refine kc_i hP hD hS hA hs_2 (kV (As := [.int (nI k)]) (rest := []) hx hb hml hown hts hKW hP hD hs_2 (c_X4_has l D cI cJ cB q4 parts_4 wins_4 draws_4 points_4 changes_4 ml.length (nI k) (by omega)) (cwV 1 hts gX4_remove_X4_has rfl rfl rfl (by decide +kernel) ⟨Nat.le_of_ble_eq_true rfl, Nat.le_of_ble_eq_true rfl⟩) 0 4 rfl rfl rfl rfl hl.1 rfl (Nat.le_of_ble_eq_true rfl) dX4_remove_2 ⟨Nat.zero_le _, Nat.zero_le _⟩) (fun r_2 u_2 H locs hw_2 hP hD hS => ?_)
  have er_2 := hw_2
  subst er_2
  have hP : va_P D vwCl (wX4 q4 cI cJ cB parts_4 wins_4 draws_4 points_4 (nI ml.length) changes_4) H := hP.sub (ws' := (wX4 q4 cI cJ cB parts_4 wins_4 draws_4 points_4 (nI ml.length) changes_4)) [0, 1, 2, 3, 4] rfl
  have hD : va_D A (wX4 q4 cI cJ cB parts_4 wins_4 draws_4 points_4 (nI ml.length) changes_4) := hD.sub (ws' := (wX4 q4 cI cJ cB parts_4 wins_4 draws_4 points_4 (nI ml.length) changes_4)) [0, 1, 2, 3, 4] (by decide) rfl
  refine lv_if_ne (tgt := 9) hx hb dX4_remove_5 (by decide) (fun c_5 => ?_) (fun c_5 => ?_)
  · skip
    have c_5 := k_b1 c_5
    refine lv_aload_n hx hb dX4_remove_9 rfl (lv_at hl 0 rfl) ?_
    refine lv_iload_n hx hb dX4_remove_10 rfl (lv_at hl 1 rfl) ?_
    refine lv_iconst (v := (-1)) hx hb dX4_remove_11 (by decide) ?_
    have hs_12 : kSplit (wX4 q4 cI cJ cB parts_4 wins_4 draws_4 points_4 (nI ml.length) changes_4) (wX4 q4 cI cJ cB parts_4 wins_4 draws_4 points_4 (nI ml.length) changes_4) ([] : va_W) [0, 1, 2, 3, 4] [] := ⟨rfl, rfl, rfl, rfl, rfl, by decide⟩
    refine kc_v hP hD hS hA hs_12 (kV (As := [.int (nI k), .int (-1)]) (rest := []) hx hb hml hown hts hKW hP hD hs_12 (c_X4_tally l D cI cJ cB q4 parts_4 wins_4 draws_4 points_4 (nI ml.length) changes_4 k (-1) ((mg ml k).1) ((mg ml k).2.1) ((mg ml k).2.2.1) ((mg ml k).2.2.2) (by first | assumption | omega) hmk.1 hmk.2.1 hmk.2.2.1 hmk.2.2.2 ha hb2 hab hp99 hq99) (cwV 2 hts gX4_remove_X4_tally rfl rfl rfl (by decide +kernel) ⟨Nat.le_of_ble_eq_true rfl, Nat.le_of_ble_eq_true rfl⟩) 0 4 rfl rfl rfl rfl hl.1 rfl (Nat.le_of_ble_eq_true rfl) dX4_remove_12 ⟨Nat.zero_le _, Nat.zero_le _⟩) (fun u_12 H locs hw_12 hP hD hS => ?_)
    obtain ⟨wins_4_12, draws_4_12, points_4_12⟩ := u_12
    have hP : va_P D vwCl (wX4 q4 cI cJ cB parts_4 wins_4_12 draws_4_12 points_4_12 (nI ml.length) (changes_4 + nI 1)) H := hP.sub (ws' := (wX4 q4 cI cJ cB parts_4 wins_4_12 draws_4_12 points_4_12 (nI ml.length) (changes_4 + nI 1))) [0, 1, 2, 3, 4] rfl
    have hD : va_D A (wX4 q4 cI cJ cB parts_4 wins_4_12 draws_4_12 points_4_12 (nI ml.length) (changes_4 + nI 1)) := hD.sub (ws' := (wX4 q4 cI cJ cB parts_4 wins_4_12 draws_4_12 points_4_12 (nI ml.length) (changes_4 + nI 1))) [0, 1, 2, 3, 4] (by decide) rfl
    refine lv_iload_n hx hb dX4_remove_15 rfl (lv_at hl 1 rfl) ?_
    refine lv_iconst (v := nI 4) hx hb dX4_remove_16 (by decide) ?_
    refine k_imul hx hb dX4_remove_17 ?_
    refine lv_istore_n (lv' := [(2, .int (nI (k * 4))), (0, .ref (q4 0)), (1, .int (nI k))]) hx hb dX4_remove_18 rfl hl (by decide) rfl (fun ls hl => ?_)
    refine lv_aload_n hx hb dX4_remove_19 rfl (lv_at hl 1 rfl) ?_
    refine k_get (ci := 4) (v := .ref (q4 1)) (C := RX4) (Tb := TX4) (N := 6) hx hb hts hu_4 hown hKW hP 0 rfl rfl 0 (by decide) hf_9 rfl rfl dX4_remove_20 ?_
    refine lv_iload_n hx hb dX4_remove_23 rfl (lv_at hl 0 rfl) ?_
    refine lv_iconst (v := nI 4) hx hb dX4_remove_24 (by decide) ?_
    refine k_iadd hx hb dX4_remove_25 ?_
    refine lv_aload_n hx hb dX4_remove_26 rfl (lv_at hl 1 rfl) ?_
    refine k_get (ci := 4) (v := .ref (q4 1)) (C := RX4) (Tb := TX4) (N := 6) hx hb hts hu_4 hown hKW hP 0 rfl rfl 0 (by decide) hf_9 rfl rfl dX4_remove_27 ?_
    refine lv_iload_n hx hb dX4_remove_30 rfl (lv_at hl 0 rfl) ?_
    refine lv_aload_n hx hb dX4_remove_31 rfl (lv_at hl 1 rfl) ?_
    refine k_get (ci := 4) (v := .int (nI ml.length)) (C := RX4) (Tb := TX4) (N := 6) hx hb hts hu_4 hown hKW hP 0 rfl rfl 4 (by decide) hf_24 rfl rfl dX4_remove_32 ?_
    refine lv_iload_n hx hb dX4_remove_35 rfl (lv_at hl 2 rfl) ?_
    refine k_isub hx hb (by omega) dX4_remove_36 ?_
    refine lv_iconst (v := nI 1) hx hb dX4_remove_37 (by decide) ?_
    refine k_isub hx hb (by omega) dX4_remove_38 ?_
    refine lv_iconst (v := nI 4) hx hb dX4_remove_39 (by decide) ?_
    refine k_imul hx hb dX4_remove_40 ?_
    refine k_copy (n := ((ml.length - k) - 1) * 4) (i := (k * 4) + 4) (j := k * 4) (N := 480) (w' := (wX4 q4 cI cJ cB (va_cpy parts_4 parts_4 ((k * 4) + 4) (k * 4) (((ml.length - k) - 1) * 4)) wins_4_12 draws_4_12 points_4_12 (nI ml.length) (changes_4 + nI 1))) hx hb (hml.trans hl.1.symm) hown (hts (.methodLink RX4 44 arraycopyName) (by decide +kernel)) (hts (.native arraycopyName) (by decide +kernel)) (hts (.static arraycopyName) (by decide +kernel)) (hts (.initialized "java/lang/System") (by decide +kernel)) hKW hP hD hS 1 0 rfl rfl (by omega) (by omega) (by omega) (Nat.le_of_ble_eq_true rfl) (Nat.le_of_ble_eq_true rfl) dX4_remove_41 rfl (fun H locs hP hD hS => ?_)
    refine lv_aload_n hx hb dX4_remove_44 rfl (lv_at hl 1 rfl) ?_
    refine lv_dup hx hb dX4_remove_45 rfl ?_
    refine k_get (ci := 4) (v := .int (nI ml.length)) (C := RX4) (Tb := TX4) (N := 6) hx hb hts hu_4 hown hKW hP 0 rfl rfl 4 (by decide) hf_24 rfl rfl dX4_remove_46 ?_
    refine lv_iconst (v := nI 1) hx hb dX4_remove_49 (by decide) ?_
    refine k_isub hx hb (by omega) dX4_remove_50 ?_
    refine k_put (ci := 4) (ty := .int) (v := .int (nI (ml.length - 1))) (C := RX4) (Tb := TX4) (N := 6) (w' := (wX4 q4 cI cJ cB (va_cpy parts_4 parts_4 ((k * 4) + 4) (k * 4) (((ml.length - k) - 1) * 4)) wins_4_12 draws_4_12 points_4_12 (nI (ml.length - 1)) (changes_4 + nI 1))) hx hb hts hu_4 tyX4 tyX4_ok nmX4 hown hKW hP hD hS 0 rfl rfl 4 (by decide) hf_24 rfl rfl (by decide +kernel) rfl rfl (Nat.le_of_ble_eq_true rfl) dX4_remove_51 rfl (fun H locs hP hD hS => ?_)
    subst hQ; subst hAe
    exact W.vret hx hb hr (fun t ht _ => ⟨⟨(va_cpy parts_4 parts_4 ((k * 4) + 4) (k * 4) (((ml.length - k) - 1) * 4), wins_4_12, draws_4_12, points_4_12), rfl, hM.del hk hw_12.1 hw_12.2.1 hw_12.2.2, by rw [ht]; exact hP, hD⟩, hS.F ht⟩) hS.2.2 dX4_remove_54
  · skip
    have c_5 := k_b0 c_5
    exact absurd ((kIn_nI (by omega)).mpr hk) c_5
