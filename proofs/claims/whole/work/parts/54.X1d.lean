def rmX1_clearWays (mc ms : Nat) : Room := { frames := 1, cells := mc, slots := ms, locals := 23 }
set_option maxHeartbeats 4000000 in
set_option maxRecDepth 100000 in
theorem c_X1_clearWays (l : Launch) (D : va_G) (cI cJ cB : ClassId) (q1 : Nat → Nat) (beaten_1 : Nat → Int32) (unused_1 : Nat → Int32) (ways_1 : Nat → Int32) (lw_1 : Nat) (mc : Nat) (ms : Nat) (hlw : CW lw_1 mc ms) : ∀ sz, Met l yX1_clearWays wsX1_clearWays (rmX1_clearWays mc ms) (va_Pc [.ref (q1 0)] (PW D (kT cI cJ cB) sz (wX1 q1 cI cJ cB beaten_1 unused_1 ways_1 lw_1))) (va_Qv (S := (Nat → Nat) × (Nat → Int32)) (fun uu => match uu with | (q1', ways_1') => q1' 0 = q1 0 ∧ ∀ i, i < 10240 → ways_1' i = nI 0) (QW D sz (wX1 q1 cI cJ cB beaten_1 unused_1 ways_1 lw_1) (fun uu => match uu with | (q1', ways_1') => (wX1 q1' cI cJ cB beaten_1 unused_1 ways_1' 10240))) (va_A (wX1 q1 cI cJ cB beaten_1 unused_1 ways_1 lw_1) sz)) mc ms (va_A (wX1 q1 cI cJ cB beaten_1 unused_1 ways_1 lw_1) sz) := by
  rcases hlw with ⟨rfl, rfl, rfl⟩ | ⟨rfl, rfl, rfl⟩
  · skip
    intro sz
    refine Met.ofW (cc := cX1_clearWays) (maxL := 1) (ret := none) (by decide) rfl ?_
    intro p e s m args below meth c s₁ B hml hv
    obtain ⟨hav, hsz, hP, hKW, hD0⟩ := hv
    have hx := B.exec
    have hb := B.bytes
    have hr := B.returns
    have hts := atoms_spec (ws := wsX1_clearWays) B.pre
    have hown : s.vm.findClass RX1 = some m.cls := findClass_of_methodNamed B.named
    have hlocks := B.notSynchronized
    subst hsz
    have hD := hD0.self (sz := s.heap.size)
    obtain ⟨A, hAe⟩ : ∃ A : Nat → Prop, A = va_A (wX1 q1 cI cJ cB beaten_1 unused_1 ways_1 0) s.heap.size := ⟨_, rfl⟩
    rw [← hAe] at hD
    have hA : ∀ q : Nat, s.heap.size ≤ q → A q := fun q h => by rw [hAe]; exact Or.inr h
    have hS : va_S A s.heap s.heap [] := va_S.rf
    refine k_gen (fun Q hQ => ?_)
    have hl := lv_entry ([.ref (q1 0)]) (n := 1) (Nat.le_of_ble_eq_true rfl)
    refine k_entry hav (lg_entry_eq ..) ?_
    generalize (lg_sl ([.ref (q1 0)]) ++ List.replicate (1 - (lg_sl ([.ref (q1 0)])).length) Slot.unset).toArray = ls at hl ⊢
    have hl : lv_has ls 1 [(0, .ref (q1 0))] := hl
    have hu_1 : ∀ w ∈ u_ws RX1 TX1 3, w ∈ wsX1_clearWays := by decide +kernel
    have hf_18 : Cond.fieldLink RX1 18 "MeetingRanks$Beating" "ways" "[I" ∈ wsX1_clearWays := by decide +kernel
    refine lv_aload_n hx hb dX1_clearWays_0 rfl (lv_at hl 0 rfl) ?_
    refine k_get (ci := 1) (C := RX1) (Tb := TX1) (N := 3) (v := .ref (q1 3)) hx hb hts hu_1 hown hKW hP 0 rfl rfl 2 (by decide) hf_18 rfl rfl dX1_clearWays_1 ?_
    refine va_alen (v := nI 0) hx hb hKW.1 hP 3 0 rfl rfl rfl dX1_clearWays_4 ?_
    refine lv_if_ne (tgt := 20) hx hb dX1_clearWays_5 (by decide) (fun c_5 => ?_) (fun c_5 => ?_)
    · exact absurd nI_0 c_5
    · refine lv_aload_n hx hb dX1_clearWays_8 rfl (lv_at hl 0 rfl) ?_
      refine lv_sipush (v := nI 10240) hx hb dX1_clearWays_9 (by decide) ?_
      refine k_newa (atype := .int) (ty := .int) (N := 10240) (a0 := (10240, .inl (fun _ => 0))) hx hb (hts (.arrayClass .int) (by decide +kernel)) rfl hKW 0 rfl (fun _ h9 => FieldType.noConfusion h9) hP hD hS hA (fun _ => rfl) (by decide) (by decide) (Nat.le_of_ble_eq_true rfl) (Nat.le_of_ble_eq_true rfl) dX1_clearWays_12 (fun q H hP hD hS => ?_)
      have hP : va_P D vwCl ((wX1 q1 cI cJ cB beaten_1 unused_1 ways_1 0) ++ [(q, .inl (cI, 10240, .inl (fun _ => 0)))]) H := hP
      have hD : va_D A ((wX1 q1 cI cJ cB beaten_1 unused_1 ways_1 0) ++ [(q, .inl (cI, 10240, .inl (fun _ => 0)))]) := hD
      refine W.widen (k := 1) (n := 10240) (by decide) (by decide) ?_
      refine k_put (ci := 1) (C := RX1) (Tb := TX1) (N := 3) (ty := .array .int) (v := .ref q) (w' := ([(q1 0, .inr (1, [.ref (q1 1), .ref (q1 2), .ref q])), (q1 1, .inl (cI, 10, .inl beaten_1)), (q1 2, .inl (cI, 100, .inl unused_1)), (q1 3, .inl (cI, 0, .inl ways_1)), (q, .inl (cI, 10240, .inl (fun _ => 0)))] : va_W)) hx hb hts hu_1 tyX1 tyX1_ok nmX1 hown hKW hP hD hS 0 rfl rfl 2 (by decide) hf_18 rfl rfl (by decide +kernel) rfl rfl (Nat.le_of_ble_eq_true rfl) dX1_clearWays_14 rfl (fun H locs hP hD hS => ?_)
      refine lv_goto (tgt := 28) hx hb dX1_clearWays_17 (by decide) ?_
      have hP : va_P D vwCl (wX1 (fun j => match j with | 0 => q1 0 | 1 => q1 1 | 2 => q1 2 | _ => q) cI cJ cB beaten_1 unused_1 (fun _ => 0) 10240) H := hP.sub (ws' := (wX1 (fun j => match j with | 0 => q1 0 | 1 => q1 1 | 2 => q1 2 | _ => q) cI cJ cB beaten_1 unused_1 (fun _ => 0) 10240)) [0, 1, 2, 4] rfl
      have hD : va_D A (wX1 (fun j => match j with | 0 => q1 0 | 1 => q1 1 | 2 => q1 2 | _ => q) cI cJ cB beaten_1 unused_1 (fun _ => 0) 10240) := hD.sub (ws' := (wX1 (fun j => match j with | 0 => q1 0 | 1 => q1 1 | 2 => q1 2 | _ => q) cI cJ cB beaten_1 unused_1 (fun _ => 0) 10240)) [0, 1, 2, 4] (by decide) rfl
      subst hQ; subst hAe
      exact W.vret hx hb hr (fun tt9 ht9 _ => ⟨⟨((fun j => match j with | 0 => q1 0 | 1 => q1 1 | 2 => q1 2 | _ => q), fun _ => 0), rfl, ⟨rfl, fun i hi => nI_0.symm⟩, by rw [ht9]; exact hP, hD⟩, hS.F ht9⟩) hS.2.2 dX1_clearWays_28
  · skip
    intro sz
    refine Met.ofW (cc := cX1_clearWays) (maxL := 1) (ret := none) (by decide) rfl ?_
    intro p e s m args below meth c s₁ B hml hv
    obtain ⟨hav, hsz, hP, hKW, hD0⟩ := hv
    have hx := B.exec
    have hb := B.bytes
    have hr := B.returns
    have hts := atoms_spec (ws := wsX1_clearWays) B.pre
    have hown : s.vm.findClass RX1 = some m.cls := findClass_of_methodNamed B.named
    have hlocks := B.notSynchronized
    subst hsz
    have hD := hD0.self (sz := s.heap.size)
    obtain ⟨A, hAe⟩ : ∃ A : Nat → Prop, A = va_A (wX1 q1 cI cJ cB beaten_1 unused_1 ways_1 10240) s.heap.size := ⟨_, rfl⟩
    rw [← hAe] at hD
    have hA : ∀ q : Nat, s.heap.size ≤ q → A q := fun q h => by rw [hAe]; exact Or.inr h
    have hS : va_S A s.heap s.heap [] := va_S.rf
    refine k_gen (fun Q hQ => ?_)
    have hl := lv_entry ([.ref (q1 0)]) (n := 1) (Nat.le_of_ble_eq_true rfl)
    refine k_entry hav (lg_entry_eq ..) ?_
    generalize (lg_sl ([.ref (q1 0)]) ++ List.replicate (1 - (lg_sl ([.ref (q1 0)])).length) Slot.unset).toArray = ls at hl ⊢
    have hl : lv_has ls 1 [(0, .ref (q1 0))] := hl
    have hu_1 : ∀ w ∈ u_ws RX1 TX1 3, w ∈ wsX1_clearWays := by decide +kernel
    have hf_18 : Cond.fieldLink RX1 18 "MeetingRanks$Beating" "ways" "[I" ∈ wsX1_clearWays := by decide +kernel
    refine lv_aload_n hx hb dX1_clearWays_0 rfl (lv_at hl 0 rfl) ?_
    refine k_get (ci := 1) (v := .ref (q1 3)) (C := RX1) (Tb := TX1) (N := 3) hx hb hts hu_1 hown hKW hP 0 rfl rfl 2 (by decide) hf_18 rfl rfl dX1_clearWays_1 ?_
    refine va_alen (v := nI 10240) hx hb hKW.1 hP 3 0 rfl rfl rfl dX1_clearWays_4 ?_
    refine lv_if_ne (tgt := 20) hx hb dX1_clearWays_5 (by decide) (fun c_5 => ?_) (fun c_5 => ?_)
    · skip
      have c_5 := k0_ne (by omega) c_5
      refine lv_aload_n hx hb dX1_clearWays_20 rfl (lv_at hl 0 rfl) ?_
      refine k_get (ci := 1) (v := .ref (q1 3)) (C := RX1) (Tb := TX1) (N := 3) hx hb hts hu_1 hown hKW hP 0 rfl rfl 2 (by decide) hf_18 rfl rfl dX1_clearWays_21 ?_
      refine lv_iconst (v := nI 0) hx hb dX1_clearWays_24 (by decide) ?_
      have hs_25 : kSplit (wX1 q1 cI cJ cB beaten_1 unused_1 ways_1 10240) (wX99 (fun _ => (q1 3)) cI cJ cB 10240 ways_1) ([(q1 0, .inr (1, [.ref (q1 1), .ref (q1 2), .ref (q1 3)])), (q1 1, .inl (cI, 10, .inl beaten_1)), (q1 2, .inl (cI, 100, .inl unused_1))] : va_W) [3] [0, 1, 2] := ⟨rfl, rfl, rfl, rfl, rfl, by decide⟩
      refine kc_v hP hD hS hA hs_25 (kS (As := [.ref (q1 3), .int (nI 0)]) (rest := []) hx hb hml hown hts hKW hP hD hs_25 (c_J7_fill_53178 l D cI cJ cB (fun _ => (q1 3)) ways_1 10240 (nI 0) (by first | assumption | omega)) (va_cwS 2 hts gX1_clearWays_J7_fill_53178 rfl rfl rfl (by decide +kernel) ⟨Nat.le_of_ble_eq_true rfl, Nat.le_of_ble_eq_true rfl⟩) rfl hl.1 rfl (Nat.le_of_ble_eq_true rfl) dX1_clearWays_25 ⟨Nat.zero_le _, Nat.zero_le _⟩) (fun u_25 H locs hw_25 hP hD hS => ?_)
      obtain ⟨row_99_25, rfl⟩ : ∃ z, z = u_25 := ⟨_, rfl⟩
      have e_row_99_25 := hw_25
      have e_row_99_25 := e_row_99_25.symm
      subst e_row_99_25
      have hP : va_P D vwCl (wX1 q1 cI cJ cB beaten_1 unused_1 (flF ways_1 (nI 0) 10240) 10240) H := hP.sub (ws' := (wX1 q1 cI cJ cB beaten_1 unused_1 (flF ways_1 (nI 0) 10240) 10240)) [0, 1, 2, 3] rfl
      have hD : va_D A (wX1 q1 cI cJ cB beaten_1 unused_1 (flF ways_1 (nI 0) 10240) 10240) := hD.sub (ws' := (wX1 q1 cI cJ cB beaten_1 unused_1 (flF ways_1 (nI 0) 10240) 10240)) [0, 1, 2, 3] (by decide) rfl
      subst hQ; subst hAe
      exact W.vret hx hb hr (fun tt9 ht9 _ => ⟨⟨(q1, flF ways_1 (nI 0) 10240), rfl, ⟨rfl, fun i hi => if_pos hi⟩, by rw [ht9]; exact hP, hD⟩, hS.F ht9⟩) hS.2.2 dX1_clearWays_28
    · skip
      have c_5 := k0_ne_n (by omega) c_5
      omega
def rmX1_countWalks (mc ms : Nat) : Room := { frames := 2, cells := mc, slots := ms, locals := 47 }
set_option maxHeartbeats 4000000 in
set_option maxRecDepth 100000 in
theorem c_X1_countWalks (l : Launch) (D : va_G) (cI cJ cB : ClassId) (q1 : Nat → Nat) (q4 : Nat → Nat) (beaten_1 : Nat → Int32) (unused_1 : Nat → Int32) (ways_1 : Nat → Int32) (lw_1 : Nat) (parts_4 : Nat → Int32) (wins_4 : Nat → Int32) (draws_4 : Nat → Int32) (points_4 : Nat → Int32) (count_4 : Int32) (changes_4 : Int32) (ml : List Mt) (n : Nat) (mc : Nat) (ms : Nat) (hM : MR parts_4 wins_4 draws_4 points_4 ml) (hm120 : ml.length ≤ 120) (hn1 : 1 ≤ n) (hn10 : n ≤ 10) (hlw : CW lw_1 mc ms) : ∀ sz, Met l yX1_countWalks wsX1_countWalks (rmX1_countWalks mc ms) (va_Pc [.ref (q1 0), .ref (q4 0), .int (nI n)] (PW D (kT cI cJ cB) sz (wX1 q1 cI cJ cB beaten_1 unused_1 ways_1 lw_1 ++ wX4 q4 cI cJ cB parts_4 wins_4 draws_4 points_4 count_4 changes_4))) (va_Qi (S := (Nat → Nat) × (Nat → Int32) × (Nat → Int32)) (fun r uu => match uu with | (q1', beaten_1', ways_1') => q1' 0 = q1 0 ∧ ∃ W0, (∀ i, i < 10240 → W0 i = nI 0) ∧ r = sI (fun la => wcS (fun a => btF ml n a) n (wcI W0 n) (2 ^ n - 2) ((2 ^ n - 1) * 10 + la)) n) (QW D sz (wX1 q1 cI cJ cB beaten_1 unused_1 ways_1 lw_1 ++ wX4 q4 cI cJ cB parts_4 wins_4 draws_4 points_4 count_4 changes_4) (fun uu => match uu with | (q1', beaten_1', ways_1') => (wX1 q1' cI cJ cB beaten_1' unused_1 ways_1' 10240 ++ wX4 q4 cI cJ cB parts_4 wins_4 draws_4 points_4 count_4 changes_4))) (va_A (wX1 q1 cI cJ cB beaten_1 unused_1 ways_1 lw_1 ++ wX4 q4 cI cJ cB parts_4 wins_4 draws_4 points_4 count_4 changes_4) sz)) mc ms (va_A (wX1 q1 cI cJ cB beaten_1 unused_1 ways_1 lw_1 ++ wX4 q4 cI cJ cB parts_4 wins_4 draws_4 points_4 count_4 changes_4) sz) := by
  intro sz
  refine Met.ofW (cc := cX1_countWalks) (maxL := 5) (ret := (some .int)) (by decide) rfl ?_
  intro p e s m args below meth c s₁ B hml hv
  obtain ⟨hav, hsz, hP, hKW, hD0⟩ := hv
  have hx := B.exec
  have hb := B.bytes
  have hr := B.returns
  have hts := atoms_spec (ws := wsX1_countWalks) B.pre
  have hown : s.vm.findClass RX1 = some m.cls := findClass_of_methodNamed B.named
  have hlocks := B.notSynchronized
  subst hsz
  have hD := hD0.self (sz := s.heap.size)
  obtain ⟨A, hAe⟩ : ∃ A : Nat → Prop, A = va_A (wX1 q1 cI cJ cB beaten_1 unused_1 ways_1 lw_1 ++ wX4 q4 cI cJ cB parts_4 wins_4 draws_4 points_4 count_4 changes_4) s.heap.size := ⟨_, rfl⟩
  rw [← hAe] at hD
  have hA : ∀ q : Nat, s.heap.size ≤ q → A q := fun q h => by rw [hAe]; exact Or.inr h
  have hS : va_S A s.heap s.heap [] := va_S.rf
  refine k_gen (fun Q hQ => ?_)
  have hl := lv_entry ([.ref (q1 0), .ref (q4 0), .int (nI n)]) (n := 5) (Nat.le_of_ble_eq_true rfl)
  refine k_entry hav (lg_entry_eq ..) ?_
  generalize (lg_sl ([.ref (q1 0), .ref (q4 0), .int (nI n)]) ++ List.replicate (5 - (lg_sl ([.ref (q1 0), .ref (q4 0), .int (nI n)])).length) Slot.unset).toArray = ls at hl ⊢
  have hl : lv_has ls 5 [(0, .ref (q1 0)), (1, .ref (q4 0)), (2, .int (nI n))] := hl
  have hu_1 : ∀ w ∈ u_ws RX1 TX1 3, w ∈ wsX1_countWalks := by decide +kernel
  have hf_18 : Cond.fieldLink RX1 18 "MeetingRanks$Beating" "ways" "[I" ∈ wsX1_countWalks := by decide +kernel
  have h2n := pow_le_1024 hn10
  have h2p := Nat.two_pow_pos n
  have h2q := Nat.pow_le_pow_right (show 0 < 2 by decide) hn1
  refine lv_aload_n hx hb dX1_countWalks_0 rfl (lv_at hl 0 rfl) ?_
  refine lv_aload_n hx hb dX1_countWalks_1 rfl (lv_at hl 1 rfl) ?_
  refine lv_iload_n hx hb dX1_countWalks_2 rfl (lv_at hl 2 rfl) ?_
  have hs_3 : kSplit (wX1 q1 cI cJ cB beaten_1 unused_1 ways_1 lw_1 ++ wX4 q4 cI cJ cB parts_4 wins_4 draws_4 points_4 count_4 changes_4) (wX1 q1 cI cJ cB beaten_1 unused_1 ways_1 lw_1 ++ wX4 q4 cI cJ cB parts_4 wins_4 draws_4 points_4 count_4 changes_4) ([] : va_W) [0, 1, 2, 3, 4, 5, 6, 7, 8] [] := ⟨rfl, rfl, rfl, rfl, rfl, by decide⟩
  refine kc_v hP hD hS hA hs_3 (kV (As := [.ref (q4 0), .int (nI n)]) (rest := []) hx hb hml hown hts hKW hP hD hs_3 (c_X1_fillBeaten l D cI cJ cB q1 q4 beaten_1 unused_1 ways_1 lw_1 parts_4 wins_4 draws_4 points_4 count_4 changes_4 ml n (by first | assumption | omega) (by first | assumption | omega) (by first | assumption | omega)) (cwV 2 hts gX1_countWalks_X1_fillBeaten rfl rfl rfl (by decide +kernel) ⟨Nat.le_of_ble_eq_true rfl, Nat.le_of_ble_eq_true rfl⟩) 0 1 rfl rfl rfl rfl hl.1 rfl (Nat.le_of_ble_eq_true rfl) dX1_countWalks_3 ⟨Nat.zero_le _, Nat.zero_le _⟩) (fun u_3 H locs hw_3 hP hD hS => ?_)
  obtain ⟨beaten_1_3, rfl⟩ : ∃ z, z = u_3 := ⟨_, rfl⟩
  have hP : va_P D vwCl (wX1 q1 cI cJ cB beaten_1_3 unused_1 ways_1 lw_1 ++ wX4 q4 cI cJ cB parts_4 wins_4 draws_4 points_4 count_4 changes_4) H := hP.sub (ws' := (wX1 q1 cI cJ cB beaten_1_3 unused_1 ways_1 lw_1 ++ wX4 q4 cI cJ cB parts_4 wins_4 draws_4 points_4 count_4 changes_4)) [0, 1, 2, 3, 4, 5, 6, 7, 8] rfl
  have hD : va_D A (wX1 q1 cI cJ cB beaten_1_3 unused_1 ways_1 lw_1 ++ wX4 q4 cI cJ cB parts_4 wins_4 draws_4 points_4 count_4 changes_4) := hD.sub (ws' := (wX1 q1 cI cJ cB beaten_1_3 unused_1 ways_1 lw_1 ++ wX4 q4 cI cJ cB parts_4 wins_4 draws_4 points_4 count_4 changes_4)) [0, 1, 2, 3, 4, 5, 6, 7, 8] (by decide) rfl
  refine lv_aload_n hx hb dX1_countWalks_6 rfl (lv_at hl 0 rfl) ?_
  have hs_7 : kSplit (wX1 q1 cI cJ cB beaten_1_3 unused_1 ways_1 lw_1 ++ wX4 q4 cI cJ cB parts_4 wins_4 draws_4 points_4 count_4 changes_4) (wX1 q1 cI cJ cB beaten_1_3 unused_1 ways_1 lw_1) (wX4 q4 cI cJ cB parts_4 wins_4 draws_4 points_4 count_4 changes_4) [0, 1, 2, 3] [4, 5, 6, 7, 8] := ⟨rfl, rfl, rfl, rfl, rfl, by decide⟩
  refine kc_n hP hD hS hA hs_7 (kVc (As := []) (rest := []) hx hb hml hown hts hKW hP hD hs_7 (c_X1_clearWays l D cI cJ cB q1 beaten_1_3 unused_1 ways_1 lw_1 mc ms hlw) (cwV 0 hts gX1_countWalks_X1_clearWays rfl rfl rfl (by decide +kernel) ⟨Nat.le_of_ble_eq_true rfl, Nat.le_of_ble_eq_true rfl⟩) 0 1 rfl rfl rfl rfl hl.1 rfl (Nat.le_of_ble_eq_true rfl) dX1_countWalks_7 ⟨Nat.le_of_eq (Nat.zero_add _), Nat.le_of_eq (Nat.zero_add _)⟩) (fun u_7 H locs hw_7 hP hD hS => ?_)
  refine W.widen (k := mc) (n := ms) (Nat.le_of_eq (Nat.zero_add _)) (Nat.le_of_eq (Nat.zero_add _)) ?_
  obtain ⟨q1_7, ways_1_7⟩ := u_7
  have hP : va_P D vwCl (wX1 q1_7 cI cJ cB beaten_1_3 unused_1 ways_1_7 10240 ++ wX4 q4 cI cJ cB parts_4 wins_4 draws_4 points_4 count_4 changes_4) H := hP.sub (ws' := (wX1 q1_7 cI cJ cB beaten_1_3 unused_1 ways_1_7 10240 ++ wX4 q4 cI cJ cB parts_4 wins_4 draws_4 points_4 count_4 changes_4)) [5, 6, 7, 8, 0, 1, 2, 3, 4] rfl
  have hD : va_D A (wX1 q1_7 cI cJ cB beaten_1_3 unused_1 ways_1_7 10240 ++ wX4 q4 cI cJ cB parts_4 wins_4 draws_4 points_4 count_4 changes_4) := hD.sub (ws' := (wX1 q1_7 cI cJ cB beaten_1_3 unused_1 ways_1_7 10240 ++ wX4 q4 cI cJ cB parts_4 wins_4 draws_4 points_4 count_4 changes_4)) [5, 6, 7, 8, 0, 1, 2, 3, 4] (by decide) rfl
  have hl : lv_has ls 5 [(0, .ref (q1_7 0)), (1, .ref (q4 0)), (2, .int (nI n))] := by rw [hw_7.1]; exact hl
  refine lv_iconst (v := nI 0) hx hb dX1_countWalks_10 (by decide) ?_
  refine lv_istore_n (lv' := [(3, .int (nI 0)), (0, .ref (q1_7 0)), (1, .ref (q4 0)), (2, .int (nI n))]) hx hb dX1_countWalks_11 rfl hl (by decide) rfl (fun ls hl => ?_)
  have hL_12 : ∀ (fu : Nat) (p1 : Nat) (hp1 : p1 ≤ n), n - p1 < fu → ∀ (H : Heap) (locs : List Loc), va_P D vwCl (wX1 q1_7 cI cJ cB beaten_1_3 unused_1 (wcI ways_1_7 p1) 10240 ++ wX4 q4 cI cJ cB parts_4 wins_4 draws_4 points_4 count_4 changes_4) H → va_D A (wX1 q1_7 cI cJ cB beaten_1_3 unused_1 (wcI ways_1_7 p1) 10240 ++ wX4 q4 cI cJ cB parts_4 wins_4 draws_4 points_4 count_4 changes_4) → va_S A s.heap H locs → ∀ (ls : Array Slot), lv_has ls 5 [(0, .ref (q1_7 0)), (1, .ref (q4 0)), (2, .int (nI n)), (3, .int (nI p1))] → W p l e (headSpec wsX1_countWalks (rmX1_countWalks mc ms)).room s m args below meth c H locs mc ms Q (F0 m 12 ls []) := by
    intro fu
    induction fu with
    | zero => intro p1 hp1 hfu; exact absurd hfu (Nat.not_lt_zero _)
    | succ fu ih_12 =>
      intro p1 hp1 hfu H locs hP hD hS ls hl
      refine lv_iload_n hx hb dX1_countWalks_12 rfl (lv_at hl 3 rfl) ?_
      refine lv_iload_n hx hb dX1_countWalks_13 rfl (lv_at hl 2 rfl) ?_
      refine lv_icmp_ge (tgt := 37) hx hb dX1_countWalks_14 (by decide) (fun c_14 => ?_) (fun c_14 => ?_)
      · skip
        have c_14 := k_ge (by omega) (by omega) c_14
        obtain rfl : n = p1 := by omega
        refine lv_iconst (v := nI 1) hx hb dX1_countWalks_37 (by decide) ?_
        refine lv_istore_n (lv' := [(3, .int (nI 1)), (0, .ref (q1_7 0)), (1, .ref (q4 0)), (2, .int (nI n))]) hx hb dX1_countWalks_38 rfl hl (by decide) rfl (fun ls hl => ?_)
        have hL_39 : ∀ (fu : Nat) (S : Nat) (hS1 : 1 ≤ S) (hS2 : S ≤ 2 ^ n - 1), 2 ^ n - S < fu → ∀ (H : Heap) (locs : List Loc), va_P D vwCl (wX1 q1_7 cI cJ cB beaten_1_3 unused_1 (wcS (fun a => btF ml n a) n (wcI ways_1_7 n) (S - 1)) 10240 ++ wX4 q4 cI cJ cB parts_4 wins_4 draws_4 points_4 count_4 changes_4) H → va_D A (wX1 q1_7 cI cJ cB beaten_1_3 unused_1 (wcS (fun a => btF ml n a) n (wcI ways_1_7 n) (S - 1)) 10240 ++ wX4 q4 cI cJ cB parts_4 wins_4 draws_4 points_4 count_4 changes_4) → va_S A s.heap H locs → ∀ (ls : Array Slot), lv_has ls 5 [(0, .ref (q1_7 0)), (1, .ref (q4 0)), (2, .int (nI n)), (3, .int (nI S))] → W p l e (headSpec wsX1_countWalks (rmX1_countWalks mc ms)).room s m args below meth c H locs mc ms Q (F0 m 39 ls []) := by
          intro fu
          induction fu with
          | zero => intro S hS1 hS2 hfu; exact absurd hfu (Nat.not_lt_zero _)
          | succ fu ih_39 =>
            intro S hS1 hS2 hfu H locs hP hD hS ls hl
            refine lv_iload_n hx hb dX1_countWalks_39 rfl (lv_at hl 3 rfl) ?_
            refine lv_iload_n hx hb dX1_countWalks_40 rfl (lv_at hl 2 rfl) ?_
            have hs_41 : kSplit (wX1 q1_7 cI cJ cB beaten_1_3 unused_1 (wcS (fun a => btF ml n a) n (wcI ways_1_7 n) (S - 1)) 10240 ++ wX4 q4 cI cJ cB parts_4 wins_4 draws_4 points_4 count_4 changes_4) ([] : va_W) (wX1 q1_7 cI cJ cB beaten_1_3 unused_1 (wcS (fun a => btF ml n a) n (wcI ways_1_7 n) (S - 1)) 10240 ++ wX4 q4 cI cJ cB parts_4 wins_4 draws_4 points_4 count_4 changes_4) [] [0, 1, 2, 3, 4, 5, 6, 7, 8] := ⟨rfl, rfl, rfl, rfl, rfl, by decide⟩
            refine kc_i hP hD hS hA hs_41 (kSN (n := 1) (As := [.int (nI n)]) (rest := [.int (nI S)]) (host := "MeetingRanks") hx hb hml hown hts hKW hP hD hs_41 (c_X9_everyone l D cI cJ cB n (by first | assumption | omega)) gX1_countWalks_X9_everyone_n35 rfl rfl rfl (by decide +kernel) (by decide +kernel) (by decide +kernel) (by decide +kernel) ⟨Nat.le_of_ble_eq_true rfl, Nat.le_of_ble_eq_true rfl⟩ rfl hl.1 rfl (Nat.le_of_ble_eq_true rfl) dX1_countWalks_41 ⟨Nat.le_refl _, Nat.le_refl _⟩) (fun r_41 u_41 H locs hw_41 hP hD hS => ?_)
            have er_41 := hw_41
            have er_41 := er_41.symm
            subst er_41
            have hP : va_P D vwCl (wX1 q1_7 cI cJ cB beaten_1_3 unused_1 (wcS (fun a => btF ml n a) n (wcI ways_1_7 n) (S - 1)) 10240 ++ wX4 q4 cI cJ cB parts_4 wins_4 draws_4 points_4 count_4 changes_4) H := hP.sub (ws' := (wX1 q1_7 cI cJ cB beaten_1_3 unused_1 (wcS (fun a => btF ml n a) n (wcI ways_1_7 n) (S - 1)) 10240 ++ wX4 q4 cI cJ cB parts_4 wins_4 draws_4 points_4 count_4 changes_4)) [0, 1, 2, 3, 4, 5, 6, 7, 8] rfl
            have hD : va_D A (wX1 q1_7 cI cJ cB beaten_1_3 unused_1 (wcS (fun a => btF ml n a) n (wcI ways_1_7 n) (S - 1)) 10240 ++ wX4 q4 cI cJ cB parts_4 wins_4 draws_4 points_4 count_4 changes_4) := hD.sub (ws' := (wX1 q1_7 cI cJ cB beaten_1_3 unused_1 (wcS (fun a => btF ml n a) n (wcI ways_1_7 n) (S - 1)) 10240 ++ wX4 q4 cI cJ cB parts_4 wins_4 draws_4 points_4 count_4 changes_4)) [0, 1, 2, 3, 4, 5, 6, 7, 8] (by decide) rfl
            refine lv_icmp_ge (tgt := 76) hx hb dX1_countWalks_44 (by decide) (fun c_44 => ?_) (fun c_44 => ?_)
            · skip
              have c_44 := k_ge (by omega) (by omega) c_44
              obtain rfl : S = 2 ^ n - 1 := by omega
              rw [show 2 ^ n - 1 - 1 = 2 ^ n - 2 by omega] at hP hD
              refine lv_iconst (v := nI 0) hx hb dX1_countWalks_76 (by decide) ?_
              refine lv_istore_n (lv' := [(3, .int (nI 0)), (0, .ref (q1_7 0)), (1, .ref (q4 0)), (2, .int (nI n))]) hx hb dX1_countWalks_77 rfl hl (by decide) rfl (fun ls hl => ?_)
              refine lv_iconst (v := nI 0) hx hb dX1_countWalks_78 (by decide) ?_
              refine lv_istore (lv' := [(4, .int (nI 0)), (3, .int (nI 0)), (0, .ref (q1_7 0)), (1, .ref (q4 0)), (2, .int (nI n))]) hx hb dX1_countWalks_79 hl (by decide) rfl (fun ls hl => ?_)
              have hL_81 : ∀ (fu : Nat) (la : Nat) (v : Int32) (hla : la ≤ n) (hv : v = sI (fun la => wcS (fun a => btF ml n a) n (wcI ways_1_7 n) (2 ^ n - 2) ((2 ^ n - 1) * 10 + la)) la), n - la < fu → ∀ (H : Heap) (locs : List Loc), va_P D vwCl (wX1 q1_7 cI cJ cB beaten_1_3 unused_1 (wcS (fun a => btF ml n a) n (wcI ways_1_7 n) ((2 ^ n - 1) - 1)) 10240 ++ wX4 q4 cI cJ cB parts_4 wins_4 draws_4 points_4 count_4 changes_4) H → va_D A (wX1 q1_7 cI cJ cB beaten_1_3 unused_1 (wcS (fun a => btF ml n a) n (wcI ways_1_7 n) ((2 ^ n - 1) - 1)) 10240 ++ wX4 q4 cI cJ cB parts_4 wins_4 draws_4 points_4 count_4 changes_4) → va_S A s.heap H locs → ∀ (ls : Array Slot), lv_has ls 5 [(0, .ref (q1_7 0)), (1, .ref (q4 0)), (2, .int (nI n)), (3, .int v), (4, .int (nI la))] → W p l e (headSpec wsX1_countWalks (rmX1_countWalks mc ms)).room s m args below meth c H locs mc ms Q (F0 m 81 ls []) := by
                intro fu
                induction fu with
                | zero => intro la v hla hv hfu; exact absurd hfu (Nat.not_lt_zero _)
                | succ fu ih_81 =>
                  intro la v hla hv hfu H locs hP hD hS ls hl
                  refine lv_iload hx hb dX1_countWalks_81 (lv_at hl 4 rfl) ?_
                  refine lv_iload_n hx hb dX1_countWalks_83 rfl (lv_at hl 2 rfl) ?_
                  refine lv_icmp_ge (tgt := 111) hx hb dX1_countWalks_84 (by decide) (fun c_84 => ?_) (fun c_84 => ?_)
                  · skip
                    have c_84 := k_ge (by omega) (by omega) c_84
                    obtain rfl : n = la := by omega
                    refine lv_iload_n hx hb dX1_countWalks_111 rfl (lv_at hl 3 rfl) ?_
                    subst hQ; subst hAe
                    exact W.iret (v := v) hx hb hr (fun tt9 ht9 _ => ⟨⟨v, (q1_7, beaten_1_3, wcS (fun a => btF ml n a) n (wcI ways_1_7 n) ((2 ^ n - 1) - 1)), rfl, ⟨hw_7.1, ways_1_7, hw_7.2, hv⟩, by rw [ht9]; exact hP, hD⟩, hS.F ht9⟩) hS.2.2 dX1_countWalks_112
                  · skip
                    have c_84 := k_ge_n (by omega) (by omega) c_84
                    refine lv_iload_n hx hb dX1_countWalks_87 rfl (lv_at hl 3 rfl) ?_
                    refine lv_aload_n hx hb dX1_countWalks_88 rfl (lv_at hl 0 rfl) ?_
                    refine k_get (ci := 1) (v := .ref (q1_7 3)) (C := RX1) (Tb := TX1) (N := 3) hx hb hts hu_1 hown hKW hP 0 rfl rfl 2 (by decide) hf_18 rfl rfl dX1_countWalks_89 ?_
                    refine lv_iload_n hx hb dX1_countWalks_92 rfl (lv_at hl 2 rfl) ?_
                    have hs_93 : kSplit (wX1 q1_7 cI cJ cB beaten_1_3 unused_1 (wcS (fun a => btF ml n a) n (wcI ways_1_7 n) ((2 ^ n - 1) - 1)) 10240 ++ wX4 q4 cI cJ cB parts_4 wins_4 draws_4 points_4 count_4 changes_4) ([] : va_W) (wX1 q1_7 cI cJ cB beaten_1_3 unused_1 (wcS (fun a => btF ml n a) n (wcI ways_1_7 n) ((2 ^ n - 1) - 1)) 10240 ++ wX4 q4 cI cJ cB parts_4 wins_4 draws_4 points_4 count_4 changes_4) [] [0, 1, 2, 3, 4, 5, 6, 7, 8] := ⟨rfl, rfl, rfl, rfl, rfl, by decide⟩
                    refine kc_i hP hD hS hA hs_93 (kSN (n := 1) (As := [.int (nI n)]) (rest := [.ref (q1_7 3), .int v]) (host := "MeetingRanks") hx hb hml hown hts hKW hP hD hs_93 (c_X9_everyone l D cI cJ cB n (by first | assumption | omega)) gX1_countWalks_X9_everyone_n35 rfl rfl rfl (by decide +kernel) (by decide +kernel) (by decide +kernel) (by decide +kernel) ⟨Nat.le_of_ble_eq_true rfl, Nat.le_of_ble_eq_true rfl⟩ rfl hl.1 rfl (Nat.le_of_ble_eq_true rfl) dX1_countWalks_93 ⟨Nat.le_refl _, Nat.le_refl _⟩) (fun r_93 u_93 H locs hw_93 hP hD hS => ?_)
                    have er_93 := hw_93
                    have er_93 := er_93.symm
                    subst er_93
                    have hP : va_P D vwCl (wX1 q1_7 cI cJ cB beaten_1_3 unused_1 (wcS (fun a => btF ml n a) n (wcI ways_1_7 n) ((2 ^ n - 1) - 1)) 10240 ++ wX4 q4 cI cJ cB parts_4 wins_4 draws_4 points_4 count_4 changes_4) H := hP.sub (ws' := (wX1 q1_7 cI cJ cB beaten_1_3 unused_1 (wcS (fun a => btF ml n a) n (wcI ways_1_7 n) ((2 ^ n - 1) - 1)) 10240 ++ wX4 q4 cI cJ cB parts_4 wins_4 draws_4 points_4 count_4 changes_4)) [0, 1, 2, 3, 4, 5, 6, 7, 8] rfl
                    have hD : va_D A (wX1 q1_7 cI cJ cB beaten_1_3 unused_1 (wcS (fun a => btF ml n a) n (wcI ways_1_7 n) ((2 ^ n - 1) - 1)) 10240 ++ wX4 q4 cI cJ cB parts_4 wins_4 draws_4 points_4 count_4 changes_4) := hD.sub (ws' := (wX1 q1_7 cI cJ cB beaten_1_3 unused_1 (wcS (fun a => btF ml n a) n (wcI ways_1_7 n) ((2 ^ n - 1) - 1)) 10240 ++ wX4 q4 cI cJ cB parts_4 wins_4 draws_4 points_4 count_4 changes_4)) [0, 1, 2, 3, 4, 5, 6, 7, 8] (by decide) rfl
                    refine lv_bipush (v := nI 10) hx hb dX1_countWalks_96 (by decide) ?_
                    refine k_imul hx hb dX1_countWalks_98 ?_
                    refine lv_iload hx hb dX1_countWalks_99 (lv_at hl 4 rfl) ?_
                    refine k_iadd hx hb dX1_countWalks_101 ?_
                    refine k_iald (n := 10240) (i := ((2 ^ n - 1) * 10) + la) hx hb hKW hP 3 0 rfl rfl (by omega) (by omega) dX1_countWalks_102 ?_
                    refine lv_iadd hx hb dX1_countWalks_103 ?_
                    refine lv_istore_n (lv' := [(3, .int (v + ((wcS (fun a => btF ml n a) n (wcI ways_1_7 n) ((2 ^ n - 1) - 1)) (((2 ^ n - 1) * 10) + la)))), (0, .ref (q1_7 0)), (1, .ref (q4 0)), (2, .int (nI n)), (4, .int (nI la))]) hx hb dX1_countWalks_104 rfl hl (by decide) rfl (fun ls hl => ?_)
                    refine lv_iinc (v := nI (la + 1)) (lv' := [(4, .int (nI (la + 1))), (3, .int (v + ((wcS (fun a => btF ml n a) n (wcI ways_1_7 n) ((2 ^ n - 1) - 1)) (((2 ^ n - 1) * 10) + la)))), (0, .ref (q1_7 0)), (1, .ref (q4 0)), (2, .int (nI n))]) hx hb dX1_countWalks_105 hl (k := 4) rfl (nI_add _ _) (by decide) rfl (fun ls hl => ?_)
                    refine lv_goto (tgt := 81) hx hb dX1_countWalks_108 (by decide) ?_
                    exact ih_81 _ _ (by omega) (by rw [hv]; rfl) (by omega) _ _ hP hD hS ls (lv_sub hl [2, 3, 4, 1, 0] rfl)
              exact hL_81 _ 0 _ (Nat.zero_le _) rfl (Nat.lt_succ_self _) _ _ hP hD hS ls (lv_sub hl [2, 3, 4, 1, 0] rfl)
            · skip
              have c_44 := k_ge_n (by omega) (by omega) c_44
              refine lv_iconst (v := nI 0) hx hb dX1_countWalks_47 (by decide) ?_
              refine lv_istore (lv' := [(4, .int (nI 0)), (0, .ref (q1_7 0)), (1, .ref (q4 0)), (2, .int (nI n)), (3, .int (nI S))]) hx hb dX1_countWalks_48 hl (by decide) rfl (fun ls hl => ?_)
              have hL_50 : ∀ (fu : Nat) (la : Nat) (hla : la ≤ n), n - la < fu → ∀ (H : Heap) (locs : List Loc), va_P D vwCl (wX1 q1_7 cI cJ cB beaten_1_3 unused_1 (wcL (fun a => btF ml n a) n S (wcS (fun a => btF ml n a) n (wcI ways_1_7 n) (S - 1)) la) 10240 ++ wX4 q4 cI cJ cB parts_4 wins_4 draws_4 points_4 count_4 changes_4) H → va_D A (wX1 q1_7 cI cJ cB beaten_1_3 unused_1 (wcL (fun a => btF ml n a) n S (wcS (fun a => btF ml n a) n (wcI ways_1_7 n) (S - 1)) la) 10240 ++ wX4 q4 cI cJ cB parts_4 wins_4 draws_4 points_4 count_4 changes_4) → va_S A s.heap H locs → ∀ (ls : Array Slot), lv_has ls 5 [(0, .ref (q1_7 0)), (1, .ref (q4 0)), (2, .int (nI n)), (3, .int (nI S)), (4, .int (nI la))] → W p l e (headSpec wsX1_countWalks (rmX1_countWalks mc ms)).room s m args below meth c H locs mc ms Q (F0 m 50 ls []) := by
                intro fu
                induction fu with
                | zero => intro la hla hfu; exact absurd hfu (Nat.not_lt_zero _)
                | succ fu ih_50 =>
                  intro la hla hfu H locs hP hD hS ls hl
                  refine lv_iload hx hb dX1_countWalks_50 (lv_at hl 4 rfl) ?_
                  refine lv_iload_n hx hb dX1_countWalks_52 rfl (lv_at hl 2 rfl) ?_
                  refine lv_icmp_ge (tgt := 70) hx hb dX1_countWalks_53 (by decide) (fun c_53 => ?_) (fun c_53 => ?_)
                  · skip
                    have c_53 := k_ge (by omega) (by omega) c_53
                    obtain rfl : n = la := by omega
                    refine lv_iinc (v := nI (S + 1)) (lv' := [(3, .int (nI (S + 1))), (0, .ref (q1_7 0)), (1, .ref (q4 0)), (2, .int (nI n)), (4, .int (nI n))]) hx hb dX1_countWalks_70 hl (k := 3) rfl (nI_add _ _) (by decide) rfl (fun ls hl => ?_)
                    refine lv_goto (tgt := 39) hx hb dX1_countWalks_73 (by decide) ?_
                    exact ih_39 (S + 1) (by omega) (by omega) (by omega) _ _ (by rw [show S + 1 - 1 = (S - 1) + 1 by omega]; show va_P D vwCl (wX1 _ _ _ _ _ _ (wcL _ n (S - 1 + 1) _ n) _ ++ _) _; rw [show S - 1 + 1 = S by omega]; exact hP) (by rw [show S + 1 - 1 = (S - 1) + 1 by omega]; show va_D A (wX1 _ _ _ _ _ _ (wcL _ n (S - 1 + 1) _ n) _ ++ _); rw [show S - 1 + 1 = S by omega]; exact hD) hS ls (lv_sub hl [1, 2, 3, 0] rfl)
                  · skip
                    have c_53 := k_ge_n (by omega) (by omega) c_53
                    refine lv_aload_n hx hb dX1_countWalks_56 rfl (lv_at hl 0 rfl) ?_
                    refine lv_iload_n hx hb dX1_countWalks_57 rfl (lv_at hl 2 rfl) ?_
                    refine lv_iload_n hx hb dX1_countWalks_58 rfl (lv_at hl 3 rfl) ?_
                    refine lv_iload hx hb dX1_countWalks_59 (lv_at hl 4 rfl) ?_
                    have hs_61 : kSplit (wX1 q1_7 cI cJ cB beaten_1_3 unused_1 (wcL (fun a => btF ml n a) n S (wcS (fun a => btF ml n a) n (wcI ways_1_7 n) (S - 1)) la) 10240 ++ wX4 q4 cI cJ cB parts_4 wins_4 draws_4 points_4 count_4 changes_4) (wX1 q1_7 cI cJ cB beaten_1_3 unused_1 (wcL (fun a => btF ml n a) n S (wcS (fun a => btF ml n a) n (wcI ways_1_7 n) (S - 1)) la) 10240) (wX4 q4 cI cJ cB parts_4 wins_4 draws_4 points_4 count_4 changes_4) [0, 1, 2, 3] [4, 5, 6, 7, 8] := ⟨rfl, rfl, rfl, rfl, rfl, by decide⟩
                    refine kc_v hP hD hS hA hs_61 (kV (As := [.int (nI n), .int (nI S), .int (nI la)]) (rest := []) hx hb hml hown hts hKW hP hD hs_61 (c_X1_goOn l D cI cJ cB q1_7 beaten_1_3 unused_1 (wcL (fun a => btF ml n a) n S (wcS (fun a => btF ml n a) n (wcI ways_1_7 n) (S - 1)) la) ml n S la hw_3 (by first | assumption | omega) (by first | assumption | omega) (by first | assumption | omega)) (cwV 3 hts gX1_countWalks_X1_goOn rfl rfl rfl (by decide +kernel) ⟨Nat.le_of_ble_eq_true rfl, Nat.le_of_ble_eq_true rfl⟩) 0 1 rfl rfl rfl rfl hl.1 rfl (Nat.le_of_ble_eq_true rfl) dX1_countWalks_61 ⟨Nat.le_refl _, Nat.le_refl _⟩) (fun u_61 H locs hw_61 hP hD hS => ?_)
                    obtain ⟨ways_1_61, rfl⟩ : ∃ z, z = u_61 := ⟨_, rfl⟩
                    have e_ways_1_61 := hw_61
                    have e_ways_1_61 := e_ways_1_61.symm
                    subst e_ways_1_61
                    have hP : va_P D vwCl (wX1 q1_7 cI cJ cB beaten_1_3 unused_1 (gnF (fun a => btF ml n a) n S la (wcL (fun a => btF ml n a) n S (wcS (fun a => btF ml n a) n (wcI ways_1_7 n) (S - 1)) la)) 10240 ++ wX4 q4 cI cJ cB parts_4 wins_4 draws_4 points_4 count_4 changes_4) H := hP.sub (ws' := (wX1 q1_7 cI cJ cB beaten_1_3 unused_1 (gnF (fun a => btF ml n a) n S la (wcL (fun a => btF ml n a) n S (wcS (fun a => btF ml n a) n (wcI ways_1_7 n) (S - 1)) la)) 10240 ++ wX4 q4 cI cJ cB parts_4 wins_4 draws_4 points_4 count_4 changes_4)) [5, 6, 7, 8, 0, 1, 2, 3, 4] rfl
                    have hD : va_D A (wX1 q1_7 cI cJ cB beaten_1_3 unused_1 (gnF (fun a => btF ml n a) n S la (wcL (fun a => btF ml n a) n S (wcS (fun a => btF ml n a) n (wcI ways_1_7 n) (S - 1)) la)) 10240 ++ wX4 q4 cI cJ cB parts_4 wins_4 draws_4 points_4 count_4 changes_4) := hD.sub (ws' := (wX1 q1_7 cI cJ cB beaten_1_3 unused_1 (gnF (fun a => btF ml n a) n S la (wcL (fun a => btF ml n a) n S (wcS (fun a => btF ml n a) n (wcI ways_1_7 n) (S - 1)) la)) 10240 ++ wX4 q4 cI cJ cB parts_4 wins_4 draws_4 points_4 count_4 changes_4)) [5, 6, 7, 8, 0, 1, 2, 3, 4] (by decide) rfl
                    refine lv_iinc (v := nI (la + 1)) (lv' := [(4, .int (nI (la + 1))), (0, .ref (q1_7 0)), (1, .ref (q4 0)), (2, .int (nI n)), (3, .int (nI S))]) hx hb dX1_countWalks_64 hl (k := 4) rfl (nI_add _ _) (by decide) rfl (fun ls hl => ?_)
                    refine lv_goto (tgt := 50) hx hb dX1_countWalks_67 (by decide) ?_
                    exact ih_50 (la + 1) (by omega) (by omega) _ _ hP hD hS ls (lv_sub hl [1, 2, 3, 4, 0] rfl)
              exact hL_50 _ 0 (Nat.zero_le _) (Nat.lt_succ_self _) _ _ hP hD hS ls (lv_sub hl [1, 2, 3, 4, 0] rfl)
        exact hL_39 _ 1 (Nat.le_refl _) (by omega) (Nat.lt_succ_self _) _ _ hP hD hS ls (lv_sub hl [1, 2, 3, 0] rfl)
      · skip
        have c_14 := k_ge_n (by omega) (by omega) c_14
        have hp512 := pow_lt_1024 (n := p1) (by omega)
        refine lv_aload_n hx hb dX1_countWalks_17 rfl (lv_at hl 0 rfl) ?_
        refine k_get (ci := 1) (v := .ref (q1_7 3)) (C := RX1) (Tb := TX1) (N := 3) hx hb hts hu_1 hown hKW hP 0 rfl rfl 2 (by decide) hf_18 rfl rfl dX1_countWalks_18 ?_
        refine lv_iconst (v := nI 1) hx hb dX1_countWalks_21 (by decide) ?_
        refine lv_iload_n hx hb dX1_countWalks_22 rfl (lv_at hl 3 rfl) ?_
        refine lv_ishl hx hb dX1_countWalks_23 ?_
        refine k_top (y := nI (2 ^ p1)) (k_shl1 (by omega)) ?_
        refine lv_bipush (v := nI 10) hx hb dX1_countWalks_24 (by decide) ?_
        refine k_imul hx hb dX1_countWalks_26 ?_
        refine lv_iload_n hx hb dX1_countWalks_27 rfl (lv_at hl 3 rfl) ?_
        refine k_iadd hx hb dX1_countWalks_28 ?_
        refine lv_iconst (v := nI 1) hx hb dX1_countWalks_29 (by decide) ?_
        refine k_iast (n := 10240) (i := ((2 ^ p1) * 10) + p1) (x := nI 1) (w' := (wX1 q1_7 cI cJ cB beaten_1_3 unused_1 (upd (wcI ways_1_7 p1) (((2 ^ p1) * 10) + p1) (nI 1)) 10240 ++ wX4 q4 cI cJ cB parts_4 wins_4 draws_4 points_4 count_4 changes_4)) hx hb hKW hP hD hS 3 0 rfl rfl (by omega) (by omega) dX1_countWalks_30 rfl (fun H locs hP hD hS => ?_)
        refine lv_iinc (v := nI (p1 + 1)) (lv' := [(3, .int (nI (p1 + 1))), (0, .ref (q1_7 0)), (1, .ref (q4 0)), (2, .int (nI n))]) hx hb dX1_countWalks_31 hl (k := 3) rfl (nI_add _ _) (by decide) rfl (fun ls hl => ?_)
        refine lv_goto (tgt := 12) hx hb dX1_countWalks_34 (by decide) ?_
        exact ih_12 (p1 + 1) (by omega) (by omega) _ _ hP hD hS ls (lv_sub hl [1, 2, 3, 0] rfl)
  exact hL_12 _ 0 (Nat.zero_le _) (Nat.lt_succ_self _) _ _ hP hD hS ls (lv_sub hl [1, 2, 3, 0] rfl)
