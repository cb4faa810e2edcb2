def rmX8_count : Room := { frames := 0, cells := 0, slots := 0, locals := 0 }
set_option maxHeartbeats 4000000 in
set_option maxRecDepth 100000 in
theorem c_X8_count (l : Launch) (D : va_G) (cI cJ cB : ClassId) (q8 : Nat → Nat) (games_8 : Nat → Int32) (excess_8 : Nat → Int32) (count_8 : Int32) : ∀ sz, Met l yX8_count wsX8_count rmX8_count (va_Pc [.ref (q8 0)] (PW D (kT cI cJ cB) sz (wX8 q8 cI cJ cB games_8 excess_8 count_8))) (va_Qi (S := Unit) (fun r _ => r = count_8) (QW D sz (wX8 q8 cI cJ cB games_8 excess_8 count_8) (fun _ => (wX8 q8 cI cJ cB games_8 excess_8 count_8))) (va_A (wX8 q8 cI cJ cB games_8 excess_8 count_8) sz)) 0 0 (va_A (wX8 q8 cI cJ cB games_8 excess_8 count_8) sz) := by
  intro sz
  refine Met.ofW (cc := cX8_count) (maxL := 1) (ret := (some .int)) (by decide) rfl ?_
  intro p e s m args below meth c s₁ B hml hv
  obtain ⟨hav, hsz, hP, hKW, hD0⟩ := hv
  have hx := B.exec
  have hb := B.bytes
  have hr := B.returns
  have hts := atoms_spec (ws := wsX8_count) B.pre
  have hown : s.vm.findClass RX8 = some m.cls := findClass_of_methodNamed B.named
  have hlocks := B.notSynchronized
  subst hsz
  have hD := hD0.self (sz := s.heap.size)
  obtain ⟨A, hAe⟩ : ∃ A : Nat → Prop, A = va_A (wX8 q8 cI cJ cB games_8 excess_8 count_8) s.heap.size := ⟨_, rfl⟩
  rw [← hAe] at hD
  have hA : ∀ q : Nat, s.heap.size ≤ q → A q := fun q h => by rw [hAe]; exact Or.inr h
  have hS : va_S A s.heap s.heap [] := va_S.rf
  refine k_gen (fun Q hQ => ?_)
  have hl := lv_entry ([.ref (q8 0)]) (n := 1) (Nat.le_of_ble_eq_true rfl)
  refine k_entry hav (lg_entry_eq ..) ?_
  generalize (lg_sl ([.ref (q8 0)]) ++ List.replicate (1 - (lg_sl ([.ref (q8 0)])).length) Slot.unset).toArray = ls at hl ⊢
  have hl : lv_has ls 1 [(0, .ref (q8 0))] := hl
  have hu_8 : ∀ w ∈ u_ws RX8 TX8 3, w ∈ wsX8_count := by decide +kernel
  have hf_18 : Cond.fieldLink RX8 18 "MeetingRanks$ToCome" "count" "I" ∈ wsX8_count := by decide +kernel
  refine lv_aload_n hx hb dX8_count_0 rfl (lv_at hl 0 rfl) ?_
  refine k_get (ci := 8) (v := .int count_8) (C := RX8) (Tb := TX8) (N := 3) hx hb hts hu_8 hown hKW hP 0 rfl rfl 2 (by decide) hf_18 rfl rfl dX8_count_1 ?_
  subst hQ; subst hAe
  exact W.iret (v := count_8) hx hb hr (fun t ht _ => ⟨⟨count_8, (), rfl, rfl, by rw [ht]; exact hP, hD⟩, hS.F ht⟩) hS.2.2 dX8_count_4
def rmX8_change : Room := { frames := 0, cells := 0, slots := 0, locals := 0 }
set_option maxHeartbeats 4000000 in
set_option maxRecDepth 100000 in
theorem c_X8_change (l : Launch) (D : va_G) (cI cJ cB : ClassId) (q8 : Nat → Nat) (games_8 : Nat → Int32) (excess_8 : Nat → Int32) (count_8 : Int32) (a : Nat) (b : Nat) (sg : Int32) (ha : a < 10) (hb2 : b < 10) : ∀ sz, Met l yX8_change wsX8_change rmX8_change (va_Pc [.ref (q8 0), .int (nI a), .int (nI b), .int sg] (PW D (kT cI cJ cB) sz (wX8 q8 cI cJ cB games_8 excess_8 count_8))) (va_Qv (S := Unit) (fun _ => True) (QW D sz (wX8 q8 cI cJ cB games_8 excess_8 count_8) (fun _ => (wX8 q8 cI cJ cB (upd (upd games_8 ((a * 10) + b) ((games_8 ((a * 10) + b)) + sg)) ((b * 10) + a) (((upd games_8 ((a * 10) + b) ((games_8 ((a * 10) + b)) + sg)) ((b * 10) + a)) + sg)) excess_8 (count_8 + sg)))) (va_A (wX8 q8 cI cJ cB games_8 excess_8 count_8) sz)) 0 0 (va_A (wX8 q8 cI cJ cB games_8 excess_8 count_8) sz) := by
  intro sz
  refine Met.ofW (cc := cX8_change) (maxL := 4) (ret := none) (by decide) rfl ?_
  intro p e s m args below meth c s₁ B hml hv
  obtain ⟨hav, hsz, hP, hKW, hD0⟩ := hv
  have hx := B.exec
  have hb := B.bytes
  have hr := B.returns
  have hts := atoms_spec (ws := wsX8_change) B.pre
  have hown : s.vm.findClass RX8 = some m.cls := findClass_of_methodNamed B.named
  have hlocks := B.notSynchronized
  subst hsz
  have hD := hD0.self (sz := s.heap.size)
  obtain ⟨A, hAe⟩ : ∃ A : Nat → Prop, A = va_A (wX8 q8 cI cJ cB games_8 excess_8 count_8) s.heap.size := ⟨_, rfl⟩
  rw [← hAe] at hD
  have hA : ∀ q : Nat, s.heap.size ≤ q → A q := fun q h => by rw [hAe]; exact Or.inr h
  have hS : va_S A s.heap s.heap [] := va_S.rf
  refine k_gen (fun Q hQ => ?_)
  have hl := lv_entry ([.ref (q8 0), .int (nI a), .int (nI b), .int sg]) (n := 4) (Nat.le_of_ble_eq_true rfl)
  refine k_entry hav (lg_entry_eq ..) ?_
  generalize (lg_sl ([.ref (q8 0), .int (nI a), .int (nI b), .int sg]) ++ List.replicate (4 - (lg_sl ([.ref (q8 0), .int (nI a), .int (nI b), .int sg])).length) Slot.unset).toArray = ls at hl ⊢
  have hl : lv_has ls 4 [(0, .ref (q8 0)), (1, .int (nI a)), (2, .int (nI b)), (3, .int sg)] := hl
  have hu_8 : ∀ w ∈ u_ws RX8 TX8 3, w ∈ wsX8_change := by decide +kernel
  have hf_9 : Cond.fieldLink RX8 9 "MeetingRanks$ToCome" "games" "[I" ∈ wsX8_change := by decide +kernel
  have hf_18 : Cond.fieldLink RX8 18 "MeetingRanks$ToCome" "count" "I" ∈ wsX8_change := by decide +kernel
  refine lv_aload_n hx hb dX8_change_0 rfl (lv_at hl 0 rfl) ?_
  refine k_get (ci := 8) (v := .ref (q8 1)) (C := RX8) (Tb := TX8) (N := 3) hx hb hts hu_8 hown hKW hP 0 rfl rfl 0 (by decide) hf_9 rfl rfl dX8_change_1 ?_
  refine lv_iload_n hx hb dX8_change_4 rfl (lv_at hl 1 rfl) ?_
  refine lv_bipush (v := nI 10) hx hb dX8_change_5 (by decide) ?_
  refine k_imul hx hb dX8_change_7 ?_
  refine lv_iload_n hx hb dX8_change_8 rfl (lv_at hl 2 rfl) ?_
  refine k_iadd hx hb dX8_change_9 ?_
  refine lv_dup2_11 hx hb dX8_change_10 rfl rfl ?_
  refine k_iald (n := 100) (i := (a * 10) + b) hx hb hKW hP 1 0 rfl rfl (by omega) (by omega) dX8_change_11 ?_
  refine lv_iload_n hx hb dX8_change_12 rfl (lv_at hl 3 rfl) ?_
  refine lv_iadd hx hb dX8_change_13 ?_
  refine k_iast (n := 100) (i := (a * 10) + b) (x := (games_8 ((a * 10) + b)) + sg) (w' := (wX8 q8 cI cJ cB (upd games_8 ((a * 10) + b) ((games_8 ((a * 10) + b)) + sg)) excess_8 count_8)) hx hb hKW hP hD hS 1 0 rfl rfl (by omega) (by omega) dX8_change_14 rfl (fun H locs hP hD hS => ?_)
  refine lv_aload_n hx hb dX8_change_15 rfl (lv_at hl 0 rfl) ?_
  refine k_get (ci := 8) (v := .ref (q8 1)) (C := RX8) (Tb := TX8) (N := 3) hx hb hts hu_8 hown hKW hP 0 rfl rfl 0 (by decide) hf_9 rfl rfl dX8_change_16 ?_
  refine lv_iload_n hx hb dX8_change_19 rfl (lv_at hl 2 rfl) ?_
  refine lv_bipush (v := nI 10) hx hb dX8_change_20 (by decide) ?_
  refine k_imul hx hb dX8_change_22 ?_
  refine lv_iload_n hx hb dX8_change_23 rfl (lv_at hl 1 rfl) ?_
  refine k_iadd hx hb dX8_change_24 ?_
  refine lv_dup2_11 hx hb dX8_change_25 rfl rfl ?_
  refine k_iald (n := 100) (i := (b * 10) + a) hx hb hKW hP 1 0 rfl rfl (by omega) (by omega) dX8_change_26 ?_
  refine lv_iload_n hx hb dX8_change_27 rfl (lv_at hl 3 rfl) ?_
  refine lv_iadd hx hb dX8_change_28 ?_
  refine k_iast (n := 100) (i := (b * 10) + a) (x := ((upd games_8 ((a * 10) + b) ((games_8 ((a * 10) + b)) + sg)) ((b * 10) + a)) + sg) (w' := (wX8 q8 cI cJ cB (upd (upd games_8 ((a * 10) + b) ((games_8 ((a * 10) + b)) + sg)) ((b * 10) + a) (((upd games_8 ((a * 10) + b) ((games_8 ((a * 10) + b)) + sg)) ((b * 10) + a)) + sg)) excess_8 count_8)) hx hb hKW hP hD hS 1 0 rfl rfl (by omega) (by omega) dX8_change_29 rfl (fun H locs hP hD hS => ?_)
  refine lv_aload_n hx hb dX8_change_30 rfl (lv_at hl 0 rfl) ?_
  refine lv_dup hx hb dX8_change_31 rfl ?_
  refine k_get (ci := 8) (v := .int count_8) (C := RX8) (Tb := TX8) (N := 3) hx hb hts hu_8 hown hKW hP 0 rfl rfl 2 (by decide) hf_18 rfl rfl dX8_change_32 ?_
  refine lv_iload_n hx hb dX8_change_35 rfl (lv_at hl 3 rfl) ?_
  refine lv_iadd hx hb dX8_change_36 ?_
  refine k_put (ci := 8) (ty := .int) (v := .int (count_8 + sg)) (C := RX8) (Tb := TX8) (N := 3) (w' := (wX8 q8 cI cJ cB (upd (upd games_8 ((a * 10) + b) ((games_8 ((a * 10) + b)) + sg)) ((b * 10) + a) (((upd games_8 ((a * 10) + b) ((games_8 ((a * 10) + b)) + sg)) ((b * 10) + a)) + sg)) excess_8 (count_8 + sg))) hx hb hts hu_8 tyX8 tyX8_ok nmX8 hown hKW hP hD hS 0 rfl rfl 2 (by decide) hf_18 rfl rfl (by decide +kernel) rfl rfl (Nat.le_of_ble_eq_true rfl) dX8_change_37 rfl (fun H locs hP hD hS => ?_)
  subst hQ; subst hAe
  exact W.vret hx hb hr (fun t ht _ => ⟨⟨(), rfl, trivial, by rw [ht]; exact hP, hD⟩, hS.F ht⟩) hS.2.2 dX8_change_40
def rmX8_pointsOf : Room := { frames := 1, cells := 0, slots := 0, locals := 22 }
set_option maxHeartbeats 4000000 in
set_option maxRecDepth 100000 in
theorem c_X8_pointsOf (l : Launch) (D : va_G) (cI cJ cB : ClassId) (q8 : Nat → Nat) (q4 : Nat → Nat) (games_8 : Nat → Int32) (excess_8 : Nat → Int32) (count_8 : Int32) (parts_4 : Nat → Int32) (wins_4 : Nat → Int32) (draws_4 : Nat → Int32) (points_4 : Nat → Int32) (count_4 : Int32) (changes_4 : Int32) (ml : List Mt) (n : Nat) (p1 : Nat) (hM : MR parts_4 wins_4 draws_4 points_4 ml) (hn10 : n ≤ 10) (hp1 : p1 < 10) : ∀ sz, Met l yX8_pointsOf wsX8_pointsOf rmX8_pointsOf (va_Pc [.ref (q8 0), .ref (q4 0), .int (nI n), .int (nI p1)] (PW D (kT cI cJ cB) sz (wX8 q8 cI cJ cB games_8 excess_8 count_8 ++ wX4 q4 cI cJ cB parts_4 wins_4 draws_4 points_4 count_4 changes_4))) (va_Qi (S := Unit) (fun r _ => r = hpI ml n p1) (QW D sz (wX8 q8 cI cJ cB games_8 excess_8 count_8 ++ wX4 q4 cI cJ cB parts_4 wins_4 draws_4 points_4 count_4 changes_4) (fun _ => (wX8 q8 cI cJ cB games_8 excess_8 count_8 ++ wX4 q4 cI cJ cB parts_4 wins_4 draws_4 points_4 count_4 changes_4))) (va_A (wX8 q8 cI cJ cB games_8 excess_8 count_8 ++ wX4 q4 cI cJ cB parts_4 wins_4 draws_4 points_4 count_4 changes_4) sz)) 0 0 (va_A (wX8 q8 cI cJ cB games_8 excess_8 count_8 ++ wX4 q4 cI cJ cB parts_4 wins_4 draws_4 points_4 count_4 changes_4) sz) := by
  intro sz
  refine Met.ofW (cc := cX8_pointsOf) (maxL := 6) (ret := (some .int)) (by decide) rfl ?_
  intro p e s m args below meth c s₁ B hml hv
  obtain ⟨hav, hsz, hP, hKW, hD0⟩ := hv
  have hx := B.exec
  have hb := B.bytes
  have hr := B.returns
  have hts := atoms_spec (ws := wsX8_pointsOf) B.pre
  have hown : s.vm.findClass RX8 = some m.cls := findClass_of_methodNamed B.named
  have hlocks := B.notSynchronized
  subst hsz
  have hD := hD0.self (sz := s.heap.size)
  obtain ⟨A, hAe⟩ : ∃ A : Nat → Prop, A = va_A (wX8 q8 cI cJ cB games_8 excess_8 count_8 ++ wX4 q4 cI cJ cB parts_4 wins_4 draws_4 points_4 count_4 changes_4) s.heap.size := ⟨_, rfl⟩
  rw [← hAe] at hD
  have hA : ∀ q : Nat, s.heap.size ≤ q → A q := fun q h => by rw [hAe]; exact Or.inr h
  have hS : va_S A s.heap s.heap [] := va_S.rf
  refine k_gen (fun Q hQ => ?_)
  have hl := lv_entry ([.ref (q8 0), .ref (q4 0), .int (nI n), .int (nI p1)]) (n := 6) (Nat.le_of_ble_eq_true rfl)
  refine k_entry hav (lg_entry_eq ..) ?_
  generalize (lg_sl ([.ref (q8 0), .ref (q4 0), .int (nI n), .int (nI p1)]) ++ List.replicate (6 - (lg_sl ([.ref (q8 0), .ref (q4 0), .int (nI n), .int (nI p1)])).length) Slot.unset).toArray = ls at hl ⊢
  have hl : lv_has ls 6 [(0, .ref (q8 0)), (1, .ref (q4 0)), (2, .int (nI n)), (3, .int (nI p1))] := hl
  refine lv_iconst (v := nI 0) hx hb dX8_pointsOf_0 (by decide) ?_
  refine lv_istore (lv' := [(4, .int (nI 0)), (0, .ref (q8 0)), (1, .ref (q4 0)), (2, .int (nI n)), (3, .int (nI p1))]) hx hb dX8_pointsOf_1 hl (by decide) rfl (fun ls hl => ?_)
  refine lv_iconst (v := nI 0) hx hb dX8_pointsOf_3 (by decide) ?_
  refine lv_istore (lv' := [(5, .int (nI 0)), (4, .int (nI 0)), (0, .ref (q8 0)), (1, .ref (q4 0)), (2, .int (nI n)), (3, .int (nI p1))]) hx hb dX8_pointsOf_4 hl (by decide) rfl (fun ls hl => ?_)
  have hL_6 : ∀ (fu : Nat) (o : Nat) (v : Int32) (ho : o ≤ n) (hv : v = sI (fun o => nI 2 * nI (ov ml p1 o) + nI (dr ml p1 o)) o), n - o < fu → ∀ (H : Heap) (locs : List Loc), va_P D vwCl (wX8 q8 cI cJ cB games_8 excess_8 count_8 ++ wX4 q4 cI cJ cB parts_4 wins_4 draws_4 points_4 count_4 changes_4) H → va_D A (wX8 q8 cI cJ cB games_8 excess_8 count_8 ++ wX4 q4 cI cJ cB parts_4 wins_4 draws_4 points_4 count_4 changes_4) → va_S A s.heap H locs → ∀ (ls : Array Slot), lv_has ls 6 [(0, .ref (q8 0)), (1, .ref (q4 0)), (2, .int (nI n)), (3, .int (nI p1)), (4, .int v), (5, .int (nI o))] → W p l e (headSpec wsX8_pointsOf rmX8_pointsOf).room s m args below meth c H locs 0 0 Q (F0 m 6 ls []) := by
    intro fu
    induction fu with
    | zero => intro o v ho hv hfu; exact absurd hfu (Nat.not_lt_zero _)
    | succ fu ih_6 =>
      intro o v ho hv hfu H locs hP hD hS ls hl
      refine lv_iload hx hb dX8_pointsOf_6 (lv_at hl 5 rfl) ?_
      refine lv_iload_n hx hb dX8_pointsOf_8 rfl (lv_at hl 2 rfl) ?_
      refine lv_icmp_ge (tgt := 40) hx hb dX8_pointsOf_9 (by decide) (fun c_9 => ?_) (fun c_9 => ?_)
      · skip
        have c_9 := k_ge (by omega) (by omega) c_9
        obtain rfl : n = o := by omega
        refine lv_iload hx hb dX8_pointsOf_40 (lv_at hl 4 rfl) ?_
        subst hQ; subst hAe
        exact W.iret (v := v) hx hb hr (fun t ht _ => ⟨⟨v, (), rfl, hv, by rw [ht]; exact hP, hD⟩, hS.F ht⟩) hS.2.2 dX8_pointsOf_42
      · skip
        have c_9 := k_ge_n (by omega) (by omega) c_9
        refine lv_iload hx hb dX8_pointsOf_12 (lv_at hl 4 rfl) ?_
        refine lv_iconst (v := nI 2) hx hb dX8_pointsOf_14 (by decide) ?_
        refine lv_aload_n hx hb dX8_pointsOf_15 rfl (lv_at hl 1 rfl) ?_
        refine lv_iload_n hx hb dX8_pointsOf_16 rfl (lv_at hl 3 rfl) ?_
        refine lv_iload hx hb dX8_pointsOf_17 (lv_at hl 5 rfl) ?_
        have hs_19 : kSplit (wX8 q8 cI cJ cB games_8 excess_8 count_8 ++ wX4 q4 cI cJ cB parts_4 wins_4 draws_4 points_4 count_4 changes_4) (wX4 q4 cI cJ cB parts_4 wins_4 draws_4 points_4 count_4 changes_4) (wX8 q8 cI cJ cB games_8 excess_8 count_8) [3, 4, 5, 6, 7] [0, 1, 2] := ⟨rfl, rfl, rfl, rfl, rfl, by decide⟩
        refine kc_i hP hD hS hA hs_19 (kV (As := [.int (nI p1), .int (nI o)]) (rest := [.int (nI 2), .int v]) hx hb hml hown hts hKW hP hD hs_19 (c_X4_wins l D cI cJ cB q4 parts_4 wins_4 draws_4 points_4 count_4 changes_4 p1 o (by first | assumption | omega) (by first | assumption | omega)) (cwV 2 hts gX8_pointsOf_X4_wins rfl rfl rfl (by decide +kernel) ⟨Nat.le_of_ble_eq_true rfl, Nat.le_of_ble_eq_true rfl⟩) 0 4 rfl rfl rfl rfl hl.1 rfl (Nat.le_of_ble_eq_true rfl) dX8_pointsOf_19 ⟨Nat.zero_le _, Nat.zero_le _⟩) (fun r_19 u_19 H locs hw_19 hP hD hS => ?_)
        have er_19 := hw_19
        subst er_19
        have hP : va_P D vwCl (wX8 q8 cI cJ cB games_8 excess_8 count_8 ++ wX4 q4 cI cJ cB parts_4 wins_4 draws_4 points_4 count_4 changes_4) H := hP.sub (ws' := (wX8 q8 cI cJ cB games_8 excess_8 count_8 ++ wX4 q4 cI cJ cB parts_4 wins_4 draws_4 points_4 count_4 changes_4)) [0, 1, 2, 3, 4, 5, 6, 7] rfl
        have hD : va_D A (wX8 q8 cI cJ cB games_8 excess_8 count_8 ++ wX4 q4 cI cJ cB parts_4 wins_4 draws_4 points_4 count_4 changes_4) := hD.sub (ws' := (wX8 q8 cI cJ cB games_8 excess_8 count_8 ++ wX4 q4 cI cJ cB parts_4 wins_4 draws_4 points_4 count_4 changes_4)) [0, 1, 2, 3, 4, 5, 6, 7] (by decide) rfl
        refine k_top (y := nI (ov ml p1 o)) ((hM.2 p1 o (by omega) (by omega)).1) ?_
        refine lv_imul hx hb dX8_pointsOf_22 ?_
        refine lv_aload_n hx hb dX8_pointsOf_23 rfl (lv_at hl 1 rfl) ?_
        refine lv_iload_n hx hb dX8_pointsOf_24 rfl (lv_at hl 3 rfl) ?_
        refine lv_iload hx hb dX8_pointsOf_25 (lv_at hl 5 rfl) ?_
        have hs_27 : kSplit (wX8 q8 cI cJ cB games_8 excess_8 count_8 ++ wX4 q4 cI cJ cB parts_4 wins_4 draws_4 points_4 count_4 changes_4) (wX4 q4 cI cJ cB parts_4 wins_4 draws_4 points_4 count_4 changes_4) (wX8 q8 cI cJ cB games_8 excess_8 count_8) [3, 4, 5, 6, 7] [0, 1, 2] := ⟨rfl, rfl, rfl, rfl, rfl, by decide⟩
        refine kc_i hP hD hS hA hs_27 (kV (As := [.int (nI p1), .int (nI o)]) (rest := [.int ((nI 2) * (nI (ov ml p1 o))), .int v]) hx hb hml hown hts hKW hP hD hs_27 (c_X4_draws l D cI cJ cB q4 parts_4 wins_4 draws_4 points_4 count_4 changes_4 p1 o (by first | assumption | omega) (by first | assumption | omega)) (cwV 2 hts gX8_pointsOf_X4_draws rfl rfl rfl (by decide +kernel) ⟨Nat.le_of_ble_eq_true rfl, Nat.le_of_ble_eq_true rfl⟩) 0 4 rfl rfl rfl rfl hl.1 rfl (Nat.le_of_ble_eq_true rfl) dX8_pointsOf_27 ⟨Nat.zero_le _, Nat.zero_le _⟩) (fun r_27 u_27 H locs hw_27 hP hD hS => ?_)
        have er_27 := hw_27
        subst er_27
        have hP : va_P D vwCl (wX8 q8 cI cJ cB games_8 excess_8 count_8 ++ wX4 q4 cI cJ cB parts_4 wins_4 draws_4 points_4 count_4 changes_4) H := hP.sub (ws' := (wX8 q8 cI cJ cB games_8 excess_8 count_8 ++ wX4 q4 cI cJ cB parts_4 wins_4 draws_4 points_4 count_4 changes_4)) [0, 1, 2, 3, 4, 5, 6, 7] rfl
        have hD : va_D A (wX8 q8 cI cJ cB games_8 excess_8 count_8 ++ wX4 q4 cI cJ cB parts_4 wins_4 draws_4 points_4 count_4 changes_4) := hD.sub (ws' := (wX8 q8 cI cJ cB games_8 excess_8 count_8 ++ wX4 q4 cI cJ cB parts_4 wins_4 draws_4 points_4 count_4 changes_4)) [0, 1, 2, 3, 4, 5, 6, 7] (by decide) rfl
        refine k_top (y := nI (dr ml p1 o)) ((hM.2 p1 o (by omega) (by omega)).2.1) ?_
        refine lv_iadd hx hb dX8_pointsOf_30 ?_
        refine lv_iadd hx hb dX8_pointsOf_31 ?_
        refine lv_istore (lv' := [(4, .int (v + (((nI 2) * (nI (ov ml p1 o))) + (nI (dr ml p1 o))))), (0, .ref (q8 0)), (1, .ref (q4 0)), (2, .int (nI n)), (3, .int (nI p1)), (5, .int (nI o))]) hx hb dX8_pointsOf_32 hl (by decide) rfl (fun ls hl => ?_)
        refine lv_iinc (v := nI (o + 1)) (lv' := [(5, .int (nI (o + 1))), (4, .int (v + (((nI 2) * (nI (ov ml p1 o))) + (nI (dr ml p1 o))))), (0, .ref (q8 0)), (1, .ref (q4 0)), (2, .int (nI n)), (3, .int (nI p1))]) hx hb dX8_pointsOf_34 hl (k := 5) rfl (nI_add _ _) (by decide) rfl (fun ls hl => ?_)
        refine lv_goto (tgt := 6) hx hb dX8_pointsOf_37 (by decide) ?_
        exact ih_6 _ _ (by omega) (by rw [hv]; rfl) (by omega) _ _ hP hD hS ls (lv_sub hl [2, 3, 4, 5, 1, 0] rfl)
  exact hL_6 _ 0 0 (Nat.zero_le _) rfl (Nat.lt_succ_self _) _ _ hP hD hS ls (lv_sub hl [2, 3, 4, 5, 1, 0] rfl)
def rmX8_gamesWith : Room := { frames := 1, cells := 0, slots := 0, locals := 21 }
set_option maxHeartbeats 4000000 in
set_option maxRecDepth 100000 in
theorem c_X8_gamesWith (l : Launch) (D : va_G) (cI cJ cB : ClassId) (q8 : Nat → Nat) (games_8 : Nat → Int32) (excess_8 : Nat → Int32) (count_8 : Int32) (nx : List (Nat × Nat)) (p1 : Nat) (S : Nat) (n : Nat) (hT : TC games_8 nx) (hn10 : n ≤ 10) (hp1 : p1 < 10) (hS10 : S < 2 ^ 31) : ∀ sz, Met l yX8_gamesWith wsX8_gamesWith rmX8_gamesWith (va_Pc [.ref (q8 0), .int (nI p1), .int (nI S), .int (nI n)] (PW D (kT cI cJ cB) sz (wX8 q8 cI cJ cB games_8 excess_8 count_8))) (va_Qi (S := Unit) (fun r _ => r = gwI nx n p1 S) (QW D sz (wX8 q8 cI cJ cB games_8 excess_8 count_8) (fun _ => (wX8 q8 cI cJ cB games_8 excess_8 count_8))) (va_A (wX8 q8 cI cJ cB games_8 excess_8 count_8) sz)) 0 0 (va_A (wX8 q8 cI cJ cB games_8 excess_8 count_8) sz) := by
  intro sz
  refine Met.ofW (cc := cX8_gamesWith) (maxL := 6) (ret := (some .int)) (by decide) rfl ?_
  intro p e s m args below meth c s₁ B hml hv
  obtain ⟨hav, hsz, hP, hKW, hD0⟩ := hv
  have hx := B.exec
  have hb := B.bytes
  have hr := B.returns
  have hts := atoms_spec (ws := wsX8_gamesWith) B.pre
  have hown : s.vm.findClass RX8 = some m.cls := findClass_of_methodNamed B.named
  have hlocks := B.notSynchronized
  subst hsz
  have hD := hD0.self (sz := s.heap.size)
  obtain ⟨A, hAe⟩ : ∃ A : Nat → Prop, A = va_A (wX8 q8 cI cJ cB games_8 excess_8 count_8) s.heap.size := ⟨_, rfl⟩
  rw [← hAe] at hD
  have hA : ∀ q : Nat, s.heap.size ≤ q → A q := fun q h => by rw [hAe]; exact Or.inr h
  have hS : va_S A s.heap s.heap [] := va_S.rf
  refine k_gen (fun Q hQ => ?_)
  have hl := lv_entry ([.ref (q8 0), .int (nI p1), .int (nI S), .int (nI n)]) (n := 6) (Nat.le_of_ble_eq_true rfl)
  refine k_entry hav (lg_entry_eq ..) ?_
  generalize (lg_sl ([.ref (q8 0), .int (nI p1), .int (nI S), .int (nI n)]) ++ List.replicate (6 - (lg_sl ([.ref (q8 0), .int (nI p1), .int (nI S), .int (nI n)])).length) Slot.unset).toArray = ls at hl ⊢
  have hl : lv_has ls 6 [(0, .ref (q8 0)), (1, .int (nI p1)), (2, .int (nI S)), (3, .int (nI n))] := hl
  have hu_8 : ∀ w ∈ u_ws RX8 TX8 3, w ∈ wsX8_gamesWith := by decide +kernel
  have hf_9 : Cond.fieldLink RX8 9 "MeetingRanks$ToCome" "games" "[I" ∈ wsX8_gamesWith := by decide +kernel
  refine lv_iconst (v := nI 0) hx hb dX8_gamesWith_0 (by decide) ?_
  refine lv_istore (lv' := [(4, .int (nI 0)), (0, .ref (q8 0)), (1, .int (nI p1)), (2, .int (nI S)), (3, .int (nI n))]) hx hb dX8_gamesWith_1 hl (by decide) rfl (fun ls hl => ?_)
  refine lv_iconst (v := nI 0) hx hb dX8_gamesWith_3 (by decide) ?_
  refine lv_istore (lv' := [(5, .int (nI 0)), (4, .int (nI 0)), (0, .ref (q8 0)), (1, .int (nI p1)), (2, .int (nI S)), (3, .int (nI n))]) hx hb dX8_gamesWith_4 hl (by decide) rfl (fun ls hl => ?_)
  have hL_6 : ∀ (fu : Nat) (o : Nat) (v : Int32) (ho : o ≤ n) (hv : v = sI (fun o => if S.testBit o = true then nI (gm nx p1 o) else 0) o), n - o < fu → ∀ (H : Heap) (locs : List Loc), va_P D vwCl (wX8 q8 cI cJ cB games_8 excess_8 count_8) H → va_D A (wX8 q8 cI cJ cB games_8 excess_8 count_8) → va_S A s.heap H locs → ∀ (ls : Array Slot), lv_has ls 6 [(0, .ref (q8 0)), (1, .int (nI p1)), (2, .int (nI S)), (3, .int (nI n)), (4, .int v), (5, .int (nI o))] → W p l e (headSpec wsX8_gamesWith rmX8_gamesWith).room s m args below meth c H locs 0 0 Q (F0 m 6 ls []) := by
    intro fu
    induction fu with
    | zero => intro o v ho hv hfu; exact absurd hfu (Nat.not_lt_zero _)
    | succ fu ih_6 =>
      intro o v ho hv hfu H locs hP hD hS ls hl
      refine lv_iload hx hb dX8_gamesWith_6 (lv_at hl 5 rfl) ?_
      refine lv_iload_n hx hb dX8_gamesWith_8 rfl (lv_at hl 3 rfl) ?_
      refine lv_icmp_ge (tgt := 44) hx hb dX8_gamesWith_9 (by decide) (fun c_9 => ?_) (fun c_9 => ?_)
      · skip
        have c_9 := k_ge (by omega) (by omega) c_9
        obtain rfl : n = o := by omega
        refine lv_iload hx hb dX8_gamesWith_44 (lv_at hl 4 rfl) ?_
        subst hQ; subst hAe
        exact W.iret (v := v) hx hb hr (fun t ht _ => ⟨⟨v, (), rfl, hv, by rw [ht]; exact hP, hD⟩, hS.F ht⟩) hS.2.2 dX8_gamesWith_46
      · skip
        have c_9 := k_ge_n (by omega) (by omega) c_9
        refine lv_iload_n hx hb dX8_gamesWith_12 rfl (lv_at hl 2 rfl) ?_
        refine lv_iload hx hb dX8_gamesWith_13 (lv_at hl 5 rfl) ?_
        have hs_15 : kSplit (wX8 q8 cI cJ cB games_8 excess_8 count_8) ([] : va_W) (wX8 q8 cI cJ cB games_8 excess_8 count_8) [] [0, 1, 2] := ⟨rfl, rfl, rfl, rfl, rfl, by decide⟩
        refine kc_i hP hD hS hA hs_15 (kSN (n := 2) (As := [.int (nI S), .int (nI o)]) (rest := []) (host := "MeetingRanks") hx hb hml hown hts hKW hP hD hs_15 (c_X9_isIn l D cI cJ cB S o (by first | assumption | omega) (by first | assumption | omega)) gX8_gamesWith_X9_isIn_n34 rfl rfl rfl (by decide +kernel) (by decide +kernel) (by decide +kernel) (by decide +kernel) ⟨Nat.le_of_ble_eq_true rfl, Nat.le_of_ble_eq_true rfl⟩ rfl hl.1 rfl (Nat.le_of_ble_eq_true rfl) dX8_gamesWith_15 ⟨Nat.zero_le _, Nat.zero_le _⟩) (fun r_15 u_15 H locs hw_15 hP hD hS => ?_)
        have er_15 := hw_15
        subst er_15
        have hP : va_P D vwCl (wX8 q8 cI cJ cB games_8 excess_8 count_8) H := hP.sub (ws' := (wX8 q8 cI cJ cB games_8 excess_8 count_8)) [0, 1, 2] rfl
        have hD : va_D A (wX8 q8 cI cJ cB games_8 excess_8 count_8) := hD.sub (ws' := (wX8 q8 cI cJ cB games_8 excess_8 count_8)) [0, 1, 2] (by decide) rfl
        refine lv_if_eq (tgt := 38) hx hb dX8_gamesWith_18 (by decide) (fun c_18 => ?_) (fun c_18 => ?_)
        · skip
          have c_18 := k_b0 c_18
          refine lv_iinc (v := nI (o + 1)) (lv' := [(5, .int (nI (o + 1))), (0, .ref (q8 0)), (1, .int (nI p1)), (2, .int (nI S)), (3, .int (nI n)), (4, .int v)]) hx hb dX8_gamesWith_38 hl (k := 5) rfl (nI_add _ _) (by decide) rfl (fun ls hl => ?_)
          refine lv_goto (tgt := 6) hx hb dX8_gamesWith_41 (by decide) ?_
          exact ih_6 _ _ (by omega) (by rw [hv]; show _ = _ + (if _ then _ else _); rw [if_neg c_18, Int32.add_zero]) (by omega) _ _ hP hD hS ls (lv_sub hl [1, 2, 3, 4, 5, 0] rfl)
        · skip
          have c_18 := k_b1 c_18
          refine lv_iload hx hb dX8_gamesWith_21 (lv_at hl 4 rfl) ?_
          refine lv_aload_n hx hb dX8_gamesWith_23 rfl (lv_at hl 0 rfl) ?_
          refine k_get (ci := 8) (v := .ref (q8 1)) (C := RX8) (Tb := TX8) (N := 3) hx hb hts hu_8 hown hKW hP 0 rfl rfl 0 (by decide) hf_9 rfl rfl dX8_gamesWith_24 ?_
          refine lv_iload_n hx hb dX8_gamesWith_27 rfl (lv_at hl 1 rfl) ?_
          refine lv_bipush (v := nI 10) hx hb dX8_gamesWith_28 (by decide) ?_
          refine k_imul hx hb dX8_gamesWith_30 ?_
          refine lv_iload hx hb dX8_gamesWith_31 (lv_at hl 5 rfl) ?_
          refine k_iadd hx hb dX8_gamesWith_33 ?_
          refine k_iald (n := 100) (i := (p1 * 10) + o) hx hb hKW hP 1 0 rfl rfl (by omega) (by omega) dX8_gamesWith_34 ?_
          refine k_top (y := nI (gm nx p1 o)) (hT p1 o (by omega) (by omega)) ?_
          refine lv_iadd hx hb dX8_gamesWith_35 ?_
          refine lv_istore (lv' := [(4, .int (v + (nI (gm nx p1 o)))), (0, .ref (q8 0)), (1, .int (nI p1)), (2, .int (nI S)), (3, .int (nI n)), (5, .int (nI o))]) hx hb dX8_gamesWith_36 hl (by decide) rfl (fun ls hl => ?_)
          refine lv_iinc (v := nI (o + 1)) (lv' := [(5, .int (nI (o + 1))), (4, .int (v + (nI (gm nx p1 o)))), (0, .ref (q8 0)), (1, .int (nI p1)), (2, .int (nI S)), (3, .int (nI n))]) hx hb dX8_gamesWith_38 hl (k := 5) rfl (nI_add _ _) (by decide) rfl (fun ls hl => ?_)
          refine lv_goto (tgt := 6) hx hb dX8_gamesWith_41 (by decide) ?_
          exact ih_6 _ _ (by omega) (by rw [hv]; show _ = _ + (if _ then _ else _); rw [if_pos c_18]) (by omega) _ _ hP hD hS ls (lv_sub hl [2, 3, 4, 5, 1, 0] rfl)
  exact hL_6 _ 0 0 (Nat.zero_le _) rfl (Nat.lt_succ_self _) _ _ hP hD hS ls (lv_sub hl [2, 3, 4, 5, 1, 0] rfl)
