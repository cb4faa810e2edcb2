def rmX10_n : Room := { frames := 0, cells := 0, slots := 0, locals := 0 }
set_option maxHeartbeats 4000000 in
set_option maxRecDepth 100000 in
theorem c_X10_n (l : Launch) (D : va_G) (cI cJ cB : ClassId) (q10 : Nat → Nat) (st_10 : Nat → Int32) (kept_10 : Nat → Int32) (undoable_10 : Int32) (newest_10 : Int32) (tape_10 : Nat → Int32) (taped_10 : Int32) (marks_10 : Nat → Int32) (order_10 : Nat → Int32) (reach_10 : Nat → Int32) (heapOf_10 : Nat → Int32) (rows_10 : Nat → Int64) (x_10 : Nat → Int64) (overs_10 : Nat → Int32) (costs_10 : Nat → Int32) (ways_10 : Nat → Int32) (digits_10 : Nat → Int32) (beaten_10 : Nat → Int32) (walks_10 : Nat → Int32) (n : Nat) (ml : List Mt) (nx : List (Nat × Nat)) (ks : List Nat) (rr : Int32 × Int32 × Int32) (hR : RS st_10 n ml nx ks rr) (hV : VS n ml nx ks) : ∀ sz, Met l yX10_n wsX10_n rmX10_n (va_Pc [.ref (q10 0)] (PW D (kT cI cJ cB) sz (wX10 q10 cI cJ cB st_10 kept_10 undoable_10 newest_10 tape_10 taped_10 marks_10 order_10 reach_10 heapOf_10 rows_10 x_10 overs_10 costs_10 ways_10 digits_10 beaten_10 walks_10))) (va_Qi (S := Unit) (fun r _ => r = nI n) (QW D sz (wX10 q10 cI cJ cB st_10 kept_10 undoable_10 newest_10 tape_10 taped_10 marks_10 order_10 reach_10 heapOf_10 rows_10 x_10 overs_10 costs_10 ways_10 digits_10 beaten_10 walks_10) (fun _ => (wX10 q10 cI cJ cB st_10 kept_10 undoable_10 newest_10 tape_10 taped_10 marks_10 order_10 reach_10 heapOf_10 rows_10 x_10 overs_10 costs_10 ways_10 digits_10 beaten_10 walks_10))) (va_A (wX10 q10 cI cJ cB st_10 kept_10 undoable_10 newest_10 tape_10 taped_10 marks_10 order_10 reach_10 heapOf_10 rows_10 x_10 overs_10 costs_10 ways_10 digits_10 beaten_10 walks_10) sz)) 0 0 (va_A (wX10 q10 cI cJ cB st_10 kept_10 undoable_10 newest_10 tape_10 taped_10 marks_10 order_10 reach_10 heapOf_10 rows_10 x_10 overs_10 costs_10 ways_10 digits_10 beaten_10 walks_10) sz) := by
  intro sz
  refine Met.ofW (cc := cX10_n) (maxL := 1) (ret := (some .int)) (by decide) rfl ?_
  intro p e s m args below meth c s₁ B hml hv
  obtain ⟨hav, hsz, hP, hKW, hD0⟩ := hv
  have hx := B.exec
  have hb := B.bytes
  have hr := B.returns
  have hts := atoms_spec (ws := wsX10_n) B.pre
  have hown : s.vm.findClass RX10 = some m.cls := findClass_of_methodNamed B.named
  have hlocks := B.notSynchronized
  subst hsz
  have hD := hD0.self (sz := s.heap.size)
  obtain ⟨A, hAe⟩ : ∃ A : Nat → Prop, A = va_A (wX10 q10 cI cJ cB st_10 kept_10 undoable_10 newest_10 tape_10 taped_10 marks_10 order_10 reach_10 heapOf_10 rows_10 x_10 overs_10 costs_10 ways_10 digits_10 beaten_10 walks_10) s.heap.size := ⟨_, rfl⟩
  rw [← hAe] at hD
  have hA : ∀ q : Nat, s.heap.size ≤ q → A q := fun q h => by rw [hAe]; exact Or.inr h
  have hS : va_S A s.heap s.heap [] := va_S.rf
  refine k_gen (fun Q hQ => ?_)
  have hl := lv_entry ([.ref (q10 0)]) (n := 1) (Nat.le_of_ble_eq_true rfl)
  refine k_entry hav (lg_entry_eq ..) ?_
  generalize (lg_sl ([.ref (q10 0)]) ++ List.replicate (1 - (lg_sl ([.ref (q10 0)])).length) Slot.unset).toArray = ls at hl ⊢
  have hl : lv_has ls 1 [(0, .ref (q10 0))] := hl
  have hu_10 : ∀ w ∈ u_ws RX10 TX10 18, w ∈ wsX10_n := by decide +kernel
  have hf_7 : Cond.fieldLink RX10 7 "MeetingRanksModel" "st" "[I" ∈ wsX10_n := by decide +kernel
  have hn1 := hV.1
  have hn10 := hV.2.1
  have hm120 := hV.2.2.1
  have hx40 := hV.2.2.2.2.1
  have hk4 := hV.2.2.2.2.2.2.1
  refine lv_aload_n hx hb dX10_n_0 rfl (lv_at hl 0 rfl) ?_
  refine k_get (ci := 10) (v := .ref (q10 1)) (C := RX10) (Tb := TX10) (N := 18) hx hb hts hu_10 hown hKW hP 0 rfl rfl 0 (by decide) hf_7 rfl rfl dX10_n_1 ?_
  refine lv_iconst (v := nI 0) hx hb dX10_n_4 (by decide) ?_
  refine k_iald (n := 600) (i := 0) hx hb hKW hP 1 0 rfl rfl (by omega) (by omega) dX10_n_5 ?_
  refine k_top (y := nI n) (hR.1) ?_
  subst hQ; subst hAe
  exact W.iret (v := nI n) hx hb hr (fun t ht _ => ⟨⟨nI n, (), rfl, rfl, by rw [ht]; exact hP, hD⟩, hS.F ht⟩) hS.2.2 dX10_n_6
def rmX10_isPlayer : Room := { frames := 1, cells := 0, slots := 0, locals := 20 }
set_option maxHeartbeats 4000000 in
set_option maxRecDepth 100000 in
theorem c_X10_isPlayer (l : Launch) (D : va_G) (cI cJ cB : ClassId) (q10 : Nat → Nat) (st_10 : Nat → Int32) (kept_10 : Nat → Int32) (undoable_10 : Int32) (newest_10 : Int32) (tape_10 : Nat → Int32) (taped_10 : Int32) (marks_10 : Nat → Int32) (order_10 : Nat → Int32) (reach_10 : Nat → Int32) (heapOf_10 : Nat → Int32) (rows_10 : Nat → Int64) (x_10 : Nat → Int64) (overs_10 : Nat → Int32) (costs_10 : Nat → Int32) (ways_10 : Nat → Int32) (digits_10 : Nat → Int32) (beaten_10 : Nat → Int32) (walks_10 : Nat → Int32) (n : Nat) (ml : List Mt) (nx : List (Nat × Nat)) (ks : List Nat) (rr : Int32 × Int32 × Int32) (x : Int32) (hR : RS st_10 n ml nx ks rr) (hV : VS n ml nx ks) : ∀ sz, Met l yX10_isPlayer wsX10_isPlayer rmX10_isPlayer (va_Pc [.ref (q10 0), .int x] (PW D (kT cI cJ cB) sz (wX10 q10 cI cJ cB st_10 kept_10 undoable_10 newest_10 tape_10 taped_10 marks_10 order_10 reach_10 heapOf_10 rows_10 x_10 overs_10 costs_10 ways_10 digits_10 beaten_10 walks_10))) (va_Qi (S := Unit) (fun r _ => r = if kIn x n then 1 else 0) (QW D sz (wX10 q10 cI cJ cB st_10 kept_10 undoable_10 newest_10 tape_10 taped_10 marks_10 order_10 reach_10 heapOf_10 rows_10 x_10 overs_10 costs_10 ways_10 digits_10 beaten_10 walks_10) (fun _ => (wX10 q10 cI cJ cB st_10 kept_10 undoable_10 newest_10 tape_10 taped_10 marks_10 order_10 reach_10 heapOf_10 rows_10 x_10 overs_10 costs_10 ways_10 digits_10 beaten_10 walks_10))) (va_A (wX10 q10 cI cJ cB st_10 kept_10 undoable_10 newest_10 tape_10 taped_10 marks_10 order_10 reach_10 heapOf_10 rows_10 x_10 overs_10 costs_10 ways_10 digits_10 beaten_10 walks_10) sz)) 0 0 (va_A (wX10 q10 cI cJ cB st_10 kept_10 undoable_10 newest_10 tape_10 taped_10 marks_10 order_10 reach_10 heapOf_10 rows_10 x_10 overs_10 costs_10 ways_10 digits_10 beaten_10 walks_10) sz) := by
  intro sz
  refine Met.ofW (cc := cX10_isPlayer) (maxL := 2) (ret := (some .boolean)) (by decide) rfl ?_
  intro p e s m args below meth c s₁ B hml hv
  obtain ⟨hav, hsz, hP, hKW, hD0⟩ := hv
  have hx := B.exec
  have hb := B.bytes
  have hr := B.returns
  have hts := atoms_spec (ws := wsX10_isPlayer) B.pre
  have hown : s.vm.findClass RX10 = some m.cls := findClass_of_methodNamed B.named
  have hlocks := B.notSynchronized
  subst hsz
  have hD := hD0.self (sz := s.heap.size)
  obtain ⟨A, hAe⟩ : ∃ A : Nat → Prop, A = va_A (wX10 q10 cI cJ cB st_10 kept_10 undoable_10 newest_10 tape_10 taped_10 marks_10 order_10 reach_10 heapOf_10 rows_10 x_10 overs_10 costs_10 ways_10 digits_10 beaten_10 walks_10) s.heap.size := ⟨_, rfl⟩
  rw [← hAe] at hD
  have hA : ∀ q : Nat, s.heap.size ≤ q → A q := fun q h => by rw [hAe]; exact Or.inr h
  have hS : va_S A s.heap s.heap [] := va_S.rf
  refine k_gen (fun Q hQ => ?_)
  have hl := lv_entry ([.ref (q10 0), .int x]) (n := 2) (Nat.le_of_ble_eq_true rfl)
  refine k_entry hav (lg_entry_eq ..) ?_
  generalize (lg_sl ([.ref (q10 0), .int x]) ++ List.replicate (2 - (lg_sl ([.ref (q10 0), .int x])).length) Slot.unset).toArray = ls at hl ⊢
  have hl : lv_has ls 2 [(0, .ref (q10 0)), (1, .int x)] := hl
  have hn1 := hV.1
  have hn10 := hV.2.1
  have hm120 := hV.2.2.1
  have hx40 := hV.2.2.2.2.1
  have hk4 := hV.2.2.2.2.2.2.1
  refine lv_iload_n hx hb dX10_isPlayer_0 rfl (lv_at hl 1 rfl) ?_
  refine lv_if_lt (tgt := 16) hx hb dX10_isPlayer_1 (by decide) (fun c_1 => ?_) (fun c_1 => ?_)
  · skip
    refine lv_iconst (v := nI 0) hx hb dX10_isPlayer_16 (by decide) ?_
    subst hQ; subst hAe
    exact W.zret (v := nI 0) (ty := .boolean) hx hb hr (by decide) (fun t ht _ => ⟨⟨nI 0, (), rfl, by first | exact k_if1 (kIn_of (by omega) c_1 c_9) | exact k_if0 (kIn_hi (by omega) c_9) | exact k_if0 (kIn_lo c_1), by rw [ht]; exact hP, hD⟩, hS.F ht⟩) hS.2.2 dX10_isPlayer_17
  · skip
    refine lv_iload_n hx hb dX10_isPlayer_4 rfl (lv_at hl 1 rfl) ?_
    refine lv_aload_n hx hb dX10_isPlayer_5 rfl (lv_at hl 0 rfl) ?_
    have hs_6 : kSplit (wX10 q10 cI cJ cB st_10 kept_10 undoable_10 newest_10 tape_10 taped_10 marks_10 order_10 reach_10 heapOf_10 rows_10 x_10 overs_10 costs_10 ways_10 digits_10 beaten_10 walks_10) (wX10 q10 cI cJ cB st_10 kept_10 undoable_10 newest_10 tape_10 taped_10 marks_10 order_10 reach_10 heapOf_10 rows_10 x_10 overs_10 costs_10 ways_10 digits_10 beaten_10 walks_10) ([] : va_W) [0, 1, 2, 3, 4, 5, 6, 7, 8, 9, 10, 11, 12, 13, 14, 15] [] := ⟨rfl, rfl, rfl, rfl, rfl, by decide⟩
    refine kc_i hP hD hS hA hs_6 (kV (As := []) (rest := [.int x]) hx hb hml hown hts hKW hP hD hs_6 (c_X10_n l D cI cJ cB q10 st_10 kept_10 undoable_10 newest_10 tape_10 taped_10 marks_10 order_10 reach_10 heapOf_10 rows_10 x_10 overs_10 costs_10 ways_10 digits_10 beaten_10 walks_10 n ml nx ks rr (by first | assumption | omega) (by first | assumption | omega)) (cwV 0 hts gX10_isPlayer_X10_n rfl rfl rfl (by decide +kernel) ⟨Nat.le_of_ble_eq_true rfl, Nat.le_of_ble_eq_true rfl⟩) 0 10 rfl rfl rfl rfl hl.1 rfl (Nat.le_of_ble_eq_true rfl) dX10_isPlayer_6 ⟨Nat.zero_le _, Nat.zero_le _⟩) (fun r_6 u_6 H locs hw_6 hP hD hS => ?_)
    have er_6 := hw_6
    subst er_6
    have hP : va_P D vwCl (wX10 q10 cI cJ cB st_10 kept_10 undoable_10 newest_10 tape_10 taped_10 marks_10 order_10 reach_10 heapOf_10 rows_10 x_10 overs_10 costs_10 ways_10 digits_10 beaten_10 walks_10) H := hP.sub (ws' := (wX10 q10 cI cJ cB st_10 kept_10 undoable_10 newest_10 tape_10 taped_10 marks_10 order_10 reach_10 heapOf_10 rows_10 x_10 overs_10 costs_10 ways_10 digits_10 beaten_10 walks_10)) [0, 1, 2, 3, 4, 5, 6, 7, 8, 9, 10, 11, 12, 13, 14, 15] rfl
    have hD : va_D A (wX10 q10 cI cJ cB st_10 kept_10 undoable_10 newest_10 tape_10 taped_10 marks_10 order_10 reach_10 heapOf_10 rows_10 x_10 overs_10 costs_10 ways_10 digits_10 beaten_10 walks_10) := hD.sub (ws' := (wX10 q10 cI cJ cB st_10 kept_10 undoable_10 newest_10 tape_10 taped_10 marks_10 order_10 reach_10 heapOf_10 rows_10 x_10 overs_10 costs_10 ways_10 digits_10 beaten_10 walks_10)) [0, 1, 2, 3, 4, 5, 6, 7, 8, 9, 10, 11, 12, 13, 14, 15] (by decide) rfl
    refine lv_icmp_ge (tgt := 16) hx hb dX10_isPlayer_9 (by decide) (fun c_9 => ?_) (fun c_9 => ?_)
    · skip
      refine lv_iconst (v := nI 0) hx hb dX10_isPlayer_16 (by decide) ?_
      subst hQ; subst hAe
      exact W.zret (v := nI 0) (ty := .boolean) hx hb hr (by decide) (fun t ht _ => ⟨⟨nI 0, (), rfl, by first | exact k_if1 (kIn_of (by omega) c_1 c_9) | exact k_if0 (kIn_hi (by omega) c_9) | exact k_if0 (kIn_lo c_1), by rw [ht]; exact hP, hD⟩, hS.F ht⟩) hS.2.2 dX10_isPlayer_17
    · skip
      refine lv_iconst (v := nI 1) hx hb dX10_isPlayer_12 (by decide) ?_
      refine lv_goto (tgt := 17) hx hb dX10_isPlayer_13 (by decide) ?_
      subst hQ; subst hAe
      exact W.zret (v := nI 1) (ty := .boolean) hx hb hr (by decide) (fun t ht _ => ⟨⟨nI 1, (), rfl, by first | exact k_if1 (kIn_of (by omega) c_1 c_9) | exact k_if0 (kIn_hi (by omega) c_9) | exact k_if0 (kIn_lo c_1), by rw [ht]; exact hP, hD⟩, hS.F ht⟩) hS.2.2 dX10_isPlayer_17
def rmX10_one : Room := { frames := 0, cells := 0, slots := 0, locals := 0 }
set_option maxHeartbeats 4000000 in
set_option maxRecDepth 100000 in
theorem c_X10_one (l : Launch) (D : va_G) (cI cJ cB : ClassId) (q10 : Nat → Nat) (st_10 : Nat → Int32) (kept_10 : Nat → Int32) (undoable_10 : Int32) (newest_10 : Int32) (tape_10 : Nat → Int32) (taped_10 : Int32) (marks_10 : Nat → Int32) (order_10 : Nat → Int32) (reach_10 : Nat → Int32) (heapOf_10 : Nat → Int32) (rows_10 : Nat → Int64) (x_10 : Nat → Int64) (overs_10 : Nat → Int32) (costs_10 : Nat → Int32) (ways_10 : Nat → Int32) (digits_10 : Nat → Int32) (beaten_10 : Nat → Int32) (walks_10 : Nat → Int32) (n : Nat) (ml : List Mt) (nx : List (Nat × Nat)) (ks : List Nat) (rr : Int32 × Int32 × Int32) (k : Nat) (hR : RS st_10 n ml nx ks rr) (hV : VS n ml nx ks) (hk : k < ml.length) : ∀ sz, Met l yX10_one wsX10_one rmX10_one (va_Pc [.ref (q10 0), .int (nI k)] (PW D (kT cI cJ cB) sz (wX10 q10 cI cJ cB st_10 kept_10 undoable_10 newest_10 tape_10 taped_10 marks_10 order_10 reach_10 heapOf_10 rows_10 x_10 overs_10 costs_10 ways_10 digits_10 beaten_10 walks_10))) (va_Qi (S := Unit) (fun r _ => r = nI ((mg ml k).1)) (QW D sz (wX10 q10 cI cJ cB st_10 kept_10 undoable_10 newest_10 tape_10 taped_10 marks_10 order_10 reach_10 heapOf_10 rows_10 x_10 overs_10 costs_10 ways_10 digits_10 beaten_10 walks_10) (fun _ => (wX10 q10 cI cJ cB st_10 kept_10 undoable_10 newest_10 tape_10 taped_10 marks_10 order_10 reach_10 heapOf_10 rows_10 x_10 overs_10 costs_10 ways_10 digits_10 beaten_10 walks_10))) (va_A (wX10 q10 cI cJ cB st_10 kept_10 undoable_10 newest_10 tape_10 taped_10 marks_10 order_10 reach_10 heapOf_10 rows_10 x_10 overs_10 costs_10 ways_10 digits_10 beaten_10 walks_10) sz)) 0 0 (va_A (wX10 q10 cI cJ cB st_10 kept_10 undoable_10 newest_10 tape_10 taped_10 marks_10 order_10 reach_10 heapOf_10 rows_10 x_10 overs_10 costs_10 ways_10 digits_10 beaten_10 walks_10) sz) := by
  intro sz
  refine Met.ofW (cc := cX10_one) (maxL := 2) (ret := (some .int)) (by decide) rfl ?_
  intro p e s m args below meth c s₁ B hml hv
  obtain ⟨hav, hsz, hP, hKW, hD0⟩ := hv
  have hx := B.exec
  have hb := B.bytes
  have hr := B.returns
  have hts := atoms_spec (ws := wsX10_one) B.pre
  have hown : s.vm.findClass RX10 = some m.cls := findClass_of_methodNamed B.named
  have hlocks := B.notSynchronized
  subst hsz
  have hD := hD0.self (sz := s.heap.size)
  obtain ⟨A, hAe⟩ : ∃ A : Nat → Prop, A = va_A (wX10 q10 cI cJ cB st_10 kept_10 undoable_10 newest_10 tape_10 taped_10 marks_10 order_10 reach_10 heapOf_10 rows_10 x_10 overs_10 costs_10 ways_10 digits_10 beaten_10 walks_10) s.heap.size := ⟨_, rfl⟩
  rw [← hAe] at hD
  have hA : ∀ q : Nat, s.heap.size ≤ q → A q := fun q h => by rw [hAe]; exact Or.inr h
  have hS : va_S A s.heap s.heap [] := va_S.rf
  refine k_gen (fun Q hQ => ?_)
  have hl := lv_entry ([.ref (q10 0), .int (nI k)]) (n := 2) (Nat.le_of_ble_eq_true rfl)
  refine k_entry hav (lg_entry_eq ..) ?_
  generalize (lg_sl ([.ref (q10 0), .int (nI k)]) ++ List.replicate (2 - (lg_sl ([.ref (q10 0), .int (nI k)])).length) Slot.unset).toArray = ls at hl ⊢
  have hl : lv_has ls 2 [(0, .ref (q10 0)), (1, .int (nI k))] := hl
  have hu_10 : ∀ w ∈ u_ws RX10 TX10 18, w ∈ wsX10_one := by decide +kernel
  have hf_7 : Cond.fieldLink RX10 7 "MeetingRanksModel" "st" "[I" ∈ wsX10_one := by decide +kernel
  have hn1 := hV.1
  have hn10 := hV.2.1
  have hm120 := hV.2.2.1
  have hx40 := hV.2.2.2.2.1
  have hk4 := hV.2.2.2.2.2.2.1
  refine lv_aload_n hx hb dX10_one_0 rfl (lv_at hl 0 rfl) ?_
  refine k_get (ci := 10) (v := .ref (q10 1)) (C := RX10) (Tb := TX10) (N := 18) hx hb hts hu_10 hown hKW hP 0 rfl rfl 0 (by decide) hf_7 rfl rfl dX10_one_1 ?_
  refine lv_bipush (v := nI 11) hx hb dX10_one_4 (by decide) ?_
  refine lv_iconst (v := nI 4) hx hb dX10_one_6 (by decide) ?_
  refine lv_iload_n hx hb dX10_one_7 rfl (lv_at hl 1 rfl) ?_
  refine k_imul hx hb dX10_one_8 ?_
  refine k_iadd hx hb dX10_one_9 ?_
  refine k_iald (n := 600) (i := 11 + (4 * k)) hx hb hKW hP 1 0 rfl rfl (by omega) (by omega) dX10_one_10 ?_
  refine k_top (y := nI ((mg ml k).1)) ((hR.2.2.2.2.2.2.2.2.1 k hk).1) ?_
  subst hQ; subst hAe
  exact W.iret (v := nI ((mg ml k).1)) hx hb hr (fun t ht _ => ⟨⟨nI ((mg ml k).1), (), rfl, rfl, by rw [ht]; exact hP, hD⟩, hS.F ht⟩) hS.2.2 dX10_one_11
def rmX10_two : Room := { frames := 0, cells := 0, slots := 0, locals := 0 }
set_option maxHeartbeats 4000000 in
set_option maxRecDepth 100000 in
theorem c_X10_two (l : Launch) (D : va_G) (cI cJ cB : ClassId) (q10 : Nat → Nat) (st_10 : Nat → Int32) (kept_10 : Nat → Int32) (undoable_10 : Int32) (newest_10 : Int32) (tape_10 : Nat → Int32) (taped_10 : Int32) (marks_10 : Nat → Int32) (order_10 : Nat → Int32) (reach_10 : Nat → Int32) (heapOf_10 : Nat → Int32) (rows_10 : Nat → Int64) (x_10 : Nat → Int64) (overs_10 : Nat → Int32) (costs_10 : Nat → Int32) (ways_10 : Nat → Int32) (digits_10 : Nat → Int32) (beaten_10 : Nat → Int32) (walks_10 : Nat → Int32) (n : Nat) (ml : List Mt) (nx : List (Nat × Nat)) (ks : List Nat) (rr : Int32 × Int32 × Int32) (k : Nat) (hR : RS st_10 n ml nx ks rr) (hV : VS n ml nx ks) (hk : k < ml.length) : ∀ sz, Met l yX10_two wsX10_two rmX10_two (va_Pc [.ref (q10 0), .int (nI k)] (PW D (kT cI cJ cB) sz (wX10 q10 cI cJ cB st_10 kept_10 undoable_10 newest_10 tape_10 taped_10 marks_10 order_10 reach_10 heapOf_10 rows_10 x_10 overs_10 costs_10 ways_10 digits_10 beaten_10 walks_10))) (va_Qi (S := Unit) (fun r _ => r = nI ((mg ml k).2.1)) (QW D sz (wX10 q10 cI cJ cB st_10 kept_10 undoable_10 newest_10 tape_10 taped_10 marks_10 order_10 reach_10 heapOf_10 rows_10 x_10 overs_10 costs_10 ways_10 digits_10 beaten_10 walks_10) (fun _ => (wX10 q10 cI cJ cB st_10 kept_10 undoable_10 newest_10 tape_10 taped_10 marks_10 order_10 reach_10 heapOf_10 rows_10 x_10 overs_10 costs_10 ways_10 digits_10 beaten_10 walks_10))) (va_A (wX10 q10 cI cJ cB st_10 kept_10 undoable_10 newest_10 tape_10 taped_10 marks_10 order_10 reach_10 heapOf_10 rows_10 x_10 overs_10 costs_10 ways_10 digits_10 beaten_10 walks_10) sz)) 0 0 (va_A (wX10 q10 cI cJ cB st_10 kept_10 undoable_10 newest_10 tape_10 taped_10 marks_10 order_10 reach_10 heapOf_10 rows_10 x_10 overs_10 costs_10 ways_10 digits_10 beaten_10 walks_10) sz) := by
  intro sz
  refine Met.ofW (cc := cX10_two) (maxL := 2) (ret := (some .int)) (by decide) rfl ?_
  intro p e s m args below meth c s₁ B hml hv
  obtain ⟨hav, hsz, hP, hKW, hD0⟩ := hv
  have hx := B.exec
  have hb := B.bytes
  have hr := B.returns
  have hts := atoms_spec (ws := wsX10_two) B.pre
  have hown : s.vm.findClass RX10 = some m.cls := findClass_of_methodNamed B.named
  have hlocks := B.notSynchronized
  subst hsz
  have hD := hD0.self (sz := s.heap.size)
  obtain ⟨A, hAe⟩ : ∃ A : Nat → Prop, A = va_A (wX10 q10 cI cJ cB st_10 kept_10 undoable_10 newest_10 tape_10 taped_10 marks_10 order_10 reach_10 heapOf_10 rows_10 x_10 overs_10 costs_10 ways_10 digits_10 beaten_10 walks_10) s.heap.size := ⟨_, rfl⟩
  rw [← hAe] at hD
  have hA : ∀ q : Nat, s.heap.size ≤ q → A q := fun q h => by rw [hAe]; exact Or.inr h
  have hS : va_S A s.heap s.heap [] := va_S.rf
  refine k_gen (fun Q hQ => ?_)
  have hl := lv_entry ([.ref (q10 0), .int (nI k)]) (n := 2) (Nat.le_of_ble_eq_true rfl)
  refine k_entry hav (lg_entry_eq ..) ?_
  generalize (lg_sl ([.ref (q10 0), .int (nI k)]) ++ List.replicate (2 - (lg_sl ([.ref (q10 0), .int (nI k)])).length) Slot.unset).toArray = ls at hl ⊢
  have hl : lv_has ls 2 [(0, .ref (q10 0)), (1, .int (nI k))] := hl
  have hu_10 : ∀ w ∈ u_ws RX10 TX10 18, w ∈ wsX10_two := by decide +kernel
  have hf_7 : Cond.fieldLink RX10 7 "MeetingRanksModel" "st" "[I" ∈ wsX10_two := by decide +kernel
  have hn1 := hV.1
  have hn10 := hV.2.1
  have hm120 := hV.2.2.1
  have hx40 := hV.2.2.2.2.1
  have hk4 := hV.2.2.2.2.2.2.1
  refine lv_aload_n hx hb dX10_two_0 rfl (lv_at hl 0 rfl) ?_
  refine k_get (ci := 10) (v := .ref (q10 1)) (C := RX10) (Tb := TX10) (N := 18) hx hb hts hu_10 hown hKW hP 0 rfl rfl 0 (by decide) hf_7 rfl rfl dX10_two_1 ?_
  refine lv_bipush (v := nI 11) hx hb dX10_two_4 (by decide) ?_
  refine lv_iconst (v := nI 4) hx hb dX10_two_6 (by decide) ?_
  refine lv_iload_n hx hb dX10_two_7 rfl (lv_at hl 1 rfl) ?_
  refine k_imul hx hb dX10_two_8 ?_
  refine k_iadd hx hb dX10_two_9 ?_
  refine lv_iconst (v := nI 1) hx hb dX10_two_10 (by decide) ?_
  refine k_iadd hx hb dX10_two_11 ?_
  refine k_iald (n := 600) (i := (11 + (4 * k)) + 1) hx hb hKW hP 1 0 rfl rfl (by omega) (by omega) dX10_two_12 ?_
  refine k_top (y := nI ((mg ml k).2.1)) ((hR.2.2.2.2.2.2.2.2.1 k hk).2.1) ?_
  subst hQ; subst hAe
  exact W.iret (v := nI ((mg ml k).2.1)) hx hb hr (fun t ht _ => ⟨⟨nI ((mg ml k).2.1), (), rfl, rfl, by rw [ht]; exact hP, hD⟩, hS.F ht⟩) hS.2.2 dX10_two_13
def rmX10_more : Room := { frames := 0, cells := 0, slots := 0, locals := 0 }
set_option maxHeartbeats 4000000 in
set_option maxRecDepth 100000 in
theorem c_X10_more (l : Launch) (D : va_G) (cI cJ cB : ClassId) (q10 : Nat → Nat) (st_10 : Nat → Int32) (kept_10 : Nat → Int32) (undoable_10 : Int32) (newest_10 : Int32) (tape_10 : Nat → Int32) (taped_10 : Int32) (marks_10 : Nat → Int32) (order_10 : Nat → Int32) (reach_10 : Nat → Int32) (heapOf_10 : Nat → Int32) (rows_10 : Nat → Int64) (x_10 : Nat → Int64) (overs_10 : Nat → Int32) (costs_10 : Nat → Int32) (ways_10 : Nat → Int32) (digits_10 : Nat → Int32) (beaten_10 : Nat → Int32) (walks_10 : Nat → Int32) (n : Nat) (ml : List Mt) (nx : List (Nat × Nat)) (ks : List Nat) (rr : Int32 × Int32 × Int32) (k : Nat) (hR : RS st_10 n ml nx ks rr) (hV : VS n ml nx ks) (hk : k < ml.length) : ∀ sz, Met l yX10_more wsX10_more rmX10_more (va_Pc [.ref (q10 0), .int (nI k)] (PW D (kT cI cJ cB) sz (wX10 q10 cI cJ cB st_10 kept_10 undoable_10 newest_10 tape_10 taped_10 marks_10 order_10 reach_10 heapOf_10 rows_10 x_10 overs_10 costs_10 ways_10 digits_10 beaten_10 walks_10))) (va_Qi (S := Unit) (fun r _ => r = nI (mg ml k).2.2.1 - nI (mg ml k).2.2.2) (QW D sz (wX10 q10 cI cJ cB st_10 kept_10 undoable_10 newest_10 tape_10 taped_10 marks_10 order_10 reach_10 heapOf_10 rows_10 x_10 overs_10 costs_10 ways_10 digits_10 beaten_10 walks_10) (fun _ => (wX10 q10 cI cJ cB st_10 kept_10 undoable_10 newest_10 tape_10 taped_10 marks_10 order_10 reach_10 heapOf_10 rows_10 x_10 overs_10 costs_10 ways_10 digits_10 beaten_10 walks_10))) (va_A (wX10 q10 cI cJ cB st_10 kept_10 undoable_10 newest_10 tape_10 taped_10 marks_10 order_10 reach_10 heapOf_10 rows_10 x_10 overs_10 costs_10 ways_10 digits_10 beaten_10 walks_10) sz)) 0 0 (va_A (wX10 q10 cI cJ cB st_10 kept_10 undoable_10 newest_10 tape_10 taped_10 marks_10 order_10 reach_10 heapOf_10 rows_10 x_10 overs_10 costs_10 ways_10 digits_10 beaten_10 walks_10) sz) := by
  intro sz
  refine Met.ofW (cc := cX10_more) (maxL := 2) (ret := (some .int)) (by decide) rfl ?_
  intro p e s m args below meth c s₁ B hml hv
  obtain ⟨hav, hsz, hP, hKW, hD0⟩ := hv
  have hx := B.exec
  have hb := B.bytes
  have hr := B.returns
  have hts := atoms_spec (ws := wsX10_more) B.pre
  have hown : s.vm.findClass RX10 = some m.cls := findClass_of_methodNamed B.named
  have hlocks := B.notSynchronized
  subst hsz
  have hD := hD0.self (sz := s.heap.size)
  obtain ⟨A, hAe⟩ : ∃ A : Nat → Prop, A = va_A (wX10 q10 cI cJ cB st_10 kept_10 undoable_10 newest_10 tape_10 taped_10 marks_10 order_10 reach_10 heapOf_10 rows_10 x_10 overs_10 costs_10 ways_10 digits_10 beaten_10 walks_10) s.heap.size := ⟨_, rfl⟩
  rw [← hAe] at hD
  have hA : ∀ q : Nat, s.heap.size ≤ q → A q := fun q h => by rw [hAe]; exact Or.inr h
  have hS : va_S A s.heap s.heap [] := va_S.rf
  refine k_gen (fun Q hQ => ?_)
  have hl := lv_entry ([.ref (q10 0), .int (nI k)]) (n := 2) (Nat.le_of_ble_eq_true rfl)
  refine k_entry hav (lg_entry_eq ..) ?_
  generalize (lg_sl ([.ref (q10 0), .int (nI k)]) ++ List.replicate (2 - (lg_sl ([.ref (q10 0), .int (nI k)])).length) Slot.unset).toArray = ls at hl ⊢
  have hl : lv_has ls 2 [(0, .ref (q10 0)), (1, .int (nI k))] := hl
  have hu_10 : ∀ w ∈ u_ws RX10 TX10 18, w ∈ wsX10_more := by decide +kernel
  have hf_7 : Cond.fieldLink RX10 7 "MeetingRanksModel" "st" "[I" ∈ wsX10_more := by decide +kernel
  have hn1 := hV.1
  have hn10 := hV.2.1
  have hm120 := hV.2.2.1
  have hx40 := hV.2.2.2.2.1
  have hk4 := hV.2.2.2.2.2.2.1
  refine lv_aload_n hx hb dX10_more_0 rfl (lv_at hl 0 rfl) ?_
  refine k_get (ci := 10) (v := .ref (q10 1)) (C := RX10) (Tb := TX10) (N := 18) hx hb hts hu_10 hown hKW hP 0 rfl rfl 0 (by decide) hf_7 rfl rfl dX10_more_1 ?_
  refine lv_bipush (v := nI 11) hx hb dX10_more_4 (by decide) ?_
  refine lv_iconst (v := nI 4) hx hb dX10_more_6 (by decide) ?_
  refine lv_iload_n hx hb dX10_more_7 rfl (lv_at hl 1 rfl) ?_
  refine k_imul hx hb dX10_more_8 ?_
  refine k_iadd hx hb dX10_more_9 ?_
  refine lv_iconst (v := nI 2) hx hb dX10_more_10 (by decide) ?_
  refine k_iadd hx hb dX10_more_11 ?_
  refine k_iald (n := 600) (i := (11 + (4 * k)) + 2) hx hb hKW hP 1 0 rfl rfl (by omega) (by omega) dX10_more_12 ?_
  refine k_top (y := nI ((mg ml k).2.2.1)) ((hR.2.2.2.2.2.2.2.2.1 k hk).2.2.1) ?_
  refine lv_aload_n hx hb dX10_more_13 rfl (lv_at hl 0 rfl) ?_
  refine k_get (ci := 10) (v := .ref (q10 1)) (C := RX10) (Tb := TX10) (N := 18) hx hb hts hu_10 hown hKW hP 0 rfl rfl 0 (by decide) hf_7 rfl rfl dX10_more_14 ?_
  refine lv_bipush (v := nI 11) hx hb dX10_more_17 (by decide) ?_
  refine lv_iconst (v := nI 4) hx hb dX10_more_19 (by decide) ?_
  refine lv_iload_n hx hb dX10_more_20 rfl (lv_at hl 1 rfl) ?_
  refine k_imul hx hb dX10_more_21 ?_
  refine k_iadd hx hb dX10_more_22 ?_
  refine lv_iconst (v := nI 3) hx hb dX10_more_23 (by decide) ?_
  refine k_iadd hx hb dX10_more_24 ?_
  refine k_iald (n := 600) (i := (11 + (4 * k)) + 3) hx hb hKW hP 1 0 rfl rfl (by omega) (by omega) dX10_more_25 ?_
  refine k_top (y := nI ((mg ml k).2.2.2)) ((hR.2.2.2.2.2.2.2.2.1 k hk).2.2.2) ?_
  refine lv_isub hx hb dX10_more_26 ?_
  subst hQ; subst hAe
  exact W.iret (v := (nI ((mg ml k).2.2.1)) - (nI ((mg ml k).2.2.2))) hx hb hr (fun t ht _ => ⟨⟨(nI ((mg ml k).2.2.1)) - (nI ((mg ml k).2.2.2)), (), rfl, rfl, by rw [ht]; exact hP, hD⟩, hS.F ht⟩) hS.2.2 dX10_more_27
def rmX10_act : Room := { frames := 0, cells := 0, slots := 0, locals := 0 }
set_option maxHeartbeats 4000000 in
set_option maxRecDepth 100000 in
theorem c_X10_act (l : Launch) (D : va_G) (cI cJ cB : ClassId) (q10 : Nat → Nat) (st_10 : Nat → Int32) (kept_10 : Nat → Int32) (tape_10 : Nat → Int32) (taped_10 : Int32) (marks_10 : Nat → Int32) (order_10 : Nat → Int32) (reach_10 : Nat → Int32) (heapOf_10 : Nat → Int32) (rows_10 : Nat → Int64) (x_10 : Nat → Int64) (overs_10 : Nat → Int32) (costs_10 : Nat → Int32) (ways_10 : Nat → Int32) (digits_10 : Nat → Int32) (beaten_10 : Nat → Int32) (walks_10 : Nat → Int32) (w : Nat) (u : Nat) (hw40 : w < 40) (hu40 : u ≤ 40) : ∀ sz, Met l yX10_act wsX10_act rmX10_act (va_Pc [.ref (q10 0)] (PW D (kT cI cJ cB) sz (wX10 q10 cI cJ cB st_10 kept_10 (nI u) (nI w) tape_10 taped_10 marks_10 order_10 reach_10 heapOf_10 rows_10 x_10 overs_10 costs_10 ways_10 digits_10 beaten_10 walks_10))) (va_Qv (S := (Nat → Int32) × Int32 × Int32) (fun uu => match uu with | (kept_10', undoable_10', newest_10') => kept_10' = fb_put kept_10 st_10 (600 * ((w + 1) % 40)) 600 ∧ undoable_10' = nI (if u < 40 then u + 1 else u) ∧ newest_10' = nI ((w + 1) % 40)) (QW D sz (wX10 q10 cI cJ cB st_10 kept_10 (nI u) (nI w) tape_10 taped_10 marks_10 order_10 reach_10 heapOf_10 rows_10 x_10 overs_10 costs_10 ways_10 digits_10 beaten_10 walks_10) (fun uu => match uu with | (kept_10', undoable_10', newest_10') => (wX10 q10 cI cJ cB st_10 kept_10' undoable_10' newest_10' tape_10 taped_10 marks_10 order_10 reach_10 heapOf_10 rows_10 x_10 overs_10 costs_10 ways_10 digits_10 beaten_10 walks_10))) (va_A (wX10 q10 cI cJ cB st_10 kept_10 (nI u) (nI w) tape_10 taped_10 marks_10 order_10 reach_10 heapOf_10 rows_10 x_10 overs_10 costs_10 ways_10 digits_10 beaten_10 walks_10) sz)) 0 0 (va_A (wX10 q10 cI cJ cB st_10 kept_10 (nI u) (nI w) tape_10 taped_10 marks_10 order_10 reach_10 heapOf_10 rows_10 x_10 overs_10 costs_10 ways_10 digits_10 beaten_10 walks_10) sz) := by
  intro sz
  refine Met.ofW (cc := cX10_act) (maxL := 2) (ret := none) (by decide) rfl ?_
  intro p e s m args below meth c s₁ B hml hv
  obtain ⟨hav, hsz, hP, hKW, hD0⟩ := hv
  have hx := B.exec
  have hb := B.bytes
  have hr := B.returns
  have hts := atoms_spec (ws := wsX10_act) B.pre
  have hown : s.vm.findClass RX10 = some m.cls := findClass_of_methodNamed B.named
  have hlocks := B.notSynchronized
  subst hsz
  have hD := hD0.self (sz := s.heap.size)
  obtain ⟨A, hAe⟩ : ∃ A : Nat → Prop, A = va_A (wX10 q10 cI cJ cB st_10 kept_10 (nI u) (nI w) tape_10 taped_10 marks_10 order_10 reach_10 heapOf_10 rows_10 x_10 overs_10 costs_10 ways_10 digits_10 beaten_10 walks_10) s.heap.size := ⟨_, rfl⟩
  rw [← hAe] at hD
  have hA : ∀ q : Nat, s.heap.size ≤ q → A q := fun q h => by rw [hAe]; exact Or.inr h
  have hS : va_S A s.heap s.heap [] := va_S.rf
  refine k_gen (fun Q hQ => ?_)
  have hl := lv_entry ([.ref (q10 0)]) (n := 2) (Nat.le_of_ble_eq_true rfl)
  refine k_entry hav (lg_entry_eq ..) ?_
  generalize (lg_sl ([.ref (q10 0)]) ++ List.replicate (2 - (lg_sl ([.ref (q10 0)])).length) Slot.unset).toArray = ls at hl ⊢
  have hl : lv_has ls 2 [(0, .ref (q10 0))] := hl
  have hu_10 : ∀ w ∈ u_ws RX10 TX10 18, w ∈ wsX10_act := by decide +kernel
  have hf_7 : Cond.fieldLink RX10 7 "MeetingRanksModel" "st" "[I" ∈ wsX10_act := by decide +kernel
  have hf_13 : Cond.fieldLink RX10 13 "MeetingRanksModel" "kept" "[I" ∈ wsX10_act := by decide +kernel
  have hf_60 : Cond.fieldLink RX10 60 "MeetingRanksModel" "newest" "I" ∈ wsX10_act := by decide +kernel
  have hf_64 : Cond.fieldLink RX10 64 "MeetingRanksModel" "undoable" "I" ∈ wsX10_act := by decide +kernel
  refine lv_aload_n hx hb dX10_act_0 rfl (lv_at hl 0 rfl) ?_
  refine lv_aload_n hx hb dX10_act_1 rfl (lv_at hl 0 rfl) ?_
  refine k_get (ci := 10) (v := .int (nI w)) (C := RX10) (Tb := TX10) (N := 18) hx hb hts hu_10 hown hKW hP 0 rfl rfl 3 (by decide) hf_60 rfl rfl dX10_act_2 ?_
  refine lv_iconst (v := nI 1) hx hb dX10_act_5 (by decide) ?_
  refine k_iadd hx hb dX10_act_6 ?_
  refine lv_bipush (v := nI 40) hx hb dX10_act_7 (by decide) ?_
  refine lv_irem hx hb dX10_act_9 (by decide) ?_
  refine k_top (y := nI ((w + 1) % 40)) (pk_rem (by omega) (by decide) (by decide)) ?_
  refine k_put (ci := 10) (ty := .int) (v := .int (nI ((w + 1) % 40))) (C := RX10) (Tb := TX10) (N := 18) (w' := (wX10 q10 cI cJ cB st_10 kept_10 (nI u) (nI ((w + 1) % 40)) tape_10 taped_10 marks_10 order_10 reach_10 heapOf_10 rows_10 x_10 overs_10 costs_10 ways_10 digits_10 beaten_10 walks_10)) hx hb hts hu_10 tyX10 tyX10_ok nmX10 hown hKW hP hD hS 0 rfl rfl 3 (by decide) hf_60 rfl rfl (by decide +kernel) rfl rfl (Nat.le_of_ble_eq_true rfl) dX10_act_10 rfl (fun H locs hP hD hS => ?_)
  refine lv_iconst (v := nI 0) hx hb dX10_act_13 (by decide) ?_
  refine lv_istore_n (lv' := [(1, .int (nI 0)), (0, .ref (q10 0))]) hx hb dX10_act_14 rfl hl (by decide) rfl (fun ls hl => ?_)
  have hL_15 : ∀ (fu : Nat) (k : Nat) (hk : k ≤ 600), 600 - k < fu → ∀ (H : Heap) (locs : List Loc), va_P D vwCl (wX10 q10 cI cJ cB st_10 (fb_put kept_10 st_10 (600 * ((w + 1) % 40)) k) (nI u) (nI ((w + 1) % 40)) tape_10 taped_10 marks_10 order_10 reach_10 heapOf_10 rows_10 x_10 overs_10 costs_10 ways_10 digits_10 beaten_10 walks_10) H → va_D A (wX10 q10 cI cJ cB st_10 (fb_put kept_10 st_10 (600 * ((w + 1) % 40)) k) (nI u) (nI ((w + 1) % 40)) tape_10 taped_10 marks_10 order_10 reach_10 heapOf_10 rows_10 x_10 overs_10 costs_10 ways_10 digits_10 beaten_10 walks_10) → va_S A s.heap H locs → ∀ (ls : Array Slot), lv_has ls 2 [(0, .ref (q10 0)), (1, .int (nI k))] → W p l e (headSpec wsX10_act rmX10_act).room s m args below meth c H locs 0 0 Q (F0 m 15 ls []) := by
    intro fu
    induction fu with
    | zero => intro k hk hfu; exact absurd hfu (Nat.not_lt_zero _)
    | succ fu ih_15 =>
      intro k hk hfu H locs hP hD hS ls hl
      refine lv_iload_n hx hb dX10_act_15 rfl (lv_at hl 1 rfl) ?_
      refine lv_sipush (v := nI 600) hx hb dX10_act_16 (by decide) ?_
      refine lv_icmp_ge (tgt := 49) hx hb dX10_act_19 (by decide) (fun c_19 => ?_) (fun c_19 => ?_)
      · skip
        have c_19 := k_ge (by omega) (by omega) c_19
        obtain rfl : k = 600 := by omega
        refine lv_aload_n hx hb dX10_act_49 rfl (lv_at hl 0 rfl) ?_
        refine k_get (ci := 10) (v := .int (nI u)) (C := RX10) (Tb := TX10) (N := 18) hx hb hts hu_10 hown hKW hP 0 rfl rfl 2 (by decide) hf_64 rfl rfl dX10_act_50 ?_
        refine lv_bipush (v := nI 40) hx hb dX10_act_53 (by decide) ?_
        refine lv_icmp_ge (tgt := 68) hx hb dX10_act_55 (by decide) (fun c_55 => ?_) (fun c_55 => ?_)
        · skip
          have c_55 := k_ge (by omega) (by omega) c_55
          subst hQ; subst hAe
          exact W.vret hx hb hr (fun t ht _ => ⟨⟨(fb_put kept_10 st_10 (600 * ((w + 1) % 40)) 600, nI u, nI ((w + 1) % 40)), rfl, by first | exact ⟨rfl, rfl, by rw [if_pos (by omega)]⟩ | exact ⟨rfl, rfl, by rw [if_neg (by omega)]⟩ | exact ⟨rfl, by rw [if_pos (by omega)], rfl⟩ | exact ⟨rfl, by rw [if_neg (by omega)], rfl⟩ | exact ⟨by first | rfl | rw [if_pos (by omega)] | rw [if_neg (by omega)], by first | rfl | rw [if_pos (by omega)] | rw [if_neg (by omega)], by first | rfl | rw [if_pos (by omega)] | rw [if_neg (by omega)]⟩, by rw [ht]; exact hP, hD⟩, hS.F ht⟩) hS.2.2 dX10_act_68
        · skip
          have c_55 := k_ge_n (by omega) (by omega) c_55
          refine lv_aload_n hx hb dX10_act_58 rfl (lv_at hl 0 rfl) ?_
          refine lv_dup hx hb dX10_act_59 rfl ?_
          refine k_get (ci := 10) (v := .int (nI u)) (C := RX10) (Tb := TX10) (N := 18) hx hb hts hu_10 hown hKW hP 0 rfl rfl 2 (by decide) hf_64 rfl rfl dX10_act_60 ?_
          refine lv_iconst (v := nI 1) hx hb dX10_act_63 (by decide) ?_
          refine k_iadd hx hb dX10_act_64 ?_
          refine k_put (ci := 10) (ty := .int) (v := .int (nI (u + 1))) (C := RX10) (Tb := TX10) (N := 18) (w' := (wX10 q10 cI cJ cB st_10 (fb_put kept_10 st_10 (600 * ((w + 1) % 40)) 600) (nI (u + 1)) (nI ((w + 1) % 40)) tape_10 taped_10 marks_10 order_10 reach_10 heapOf_10 rows_10 x_10 overs_10 costs_10 ways_10 digits_10 beaten_10 walks_10)) hx hb hts hu_10 tyX10 tyX10_ok nmX10 hown hKW hP hD hS 0 rfl rfl 2 (by decide) hf_64 rfl rfl (by decide +kernel) rfl rfl (Nat.le_of_ble_eq_true rfl) dX10_act_65 rfl (fun H locs hP hD hS => ?_)
          subst hQ; subst hAe
          exact W.vret hx hb hr (fun t ht _ => ⟨⟨(fb_put kept_10 st_10 (600 * ((w + 1) % 40)) 600, nI (u + 1), nI ((w + 1) % 40)), rfl, by first | exact ⟨rfl, rfl, by rw [if_pos (by omega)]⟩ | exact ⟨rfl, rfl, by rw [if_neg (by omega)]⟩ | exact ⟨rfl, by rw [if_pos (by omega)], rfl⟩ | exact ⟨rfl, by rw [if_neg (by omega)], rfl⟩ | exact ⟨by first | rfl | rw [if_pos (by omega)] | rw [if_neg (by omega)], by first | rfl | rw [if_pos (by omega)] | rw [if_neg (by omega)], by first | rfl | rw [if_pos (by omega)] | rw [if_neg (by omega)]⟩, by rw [ht]; exact hP, hD⟩, hS.F ht⟩) hS.2.2 dX10_act_68
      · skip
        have c_19 := k_ge_n (by omega) (by omega) c_19
        refine lv_aload_n hx hb dX10_act_22 rfl (lv_at hl 0 rfl) ?_
        refine k_get (ci := 10) (v := .ref (q10 2)) (C := RX10) (Tb := TX10) (N := 18) hx hb hts hu_10 hown hKW hP 0 rfl rfl 1 (by decide) hf_13 rfl rfl dX10_act_23 ?_
        refine lv_sipush (v := nI 600) hx hb dX10_act_26 (by decide) ?_
        refine lv_aload_n hx hb dX10_act_29 rfl (lv_at hl 0 rfl) ?_
        refine k_get (ci := 10) (v := .int (nI ((w + 1) % 40))) (C := RX10) (Tb := TX10) (N := 18) hx hb hts hu_10 hown hKW hP 0 rfl rfl 3 (by decide) hf_60 rfl rfl dX10_act_30 ?_
        refine k_imul hx hb dX10_act_33 ?_
        refine lv_iload_n hx hb dX10_act_34 rfl (lv_at hl 1 rfl) ?_
        refine k_iadd hx hb dX10_act_35 ?_
        refine lv_aload_n hx hb dX10_act_36 rfl (lv_at hl 0 rfl) ?_
        refine k_get (ci := 10) (v := .ref (q10 1)) (C := RX10) (Tb := TX10) (N := 18) hx hb hts hu_10 hown hKW hP 0 rfl rfl 0 (by decide) hf_7 rfl rfl dX10_act_37 ?_
        refine lv_iload_n hx hb dX10_act_40 rfl (lv_at hl 1 rfl) ?_
        refine k_iald (n := 600) (i := k) hx hb hKW hP 1 0 rfl rfl (by omega) (by omega) dX10_act_41 ?_
        refine k_iast (n := 24000) (i := (600 * ((w + 1) % 40)) + k) (x := st_10 k) (w' := (wX10 q10 cI cJ cB st_10 (upd (fb_put kept_10 st_10 (600 * ((w + 1) % 40)) k) ((600 * ((w + 1) % 40)) + k) (st_10 k)) (nI u) (nI ((w + 1) % 40)) tape_10 taped_10 marks_10 order_10 reach_10 heapOf_10 rows_10 x_10 overs_10 costs_10 ways_10 digits_10 beaten_10 walks_10)) hx hb hKW hP hD hS 2 0 rfl rfl (by omega) (by omega) dX10_act_42 rfl (fun H locs hP hD hS => ?_)
        refine lv_iinc (v := nI (k + 1)) (lv' := [(1, .int (nI (k + 1))), (0, .ref (q10 0))]) hx hb dX10_act_43 hl (k := 1) rfl (nI_add _ _) (by decide) rfl (fun ls hl => ?_)
        refine lv_goto (tgt := 15) hx hb dX10_act_46 (by decide) ?_
        rw [fb_put_succ] at hP hD
        exact ih_15 _ (by omega) (by omega) _ _ hP hD hS ls (lv_sub hl [1, 0] rfl)
  rw [← fb_put_0 kept_10 st_10 (600 * ((w + 1) % 40))] at hP hD
  exact hL_15 _ 0 (by omega) (Nat.lt_succ_self _) _ _ hP hD hS ls (lv_sub hl [1, 0] rfl)
