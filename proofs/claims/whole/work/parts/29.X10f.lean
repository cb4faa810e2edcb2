def rmX10_four : Room := { frames := 0, cells := 0, slots := 0, locals := 0 }
set_option maxHeartbeats 4000000 in
set_option maxRecDepth 100000 in
theorem c_X10_four (l : Launch) (D : va_G) (cI cJ cB : ClassId) (q10 : Nat → Nat) (st_10 : Nat → Int32) (kept_10 : Nat → Int32) (undoable_10 : Int32) (newest_10 : Int32) (tape_10 : Nat → Int32) (marks_10 : Nat → Int32) (order_10 : Nat → Int32) (reach_10 : Nat → Int32) (heapOf_10 : Nat → Int32) (rows_10 : Nat → Int64) (x_10 : Nat → Int64) (overs_10 : Nat → Int32) (costs_10 : Nat → Int32) (ways_10 : Nat → Int32) (digits_10 : Nat → Int32) (beaten_10 : Nat → Int32) (walks_10 : Nat → Int32) (z : Nat) (x : Int32) (hz : z + 4 ≤ 480) : ∀ sz, Met l yX10_four wsX10_four rmX10_four (va_Pc [.ref (q10 0), .int x] (PW D (kT cI cJ cB) sz (wX10 q10 cI cJ cB st_10 kept_10 undoable_10 newest_10 tape_10 (nI z) marks_10 order_10 reach_10 heapOf_10 rows_10 x_10 overs_10 costs_10 ways_10 digits_10 beaten_10 walks_10))) (va_Qv (S := Unit) (fun _ => True) (QW D sz (wX10 q10 cI cJ cB st_10 kept_10 undoable_10 newest_10 tape_10 (nI z) marks_10 order_10 reach_10 heapOf_10 rows_10 x_10 overs_10 costs_10 ways_10 digits_10 beaten_10 walks_10) (fun _ => (wX10 q10 cI cJ cB st_10 kept_10 undoable_10 newest_10 (tp4 tape_10 z x) (nI (z + 1 + 1 + 1 + 1)) marks_10 order_10 reach_10 heapOf_10 rows_10 x_10 overs_10 costs_10 ways_10 digits_10 beaten_10 walks_10))) (va_A (wX10 q10 cI cJ cB st_10 kept_10 undoable_10 newest_10 tape_10 (nI z) marks_10 order_10 reach_10 heapOf_10 rows_10 x_10 overs_10 costs_10 ways_10 digits_10 beaten_10 walks_10) sz)) 0 0 (va_A (wX10 q10 cI cJ cB st_10 kept_10 undoable_10 newest_10 tape_10 (nI z) marks_10 order_10 reach_10 heapOf_10 rows_10 x_10 overs_10 costs_10 ways_10 digits_10 beaten_10 walks_10) sz) := by
  intro sz
  refine Met.ofW (cc := cX10_four) (maxL := 3) (ret := none) (by decide) rfl ?_
  intro p e s m args below meth c s₁ B hml hv
  obtain ⟨hav, hsz, hP, hKW, hD0⟩ := hv
  have hx := B.exec
  have hb := B.bytes
  have hr := B.returns
  have hts := atoms_spec (ws := wsX10_four) B.pre
  have hown : s.vm.findClass RX10 = some m.cls := findClass_of_methodNamed B.named
  have hlocks := B.notSynchronized
  subst hsz
  have hD := hD0.self (sz := s.heap.size)
  obtain ⟨A, hAe⟩ : ∃ A : Nat → Prop, A = va_A (wX10 q10 cI cJ cB st_10 kept_10 undoable_10 newest_10 tape_10 (nI z) marks_10 order_10 reach_10 heapOf_10 rows_10 x_10 overs_10 costs_10 ways_10 digits_10 beaten_10 walks_10) s.heap.size := ⟨_, rfl⟩
  rw [← hAe] at hD
  have hA : ∀ q : Nat, s.heap.size ≤ q → A q := fun q h => by rw [hAe]; exact Or.inr h
  have hS : va_S A s.heap s.heap [] := va_S.rf
  refine k_gen (fun Q hQ => ?_)
  have hl := lv_entry ([.ref (q10 0), .int x]) (n := 3) (Nat.le_of_ble_eq_true rfl)
  refine k_entry hav (lg_entry_eq ..) ?_
  generalize (lg_sl ([.ref (q10 0), .int x]) ++ List.replicate (3 - (lg_sl ([.ref (q10 0), .int x])).length) Slot.unset).toArray = ls at hl ⊢
  have hl : lv_has ls 3 [(0, .ref (q10 0)), (1, .int x)] := hl
  have hu_10 : ∀ w ∈ u_ws RX10 TX10 18, w ∈ wsX10_four := by decide +kernel
  have hf_16 : Cond.fieldLink RX10 16 "MeetingRanksModel" "tape" "[I" ∈ wsX10_four := by decide +kernel
  have hf_82 : Cond.fieldLink RX10 82 "MeetingRanksModel" "taped" "I" ∈ wsX10_four := by decide +kernel
  refine lv_bipush (v := nI 24) hx hb dX10_four_0 (by decide) ?_
  refine lv_istore_n (lv' := [(2, .int (nI 24)), (0, .ref (q10 0)), (1, .int x)]) hx hb dX10_four_2 rfl hl (by decide) rfl (fun ls hl => ?_)
  refine lv_iload_n hx hb dX10_four_3 rfl (lv_at hl 0 rfl) ?_
  refine lv_if_lt (tgt := 39) hx hb dX10_four_4 (by decide) (fun c_4 => ?_) (fun c_4 => ?_)
  · skip
    exact (k0_lt (by omega) c_4).elim
  · skip
    have c_4 := k0_lt_n (by omega) c_4
    refine lv_aload_n hx hb dX10_four_7 rfl (lv_at hl 1 rfl) ?_
    refine k_get (ci := 10) (v := .ref (q10 3)) (C := RX10) (Tb := TX10) (N := 18) hx hb hts hu_10 hown hKW hP 0 rfl rfl 4 (by decide) hf_16 rfl rfl dX10_four_8 ?_
    refine lv_aload_n hx hb dX10_four_11 rfl (lv_at hl 1 rfl) ?_
    refine k_get (ci := 10) (v := .int (nI z)) (C := RX10) (Tb := TX10) (N := 18) hx hb hts hu_10 hown hKW hP 0 rfl rfl 5 (by decide) hf_82 rfl rfl dX10_four_12 ?_
    refine lv_iload_n hx hb dX10_four_15 rfl (lv_at hl 2 rfl) ?_
    refine lv_iload_n hx hb dX10_four_16 rfl (lv_at hl 0 rfl) ?_
    refine lv_ishr hx hb dX10_four_17 ?_
    refine lv_sipush (v := nI 255) hx hb dX10_four_18 (by decide) ?_
    refine lv_iand hx hb dX10_four_21 ?_
    refine k_iast (n := 480) (i := z) (x := (x >>> ((nI 24) &&& 31)) &&& (nI 255)) (w' := (wX10 q10 cI cJ cB st_10 kept_10 undoable_10 newest_10 (upd tape_10 z ((x >>> ((nI 24) &&& 31)) &&& (nI 255))) (nI z) marks_10 order_10 reach_10 heapOf_10 rows_10 x_10 overs_10 costs_10 ways_10 digits_10 beaten_10 walks_10)) hx hb hKW hP hD hS 3 0 rfl rfl (by omega) (by omega) dX10_four_22 rfl (fun H locs hP hD hS => ?_)
    refine lv_aload_n hx hb dX10_four_23 rfl (lv_at hl 1 rfl) ?_
    refine lv_dup hx hb dX10_four_24 rfl ?_
    refine k_get (ci := 10) (v := .int (nI z)) (C := RX10) (Tb := TX10) (N := 18) hx hb hts hu_10 hown hKW hP 0 rfl rfl 5 (by decide) hf_82 rfl rfl dX10_four_25 ?_
    refine lv_iconst (v := nI 1) hx hb dX10_four_28 (by decide) ?_
    refine k_iadd hx hb dX10_four_29 ?_
    refine k_put (ci := 10) (ty := .int) (v := .int (nI (z + 1))) (C := RX10) (Tb := TX10) (N := 18) (w' := (wX10 q10 cI cJ cB st_10 kept_10 undoable_10 newest_10 (upd tape_10 z ((x >>> ((nI 24) &&& 31)) &&& (nI 255))) (nI (z + 1)) marks_10 order_10 reach_10 heapOf_10 rows_10 x_10 overs_10 costs_10 ways_10 digits_10 beaten_10 walks_10)) hx hb hts hu_10 tyX10 tyX10_ok nmX10 hown hKW hP hD hS 0 rfl rfl 5 (by decide) hf_82 rfl rfl (by decide +kernel) rfl rfl (Nat.le_of_ble_eq_true rfl) dX10_four_30 rfl (fun H locs hP hD hS => ?_)
    refine lv_iinc (v := nI 16) (lv' := [(2, .int (nI 16)), (0, .ref (q10 0)), (1, .int x)]) hx hb dX10_four_33 hl (k := 0) rfl (by decide) (by decide) rfl (fun ls hl => ?_)
    refine lv_goto (tgt := 3) hx hb dX10_four_36 (by decide) ?_
    refine lv_iload_n hx hb dX10_four_3 rfl (lv_at hl 0 rfl) ?_
    refine lv_if_lt (tgt := 39) hx hb dX10_four_4 (by decide) (fun c_4 => ?_) (fun c_4 => ?_)
    · skip
      exact (k0_lt (by omega) c_4).elim
    · skip
      have c_4 := k0_lt_n (by omega) c_4
      refine lv_aload_n hx hb dX10_four_7 rfl (lv_at hl 1 rfl) ?_
      refine k_get (ci := 10) (v := .ref (q10 3)) (C := RX10) (Tb := TX10) (N := 18) hx hb hts hu_10 hown hKW hP 0 rfl rfl 4 (by decide) hf_16 rfl rfl dX10_four_8 ?_
      refine lv_aload_n hx hb dX10_four_11 rfl (lv_at hl 1 rfl) ?_
      refine k_get (ci := 10) (v := .int (nI (z + 1))) (C := RX10) (Tb := TX10) (N := 18) hx hb hts hu_10 hown hKW hP 0 rfl rfl 5 (by decide) hf_82 rfl rfl dX10_four_12 ?_
      refine lv_iload_n hx hb dX10_four_15 rfl (lv_at hl 2 rfl) ?_
      refine lv_iload_n hx hb dX10_four_16 rfl (lv_at hl 0 rfl) ?_
      refine lv_ishr hx hb dX10_four_17 ?_
      refine lv_sipush (v := nI 255) hx hb dX10_four_18 (by decide) ?_
      refine lv_iand hx hb dX10_four_21 ?_
      refine k_iast (n := 480) (i := z + 1) (x := (x >>> ((nI 16) &&& 31)) &&& (nI 255)) (w' := (wX10 q10 cI cJ cB st_10 kept_10 undoable_10 newest_10 (upd (upd tape_10 z ((x >>> ((nI 24) &&& 31)) &&& (nI 255))) (z + 1) ((x >>> ((nI 16) &&& 31)) &&& (nI 255))) (nI (z + 1)) marks_10 order_10 reach_10 heapOf_10 rows_10 x_10 overs_10 costs_10 ways_10 digits_10 beaten_10 walks_10)) hx hb hKW hP hD hS 3 0 rfl rfl (by omega) (by omega) dX10_four_22 rfl (fun H locs hP hD hS => ?_)
      refine lv_aload_n hx hb dX10_four_23 rfl (lv_at hl 1 rfl) ?_
      refine lv_dup hx hb dX10_four_24 rfl ?_
      refine k_get (ci := 10) (v := .int (nI (z + 1))) (C := RX10) (Tb := TX10) (N := 18) hx hb hts hu_10 hown hKW hP 0 rfl rfl 5 (by decide) hf_82 rfl rfl dX10_four_25 ?_
      refine lv_iconst (v := nI 1) hx hb dX10_four_28 (by decide) ?_
      refine k_iadd hx hb dX10_four_29 ?_
      refine k_put (ci := 10) (ty := .int) (v := .int (nI ((z + 1) + 1))) (C := RX10) (Tb := TX10) (N := 18) (w' := (wX10 q10 cI cJ cB st_10 kept_10 undoable_10 newest_10 (upd (upd tape_10 z ((x >>> ((nI 24) &&& 31)) &&& (nI 255))) (z + 1) ((x >>> ((nI 16) &&& 31)) &&& (nI 255))) (nI ((z + 1) + 1)) marks_10 order_10 reach_10 heapOf_10 rows_10 x_10 overs_10 costs_10 ways_10 digits_10 beaten_10 walks_10)) hx hb hts hu_10 tyX10 tyX10_ok nmX10 hown hKW hP hD hS 0 rfl rfl 5 (by decide) hf_82 rfl rfl (by decide +kernel) rfl rfl (Nat.le_of_ble_eq_true rfl) dX10_four_30 rfl (fun H locs hP hD hS => ?_)
      refine lv_iinc (v := nI 8) (lv' := [(2, .int (nI 8)), (0, .ref (q10 0)), (1, .int x)]) hx hb dX10_four_33 hl (k := 0) rfl (by decide) (by decide) rfl (fun ls hl => ?_)
      refine lv_goto (tgt := 3) hx hb dX10_four_36 (by decide) ?_
      refine lv_iload_n hx hb dX10_four_3 rfl (lv_at hl 0 rfl) ?_
      refine lv_if_lt (tgt := 39) hx hb dX10_four_4 (by decide) (fun c_4 => ?_) (fun c_4 => ?_)
      · skip
        exact (k0_lt (by omega) c_4).elim
      · skip
        have c_4 := k0_lt_n (by omega) c_4
        refine lv_aload_n hx hb dX10_four_7 rfl (lv_at hl 1 rfl) ?_
        refine k_get (ci := 10) (v := .ref (q10 3)) (C := RX10) (Tb := TX10) (N := 18) hx hb hts hu_10 hown hKW hP 0 rfl rfl 4 (by decide) hf_16 rfl rfl dX10_four_8 ?_
        refine lv_aload_n hx hb dX10_four_11 rfl (lv_at hl 1 rfl) ?_
        refine k_get (ci := 10) (v := .int (nI ((z + 1) + 1))) (C := RX10) (Tb := TX10) (N := 18) hx hb hts hu_10 hown hKW hP 0 rfl rfl 5 (by decide) hf_82 rfl rfl dX10_four_12 ?_
        refine lv_iload_n hx hb dX10_four_15 rfl (lv_at hl 2 rfl) ?_
        refine lv_iload_n hx hb dX10_four_16 rfl (lv_at hl 0 rfl) ?_
        refine lv_ishr hx hb dX10_four_17 ?_
        refine lv_sipush (v := nI 255) hx hb dX10_four_18 (by decide) ?_
        refine lv_iand hx hb dX10_four_21 ?_
        refine k_iast (n := 480) (i := (z + 1) + 1) (x := (x >>> ((nI 8) &&& 31)) &&& (nI 255)) (w' := (wX10 q10 cI cJ cB st_10 kept_10 undoable_10 newest_10 (upd (upd (upd tape_10 z ((x >>> ((nI 24) &&& 31)) &&& (nI 255))) (z + 1) ((x >>> ((nI 16) &&& 31)) &&& (nI 255))) ((z + 1) + 1) ((x >>> ((nI 8) &&& 31)) &&& (nI 255))) (nI ((z + 1) + 1)) marks_10 order_10 reach_10 heapOf_10 rows_10 x_10 overs_10 costs_10 ways_10 digits_10 beaten_10 walks_10)) hx hb hKW hP hD hS 3 0 rfl rfl (by omega) (by omega) dX10_four_22 rfl (fun H locs hP hD hS => ?_)
        refine lv_aload_n hx hb dX10_four_23 rfl (lv_at hl 1 rfl) ?_
        refine lv_dup hx hb dX10_four_24 rfl ?_
        refine k_get (ci := 10) (v := .int (nI ((z + 1) + 1))) (C := RX10) (Tb := TX10) (N := 18) hx hb hts hu_10 hown hKW hP 0 rfl rfl 5 (by decide) hf_82 rfl rfl dX10_four_25 ?_
        refine lv_iconst (v := nI 1) hx hb dX10_four_28 (by decide) ?_
        refine k_iadd hx hb dX10_four_29 ?_
        refine k_put (ci := 10) (ty := .int) (v := .int (nI (((z + 1) + 1) + 1))) (C := RX10) (Tb := TX10) (N := 18) (w' := (wX10 q10 cI cJ cB st_10 kept_10 undoable_10 newest_10 (upd (upd (upd tape_10 z ((x >>> ((nI 24) &&& 31)) &&& (nI 255))) (z + 1) ((x >>> ((nI 16) &&& 31)) &&& (nI 255))) ((z + 1) + 1) ((x >>> ((nI 8) &&& 31)) &&& (nI 255))) (nI (((z + 1) + 1) + 1)) marks_10 order_10 reach_10 heapOf_10 rows_10 x_10 overs_10 costs_10 ways_10 digits_10 beaten_10 walks_10)) hx hb hts hu_10 tyX10 tyX10_ok nmX10 hown hKW hP hD hS 0 rfl rfl 5 (by decide) hf_82 rfl rfl (by decide +kernel) rfl rfl (Nat.le_of_ble_eq_true rfl) dX10_four_30 rfl (fun H locs hP hD hS => ?_)
        refine lv_iinc (v := nI 0) (lv' := [(2, .int (nI 0)), (0, .ref (q10 0)), (1, .int x)]) hx hb dX10_four_33 hl (k := 0) rfl (by decide) (by decide) rfl (fun ls hl => ?_)
        refine lv_goto (tgt := 3) hx hb dX10_four_36 (by decide) ?_
        refine lv_iload_n hx hb dX10_four_3 rfl (lv_at hl 0 rfl) ?_
        refine lv_if_lt (tgt := 39) hx hb dX10_four_4 (by decide) (fun c_4 => ?_) (fun c_4 => ?_)
        · skip
          exact (k0_lt (by omega) c_4).elim
        · skip
          have c_4 := k0_lt_n (by omega) c_4
          refine lv_aload_n hx hb dX10_four_7 rfl (lv_at hl 1 rfl) ?_
          refine k_get (ci := 10) (v := .ref (q10 3)) (C := RX10) (Tb := TX10) (N := 18) hx hb hts hu_10 hown hKW hP 0 rfl rfl 4 (by decide) hf_16 rfl rfl dX10_four_8 ?_
          refine lv_aload_n hx hb dX10_four_11 rfl (lv_at hl 1 rfl) ?_
          refine k_get (ci := 10) (v := .int (nI (((z + 1) + 1) + 1))) (C := RX10) (Tb := TX10) (N := 18) hx hb hts hu_10 hown hKW hP 0 rfl rfl 5 (by decide) hf_82 rfl rfl dX10_four_12 ?_
          refine lv_iload_n hx hb dX10_four_15 rfl (lv_at hl 2 rfl) ?_
          refine lv_iload_n hx hb dX10_four_16 rfl (lv_at hl 0 rfl) ?_
          refine lv_ishr hx hb dX10_four_17 ?_
          refine lv_sipush (v := nI 255) hx hb dX10_four_18 (by decide) ?_
          refine lv_iand hx hb dX10_four_21 ?_
          refine k_iast (n := 480) (i := ((z + 1) + 1) + 1) (x := (x >>> ((nI 0) &&& 31)) &&& (nI 255)) (w' := (wX10 q10 cI cJ cB st_10 kept_10 undoable_10 newest_10 (upd (upd (upd (upd tape_10 z ((x >>> ((nI 24) &&& 31)) &&& (nI 255))) (z + 1) ((x >>> ((nI 16) &&& 31)) &&& (nI 255))) ((z + 1) + 1) ((x >>> ((nI 8) &&& 31)) &&& (nI 255))) (((z + 1) + 1) + 1) ((x >>> ((nI 0) &&& 31)) &&& (nI 255))) (nI (((z + 1) + 1) + 1)) marks_10 order_10 reach_10 heapOf_10 rows_10 x_10 overs_10 costs_10 ways_10 digits_10 beaten_10 walks_10)) hx hb hKW hP hD hS 3 0 rfl rfl (by omega) (by omega) dX10_four_22 rfl (fun H locs hP hD hS => ?_)
          refine lv_aload_n hx hb dX10_four_23 rfl (lv_at hl 1 rfl) ?_
          refine lv_dup hx hb dX10_four_24 rfl ?_
          refine k_get (ci := 10) (v := .int (nI (((z + 1) + 1) + 1))) (C := RX10) (Tb := TX10) (N := 18) hx hb hts hu_10 hown hKW hP 0 rfl rfl 5 (by decide) hf_82 rfl rfl dX10_four_25 ?_
          refine lv_iconst (v := nI 1) hx hb dX10_four_28 (by decide) ?_
          refine k_iadd hx hb dX10_four_29 ?_
          refine k_put (ci := 10) (ty := .int) (v := .int (nI ((((z + 1) + 1) + 1) + 1))) (C := RX10) (Tb := TX10) (N := 18) (w' := (wX10 q10 cI cJ cB st_10 kept_10 undoable_10 newest_10 (upd (upd (upd (upd tape_10 z ((x >>> ((nI 24) &&& 31)) &&& (nI 255))) (z + 1) ((x >>> ((nI 16) &&& 31)) &&& (nI 255))) ((z + 1) + 1) ((x >>> ((nI 8) &&& 31)) &&& (nI 255))) (((z + 1) + 1) + 1) ((x >>> ((nI 0) &&& 31)) &&& (nI 255))) (nI ((((z + 1) + 1) + 1) + 1)) marks_10 order_10 reach_10 heapOf_10 rows_10 x_10 overs_10 costs_10 ways_10 digits_10 beaten_10 walks_10)) hx hb hts hu_10 tyX10 tyX10_ok nmX10 hown hKW hP hD hS 0 rfl rfl 5 (by decide) hf_82 rfl rfl (by decide +kernel) rfl rfl (Nat.le_of_ble_eq_true rfl) dX10_four_30 rfl (fun H locs hP hD hS => ?_)
          refine lv_iinc (v := (-8)) (lv' := [(2, .int (-8)), (0, .ref (q10 0)), (1, .int x)]) hx hb dX10_four_33 hl (k := 0) rfl (by decide) (by decide) rfl (fun ls hl => ?_)
          refine lv_goto (tgt := 3) hx hb dX10_four_36 (by decide) ?_
          refine lv_iload_n hx hb dX10_four_3 rfl (lv_at hl 0 rfl) ?_
          refine lv_if_lt (tgt := 39) hx hb dX10_four_4 (by decide) (fun c_4 => ?_) (fun c_4 => ?_)
          · skip
            subst hQ; subst hAe
            exact W.vret hx hb hr (fun t ht _ => ⟨⟨(), rfl, trivial, by rw [ht]; exact hP, hD⟩, hS.F ht⟩) hS.2.2 dX10_four_39
          · skip
            exact absurd (by decide) c_4
def rmX10_feed : Room := { frames := 1, cells := 0, slots := 0, locals := 22 }
set_option maxHeartbeats 4000000 in
set_option maxRecDepth 100000 in
theorem c_X10_feed (l : Launch) (D : va_G) (cI cJ cB : ClassId) (q10 : Nat → Nat) (st_10 : Nat → Int32) (kept_10 : Nat → Int32) (undoable_10 : Int32) (newest_10 : Int32) (tape_10 : Nat → Int32) (marks_10 : Nat → Int32) (order_10 : Nat → Int32) (reach_10 : Nat → Int32) (heapOf_10 : Nat → Int32) (rows_10 : Nat → Int64) (x_10 : Nat → Int64) (overs_10 : Nat → Int32) (costs_10 : Nat → Int32) (ways_10 : Nat → Int32) (digits_10 : Nat → Int32) (beaten_10 : Nat → Int32) (walks_10 : Nat → Int32) (z : Nat) (a : Int32) (b : Int32) (c2 : Int32) (d2 : Int32) (e2 : Int32) (hz : z ≤ 480) : ∀ sz, Met l yX10_feed wsX10_feed rmX10_feed (va_Pc [.ref (q10 0), .int a, .int b, .int c2, .int d2, .int e2] (PW D (kT cI cJ cB) sz (wX10 q10 cI cJ cB st_10 kept_10 undoable_10 newest_10 tape_10 (nI z) marks_10 order_10 reach_10 heapOf_10 rows_10 x_10 overs_10 costs_10 ways_10 digits_10 beaten_10 walks_10))) (va_Qi (S := (Nat → Int32) × Int32) (fun r uu => match uu with | (tape_10', taped_10') => (z + 20 ≤ 480 → r = nI (z + 20) ∧ taped_10' = nI (z + 20) ∧ tape_10' = tp4 (tp4 (tp4 (tp4 (tp4 (tape_10) (z) a) (z + 1 + 1 + 1 + 1) b) (z + 1 + 1 + 1 + 1 + 1 + 1 + 1 + 1) c2) (z + 1 + 1 + 1 + 1 + 1 + 1 + 1 + 1 + 1 + 1 + 1 + 1) d2) (z + 1 + 1 + 1 + 1 + 1 + 1 + 1 + 1 + 1 + 1 + 1 + 1 + 1 + 1 + 1 + 1) e2) ∧ (¬ z + 20 ≤ 480 → r = -1 ∧ taped_10' = nI z ∧ tape_10' = tape_10)) (QW D sz (wX10 q10 cI cJ cB st_10 kept_10 undoable_10 newest_10 tape_10 (nI z) marks_10 order_10 reach_10 heapOf_10 rows_10 x_10 overs_10 costs_10 ways_10 digits_10 beaten_10 walks_10) (fun uu => match uu with | (tape_10', taped_10') => (wX10 q10 cI cJ cB st_10 kept_10 undoable_10 newest_10 tape_10' taped_10' marks_10 order_10 reach_10 heapOf_10 rows_10 x_10 overs_10 costs_10 ways_10 digits_10 beaten_10 walks_10))) (va_A (wX10 q10 cI cJ cB st_10 kept_10 undoable_10 newest_10 tape_10 (nI z) marks_10 order_10 reach_10 heapOf_10 rows_10 x_10 overs_10 costs_10 ways_10 digits_10 beaten_10 walks_10) sz)) 0 0 (va_A (wX10 q10 cI cJ cB st_10 kept_10 undoable_10 newest_10 tape_10 (nI z) marks_10 order_10 reach_10 heapOf_10 rows_10 x_10 overs_10 costs_10 ways_10 digits_10 beaten_10 walks_10) sz) := by
  intro sz
  refine Met.ofW (cc := cX10_feed) (maxL := 6) (ret := (some .int)) (by decide) rfl ?_
  intro p e s m args below meth c s₁ B hml hv
  obtain ⟨hav, hsz, hP, hKW, hD0⟩ := hv
  have hx := B.exec
  have hb := B.bytes
  have hr := B.returns
  have hts := atoms_spec (ws := wsX10_feed) B.pre
  have hown : s.vm.findClass RX10 = some m.cls := findClass_of_methodNamed B.named
  have hlocks := B.notSynchronized
  subst hsz
  have hD := hD0.self (sz := s.heap.size)
  obtain ⟨A, hAe⟩ : ∃ A : Nat → Prop, A = va_A (wX10 q10 cI cJ cB st_10 kept_10 undoable_10 newest_10 tape_10 (nI z) marks_10 order_10 reach_10 heapOf_10 rows_10 x_10 overs_10 costs_10 ways_10 digits_10 beaten_10 walks_10) s.heap.size := ⟨_, rfl⟩
  rw [← hAe] at hD
  have hA : ∀ q : Nat, s.heap.size ≤ q → A q := fun q h => by rw [hAe]; exact Or.inr h
  have hS : va_S A s.heap s.heap [] := va_S.rf
  refine k_gen (fun Q hQ => ?_)
  have hl := lv_entry ([.ref (q10 0), .int a, .int b, .int c2, .int d2, .int e2]) (n := 6) (Nat.le_of_ble_eq_true rfl)
  refine k_entry hav (lg_entry_eq ..) ?_
  generalize (lg_sl ([.ref (q10 0), .int a, .int b, .int c2, .int d2, .int e2]) ++ List.replicate (6 - (lg_sl ([.ref (q10 0), .int a, .int b, .int c2, .int d2, .int e2])).length) Slot.unset).toArray = ls at hl ⊢
  have hl : lv_has ls 6 [(0, .ref (q10 0)), (1, .int a), (2, .int b), (3, .int c2), (4, .int d2), (5, .int e2)] := hl
  have hu_10 : ∀ w ∈ u_ws RX10 TX10 18, w ∈ wsX10_feed := by decide +kernel
  have hf_82 : Cond.fieldLink RX10 82 "MeetingRanksModel" "taped" "I" ∈ wsX10_feed := by decide +kernel
  refine lv_aload_n hx hb dX10_feed_0 rfl (lv_at hl 0 rfl) ?_
  refine k_get (ci := 10) (v := .int (nI z)) (C := RX10) (Tb := TX10) (N := 18) hx hb hts hu_10 hown hKW hP 0 rfl rfl 5 (by decide) hf_82 rfl rfl dX10_feed_1 ?_
  refine lv_bipush (v := nI 20) hx hb dX10_feed_4 (by decide) ?_
  refine k_iadd hx hb dX10_feed_6 ?_
  refine lv_sipush (v := nI 480) hx hb dX10_feed_7 (by decide) ?_
  refine lv_icmp_le (tgt := 15) hx hb dX10_feed_10 (by decide) (fun c_10 => ?_) (fun c_10 => ?_)
  · skip
    have c_10 := k_le (by omega) (by omega) c_10
    refine lv_aload_n hx hb dX10_feed_15 rfl (lv_at hl 0 rfl) ?_
    refine lv_iload_n hx hb dX10_feed_16 rfl (lv_at hl 1 rfl) ?_
    have hs_17 : kSplit (wX10 q10 cI cJ cB st_10 kept_10 undoable_10 newest_10 tape_10 (nI z) marks_10 order_10 reach_10 heapOf_10 rows_10 x_10 overs_10 costs_10 ways_10 digits_10 beaten_10 walks_10) (wX10 q10 cI cJ cB st_10 kept_10 undoable_10 newest_10 tape_10 (nI z) marks_10 order_10 reach_10 heapOf_10 rows_10 x_10 overs_10 costs_10 ways_10 digits_10 beaten_10 walks_10) ([] : va_W) [0, 1, 2, 3, 4, 5, 6, 7, 8, 9, 10, 11, 12, 13, 14, 15] [] := ⟨rfl, rfl, rfl, rfl, rfl, by decide⟩
    refine kc_v hP hD hS hA hs_17 (kV (As := [.int a]) (rest := []) hx hb hml hown hts hKW hP hD hs_17 (c_X10_four l D cI cJ cB q10 st_10 kept_10 undoable_10 newest_10 tape_10 marks_10 order_10 reach_10 heapOf_10 rows_10 x_10 overs_10 costs_10 ways_10 digits_10 beaten_10 walks_10 z a (by first | assumption | omega)) (cwV 1 hts gX10_feed_X10_four rfl rfl rfl (by decide +kernel) ⟨Nat.le_of_ble_eq_true rfl, Nat.le_of_ble_eq_true rfl⟩) 0 10 rfl rfl rfl rfl hl.1 rfl (Nat.le_of_ble_eq_true rfl) dX10_feed_17 ⟨Nat.zero_le _, Nat.zero_le _⟩) (fun u_17 H locs hw_17 hP hD hS => ?_)
    have hP : va_P D vwCl (wX10 q10 cI cJ cB st_10 kept_10 undoable_10 newest_10 (tp4 tape_10 z a) (nI (z + 1 + 1 + 1 + 1)) marks_10 order_10 reach_10 heapOf_10 rows_10 x_10 overs_10 costs_10 ways_10 digits_10 beaten_10 walks_10) H := hP.sub (ws' := (wX10 q10 cI cJ cB st_10 kept_10 undoable_10 newest_10 (tp4 tape_10 z a) (nI (z + 1 + 1 + 1 + 1)) marks_10 order_10 reach_10 heapOf_10 rows_10 x_10 overs_10 costs_10 ways_10 digits_10 beaten_10 walks_10)) [0, 1, 2, 3, 4, 5, 6, 7, 8, 9, 10, 11, 12, 13, 14, 15] rfl
    have hD : va_D A (wX10 q10 cI cJ cB st_10 kept_10 undoable_10 newest_10 (tp4 tape_10 z a) (nI (z + 1 + 1 + 1 + 1)) marks_10 order_10 reach_10 heapOf_10 rows_10 x_10 overs_10 costs_10 ways_10 digits_10 beaten_10 walks_10) := hD.sub (ws' := (wX10 q10 cI cJ cB st_10 kept_10 undoable_10 newest_10 (tp4 tape_10 z a) (nI (z + 1 + 1 + 1 + 1)) marks_10 order_10 reach_10 heapOf_10 rows_10 x_10 overs_10 costs_10 ways_10 digits_10 beaten_10 walks_10)) [0, 1, 2, 3, 4, 5, 6, 7, 8, 9, 10, 11, 12, 13, 14, 15] (by decide) rfl
    refine lv_aload_n hx hb dX10_feed_20 rfl (lv_at hl 0 rfl) ?_
    refine lv_iload_n hx hb dX10_feed_21 rfl (lv_at hl 2 rfl) ?_
    have hs_22 : kSplit (wX10 q10 cI cJ cB st_10 kept_10 undoable_10 newest_10 (tp4 tape_10 z a) (nI (z + 1 + 1 + 1 + 1)) marks_10 order_10 reach_10 heapOf_10 rows_10 x_10 overs_10 costs_10 ways_10 digits_10 beaten_10 walks_10) (wX10 q10 cI cJ cB st_10 kept_10 undoable_10 newest_10 (tp4 tape_10 z a) (nI (z + 1 + 1 + 1 + 1)) marks_10 order_10 reach_10 heapOf_10 rows_10 x_10 overs_10 costs_10 ways_10 digits_10 beaten_10 walks_10) ([] : va_W) [0, 1, 2, 3, 4, 5, 6, 7, 8, 9, 10, 11, 12, 13, 14, 15] [] := ⟨rfl, rfl, rfl, rfl, rfl, by decide⟩
    refine kc_v hP hD hS hA hs_22 (kV (As := [.int b]) (rest := []) hx hb hml hown hts hKW hP hD hs_22 (c_X10_four l D cI cJ cB q10 st_10 kept_10 undoable_10 newest_10 (tp4 tape_10 z a) marks_10 order_10 reach_10 heapOf_10 rows_10 x_10 overs_10 costs_10 ways_10 digits_10 beaten_10 walks_10 (z + 1 + 1 + 1 + 1) b (by first | assumption | omega)) (cwV 1 hts gX10_feed_X10_four rfl rfl rfl (by decide +kernel) ⟨Nat.le_of_ble_eq_true rfl, Nat.le_of_ble_eq_true rfl⟩) 0 10 rfl rfl rfl rfl hl.1 rfl (Nat.le_of_ble_eq_true rfl) dX10_feed_22 ⟨Nat.zero_le _, Nat.zero_le _⟩) (fun u_22 H locs hw_22 hP hD hS => ?_)
    have hP : va_P D vwCl (wX10 q10 cI cJ cB st_10 kept_10 undoable_10 newest_10 (tp4 (tp4 tape_10 z a) (z + 1 + 1 + 1 + 1) b) (nI ((z + 1 + 1 + 1 + 1) + 1 + 1 + 1 + 1)) marks_10 order_10 reach_10 heapOf_10 rows_10 x_10 overs_10 costs_10 ways_10 digits_10 beaten_10 walks_10) H := hP.sub (ws' := (wX10 q10 cI cJ cB st_10 kept_10 undoable_10 newest_10 (tp4 (tp4 tape_10 z a) (z + 1 + 1 + 1 + 1) b) (nI ((z + 1 + 1 + 1 + 1) + 1 + 1 + 1 + 1)) marks_10 order_10 reach_10 heapOf_10 rows_10 x_10 overs_10 costs_10 ways_10 digits_10 beaten_10 walks_10)) [0, 1, 2, 3, 4, 5, 6, 7, 8, 9, 10, 11, 12, 13, 14, 15] rfl
    have hD : va_D A (wX10 q10 cI cJ cB st_10 kept_10 undoable_10 newest_10 (tp4 (tp4 tape_10 z a) (z + 1 + 1 + 1 + 1) b) (nI ((z + 1 + 1 + 1 + 1) + 1 + 1 + 1 + 1)) marks_10 order_10 reach_10 heapOf_10 rows_10 x_10 overs_10 costs_10 ways_10 digits_10 beaten_10 walks_10) := hD.sub (ws' := (wX10 q10 cI cJ cB st_10 kept_10 undoable_10 newest_10 (tp4 (tp4 tape_10 z a) (z + 1 + 1 + 1 + 1) b) (nI ((z + 1 + 1 + 1 + 1) + 1 + 1 + 1 + 1)) marks_10 order_10 reach_10 heapOf_10 rows_10 x_10 overs_10 costs_10 ways_10 digits_10 beaten_10 walks_10)) [0, 1, 2, 3, 4, 5, 6, 7, 8, 9, 10, 11, 12, 13, 14, 15] (by decide) rfl
    refine lv_aload_n hx hb dX10_feed_25 rfl (lv_at hl 0 rfl) ?_
    refine lv_iload_n hx hb dX10_feed_26 rfl (lv_at hl 3 rfl) ?_
    have hs_27 : kSplit (wX10 q10 cI cJ cB st_10 kept_10 undoable_10 newest_10 (tp4 (tp4 tape_10 z a) (z + 1 + 1 + 1 + 1) b) (nI ((z + 1 + 1 + 1 + 1) + 1 + 1 + 1 + 1)) marks_10 order_10 reach_10 heapOf_10 rows_10 x_10 overs_10 costs_10 ways_10 digits_10 beaten_10 walks_10) (wX10 q10 cI cJ cB st_10 kept_10 undoable_10 newest_10 (tp4 (tp4 tape_10 z a) (z + 1 + 1 + 1 + 1) b) (nI ((z + 1 + 1 + 1 + 1) + 1 + 1 + 1 + 1)) marks_10 order_10 reach_10 heapOf_10 rows_10 x_10 overs_10 costs_10 ways_10 digits_10 beaten_10 walks_10) ([] : va_W) [0, 1, 2, 3, 4, 5, 6, 7, 8, 9, 10, 11, 12, 13, 14, 15] [] := ⟨rfl, rfl, rfl, rfl, rfl, by decide⟩
    refine kc_v hP hD hS hA hs_27 (kV (As := [.int c2]) (rest := []) hx hb hml hown hts hKW hP hD hs_27 (c_X10_four l D cI cJ cB q10 st_10 kept_10 undoable_10 newest_10 (tp4 (tp4 tape_10 z a) (z + 1 + 1 + 1 + 1) b) marks_10 order_10 reach_10 heapOf_10 rows_10 x_10 overs_10 costs_10 ways_10 digits_10 beaten_10 walks_10 ((z + 1 + 1 + 1 + 1) + 1 + 1 + 1 + 1) c2 (by first | assumption | omega)) (cwV 1 hts gX10_feed_X10_four rfl rfl rfl (by decide +kernel) ⟨Nat.le_of_ble_eq_true rfl, Nat.le_of_ble_eq_true rfl⟩) 0 10 rfl rfl rfl rfl hl.1 rfl (Nat.le_of_ble_eq_true rfl) dX10_feed_27 ⟨Nat.zero_le _, Nat.zero_le _⟩) (fun u_27 H locs hw_27 hP hD hS => ?_)
    have hP : va_P D vwCl (wX10 q10 cI cJ cB st_10 kept_10 undoable_10 newest_10 (tp4 (tp4 (tp4 tape_10 z a) (z + 1 + 1 + 1 + 1) b) ((z + 1 + 1 + 1 + 1) + 1 + 1 + 1 + 1) c2) (nI (((z + 1 + 1 + 1 + 1) + 1 + 1 + 1 + 1) + 1 + 1 + 1 + 1)) marks_10 order_10 reach_10 heapOf_10 rows_10 x_10 overs_10 costs_10 ways_10 digits_10 beaten_10 walks_10) H := hP.sub (ws' := (wX10 q10 cI cJ cB st_10 kept_10 undoable_10 newest_10 (tp4 (tp4 (tp4 tape_10 z a) (z + 1 + 1 + 1 + 1) b) ((z + 1 + 1 + 1 + 1) + 1 + 1 + 1 + 1) c2) (nI (((z + 1 + 1 + 1 + 1) + 1 + 1 + 1 + 1) + 1 + 1 + 1 + 1)) marks_10 order_10 reach_10 heapOf_10 rows_10 x_10 overs_10 costs_10 ways_10 digits_10 beaten_10 walks_10)) [0, 1, 2, 3, 4, 5, 6, 7, 8, 9, 10, 11, 12, 13, 14, 15] rfl
    have hD : va_D A (wX10 q10 cI cJ cB st_10 kept_10 undoable_10 newest_10 (tp4 (tp4 (tp4 tape_10 z a) (z + 1 + 1 + 1 + 1) b) ((z + 1 + 1 + 1 + 1) + 1 + 1 + 1 + 1) c2) (nI (((z + 1 + 1 + 1 + 1) + 1 + 1 + 1 + 1) + 1 + 1 + 1 + 1)) marks_10 order_10 reach_10 heapOf_10 rows_10 x_10 overs_10 costs_10 ways_10 digits_10 beaten_10 walks_10) := hD.sub (ws' := (wX10 q10 cI cJ cB st_10 kept_10 undoable_10 newest_10 (tp4 (tp4 (tp4 tape_10 z a) (z + 1 + 1 + 1 + 1) b) ((z + 1 + 1 + 1 + 1) + 1 + 1 + 1 + 1) c2) (nI (((z + 1 + 1 + 1 + 1) + 1 + 1 + 1 + 1) + 1 + 1 + 1 + 1)) marks_10 order_10 reach_10 heapOf_10 rows_10 x_10 overs_10 costs_10 ways_10 digits_10 beaten_10 walks_10)) [0, 1, 2, 3, 4, 5, 6, 7, 8, 9, 10, 11, 12, 13, 14, 15] (by decide) rfl
    refine lv_aload_n hx hb dX10_feed_30 rfl (lv_at hl 0 rfl) ?_
    refine lv_iload hx hb dX10_feed_31 (lv_at hl 4 rfl) ?_
    have hs_33 : kSplit (wX10 q10 cI cJ cB st_10 kept_10 undoable_10 newest_10 (tp4 (tp4 (tp4 tape_10 z a) (z + 1 + 1 + 1 + 1) b) ((z + 1 + 1 + 1 + 1) + 1 + 1 + 1 + 1) c2) (nI (((z + 1 + 1 + 1 + 1) + 1 + 1 + 1 + 1) + 1 + 1 + 1 + 1)) marks_10 order_10 reach_10 heapOf_10 rows_10 x_10 overs_10 costs_10 ways_10 digits_10 beaten_10 walks_10) (wX10 q10 cI cJ cB st_10 kept_10 undoable_10 newest_10 (tp4 (tp4 (tp4 tape_10 z a) (z + 1 + 1 + 1 + 1) b) ((z + 1 + 1 + 1 + 1) + 1 + 1 + 1 + 1) c2) (nI (((z + 1 + 1 + 1 + 1) + 1 + 1 + 1 + 1) + 1 + 1 + 1 + 1)) marks_10 order_10 reach_10 heapOf_10 rows_10 x_10 overs_10 costs_10 ways_10 digits_10 beaten_10 walks_10) ([] : va_W) [0, 1, 2, 3, 4, 5, 6, 7, 8, 9, 10, 11, 12, 13, 14, 15] [] := ⟨rfl, rfl, rfl, rfl, rfl, by decide⟩
    refine kc_v hP hD hS hA hs_33 (kV (As := [.int d2]) (rest := []) hx hb hml hown hts hKW hP hD hs_33 (c_X10_four l D cI cJ cB q10 st_10 kept_10 undoable_10 newest_10 (tp4 (tp4 (tp4 tape_10 z a) (z + 1 + 1 + 1 + 1) b) ((z + 1 + 1 + 1 + 1) + 1 + 1 + 1 + 1) c2) marks_10 order_10 reach_10 heapOf_10 rows_10 x_10 overs_10 costs_10 ways_10 digits_10 beaten_10 walks_10 (((z + 1 + 1 + 1 + 1) + 1 + 1 + 1 + 1) + 1 + 1 + 1 + 1) d2 (by first | assumption | omega)) (cwV 1 hts gX10_feed_X10_four rfl rfl rfl (by decide +kernel) ⟨Nat.le_of_ble_eq_true rfl, Nat.le_of_ble_eq_true rfl⟩) 0 10 rfl rfl rfl rfl hl.1 rfl (Nat.le_of_ble_eq_true rfl) dX10_feed_33 ⟨Nat.zero_le _, Nat.zero_le _⟩) (fun u_33 H locs hw_33 hP hD hS => ?_)
    have hP : va_P D vwCl (wX10 q10 cI cJ cB st_10 kept_10 undoable_10 newest_10 (tp4 (tp4 (tp4 (tp4 tape_10 z a) (z + 1 + 1 + 1 + 1) b) ((z + 1 + 1 + 1 + 1) + 1 + 1 + 1 + 1) c2) (((z + 1 + 1 + 1 + 1) + 1 + 1 + 1 + 1) + 1 + 1 + 1 + 1) d2) (nI ((((z + 1 + 1 + 1 + 1) + 1 + 1 + 1 + 1) + 1 + 1 + 1 + 1) + 1 + 1 + 1 + 1)) marks_10 order_10 reach_10 heapOf_10 rows_10 x_10 overs_10 costs_10 ways_10 digits_10 beaten_10 walks_10) H := hP.sub (ws' := (wX10 q10 cI cJ cB st_10 kept_10 undoable_10 newest_10 (tp4 (tp4 (tp4 (tp4 tape_10 z a) (z + 1 + 1 + 1 + 1) b) ((z + 1 + 1 + 1 + 1) + 1 + 1 + 1 + 1) c2) (((z + 1 + 1 + 1 + 1) + 1 + 1 + 1 + 1) + 1 + 1 + 1 + 1) d2) (nI ((((z + 1 + 1 + 1 + 1) + 1 + 1 + 1 + 1) + 1 + 1 + 1 + 1) + 1 + 1 + 1 + 1)) marks_10 order_10 reach_10 heapOf_10 rows_10 x_10 overs_10 costs_10 ways_10 digits_10 beaten_10 walks_10)) [0, 1, 2, 3, 4, 5, 6, 7, 8, 9, 10, 11, 12, 13, 14, 15] rfl
    have hD : va_D A (wX10 q10 cI cJ cB st_10 kept_10 undoable_10 newest_10 (tp4 (tp4 (tp4 (tp4 tape_10 z a) (z + 1 + 1 + 1 + 1) b) ((z + 1 + 1 + 1 + 1) + 1 + 1 + 1 + 1) c2) (((z + 1 + 1 + 1 + 1) + 1 + 1 + 1 + 1) + 1 + 1 + 1 + 1) d2) (nI ((((z + 1 + 1 + 1 + 1) + 1 + 1 + 1 + 1) + 1 + 1 + 1 + 1) + 1 + 1 + 1 + 1)) marks_10 order_10 reach_10 heapOf_10 rows_10 x_10 overs_10 costs_10 ways_10 digits_10 beaten_10 walks_10) := hD.sub (ws' := (wX10 q10 cI cJ cB st_10 kept_10 undoable_10 newest_10 (tp4 (tp4 (tp4 (tp4 tape_10 z a) (z + 1 + 1 + 1 + 1) b) ((z + 1 + 1 + 1 + 1) + 1 + 1 + 1 + 1) c2) (((z + 1 + 1 + 1 + 1) + 1 + 1 + 1 + 1) + 1 + 1 + 1 + 1) d2) (nI ((((z + 1 + 1 + 1 + 1) + 1 + 1 + 1 + 1) + 1 + 1 + 1 + 1) + 1 + 1 + 1 + 1)) marks_10 order_10 reach_10 heapOf_10 rows_10 x_10 overs_10 costs_10 ways_10 digits_10 beaten_10 walks_10)) [0, 1, 2, 3, 4, 5, 6, 7, 8, 9, 10, 11, 12, 13, 14, 15] (by decide) rfl
    refine lv_aload_n hx hb dX10_feed_36 rfl (lv_at hl 0 rfl) ?_
    refine lv_iload hx hb dX10_feed_37 (lv_at hl 5 rfl) ?_
    have hs_39 : kSplit (wX10 q10 cI cJ cB st_10 kept_10 undoable_10 newest_10 (tp4 (tp4 (tp4 (tp4 tape_10 z a) (z + 1 + 1 + 1 + 1) b) ((z + 1 + 1 + 1 + 1) + 1 + 1 + 1 + 1) c2) (((z + 1 + 1 + 1 + 1) + 1 + 1 + 1 + 1) + 1 + 1 + 1 + 1) d2) (nI ((((z + 1 + 1 + 1 + 1) + 1 + 1 + 1 + 1) + 1 + 1 + 1 + 1) + 1 + 1 + 1 + 1)) marks_10 order_10 reach_10 heapOf_10 rows_10 x_10 overs_10 costs_10 ways_10 digits_10 beaten_10 walks_10) (wX10 q10 cI cJ cB st_10 kept_10 undoable_10 newest_10 (tp4 (tp4 (tp4 (tp4 tape_10 z a) (z + 1 + 1 + 1 + 1) b) ((z + 1 + 1 + 1 + 1) + 1 + 1 + 1 + 1) c2) (((z + 1 + 1 + 1 + 1) + 1 + 1 + 1 + 1) + 1 + 1 + 1 + 1) d2) (nI ((((z + 1 + 1 + 1 + 1) + 1 + 1 + 1 + 1) + 1 + 1 + 1 + 1) + 1 + 1 + 1 + 1)) marks_10 order_10 reach_10 heapOf_10 rows_10 x_10 overs_10 costs_10 ways_10 digits_10 beaten_10 walks_10) ([] : va_W) [0, 1, 2, 3, 4, 5, 6, 7, 8, 9, 10, 11, 12, 13, 14, 15] [] := ⟨rfl, rfl, rfl, rfl, rfl, by decide⟩
    refine kc_v hP hD hS hA hs_39 (kV (As := [.int e2]) (rest := []) hx hb hml hown hts hKW hP hD hs_39 (c_X10_four l D cI cJ cB q10 st_10 kept_10 undoable_10 newest_10 (tp4 (tp4 (tp4 (tp4 tape_10 z a) (z + 1 + 1 + 1 + 1) b) ((z + 1 + 1 + 1 + 1) + 1 + 1 + 1 + 1) c2) (((z + 1 + 1 + 1 + 1) + 1 + 1 + 1 + 1) + 1 + 1 + 1 + 1) d2) marks_10 order_10 reach_10 heapOf_10 rows_10 x_10 overs_10 costs_10 ways_10 digits_10 beaten_10 walks_10 ((((z + 1 + 1 + 1 + 1) + 1 + 1 + 1 + 1) + 1 + 1 + 1 + 1) + 1 + 1 + 1 + 1) e2 (by first | assumption | omega)) (cwV 1 hts gX10_feed_X10_four rfl rfl rfl (by decide +kernel) ⟨Nat.le_of_ble_eq_true rfl, Nat.le_of_ble_eq_true rfl⟩) 0 10 rfl rfl rfl rfl hl.1 rfl (Nat.le_of_ble_eq_true rfl) dX10_feed_39 ⟨Nat.zero_le _, Nat.zero_le _⟩) (fun u_39 H locs hw_39 hP hD hS => ?_)
    have hP : va_P D vwCl (wX10 q10 cI cJ cB st_10 kept_10 undoable_10 newest_10 (tp4 (tp4 (tp4 (tp4 (tp4 tape_10 z a) (z + 1 + 1 + 1 + 1) b) ((z + 1 + 1 + 1 + 1) + 1 + 1 + 1 + 1) c2) (((z + 1 + 1 + 1 + 1) + 1 + 1 + 1 + 1) + 1 + 1 + 1 + 1) d2) ((((z + 1 + 1 + 1 + 1) + 1 + 1 + 1 + 1) + 1 + 1 + 1 + 1) + 1 + 1 + 1 + 1) e2) (nI (((((z + 1 + 1 + 1 + 1) + 1 + 1 + 1 + 1) + 1 + 1 + 1 + 1) + 1 + 1 + 1 + 1) + 1 + 1 + 1 + 1)) marks_10 order_10 reach_10 heapOf_10 rows_10 x_10 overs_10 costs_10 ways_10 digits_10 beaten_10 walks_10) H := hP.sub (ws' := (wX10 q10 cI cJ cB st_10 kept_10 undoable_10 newest_10 (tp4 (tp4 (tp4 (tp4 (tp4 tape_10 z a) (z + 1 + 1 + 1 + 1) b) ((z + 1 + 1 + 1 + 1) + 1 + 1 + 1 + 1) c2) (((z + 1 + 1 + 1 + 1) + 1 + 1 + 1 + 1) + 1 + 1 + 1 + 1) d2) ((((z + 1 + 1 + 1 + 1) + 1 + 1 + 1 + 1) + 1 + 1 + 1 + 1) + 1 + 1 + 1 + 1) e2) (nI (((((z + 1 + 1 + 1 + 1) + 1 + 1 + 1 + 1) + 1 + 1 + 1 + 1) + 1 + 1 + 1 + 1) + 1 + 1 + 1 + 1)) marks_10 order_10 reach_10 heapOf_10 rows_10 x_10 overs_10 costs_10 ways_10 digits_10 beaten_10 walks_10)) [0, 1, 2, 3, 4, 5, 6, 7, 8, 9, 10, 11, 12, 13, 14, 15] rfl
    have hD : va_D A (wX10 q10 cI cJ cB st_10 kept_10 undoable_10 newest_10 (tp4 (tp4 (tp4 (tp4 (tp4 tape_10 z a) (z + 1 + 1 + 1 + 1) b) ((z + 1 + 1 + 1 + 1) + 1 + 1 + 1 + 1) c2) (((z + 1 + 1 + 1 + 1) + 1 + 1 + 1 + 1) + 1 + 1 + 1 + 1) d2) ((((z + 1 + 1 + 1 + 1) + 1 + 1 + 1 + 1) + 1 + 1 + 1 + 1) + 1 + 1 + 1 + 1) e2) (nI (((((z + 1 + 1 + 1 + 1) + 1 + 1 + 1 + 1) + 1 + 1 + 1 + 1) + 1 + 1 + 1 + 1) + 1 + 1 + 1 + 1)) marks_10 order_10 reach_10 heapOf_10 rows_10 x_10 overs_10 costs_10 ways_10 digits_10 beaten_10 walks_10) := hD.sub (ws' := (wX10 q10 cI cJ cB st_10 kept_10 undoable_10 newest_10 (tp4 (tp4 (tp4 (tp4 (tp4 tape_10 z a) (z + 1 + 1 + 1 + 1) b) ((z + 1 + 1 + 1 + 1) + 1 + 1 + 1 + 1) c2) (((z + 1 + 1 + 1 + 1) + 1 + 1 + 1 + 1) + 1 + 1 + 1 + 1) d2) ((((z + 1 + 1 + 1 + 1) + 1 + 1 + 1 + 1) + 1 + 1 + 1 + 1) + 1 + 1 + 1 + 1) e2) (nI (((((z + 1 + 1 + 1 + 1) + 1 + 1 + 1 + 1) + 1 + 1 + 1 + 1) + 1 + 1 + 1 + 1) + 1 + 1 + 1 + 1)) marks_10 order_10 reach_10 heapOf_10 rows_10 x_10 overs_10 costs_10 ways_10 digits_10 beaten_10 walks_10)) [0, 1, 2, 3, 4, 5, 6, 7, 8, 9, 10, 11, 12, 13, 14, 15] (by decide) rfl
    refine lv_aload_n hx hb dX10_feed_42 rfl (lv_at hl 0 rfl) ?_
    refine k_get (ci := 10) (v := .int (nI (((((z + 1 + 1 + 1 + 1) + 1 + 1 + 1 + 1) + 1 + 1 + 1 + 1) + 1 + 1 + 1 + 1) + 1 + 1 + 1 + 1))) (C := RX10) (Tb := TX10) (N := 18) hx hb hts hu_10 hown hKW hP 0 rfl rfl 5 (by decide) hf_82 rfl rfl dX10_feed_43 ?_
    subst hQ; subst hAe
    exact W.iret (v := nI (((((z + 1 + 1 + 1 + 1) + 1 + 1 + 1 + 1) + 1 + 1 + 1 + 1) + 1 + 1 + 1 + 1) + 1 + 1 + 1 + 1)) hx hb hr (fun t ht _ => ⟨⟨nI (((((z + 1 + 1 + 1 + 1) + 1 + 1 + 1 + 1) + 1 + 1 + 1 + 1) + 1 + 1 + 1 + 1) + 1 + 1 + 1 + 1), (tp4 (tp4 (tp4 (tp4 (tp4 tape_10 z a) (z + 1 + 1 + 1 + 1) b) ((z + 1 + 1 + 1 + 1) + 1 + 1 + 1 + 1) c2) (((z + 1 + 1 + 1 + 1) + 1 + 1 + 1 + 1) + 1 + 1 + 1 + 1) d2) ((((z + 1 + 1 + 1 + 1) + 1 + 1 + 1 + 1) + 1 + 1 + 1 + 1) + 1 + 1 + 1 + 1) e2, nI (((((z + 1 + 1 + 1 + 1) + 1 + 1 + 1 + 1) + 1 + 1 + 1 + 1) + 1 + 1 + 1 + 1) + 1 + 1 + 1 + 1)), rfl, ⟨fun _ => ⟨rfl, rfl, rfl⟩, fun h => absurd c_10 h⟩, by rw [ht]; exact hP, hD⟩, hS.F ht⟩) hS.2.2 dX10_feed_46
  · skip
    have c_10 := k_le_n (by omega) (by omega) c_10
    refine lv_iconst (v := (-1)) hx hb dX10_feed_13 (by decide) ?_
    subst hQ; subst hAe
    exact W.iret (v := (-1)) hx hb hr (fun t ht _ => ⟨⟨(-1), (tape_10, nI z), rfl, ⟨fun h => absurd h (by omega), fun _ => ⟨rfl, rfl, rfl⟩⟩, by rw [ht]; exact hP, hD⟩, hS.F ht⟩) hS.2.2 dX10_feed_14
def rmX10_gatherBeaten : Room := { frames := 3, cells := 0, slots := 0, locals := 67 }
set_option maxHeartbeats 4000000 in
set_option maxRecDepth 100000 in
theorem c_X10_gatherBeaten (l : Launch) (D : va_G) (cI cJ cB : ClassId) (q10 : Nat → Nat) (st_10 : Nat → Int32) (kept_10 : Nat → Int32) (undoable_10 : Int32) (newest_10 : Int32) (tape_10 : Nat → Int32) (taped_10 : Int32) (marks_10 : Nat → Int32) (order_10 : Nat → Int32) (reach_10 : Nat → Int32) (heapOf_10 : Nat → Int32) (rows_10 : Nat → Int64) (x_10 : Nat → Int64) (overs_10 : Nat → Int32) (costs_10 : Nat → Int32) (ways_10 : Nat → Int32) (digits_10 : Nat → Int32) (beaten_10 : Nat → Int32) (walks_10 : Nat → Int32) (n : Nat) (ml : List Mt) (nx : List (Nat × Nat)) (ks : List Nat) (rr : Int32 × Int32 × Int32) (hR : RS st_10 n ml nx ks rr) (hV : VS n ml nx ks) : ∀ sz, Met l yX10_gatherBeaten wsX10_gatherBeaten rmX10_gatherBeaten (va_Pc [.ref (q10 0)] (PW D (kT cI cJ cB) sz (wX10 q10 cI cJ cB st_10 kept_10 undoable_10 newest_10 tape_10 taped_10 marks_10 order_10 reach_10 heapOf_10 rows_10 x_10 overs_10 costs_10 ways_10 digits_10 beaten_10 walks_10))) (va_Qv (S := (Nat → Int32)) (fun beaten_10' => ∀ a, a < n → beaten_10' a = nI (btF ml n a)) (QW D sz (wX10 q10 cI cJ cB st_10 kept_10 undoable_10 newest_10 tape_10 taped_10 marks_10 order_10 reach_10 heapOf_10 rows_10 x_10 overs_10 costs_10 ways_10 digits_10 beaten_10 walks_10) (fun beaten_10' => (wX10 q10 cI cJ cB st_10 kept_10 undoable_10 newest_10 tape_10 taped_10 marks_10 order_10 reach_10 heapOf_10 rows_10 x_10 overs_10 costs_10 ways_10 digits_10 beaten_10' walks_10))) (va_A (wX10 q10 cI cJ cB st_10 kept_10 undoable_10 newest_10 tape_10 taped_10 marks_10 order_10 reach_10 heapOf_10 rows_10 x_10 overs_10 costs_10 ways_10 digits_10 beaten_10 walks_10) sz)) 0 0 (va_A (wX10 q10 cI cJ cB st_10 kept_10 undoable_10 newest_10 tape_10 taped_10 marks_10 order_10 reach_10 heapOf_10 rows_10 x_10 overs_10 costs_10 ways_10 digits_10 beaten_10 walks_10) sz) := by
  intro sz
  refine Met.ofW (cc := cX10_gatherBeaten) (maxL := 3) (ret := none) (by decide) rfl ?_
  intro p e s m args below meth c s₁ B hml hv
  obtain ⟨hav, hsz, hP, hKW, hD0⟩ := hv
  have hx := B.exec
  have hb := B.bytes
  have hr := B.returns
  have hts := atoms_spec (ws := wsX10_gatherBeaten) B.pre
  have hown : s.vm.findClass RX10 = some m.cls := findClass_of_methodNamed B.named
  have hlocks := B.notSynchronized
  subst hsz
  have hD := hD0.self (sz := s.heap.size)
  obtain ⟨A, hAe⟩ : ∃ A : Nat → Prop, A = va_A (wX10 q10 cI cJ cB st_10 kept_10 undoable_10 newest_10 tape_10 taped_10 marks_10 order_10 reach_10 heapOf_10 rows_10 x_10 overs_10 costs_10 ways_10 digits_10 beaten_10 walks_10) s.heap.size := ⟨_, rfl⟩
  rw [← hAe] at hD
  have hA : ∀ q : Nat, s.heap.size ≤ q → A q := fun q h => by rw [hAe]; exact Or.inr h
  have hS : va_S A s.heap s.heap [] := va_S.rf
  refine k_gen (fun Q hQ => ?_)
  have hl := lv_entry ([.ref (q10 0)]) (n := 3) (Nat.le_of_ble_eq_true rfl)
  refine k_entry hav (lg_entry_eq ..) ?_
  generalize (lg_sl ([.ref (q10 0)]) ++ List.replicate (3 - (lg_sl ([.ref (q10 0)])).length) Slot.unset).toArray = ls at hl ⊢
  have hl : lv_has ls 3 [(0, .ref (q10 0))] := hl
  have hu_10 : ∀ w ∈ u_ws RX10 TX10 18, w ∈ wsX10_gatherBeaten := by decide +kernel
  have hf_50 : Cond.fieldLink RX10 50 "MeetingRanksModel" "beaten" "[I" ∈ wsX10_gatherBeaten := by decide +kernel
  have hn1 := hV.1
  have hn10 := hV.2.1
  have hm120 := hV.2.2.1
  have hx40 := hV.2.2.2.2.1
  have hk4 := hV.2.2.2.2.2.2.1
  have h2n := pow_le_1024 hn10
  have h2p := Nat.two_pow_pos n
  refine lv_iconst (v := nI 0) hx hb dX10_gatherBeaten_0 (by decide) ?_
  refine lv_istore_n (lv' := [(1, .int (nI 0)), (0, .ref (q10 0))]) hx hb dX10_gatherBeaten_1 rfl hl (by decide) rfl (fun ls hl => ?_)
  have hL_2 : ∀ (fu : Nat) (a : Nat) (f : Nat → Int32) (ha : a ≤ n) (hf : ∀ x, x < a → f x = nI (btF ml n x)), n - a < fu → ∀ (H : Heap) (locs : List Loc), va_P D vwCl (wX10 q10 cI cJ cB st_10 kept_10 undoable_10 newest_10 tape_10 taped_10 marks_10 order_10 reach_10 heapOf_10 rows_10 x_10 overs_10 costs_10 ways_10 digits_10 f walks_10) H → va_D A (wX10 q10 cI cJ cB st_10 kept_10 undoable_10 newest_10 tape_10 taped_10 marks_10 order_10 reach_10 heapOf_10 rows_10 x_10 overs_10 costs_10 ways_10 digits_10 f walks_10) → va_S A s.heap H locs → ∀ (ls : Array Slot), lv_has ls 3 [(0, .ref (q10 0)), (1, .int (nI a))] → W p l e (headSpec wsX10_gatherBeaten rmX10_gatherBeaten).room s m args below meth c H locs 0 0 Q (F0 m 2 ls []) := by
    intro fu
    induction fu with
    | zero => intro a f ha hf hfu; exact absurd hfu (Nat.not_lt_zero _)
    | succ fu ih_2 =>
      intro a f ha hf hfu H locs hP hD hS ls hl
      refine lv_iload_n hx hb dX10_gatherBeaten_2 rfl (lv_at hl 1 rfl) ?_
      refine lv_aload_n hx hb dX10_gatherBeaten_3 rfl (lv_at hl 0 rfl) ?_
      have hs_4 : kSplit (wX10 q10 cI cJ cB st_10 kept_10 undoable_10 newest_10 tape_10 taped_10 marks_10 order_10 reach_10 heapOf_10 rows_10 x_10 overs_10 costs_10 ways_10 digits_10 f walks_10) (wX10 q10 cI cJ cB st_10 kept_10 undoable_10 newest_10 tape_10 taped_10 marks_10 order_10 reach_10 heapOf_10 rows_10 x_10 overs_10 costs_10 ways_10 digits_10 f walks_10) ([] : va_W) [0, 1, 2, 3, 4, 5, 6, 7, 8, 9, 10, 11, 12, 13, 14, 15] [] := ⟨rfl, rfl, rfl, rfl, rfl, by decide⟩
      refine kc_i hP hD hS hA hs_4 (kV (As := []) (rest := [.int (nI a)]) hx hb hml hown hts hKW hP hD hs_4 (c_X10_n l D cI cJ cB q10 st_10 kept_10 undoable_10 newest_10 tape_10 taped_10 marks_10 order_10 reach_10 heapOf_10 rows_10 x_10 overs_10 costs_10 ways_10 digits_10 f walks_10 n ml nx ks rr (by first | assumption | omega) (by first | assumption | omega)) (cwV 0 hts gX10_gatherBeaten_X10_n rfl rfl rfl (by decide +kernel) ⟨Nat.le_of_ble_eq_true rfl, Nat.le_of_ble_eq_true rfl⟩) 0 10 rfl rfl rfl rfl hl.1 rfl (Nat.le_of_ble_eq_true rfl) dX10_gatherBeaten_4 ⟨Nat.zero_le _, Nat.zero_le _⟩) (fun r_4 u_4 H locs hw_4 hP hD hS => ?_)
      have er_4 := hw_4
      have er_4 := er_4.symm
      subst er_4
      have hP : va_P D vwCl (wX10 q10 cI cJ cB st_10 kept_10 undoable_10 newest_10 tape_10 taped_10 marks_10 order_10 reach_10 heapOf_10 rows_10 x_10 overs_10 costs_10 ways_10 digits_10 f walks_10) H := hP.sub (ws' := (wX10 q10 cI cJ cB st_10 kept_10 undoable_10 newest_10 tape_10 taped_10 marks_10 order_10 reach_10 heapOf_10 rows_10 x_10 overs_10 costs_10 ways_10 digits_10 f walks_10)) [0, 1, 2, 3, 4, 5, 6, 7, 8, 9, 10, 11, 12, 13, 14, 15] rfl
      have hD : va_D A (wX10 q10 cI cJ cB st_10 kept_10 undoable_10 newest_10 tape_10 taped_10 marks_10 order_10 reach_10 heapOf_10 rows_10 x_10 overs_10 costs_10 ways_10 digits_10 f walks_10) := hD.sub (ws' := (wX10 q10 cI cJ cB st_10 kept_10 undoable_10 newest_10 tape_10 taped_10 marks_10 order_10 reach_10 heapOf_10 rows_10 x_10 overs_10 costs_10 ways_10 digits_10 f walks_10)) [0, 1, 2, 3, 4, 5, 6, 7, 8, 9, 10, 11, 12, 13, 14, 15] (by decide) rfl
      refine lv_icmp_ge (tgt := 69) hx hb dX10_gatherBeaten_7 (by decide) (fun c_7 => ?_) (fun c_7 => ?_)
      · skip
        have c_7 := k_ge (by omega) (by omega) c_7
        obtain rfl : n = a := by omega
        subst hQ; subst hAe
        exact W.vret hx hb hr (fun t ht _ => ⟨⟨(f), rfl, hf, by rw [ht]; exact hP, hD⟩, hS.F ht⟩) hS.2.2 dX10_gatherBeaten_69
      · skip
        have c_7 := k_ge_n (by omega) (by omega) c_7
        refine lv_aload_n hx hb dX10_gatherBeaten_10 rfl (lv_at hl 0 rfl) ?_
        refine k_get (ci := 10) (v := .ref (q10 14)) (C := RX10) (Tb := TX10) (N := 18) hx hb hts hu_10 hown hKW hP 0 rfl rfl 16 (by decide) hf_50 rfl rfl dX10_gatherBeaten_11 ?_
        refine lv_iload_n hx hb dX10_gatherBeaten_14 rfl (lv_at hl 1 rfl) ?_
        refine lv_iconst (v := nI 0) hx hb dX10_gatherBeaten_15 (by decide) ?_
        refine k_iast (n := 10) (i := a) (x := nI 0) (w' := (wX10 q10 cI cJ cB st_10 kept_10 undoable_10 newest_10 tape_10 taped_10 marks_10 order_10 reach_10 heapOf_10 rows_10 x_10 overs_10 costs_10 ways_10 digits_10 (upd f a (nI 0)) walks_10)) hx hb hKW hP hD hS 14 0 rfl rfl (by omega) (by omega) dX10_gatherBeaten_16 rfl (fun H locs hP hD hS => ?_)
        refine lv_iconst (v := nI 0) hx hb dX10_gatherBeaten_17 (by decide) ?_
        refine lv_istore_n (lv' := [(2, .int (nI 0)), (0, .ref (q10 0)), (1, .int (nI a))]) hx hb dX10_gatherBeaten_18 rfl hl (by decide) rfl (fun ls hl => ?_)
        have hL_19 : ∀ (fu : Nat) (b : Nat) (g : Nat → Int32) (hb2 : b ≤ n) (hf2 : ∀ x, x < a → g x = nI (btF ml n x)) (hg : g a = nI (bitsOf (fun b => decide (ov ml b a < ov ml a b)) b)), n - b < fu → ∀ (H : Heap) (locs : List Loc), va_P D vwCl (wX10 q10 cI cJ cB st_10 kept_10 undoable_10 newest_10 tape_10 taped_10 marks_10 order_10 reach_10 heapOf_10 rows_10 x_10 overs_10 costs_10 ways_10 digits_10 g walks_10) H → va_D A (wX10 q10 cI cJ cB st_10 kept_10 undoable_10 newest_10 tape_10 taped_10 marks_10 order_10 reach_10 heapOf_10 rows_10 x_10 overs_10 costs_10 ways_10 digits_10 g walks_10) → va_S A s.heap H locs → ∀ (ls : Array Slot), lv_has ls 3 [(0, .ref (q10 0)), (1, .int (nI a)), (2, .int (nI b))] → W p l e (headSpec wsX10_gatherBeaten rmX10_gatherBeaten).room s m args below meth c H locs 0 0 Q (F0 m 19 ls []) := by
          intro fu
          induction fu with
          | zero => intro b g hb2 hf2 hg hfu; exact absurd hfu (Nat.not_lt_zero _)
          | succ fu ih_19 =>
            intro b g hb2 hf2 hg hfu H locs hP hD hS ls hl
            refine lv_iload_n hx hb dX10_gatherBeaten_19 rfl (lv_at hl 2 rfl) ?_
            refine lv_aload_n hx hb dX10_gatherBeaten_20 rfl (lv_at hl 0 rfl) ?_
            have hs_21 : kSplit (wX10 q10 cI cJ cB st_10 kept_10 undoable_10 newest_10 tape_10 taped_10 marks_10 order_10 reach_10 heapOf_10 rows_10 x_10 overs_10 costs_10 ways_10 digits_10 g walks_10) (wX10 q10 cI cJ cB st_10 kept_10 undoable_10 newest_10 tape_10 taped_10 marks_10 order_10 reach_10 heapOf_10 rows_10 x_10 overs_10 costs_10 ways_10 digits_10 g walks_10) ([] : va_W) [0, 1, 2, 3, 4, 5, 6, 7, 8, 9, 10, 11, 12, 13, 14, 15] [] := ⟨rfl, rfl, rfl, rfl, rfl, by decide⟩
            refine kc_i hP hD hS hA hs_21 (kV (As := []) (rest := [.int (nI b)]) hx hb hml hown hts hKW hP hD hs_21 (c_X10_n l D cI cJ cB q10 st_10 kept_10 undoable_10 newest_10 tape_10 taped_10 marks_10 order_10 reach_10 heapOf_10 rows_10 x_10 overs_10 costs_10 ways_10 digits_10 g walks_10 n ml nx ks rr (by first | assumption | omega) (by first | assumption | omega)) (cwV 0 hts gX10_gatherBeaten_X10_n rfl rfl rfl (by decide +kernel) ⟨Nat.le_of_ble_eq_true rfl, Nat.le_of_ble_eq_true rfl⟩) 0 10 rfl rfl rfl rfl hl.1 rfl (Nat.le_of_ble_eq_true rfl) dX10_gatherBeaten_21 ⟨Nat.zero_le _, Nat.zero_le _⟩) (fun r_21 u_21 H locs hw_21 hP hD hS => ?_)
            have er_21 := hw_21
            have er_21 := er_21.symm
            subst er_21
            have hP : va_P D vwCl (wX10 q10 cI cJ cB st_10 kept_10 undoable_10 newest_10 tape_10 taped_10 marks_10 order_10 reach_10 heapOf_10 rows_10 x_10 overs_10 costs_10 ways_10 digits_10 g walks_10) H := hP.sub (ws' := (wX10 q10 cI cJ cB st_10 kept_10 undoable_10 newest_10 tape_10 taped_10 marks_10 order_10 reach_10 heapOf_10 rows_10 x_10 overs_10 costs_10 ways_10 digits_10 g walks_10)) [0, 1, 2, 3, 4, 5, 6, 7, 8, 9, 10, 11, 12, 13, 14, 15] rfl
            have hD : va_D A (wX10 q10 cI cJ cB st_10 kept_10 undoable_10 newest_10 tape_10 taped_10 marks_10 order_10 reach_10 heapOf_10 rows_10 x_10 overs_10 costs_10 ways_10 digits_10 g walks_10) := hD.sub (ws' := (wX10 q10 cI cJ cB st_10 kept_10 undoable_10 newest_10 tape_10 taped_10 marks_10 order_10 reach_10 heapOf_10 rows_10 x_10 overs_10 costs_10 ways_10 digits_10 g walks_10)) [0, 1, 2, 3, 4, 5, 6, 7, 8, 9, 10, 11, 12, 13, 14, 15] (by decide) rfl
            refine lv_icmp_ge (tgt := 63) hx hb dX10_gatherBeaten_24 (by decide) (fun c_24 => ?_) (fun c_24 => ?_)
            · skip
              have c_24 := k_ge (by omega) (by omega) c_24
              obtain rfl : n = b := by omega
              refine lv_iinc (v := nI (a + 1)) (lv' := [(1, .int (nI (a + 1))), (0, .ref (q10 0)), (2, .int (nI n))]) hx hb dX10_gatherBeaten_63 hl (k := 1) rfl (nI_add _ _) (by decide) rfl (fun ls hl => ?_)
              refine lv_goto (tgt := 2) hx hb dX10_gatherBeaten_66 (by decide) ?_
              exact ih_2 _ _ (by omega) (fun x hx9 => by by_cases e9 : x = a; (subst e9; exact hg); (exact hf2 x (by omega))) (by omega) _ _ hP hD hS ls (lv_sub hl [1, 0] rfl)
            · skip
              have c_24 := k_ge_n (by omega) (by omega) c_24
              refine lv_aload_n hx hb dX10_gatherBeaten_27 rfl (lv_at hl 0 rfl) ?_
              refine k_get (ci := 10) (v := .ref (q10 14)) (C := RX10) (Tb := TX10) (N := 18) hx hb hts hu_10 hown hKW hP 0 rfl rfl 16 (by decide) hf_50 rfl rfl dX10_gatherBeaten_28 ?_
              refine lv_iload_n hx hb dX10_gatherBeaten_31 rfl (lv_at hl 1 rfl) ?_
              refine lv_dup2_11 hx hb dX10_gatherBeaten_32 rfl rfl ?_
              refine k_iald (n := 10) (i := a) hx hb hKW hP 14 0 rfl rfl (by omega) (by omega) dX10_gatherBeaten_33 ?_
              refine k_top (y := nI (bitsOf (fun b => decide (ov ml b a < ov ml a b)) b)) (hg) ?_
              have hJ_55 : ∀ (z : Nat) (hz : z = if decide (ov ml b a < ov ml a b) = true then 2 ^ b else 0), ∀ (H : Heap) (locs : List Loc), va_P D vwCl (wX10 q10 cI cJ cB st_10 kept_10 undoable_10 newest_10 tape_10 taped_10 marks_10 order_10 reach_10 heapOf_10 rows_10 x_10 overs_10 costs_10 ways_10 digits_10 g walks_10) H → va_D A (wX10 q10 cI cJ cB st_10 kept_10 undoable_10 newest_10 tape_10 taped_10 marks_10 order_10 reach_10 heapOf_10 rows_10 x_10 overs_10 costs_10 ways_10 digits_10 g walks_10) → va_S A s.heap H locs → ∀ (ls : Array Slot), lv_has ls 3 [(0, .ref (q10 0)), (1, .int (nI a)), (2, .int (nI b))] → W p l e (headSpec wsX10_gatherBeaten rmX10_gatherBeaten).room s m args below meth c H locs 0 0 Q (F0 m 55 ls [.int (nI z), .int (nI (bitsOf (fun b => decide (ov ml b a < ov ml a b)) b)), .int (nI a), .ref (q10 14)]) := by
                intro z hz H locs hP hD hS ls hl
                refine lv_ior hx hb dX10_gatherBeaten_55 ?_
                refine k_top (y := nI (bitsOf (fun b => decide (ov ml b a < ov ml a b)) b ||| z)) (k_or _ _) ?_
                refine k_iast (n := 10) (i := a) (x := nI (bitsOf (fun b => decide (ov ml b a < ov ml a b)) b ||| z)) (w' := (wX10 q10 cI cJ cB st_10 kept_10 undoable_10 newest_10 tape_10 taped_10 marks_10 order_10 reach_10 heapOf_10 rows_10 x_10 overs_10 costs_10 ways_10 digits_10 (upd g a (nI (bitsOf (fun b => decide (ov ml b a < ov ml a b)) b ||| z))) walks_10)) hx hb hKW hP hD hS 14 0 rfl rfl (by omega) (by omega) dX10_gatherBeaten_56 rfl (fun H locs hP hD hS => ?_)
                refine lv_iinc (v := nI (b + 1)) (lv' := [(2, .int (nI (b + 1))), (0, .ref (q10 0)), (1, .int (nI a))]) hx hb dX10_gatherBeaten_57 hl (k := 2) rfl (nI_add _ _) (by decide) rfl (fun ls hl => ?_)
                refine lv_goto (tgt := 19) hx hb dX10_gatherBeaten_60 (by decide) ?_
                exact ih_19 _ _ (by omega) (fun x hx9 => by rw [pk_un (by omega)]; exact hf2 x hx9) (by rw [pk_us, hz]; rfl) (by omega) _ _ hP hD hS ls (lv_sub hl [1, 2, 0] rfl)
              refine lv_iload_n hx hb dX10_gatherBeaten_34 rfl (lv_at hl 1 rfl) ?_
              refine lv_iload_n hx hb dX10_gatherBeaten_35 rfl (lv_at hl 2 rfl) ?_
              refine lv_icmp_eq (tgt := 54) hx hb dX10_gatherBeaten_36 (by decide) (fun c_36 => ?_) (fun c_36 => ?_)
              · skip
                have c_36 := k_eq (by omega) (by omega) c_36
                refine lv_iconst (v := nI 0) hx hb dX10_gatherBeaten_54 (by decide) ?_
                exact hJ_55 _ (by rw [c_36, if_neg (by rw [decide_eq_true_eq]; omega)]) H locs hP hD hS ls (lv_sub hl [0, 1, 2] rfl)
              · skip
                have c_36 := k_eq_n (by omega) (by omega) c_36
                refine lv_aload_n hx hb dX10_gatherBeaten_39 rfl (lv_at hl 0 rfl) ?_
                refine lv_iload_n hx hb dX10_gatherBeaten_40 rfl (lv_at hl 1 rfl) ?_
                refine lv_iload_n hx hb dX10_gatherBeaten_41 rfl (lv_at hl 2 rfl) ?_
                have hs_42 : kSplit (wX10 q10 cI cJ cB st_10 kept_10 undoable_10 newest_10 tape_10 taped_10 marks_10 order_10 reach_10 heapOf_10 rows_10 x_10 overs_10 costs_10 ways_10 digits_10 g walks_10) (wX10 q10 cI cJ cB st_10 kept_10 undoable_10 newest_10 tape_10 taped_10 marks_10 order_10 reach_10 heapOf_10 rows_10 x_10 overs_10 costs_10 ways_10 digits_10 g walks_10) ([] : va_W) [0, 1, 2, 3, 4, 5, 6, 7, 8, 9, 10, 11, 12, 13, 14, 15] [] := ⟨rfl, rfl, rfl, rfl, rfl, by decide⟩
                refine kc_i hP hD hS hA hs_42 (kV (As := [.int (nI a), .int (nI b)]) (rest := [.int (nI (bitsOf (fun b => decide (ov ml b a < ov ml a b)) b)), .int (nI a), .ref (q10 14)]) hx hb hml hown hts hKW hP hD hs_42 (c_X10_beats l D cI cJ cB q10 st_10 kept_10 undoable_10 newest_10 tape_10 taped_10 marks_10 order_10 reach_10 heapOf_10 rows_10 x_10 overs_10 costs_10 ways_10 digits_10 g walks_10 n ml nx ks rr a b (by first | assumption | omega) (by first | assumption | omega) (by first | assumption | omega) (by first | assumption | omega)) (cwV 2 hts gX10_gatherBeaten_X10_beats rfl rfl rfl (by decide +kernel) ⟨Nat.le_of_ble_eq_true rfl, Nat.le_of_ble_eq_true rfl⟩) 0 10 rfl rfl rfl rfl hl.1 rfl (Nat.le_of_ble_eq_true rfl) dX10_gatherBeaten_42 ⟨Nat.zero_le _, Nat.zero_le _⟩) (fun r_42 u_42 H locs hw_42 hP hD hS => ?_)
                have er_42 := hw_42
                have er_42 := er_42.symm
                subst er_42
                have hP : va_P D vwCl (wX10 q10 cI cJ cB st_10 kept_10 undoable_10 newest_10 tape_10 taped_10 marks_10 order_10 reach_10 heapOf_10 rows_10 x_10 overs_10 costs_10 ways_10 digits_10 g walks_10) H := hP.sub (ws' := (wX10 q10 cI cJ cB st_10 kept_10 undoable_10 newest_10 tape_10 taped_10 marks_10 order_10 reach_10 heapOf_10 rows_10 x_10 overs_10 costs_10 ways_10 digits_10 g walks_10)) [0, 1, 2, 3, 4, 5, 6, 7, 8, 9, 10, 11, 12, 13, 14, 15] rfl
                have hD : va_D A (wX10 q10 cI cJ cB st_10 kept_10 undoable_10 newest_10 tape_10 taped_10 marks_10 order_10 reach_10 heapOf_10 rows_10 x_10 overs_10 costs_10 ways_10 digits_10 g walks_10) := hD.sub (ws' := (wX10 q10 cI cJ cB st_10 kept_10 undoable_10 newest_10 tape_10 taped_10 marks_10 order_10 reach_10 heapOf_10 rows_10 x_10 overs_10 costs_10 ways_10 digits_10 g walks_10)) [0, 1, 2, 3, 4, 5, 6, 7, 8, 9, 10, 11, 12, 13, 14, 15] (by decide) rfl
                refine lv_if_eq (tgt := 54) hx hb dX10_gatherBeaten_45 (by decide) (fun c_45 => ?_) (fun c_45 => ?_)
                · skip
                  have c_45 := k_b0 c_45
                  refine lv_iconst (v := nI 0) hx hb dX10_gatherBeaten_54 (by decide) ?_
                  exact hJ_55 _ (by rw [if_neg (by rw [decide_eq_true_eq]; exact c_45)]) H locs hP hD hS ls (lv_sub hl [0, 1, 2] rfl)
                · skip
                  have c_45 := k_b1 c_45
                  refine lv_iconst (v := nI 1) hx hb dX10_gatherBeaten_48 (by decide) ?_
                  refine lv_iload_n hx hb dX10_gatherBeaten_49 rfl (lv_at hl 2 rfl) ?_
                  refine lv_ishl hx hb dX10_gatherBeaten_50 ?_
                  refine k_top (y := nI (2 ^ b)) (k_shl1 (by omega)) ?_
                  refine lv_goto (tgt := 55) hx hb dX10_gatherBeaten_51 (by decide) ?_
                  exact hJ_55 _ (by rw [if_pos (decide_eq_true c_45)]) H locs hP hD hS ls (lv_sub hl [0, 1, 2] rfl)
        exact hL_19 _ 0 _ (Nat.zero_le _) (fun x hx9 => by rw [pk_un (by omega)]; exact hf x hx9) pk_us (Nat.lt_succ_self _) _ _ hP hD hS ls (lv_sub hl [1, 2, 0] rfl)
  exact hL_2 _ 0 _ (Nat.zero_le _) (fun x hx9 => absurd hx9 (Nat.not_lt_zero x)) (Nat.lt_succ_self _) _ _ hP hD hS ls (lv_sub hl [1, 0] rfl)
def rmX10_many : Room := { frames := 0, cells := 0, slots := 0, locals := 0 }
set_option maxHeartbeats 4000000 in
set_option maxRecDepth 100000 in
theorem c_X10_many (l : Launch) (D : va_G) (cI cJ cB : ClassId) (S : Nat) (hS10 : S < 2 ^ 31) : ∀ sz, Met l yX10_many wsX10_many rmX10_many (va_Pc [.int (nI S)] (PW D (kT cI cJ cB) sz ([] : va_W))) (va_Qi (S := Unit) (fun r _ => r = nI (pcF S 10)) (QW D sz ([] : va_W) (fun _ => ([] : va_W))) (va_A ([] : va_W) sz)) 0 0 (va_A ([] : va_W) sz) := by
  intro sz
  refine Met.ofW (cc := cX10_many) (maxL := 3) (ret := (some .int)) (by decide) rfl ?_
  intro p e s m args below meth c s₁ B hml hv
  obtain ⟨hav, hsz, hP, hKW, hD0⟩ := hv
  have hx := B.exec
  have hb := B.bytes
  have hr := B.returns
  have hts := atoms_spec (ws := wsX10_many) B.pre
  have hown : s.vm.findClass RX10 = some m.cls := findClass_of_methodNamed B.named
  have hlocks := B.notSynchronized
  subst hsz
  have hD := hD0.self (sz := s.heap.size)
  obtain ⟨A, hAe⟩ : ∃ A : Nat → Prop, A = va_A ([] : va_W) s.heap.size := ⟨_, rfl⟩
  rw [← hAe] at hD
  have hA : ∀ q : Nat, s.heap.size ≤ q → A q := fun q h => by rw [hAe]; exact Or.inr h
  have hS : va_S A s.heap s.heap [] := va_S.rf
  refine k_gen (fun Q hQ => ?_)
  have hl := lv_entry ([.int (nI S)]) (n := 3) (Nat.le_of_ble_eq_true rfl)
  refine k_entry hav (lg_entry_eq ..) ?_
  generalize (lg_sl ([.int (nI S)]) ++ List.replicate (3 - (lg_sl ([.int (nI S)])).length) Slot.unset).toArray = ls at hl ⊢
  have hl : lv_has ls 3 [(0, .int (nI S))] := hl
  refine lv_iconst (v := nI 0) hx hb dX10_many_0 (by decide) ?_
  refine lv_istore_n (lv' := [(1, .int (nI 0)), (0, .int (nI S))]) hx hb dX10_many_1 rfl hl (by decide) rfl (fun ls hl => ?_)
  refine lv_iconst (v := nI 0) hx hb dX10_many_2 (by decide) ?_
  refine lv_istore_n (lv' := [(2, .int (nI 0)), (1, .int (nI 0)), (0, .int (nI S))]) hx hb dX10_many_3 rfl hl (by decide) rfl (fun ls hl => ?_)
  have hL_4 : ∀ (fu : Nat) (k : Nat) (hk : k ≤ 10), 10 - k < fu → ∀ (H : Heap) (locs : List Loc), va_P D vwCl ([] : va_W) H → va_D A ([] : va_W) → va_S A s.heap H locs → ∀ (ls : Array Slot), lv_has ls 3 [(0, .int (nI S)), (1, .int (nI (pcF S k))), (2, .int (nI k))] → W p l e (headSpec wsX10_many rmX10_many).room s m args below meth c H locs 0 0 Q (F0 m 4 ls []) := by
    intro fu
    induction fu with
    | zero => intro k hk hfu; exact absurd hfu (Nat.not_lt_zero _)
    | succ fu ih_4 =>
      intro k hk hfu H locs hP hD hS ls hl
      refine lv_iload_n hx hb dX10_many_4 rfl (lv_at hl 2 rfl) ?_
      refine lv_bipush (v := nI 10) hx hb dX10_many_5 (by decide) ?_
      refine lv_icmp_ge (tgt := 24) hx hb dX10_many_7 (by decide) (fun c_7 => ?_) (fun c_7 => ?_)
      · skip
        have c_7 := k_ge (by omega) (by omega) c_7
        obtain rfl : k = 10 := by omega
        refine lv_iload_n hx hb dX10_many_24 rfl (lv_at hl 1 rfl) ?_
        subst hQ; subst hAe
        exact W.iret (v := nI (pcF S 10)) hx hb hr (fun t ht _ => ⟨⟨nI (pcF S 10), (), rfl, rfl, by rw [ht]; exact hP, hD⟩, hS.F ht⟩) hS.2.2 dX10_many_25
      · skip
        have c_7 := k_ge_n (by omega) (by omega) c_7
        refine lv_iload_n hx hb dX10_many_10 rfl (lv_at hl 1 rfl) ?_
        refine lv_iload_n hx hb dX10_many_11 rfl (lv_at hl 0 rfl) ?_
        refine lv_iload_n hx hb dX10_many_12 rfl (lv_at hl 2 rfl) ?_
        refine lv_ishr hx hb dX10_many_13 ?_
        refine k_top (y := nI (S / 2 ^ k)) (k_shr (by omega) (by omega)) ?_
        refine lv_iconst (v := nI 1) hx hb dX10_many_14 (by decide) ?_
        refine lv_iand hx hb dX10_many_15 ?_
        refine k_top (y := nI (S / 2 ^ k % 2)) (k_and1 _ (k_shr_lt (by omega))) ?_
        refine k_iadd hx hb dX10_many_16 ?_
        refine lv_istore_n (lv' := [(1, .int (nI ((pcF S k) + (S / 2 ^ k % 2)))), (0, .int (nI S)), (2, .int (nI k))]) hx hb dX10_many_17 rfl hl (by decide) rfl (fun ls hl => ?_)
        refine lv_iinc (v := nI (k + 1)) (lv' := [(2, .int (nI (k + 1))), (1, .int (nI ((pcF S k) + (S / 2 ^ k % 2)))), (0, .int (nI S))]) hx hb dX10_many_18 hl (k := 2) rfl (nI_add _ _) (by decide) rfl (fun ls hl => ?_)
        refine lv_goto (tgt := 4) hx hb dX10_many_21 (by decide) ?_
        exact ih_4 (k + 1) (by omega) (by omega) _ _ hP hD hS ls (lv_sub hl [2, 1, 0] rfl)
  exact hL_4 _ 0 (Nat.zero_le _) (Nat.lt_succ_self _) _ _ hP hD hS ls (lv_sub hl [2, 1, 0] rfl)
def rmX10_champion : Room := { frames := 4, cells := 0, slots := 0, locals := 89 }
set_option maxHeartbeats 4000000 in
set_option maxRecDepth 100000 in
theorem c_X10_champion (l : Launch) (D : va_G) (cI cJ cB : ClassId) (q10 : Nat → Nat) (st_10 : Nat → Int32) (kept_10 : Nat → Int32) (undoable_10 : Int32) (newest_10 : Int32) (tape_10 : Nat → Int32) (taped_10 : Int32) (marks_10 : Nat → Int32) (order_10 : Nat → Int32) (reach_10 : Nat → Int32) (heapOf_10 : Nat → Int32) (rows_10 : Nat → Int64) (x_10 : Nat → Int64) (overs_10 : Nat → Int32) (costs_10 : Nat → Int32) (ways_10 : Nat → Int32) (digits_10 : Nat → Int32) (beaten_10 : Nat → Int32) (walks_10 : Nat → Int32) (n : Nat) (ml : List Mt) (nx : List (Nat × Nat)) (ks : List Nat) (rr : Int32 × Int32 × Int32) (hR : RS st_10 n ml nx ks rr) (hV : VS n ml nx ks) : ∀ sz, Met l yX10_champion wsX10_champion rmX10_champion (va_Pc [.ref (q10 0)] (PW D (kT cI cJ cB) sz (wX10 q10 cI cJ cB st_10 kept_10 undoable_10 newest_10 tape_10 taped_10 marks_10 order_10 reach_10 heapOf_10 rows_10 x_10 overs_10 costs_10 ways_10 digits_10 beaten_10 walks_10))) (va_Qi (S := (Nat → Int32)) (fun r beaten_10' => r = oI (srch (fun p => decide (pcF (btF ml n p) 10 = n - 1)) 0 n)) (QW D sz (wX10 q10 cI cJ cB st_10 kept_10 undoable_10 newest_10 tape_10 taped_10 marks_10 order_10 reach_10 heapOf_10 rows_10 x_10 overs_10 costs_10 ways_10 digits_10 beaten_10 walks_10) (fun beaten_10' => (wX10 q10 cI cJ cB st_10 kept_10 undoable_10 newest_10 tape_10 taped_10 marks_10 order_10 reach_10 heapOf_10 rows_10 x_10 overs_10 costs_10 ways_10 digits_10 beaten_10' walks_10))) (va_A (wX10 q10 cI cJ cB st_10 kept_10 undoable_10 newest_10 tape_10 taped_10 marks_10 order_10 reach_10 heapOf_10 rows_10 x_10 overs_10 costs_10 ways_10 digits_10 beaten_10 walks_10) sz)) 0 0 (va_A (wX10 q10 cI cJ cB st_10 kept_10 undoable_10 newest_10 tape_10 taped_10 marks_10 order_10 reach_10 heapOf_10 rows_10 x_10 overs_10 costs_10 ways_10 digits_10 beaten_10 walks_10) sz) := by
  intro sz
  refine Met.ofW (cc := cX10_champion) (maxL := 2) (ret := (some .int)) (by decide) rfl ?_
  intro p e s m args below meth c s₁ B hml hv
  obtain ⟨hav, hsz, hP, hKW, hD0⟩ := hv
  have hx := B.exec
  have hb := B.bytes
  have hr := B.returns
  have hts := atoms_spec (ws := wsX10_champion) B.pre
  have hown : s.vm.findClass RX10 = some m.cls := findClass_of_methodNamed B.named
  have hlocks := B.notSynchronized
  subst hsz
  have hD := hD0.self (sz := s.heap.size)
  obtain ⟨A, hAe⟩ : ∃ A : Nat → Prop, A = va_A (wX10 q10 cI cJ cB st_10 kept_10 undoable_10 newest_10 tape_10 taped_10 marks_10 order_10 reach_10 heapOf_10 rows_10 x_10 overs_10 costs_10 ways_10 digits_10 beaten_10 walks_10) s.heap.size := ⟨_, rfl⟩
  rw [← hAe] at hD
  have hA : ∀ q : Nat, s.heap.size ≤ q → A q := fun q h => by rw [hAe]; exact Or.inr h
  have hS : va_S A s.heap s.heap [] := va_S.rf
  refine k_gen (fun Q hQ => ?_)
  have hl := lv_entry ([.ref (q10 0)]) (n := 2) (Nat.le_of_ble_eq_true rfl)
  refine k_entry hav (lg_entry_eq ..) ?_
  generalize (lg_sl ([.ref (q10 0)]) ++ List.replicate (2 - (lg_sl ([.ref (q10 0)])).length) Slot.unset).toArray = ls at hl ⊢
  have hl : lv_has ls 2 [(0, .ref (q10 0))] := hl
  have hu_10 : ∀ w ∈ u_ws RX10 TX10 18, w ∈ wsX10_champion := by decide +kernel
  have hf_50 : Cond.fieldLink RX10 50 "MeetingRanksModel" "beaten" "[I" ∈ wsX10_champion := by decide +kernel
  have hn1 := hV.1
  have hn10 := hV.2.1
  have hm120 := hV.2.2.1
  have hx40 := hV.2.2.2.2.1
  have hk4 := hV.2.2.2.2.2.2.1
  have h2n := pow_le_1024 hn10
  have h2p := Nat.two_pow_pos n
  refine lv_aload_n hx hb dX10_champion_0 rfl (lv_at hl 0 rfl) ?_
  have hs_1 : kSplit (wX10 q10 cI cJ cB st_10 kept_10 undoable_10 newest_10 tape_10 taped_10 marks_10 order_10 reach_10 heapOf_10 rows_10 x_10 overs_10 costs_10 ways_10 digits_10 beaten_10 walks_10) (wX10 q10 cI cJ cB st_10 kept_10 undoable_10 newest_10 tape_10 taped_10 marks_10 order_10 reach_10 heapOf_10 rows_10 x_10 overs_10 costs_10 ways_10 digits_10 beaten_10 walks_10) ([] : va_W) [0, 1, 2, 3, 4, 5, 6, 7, 8, 9, 10, 11, 12, 13, 14, 15] [] := ⟨rfl, rfl, rfl, rfl, rfl, by decide⟩
  refine kc_v hP hD hS hA hs_1 (kV (As := []) (rest := []) hx hb hml hown hts hKW hP hD hs_1 (c_X10_gatherBeaten l D cI cJ cB q10 st_10 kept_10 undoable_10 newest_10 tape_10 taped_10 marks_10 order_10 reach_10 heapOf_10 rows_10 x_10 overs_10 costs_10 ways_10 digits_10 beaten_10 walks_10 n ml nx ks rr (by first | assumption | omega) (by first | assumption | omega)) (cwV 0 hts gX10_champion_X10_gatherBeaten rfl rfl rfl (by decide +kernel) ⟨Nat.le_of_ble_eq_true rfl, Nat.le_of_ble_eq_true rfl⟩) 0 10 rfl rfl rfl rfl hl.1 rfl (Nat.le_of_ble_eq_true rfl) dX10_champion_1 ⟨Nat.zero_le _, Nat.zero_le _⟩) (fun u_1 H locs hw_1 hP hD hS => ?_)
  obtain ⟨beaten_10_1, rfl⟩ : ∃ z, z = u_1 := ⟨_, rfl⟩
  have hP : va_P D vwCl (wX10 q10 cI cJ cB st_10 kept_10 undoable_10 newest_10 tape_10 taped_10 marks_10 order_10 reach_10 heapOf_10 rows_10 x_10 overs_10 costs_10 ways_10 digits_10 beaten_10_1 walks_10) H := hP.sub (ws' := (wX10 q10 cI cJ cB st_10 kept_10 undoable_10 newest_10 tape_10 taped_10 marks_10 order_10 reach_10 heapOf_10 rows_10 x_10 overs_10 costs_10 ways_10 digits_10 beaten_10_1 walks_10)) [0, 1, 2, 3, 4, 5, 6, 7, 8, 9, 10, 11, 12, 13, 14, 15] rfl
  have hD : va_D A (wX10 q10 cI cJ cB st_10 kept_10 undoable_10 newest_10 tape_10 taped_10 marks_10 order_10 reach_10 heapOf_10 rows_10 x_10 overs_10 costs_10 ways_10 digits_10 beaten_10_1 walks_10) := hD.sub (ws' := (wX10 q10 cI cJ cB st_10 kept_10 undoable_10 newest_10 tape_10 taped_10 marks_10 order_10 reach_10 heapOf_10 rows_10 x_10 overs_10 costs_10 ways_10 digits_10 beaten_10_1 walks_10)) [0, 1, 2, 3, 4, 5, 6, 7, 8, 9, 10, 11, 12, 13, 14, 15] (by decide) rfl
  refine lv_iconst (v := nI 0) hx hb dX10_champion_4 (by decide) ?_
  refine lv_istore_n (lv' := [(1, .int (nI 0)), (0, .ref (q10 0))]) hx hb dX10_champion_5 rfl hl (by decide) rfl (fun ls hl => ?_)
  have hL_6 : ∀ (fu : Nat) (p1 : Nat) (hp1 : p1 ≤ n) (hs : srch (fun p => decide (pcF (btF ml n p) 10 = n - 1)) 0 n = srch (fun p => decide (pcF (btF ml n p) 10 = n - 1)) p1 (n - p1)), n - p1 < fu → ∀ (H : Heap) (locs : List Loc), va_P D vwCl (wX10 q10 cI cJ cB st_10 kept_10 undoable_10 newest_10 tape_10 taped_10 marks_10 order_10 reach_10 heapOf_10 rows_10 x_10 overs_10 costs_10 ways_10 digits_10 beaten_10_1 walks_10) H → va_D A (wX10 q10 cI cJ cB st_10 kept_10 undoable_10 newest_10 tape_10 taped_10 marks_10 order_10 reach_10 heapOf_10 rows_10 x_10 overs_10 costs_10 ways_10 digits_10 beaten_10_1 walks_10) → va_S A s.heap H locs → ∀ (ls : Array Slot), lv_has ls 2 [(0, .ref (q10 0)), (1, .int (nI p1))] → W p l e (headSpec wsX10_champion rmX10_champion).room s m args below meth c H locs 0 0 Q (F0 m 6 ls []) := by
    intro fu
    induction fu with
    | zero => intro p1 hp1 hs hfu; exact absurd hfu (Nat.not_lt_zero _)
    | succ fu ih_6 =>
      intro p1 hp1 hs hfu H locs hP hD hS ls hl
      refine lv_iload_n hx hb dX10_champion_6 rfl (lv_at hl 1 rfl) ?_
      refine lv_aload_n hx hb dX10_champion_7 rfl (lv_at hl 0 rfl) ?_
      have hs_8 : kSplit (wX10 q10 cI cJ cB st_10 kept_10 undoable_10 newest_10 tape_10 taped_10 marks_10 order_10 reach_10 heapOf_10 rows_10 x_10 overs_10 costs_10 ways_10 digits_10 beaten_10_1 walks_10) (wX10 q10 cI cJ cB st_10 kept_10 undoable_10 newest_10 tape_10 taped_10 marks_10 order_10 reach_10 heapOf_10 rows_10 x_10 overs_10 costs_10 ways_10 digits_10 beaten_10_1 walks_10) ([] : va_W) [0, 1, 2, 3, 4, 5, 6, 7, 8, 9, 10, 11, 12, 13, 14, 15] [] := ⟨rfl, rfl, rfl, rfl, rfl, by decide⟩
      refine kc_i hP hD hS hA hs_8 (kV (As := []) (rest := [.int (nI p1)]) hx hb hml hown hts hKW hP hD hs_8 (c_X10_n l D cI cJ cB q10 st_10 kept_10 undoable_10 newest_10 tape_10 taped_10 marks_10 order_10 reach_10 heapOf_10 rows_10 x_10 overs_10 costs_10 ways_10 digits_10 beaten_10_1 walks_10 n ml nx ks rr (by first | assumption | omega) (by first | assumption | omega)) (cwV 0 hts gX10_champion_X10_n rfl rfl rfl (by decide +kernel) ⟨Nat.le_of_ble_eq_true rfl, Nat.le_of_ble_eq_true rfl⟩) 0 10 rfl rfl rfl rfl hl.1 rfl (Nat.le_of_ble_eq_true rfl) dX10_champion_8 ⟨Nat.zero_le _, Nat.zero_le _⟩) (fun r_8 u_8 H locs hw_8 hP hD hS => ?_)
      have er_8 := hw_8
      have er_8 := er_8.symm
      subst er_8
      have hP : va_P D vwCl (wX10 q10 cI cJ cB st_10 kept_10 undoable_10 newest_10 tape_10 taped_10 marks_10 order_10 reach_10 heapOf_10 rows_10 x_10 overs_10 costs_10 ways_10 digits_10 beaten_10_1 walks_10) H := hP.sub (ws' := (wX10 q10 cI cJ cB st_10 kept_10 undoable_10 newest_10 tape_10 taped_10 marks_10 order_10 reach_10 heapOf_10 rows_10 x_10 overs_10 costs_10 ways_10 digits_10 beaten_10_1 walks_10)) [0, 1, 2, 3, 4, 5, 6, 7, 8, 9, 10, 11, 12, 13, 14, 15] rfl
      have hD : va_D A (wX10 q10 cI cJ cB st_10 kept_10 undoable_10 newest_10 tape_10 taped_10 marks_10 order_10 reach_10 heapOf_10 rows_10 x_10 overs_10 costs_10 ways_10 digits_10 beaten_10_1 walks_10) := hD.sub (ws' := (wX10 q10 cI cJ cB st_10 kept_10 undoable_10 newest_10 tape_10 taped_10 marks_10 order_10 reach_10 heapOf_10 rows_10 x_10 overs_10 costs_10 ways_10 digits_10 beaten_10_1 walks_10)) [0, 1, 2, 3, 4, 5, 6, 7, 8, 9, 10, 11, 12, 13, 14, 15] (by decide) rfl
      refine lv_icmp_ge (tgt := 40) hx hb dX10_champion_11 (by decide) (fun c_11 => ?_) (fun c_11 => ?_)
      · skip
        have c_11 := k_ge (by omega) (by omega) c_11
        refine lv_iconst (v := (-1)) hx hb dX10_champion_40 (by decide) ?_
        subst hQ; subst hAe
        exact W.iret (v := (-1)) hx hb hr (fun t ht _ => ⟨⟨(-1), (beaten_10_1), rfl, by rw [hs, show n - p1 = 0 by omega]; rfl, by rw [ht]; exact hP, hD⟩, hS.F ht⟩) hS.2.2 dX10_champion_41
      · skip
        have c_11 := k_ge_n (by omega) (by omega) c_11
        refine lv_aload_n hx hb dX10_champion_14 rfl (lv_at hl 0 rfl) ?_
        refine k_get (ci := 10) (v := .ref (q10 14)) (C := RX10) (Tb := TX10) (N := 18) hx hb hts hu_10 hown hKW hP 0 rfl rfl 16 (by decide) hf_50 rfl rfl dX10_champion_15 ?_
        refine lv_iload_n hx hb dX10_champion_18 rfl (lv_at hl 1 rfl) ?_
        refine k_iald (n := 10) (i := p1) hx hb hKW hP 14 0 rfl rfl (by omega) (by omega) dX10_champion_19 ?_
        refine k_top (y := nI (btF ml n p1)) (hw_1 p1 (by omega)) ?_
        have hs_20 : kSplit (wX10 q10 cI cJ cB st_10 kept_10 undoable_10 newest_10 tape_10 taped_10 marks_10 order_10 reach_10 heapOf_10 rows_10 x_10 overs_10 costs_10 ways_10 digits_10 beaten_10_1 walks_10) ([] : va_W) (wX10 q10 cI cJ cB st_10 kept_10 undoable_10 newest_10 tape_10 taped_10 marks_10 order_10 reach_10 heapOf_10 rows_10 x_10 overs_10 costs_10 ways_10 digits_10 beaten_10_1 walks_10) [] [0, 1, 2, 3, 4, 5, 6, 7, 8, 9, 10, 11, 12, 13, 14, 15] := ⟨rfl, rfl, rfl, rfl, rfl, by decide⟩
        refine kc_i hP hD hS hA hs_20 (kS (As := [.int (nI (btF ml n p1))]) (rest := []) hx hb hml hown hts hKW hP hD hs_20 (c_X10_many l D cI cJ cB (btF ml n p1) (Nat.lt_trans (bits_lt hn10) (by decide))) (va_cwS 1 hts gX10_champion_X10_many rfl rfl rfl (by decide +kernel) ⟨Nat.le_of_ble_eq_true rfl, Nat.le_of_ble_eq_true rfl⟩) rfl hl.1 rfl (Nat.le_of_ble_eq_true rfl) dX10_champion_20 ⟨Nat.zero_le _, Nat.zero_le _⟩) (fun r_20 u_20 H locs hw_20 hP hD hS => ?_)
        have er_20 := hw_20
        have er_20 := er_20.symm
        subst er_20
        have hP : va_P D vwCl (wX10 q10 cI cJ cB st_10 kept_10 undoable_10 newest_10 tape_10 taped_10 marks_10 order_10 reach_10 heapOf_10 rows_10 x_10 overs_10 costs_10 ways_10 digits_10 beaten_10_1 walks_10) H := hP.sub (ws' := (wX10 q10 cI cJ cB st_10 kept_10 undoable_10 newest_10 tape_10 taped_10 marks_10 order_10 reach_10 heapOf_10 rows_10 x_10 overs_10 costs_10 ways_10 digits_10 beaten_10_1 walks_10)) [0, 1, 2, 3, 4, 5, 6, 7, 8, 9, 10, 11, 12, 13, 14, 15] rfl
        have hD : va_D A (wX10 q10 cI cJ cB st_10 kept_10 undoable_10 newest_10 tape_10 taped_10 marks_10 order_10 reach_10 heapOf_10 rows_10 x_10 overs_10 costs_10 ways_10 digits_10 beaten_10_1 walks_10) := hD.sub (ws' := (wX10 q10 cI cJ cB st_10 kept_10 undoable_10 newest_10 tape_10 taped_10 marks_10 order_10 reach_10 heapOf_10 rows_10 x_10 overs_10 costs_10 ways_10 digits_10 beaten_10_1 walks_10)) [0, 1, 2, 3, 4, 5, 6, 7, 8, 9, 10, 11, 12, 13, 14, 15] (by decide) rfl
        have hpc9 := pcF_le (btF ml n p1) 10
        refine lv_aload_n hx hb dX10_champion_23 rfl (lv_at hl 0 rfl) ?_
        have hs_24 : kSplit (wX10 q10 cI cJ cB st_10 kept_10 undoable_10 newest_10 tape_10 taped_10 marks_10 order_10 reach_10 heapOf_10 rows_10 x_10 overs_10 costs_10 ways_10 digits_10 beaten_10_1 walks_10) (wX10 q10 cI cJ cB st_10 kept_10 undoable_10 newest_10 tape_10 taped_10 marks_10 order_10 reach_10 heapOf_10 rows_10 x_10 overs_10 costs_10 ways_10 digits_10 beaten_10_1 walks_10) ([] : va_W) [0, 1, 2, 3, 4, 5, 6, 7, 8, 9, 10, 11, 12, 13, 14, 15] [] := ⟨rfl, rfl, rfl, rfl, rfl, by decide⟩
        refine kc_i hP hD hS hA hs_24 (kV (As := []) (rest := [.int (nI (pcF (btF ml n p1) 10))]) hx hb hml hown hts hKW hP hD hs_24 (c_X10_n l D cI cJ cB q10 st_10 kept_10 undoable_10 newest_10 tape_10 taped_10 marks_10 order_10 reach_10 heapOf_10 rows_10 x_10 overs_10 costs_10 ways_10 digits_10 beaten_10_1 walks_10 n ml nx ks rr (by first | assumption | omega) (by first | assumption | omega)) (cwV 0 hts gX10_champion_X10_n rfl rfl rfl (by decide +kernel) ⟨Nat.le_of_ble_eq_true rfl, Nat.le_of_ble_eq_true rfl⟩) 0 10 rfl rfl rfl rfl hl.1 rfl (Nat.le_of_ble_eq_true rfl) dX10_champion_24 ⟨Nat.zero_le _, Nat.zero_le _⟩) (fun r_24 u_24 H locs hw_24 hP hD hS => ?_)
        have er_24 := hw_24
        have er_24 := er_24.symm
        subst er_24
        have hP : va_P D vwCl (wX10 q10 cI cJ cB st_10 kept_10 undoable_10 newest_10 tape_10 taped_10 marks_10 order_10 reach_10 heapOf_10 rows_10 x_10 overs_10 costs_10 ways_10 digits_10 beaten_10_1 walks_10) H := hP.sub (ws' := (wX10 q10 cI cJ cB st_10 kept_10 undoable_10 newest_10 tape_10 taped_10 marks_10 order_10 reach_10 heapOf_10 rows_10 x_10 overs_10 costs_10 ways_10 digits_10 beaten_10_1 walks_10)) [0, 1, 2, 3, 4, 5, 6, 7, 8, 9, 10, 11, 12, 13, 14, 15] rfl
        have hD : va_D A (wX10 q10 cI cJ cB st_10 kept_10 undoable_10 newest_10 tape_10 taped_10 marks_10 order_10 reach_10 heapOf_10 rows_10 x_10 overs_10 costs_10 ways_10 digits_10 beaten_10_1 walks_10) := hD.sub (ws' := (wX10 q10 cI cJ cB st_10 kept_10 undoable_10 newest_10 tape_10 taped_10 marks_10 order_10 reach_10 heapOf_10 rows_10 x_10 overs_10 costs_10 ways_10 digits_10 beaten_10_1 walks_10)) [0, 1, 2, 3, 4, 5, 6, 7, 8, 9, 10, 11, 12, 13, 14, 15] (by decide) rfl
        refine lv_iconst (v := nI 1) hx hb dX10_champion_27 (by decide) ?_
        refine k_isub hx hb (by omega) dX10_champion_28 ?_
        refine lv_icmp_ne (tgt := 34) hx hb dX10_champion_29 (by decide) (fun c_29 => ?_) (fun c_29 => ?_)
        · skip
          have c_29 := k_ne (by omega) (by omega) c_29
          refine lv_iinc (v := nI (p1 + 1)) (lv' := [(1, .int (nI (p1 + 1))), (0, .ref (q10 0))]) hx hb dX10_champion_34 hl (k := 1) rfl (nI_add _ _) (by decide) rfl (fun ls hl => ?_)
          refine lv_goto (tgt := 6) hx hb dX10_champion_37 (by decide) ?_
          exact ih_6 _ (by omega) (by rw [hs, show n - p1 = (n - (p1 + 1)) + 1 by omega]; exact srch_no (by rw [decide_eq_true_eq]; exact c_29)) (by omega) _ _ hP hD hS ls (lv_sub hl [1, 0] rfl)
        · skip
          have c_29 := k_ne_n (by omega) (by omega) c_29
          refine lv_iload_n hx hb dX10_champion_32 rfl (lv_at hl 1 rfl) ?_
          subst hQ; subst hAe
          exact W.iret (v := nI p1) hx hb hr (fun t ht _ => ⟨⟨nI p1, (beaten_10_1), rfl, by rw [hs, show n - p1 = (n - (p1 + 1)) + 1 by omega, srch_yes (decide_eq_true c_29)]; rfl, by rw [ht]; exact hP, hD⟩, hS.F ht⟩) hS.2.2 dX10_champion_33
  exact hL_6 _ 0 (Nat.zero_le _) rfl (Nat.lt_succ_self _) _ _ hP hD hS ls (lv_sub hl [1, 0] rfl)
def rmX10_areJoined : Room := { frames := 1, cells := 0, slots := 0, locals := 21 }
set_option maxHeartbeats 4000000 in
set_option maxRecDepth 100000 in
theorem c_X10_areJoined (l : Launch) (D : va_G) (cI cJ cB : ClassId) (q10 : Nat → Nat) (st_10 : Nat → Int32) (kept_10 : Nat → Int32) (undoable_10 : Int32) (newest_10 : Int32) (tape_10 : Nat → Int32) (taped_10 : Int32) (marks_10 : Nat → Int32) (order_10 : Nat → Int32) (reach_10 : Nat → Int32) (heapOf_10 : Nat → Int32) (rows_10 : Nat → Int64) (x_10 : Nat → Int64) (overs_10 : Nat → Int32) (costs_10 : Nat → Int32) (ways_10 : Nat → Int32) (digits_10 : Nat → Int32) (beaten_10 : Nat → Int32) (walks_10 : Nat → Int32) (n : Nat) (ml : List Mt) (nx : List (Nat × Nat)) (ks : List Nat) (rr : Int32 × Int32 × Int32) (hR : RS st_10 n ml nx ks rr) (hV : VS n ml nx ks) : ∀ sz, Met l yX10_areJoined wsX10_areJoined rmX10_areJoined (va_Pc [.ref (q10 0)] (PW D (kT cI cJ cB) sz (wX10 q10 cI cJ cB st_10 kept_10 undoable_10 newest_10 tape_10 taped_10 marks_10 order_10 reach_10 heapOf_10 rows_10 x_10 overs_10 costs_10 ways_10 digits_10 beaten_10 walks_10))) (va_Qi (S := Unit) (fun r _ => r = if jnR ml n = 2 ^ n - 1 then 1 else 0) (QW D sz (wX10 q10 cI cJ cB st_10 kept_10 undoable_10 newest_10 tape_10 taped_10 marks_10 order_10 reach_10 heapOf_10 rows_10 x_10 overs_10 costs_10 ways_10 digits_10 beaten_10 walks_10) (fun _ => (wX10 q10 cI cJ cB st_10 kept_10 undoable_10 newest_10 tape_10 taped_10 marks_10 order_10 reach_10 heapOf_10 rows_10 x_10 overs_10 costs_10 ways_10 digits_10 beaten_10 walks_10))) (va_A (wX10 q10 cI cJ cB st_10 kept_10 undoable_10 newest_10 tape_10 taped_10 marks_10 order_10 reach_10 heapOf_10 rows_10 x_10 overs_10 costs_10 ways_10 digits_10 beaten_10 walks_10) sz)) 0 0 (va_A (wX10 q10 cI cJ cB st_10 kept_10 undoable_10 newest_10 tape_10 taped_10 marks_10 order_10 reach_10 heapOf_10 rows_10 x_10 overs_10 costs_10 ways_10 digits_10 beaten_10 walks_10) sz) := by
  intro sz
  refine Met.ofW (cc := cX10_areJoined) (maxL := 5) (ret := (some .boolean)) (by decide) rfl ?_
  intro p e s m args below meth c s₁ B hml hv
  obtain ⟨hav, hsz, hP, hKW, hD0⟩ := hv
  have hx := B.exec
  have hb := B.bytes
  have hr := B.returns
  have hts := atoms_spec (ws := wsX10_areJoined) B.pre
  have hown : s.vm.findClass RX10 = some m.cls := findClass_of_methodNamed B.named
  have hlocks := B.notSynchronized
  subst hsz
  have hD := hD0.self (sz := s.heap.size)
  obtain ⟨A, hAe⟩ : ∃ A : Nat → Prop, A = va_A (wX10 q10 cI cJ cB st_10 kept_10 undoable_10 newest_10 tape_10 taped_10 marks_10 order_10 reach_10 heapOf_10 rows_10 x_10 overs_10 costs_10 ways_10 digits_10 beaten_10 walks_10) s.heap.size := ⟨_, rfl⟩
  rw [← hAe] at hD
  have hA : ∀ q : Nat, s.heap.size ≤ q → A q := fun q h => by rw [hAe]; exact Or.inr h
  have hS : va_S A s.heap s.heap [] := va_S.rf
  refine k_gen (fun Q hQ => ?_)
  have hl := lv_entry ([.ref (q10 0)]) (n := 5) (Nat.le_of_ble_eq_true rfl)
  refine k_entry hav (lg_entry_eq ..) ?_
  generalize (lg_sl ([.ref (q10 0)]) ++ List.replicate (5 - (lg_sl ([.ref (q10 0)])).length) Slot.unset).toArray = ls at hl ⊢
  have hl : lv_has ls 5 [(0, .ref (q10 0))] := hl
  have hu_10 : ∀ w ∈ u_ws RX10 TX10 18, w ∈ wsX10_areJoined := by decide +kernel
  have hf_7 : Cond.fieldLink RX10 7 "MeetingRanksModel" "st" "[I" ∈ wsX10_areJoined := by decide +kernel
  have hn1 := hV.1
  have hn10 := hV.2.1
  have hm120 := hV.2.2.1
  have hx40 := hV.2.2.2.2.1
  have hk4 := hV.2.2.2.2.2.2.1
  have h2n := pow_le_1024 hn10
  have h2p := Nat.two_pow_pos n
  refine lv_iconst (v := nI 1) hx hb dX10_areJoined_0 (by decide) ?_
  refine lv_istore_n (lv' := [(1, .int (nI 1)), (0, .ref (q10 0))]) hx hb dX10_areJoined_1 rfl hl (by decide) rfl (fun ls hl => ?_)
  refine lv_iconst (v := nI 0) hx hb dX10_areJoined_2 (by decide) ?_
  refine lv_istore_n (lv' := [(2, .int (nI 0)), (1, .int (nI 1)), (0, .ref (q10 0))]) hx hb dX10_areJoined_3 rfl hl (by decide) rfl (fun ls hl => ?_)
  have hL_4 : ∀ (fu : Nat) (j : Nat) (hj : j ≤ n), n - j < fu → ∀ (H : Heap) (locs : List Loc), va_P D vwCl (wX10 q10 cI cJ cB st_10 kept_10 undoable_10 newest_10 tape_10 taped_10 marks_10 order_10 reach_10 heapOf_10 rows_10 x_10 overs_10 costs_10 ways_10 digits_10 beaten_10 walks_10) H → va_D A (wX10 q10 cI cJ cB st_10 kept_10 undoable_10 newest_10 tape_10 taped_10 marks_10 order_10 reach_10 heapOf_10 rows_10 x_10 overs_10 costs_10 ways_10 digits_10 beaten_10 walks_10) → va_S A s.heap H locs → ∀ (ls : Array Slot), lv_has ls 5 [(0, .ref (q10 0)), (1, .int (nI (jnR ml j))), (2, .int (nI j))] → W p l e (headSpec wsX10_areJoined rmX10_areJoined).room s m args below meth c H locs 0 0 Q (F0 m 4 ls []) := by
    intro fu
    induction fu with
    | zero => intro j hj hfu; exact absurd hfu (Nat.not_lt_zero _)
    | succ fu ih_4 =>
      intro j hj hfu H locs hP hD hS ls hl
      have hjr9 := jnR_lt hn10 hV.2.2.2.1 j
      refine lv_iload_n hx hb dX10_areJoined_4 rfl (lv_at hl 2 rfl) ?_
      refine lv_aload_n hx hb dX10_areJoined_5 rfl (lv_at hl 0 rfl) ?_
      have hs_6 : kSplit (wX10 q10 cI cJ cB st_10 kept_10 undoable_10 newest_10 tape_10 taped_10 marks_10 order_10 reach_10 heapOf_10 rows_10 x_10 overs_10 costs_10 ways_10 digits_10 beaten_10 walks_10) (wX10 q10 cI cJ cB st_10 kept_10 undoable_10 newest_10 tape_10 taped_10 marks_10 order_10 reach_10 heapOf_10 rows_10 x_10 overs_10 costs_10 ways_10 digits_10 beaten_10 walks_10) ([] : va_W) [0, 1, 2, 3, 4, 5, 6, 7, 8, 9, 10, 11, 12, 13, 14, 15] [] := ⟨rfl, rfl, rfl, rfl, rfl, by decide⟩
      refine kc_i hP hD hS hA hs_6 (kV (As := []) (rest := [.int (nI j)]) hx hb hml hown hts hKW hP hD hs_6 (c_X10_n l D cI cJ cB q10 st_10 kept_10 undoable_10 newest_10 tape_10 taped_10 marks_10 order_10 reach_10 heapOf_10 rows_10 x_10 overs_10 costs_10 ways_10 digits_10 beaten_10 walks_10 n ml nx ks rr (by first | assumption | omega) (by first | assumption | omega)) (cwV 0 hts gX10_areJoined_X10_n rfl rfl rfl (by decide +kernel) ⟨Nat.le_of_ble_eq_true rfl, Nat.le_of_ble_eq_true rfl⟩) 0 10 rfl rfl rfl rfl hl.1 rfl (Nat.le_of_ble_eq_true rfl) dX10_areJoined_6 ⟨Nat.zero_le _, Nat.zero_le _⟩) (fun r_6 u_6 H locs hw_6 hP hD hS => ?_)
      have er_6 := hw_6
      have er_6 := er_6.symm
      subst er_6
      have hP : va_P D vwCl (wX10 q10 cI cJ cB st_10 kept_10 undoable_10 newest_10 tape_10 taped_10 marks_10 order_10 reach_10 heapOf_10 rows_10 x_10 overs_10 costs_10 ways_10 digits_10 beaten_10 walks_10) H := hP.sub (ws' := (wX10 q10 cI cJ cB st_10 kept_10 undoable_10 newest_10 tape_10 taped_10 marks_10 order_10 reach_10 heapOf_10 rows_10 x_10 overs_10 costs_10 ways_10 digits_10 beaten_10 walks_10)) [0, 1, 2, 3, 4, 5, 6, 7, 8, 9, 10, 11, 12, 13, 14, 15] rfl
      have hD : va_D A (wX10 q10 cI cJ cB st_10 kept_10 undoable_10 newest_10 tape_10 taped_10 marks_10 order_10 reach_10 heapOf_10 rows_10 x_10 overs_10 costs_10 ways_10 digits_10 beaten_10 walks_10) := hD.sub (ws' := (wX10 q10 cI cJ cB st_10 kept_10 undoable_10 newest_10 tape_10 taped_10 marks_10 order_10 reach_10 heapOf_10 rows_10 x_10 overs_10 costs_10 ways_10 digits_10 beaten_10 walks_10)) [0, 1, 2, 3, 4, 5, 6, 7, 8, 9, 10, 11, 12, 13, 14, 15] (by decide) rfl
      refine lv_icmp_ge (tgt := 65) hx hb dX10_areJoined_9 (by decide) (fun c_9 => ?_) (fun c_9 => ?_)
      · skip
        have c_9 := k_ge (by omega) (by omega) c_9
        obtain rfl : n = j := by omega
        refine lv_iload_n hx hb dX10_areJoined_65 rfl (lv_at hl 1 rfl) ?_
        refine lv_iconst (v := nI 1) hx hb dX10_areJoined_66 (by decide) ?_
        refine lv_aload_n hx hb dX10_areJoined_67 rfl (lv_at hl 0 rfl) ?_
        have hs_68 : kSplit (wX10 q10 cI cJ cB st_10 kept_10 undoable_10 newest_10 tape_10 taped_10 marks_10 order_10 reach_10 heapOf_10 rows_10 x_10 overs_10 costs_10 ways_10 digits_10 beaten_10 walks_10) (wX10 q10 cI cJ cB st_10 kept_10 undoable_10 newest_10 tape_10 taped_10 marks_10 order_10 reach_10 heapOf_10 rows_10 x_10 overs_10 costs_10 ways_10 digits_10 beaten_10 walks_10) ([] : va_W) [0, 1, 2, 3, 4, 5, 6, 7, 8, 9, 10, 11, 12, 13, 14, 15] [] := ⟨rfl, rfl, rfl, rfl, rfl, by decide⟩
        refine kc_i hP hD hS hA hs_68 (kV (As := []) (rest := [.int (nI 1), .int (nI (jnR ml n))]) hx hb hml hown hts hKW hP hD hs_68 (c_X10_n l D cI cJ cB q10 st_10 kept_10 undoable_10 newest_10 tape_10 taped_10 marks_10 order_10 reach_10 heapOf_10 rows_10 x_10 overs_10 costs_10 ways_10 digits_10 beaten_10 walks_10 n ml nx ks rr (by first | assumption | omega) (by first | assumption | omega)) (cwV 0 hts gX10_areJoined_X10_n rfl rfl rfl (by decide +kernel) ⟨Nat.le_of_ble_eq_true rfl, Nat.le_of_ble_eq_true rfl⟩) 0 10 rfl rfl rfl rfl hl.1 rfl (Nat.le_of_ble_eq_true rfl) dX10_areJoined_68 ⟨Nat.zero_le _, Nat.zero_le _⟩) (fun r_68 u_68 H locs hw_68 hP hD hS => ?_)
        have er_68 := hw_68
        have er_68 := er_68.symm
        subst er_68
        have hP : va_P D vwCl (wX10 q10 cI cJ cB st_10 kept_10 undoable_10 newest_10 tape_10 taped_10 marks_10 order_10 reach_10 heapOf_10 rows_10 x_10 overs_10 costs_10 ways_10 digits_10 beaten_10 walks_10) H := hP.sub (ws' := (wX10 q10 cI cJ cB st_10 kept_10 undoable_10 newest_10 tape_10 taped_10 marks_10 order_10 reach_10 heapOf_10 rows_10 x_10 overs_10 costs_10 ways_10 digits_10 beaten_10 walks_10)) [0, 1, 2, 3, 4, 5, 6, 7, 8, 9, 10, 11, 12, 13, 14, 15] rfl
        have hD : va_D A (wX10 q10 cI cJ cB st_10 kept_10 undoable_10 newest_10 tape_10 taped_10 marks_10 order_10 reach_10 heapOf_10 rows_10 x_10 overs_10 costs_10 ways_10 digits_10 beaten_10 walks_10) := hD.sub (ws' := (wX10 q10 cI cJ cB st_10 kept_10 undoable_10 newest_10 tape_10 taped_10 marks_10 order_10 reach_10 heapOf_10 rows_10 x_10 overs_10 costs_10 ways_10 digits_10 beaten_10 walks_10)) [0, 1, 2, 3, 4, 5, 6, 7, 8, 9, 10, 11, 12, 13, 14, 15] (by decide) rfl
        refine lv_ishl hx hb dX10_areJoined_71 ?_
        refine k_top (y := nI (2 ^ n)) (k_shl1 (by omega)) ?_
        refine lv_iconst (v := nI 1) hx hb dX10_areJoined_72 (by decide) ?_
        refine k_isub hx hb (by omega) dX10_areJoined_73 ?_
        refine lv_icmp_ne (tgt := 81) hx hb dX10_areJoined_74 (by decide) (fun c_74 => ?_) (fun c_74 => ?_)
        · skip
          have c_74 := k_ne (by omega) (by omega) c_74
          refine lv_iconst (v := nI 0) hx hb dX10_areJoined_81 (by decide) ?_
          subst hQ; subst hAe
          exact W.zret (v := nI 0) (ty := .boolean) hx hb hr (by decide) (fun t ht _ => ⟨⟨nI 0, (), rfl, k_if0 c_74, by rw [ht]; exact hP, hD⟩, hS.F ht⟩) hS.2.2 dX10_areJoined_82
        · skip
          have c_74 := k_ne_n (by omega) (by omega) c_74
          refine lv_iconst (v := nI 1) hx hb dX10_areJoined_77 (by decide) ?_
          refine lv_goto (tgt := 82) hx hb dX10_areJoined_78 (by decide) ?_
          subst hQ; subst hAe
          exact W.zret (v := nI 1) (ty := .boolean) hx hb hr (by decide) (fun t ht _ => ⟨⟨nI 1, (), rfl, k_if1 c_74, by rw [ht]; exact hP, hD⟩, hS.F ht⟩) hS.2.2 dX10_areJoined_82
      · skip
        have c_9 := k_ge_n (by omega) (by omega) c_9
        refine lv_iconst (v := nI 0) hx hb dX10_areJoined_12 (by decide) ?_
        refine lv_istore_n (lv' := [(3, .int (nI 0)), (0, .ref (q10 0)), (1, .int (nI (jnR ml j))), (2, .int (nI j))]) hx hb dX10_areJoined_13 rfl hl (by decide) rfl (fun ls hl => ?_)
        have hL_14 : ∀ (fu : Nat) (k : Nat) (hk : k ≤ ml.length), ml.length - k < fu → ∀ (H : Heap) (locs : List Loc), va_P D vwCl (wX10 q10 cI cJ cB st_10 kept_10 undoable_10 newest_10 tape_10 taped_10 marks_10 order_10 reach_10 heapOf_10 rows_10 x_10 overs_10 costs_10 ways_10 digits_10 beaten_10 walks_10) H → va_D A (wX10 q10 cI cJ cB st_10 kept_10 undoable_10 newest_10 tape_10 taped_10 marks_10 order_10 reach_10 heapOf_10 rows_10 x_10 overs_10 costs_10 ways_10 digits_10 beaten_10 walks_10) → va_S A s.heap H locs → ∀ (ls : Array Slot), lv_has ls 5 [(0, .ref (q10 0)), (1, .int (nI (jnL (ml.take k) (jnR ml j)))), (2, .int (nI j)), (3, .int (nI k))] → W p l e (headSpec wsX10_areJoined rmX10_areJoined).room s m args below meth c H locs 0 0 Q (F0 m 14 ls []) := by
          intro fu
          induction fu with
          | zero => intro k hk hfu; exact absurd hfu (Nat.not_lt_zero _)
          | succ fu ih_14 =>
            intro k hk hfu H locs hP hD hS ls hl
            have hjl9 := jnL_lt hn10 (l := ml.take k) (fun x hx => hV.2.2.2.1 x (List.mem_of_mem_take hx)) hjr9
            refine lv_iload_n hx hb dX10_areJoined_14 rfl (lv_at hl 3 rfl) ?_
            refine lv_aload_n hx hb dX10_areJoined_15 rfl (lv_at hl 0 rfl) ?_
            refine k_get (ci := 10) (v := .ref (q10 1)) (C := RX10) (Tb := TX10) (N := 18) hx hb hts hu_10 hown hKW hP 0 rfl rfl 0 (by decide) hf_7 rfl rfl dX10_areJoined_16 ?_
            refine lv_iconst (v := nI 1) hx hb dX10_areJoined_19 (by decide) ?_
            refine k_iald (n := 600) (i := 1) hx hb hKW hP 1 0 rfl rfl (by omega) (by omega) dX10_areJoined_20 ?_
            refine k_top (y := nI ml.length) (hR.2.1) ?_
            refine lv_icmp_ge (tgt := 59) hx hb dX10_areJoined_21 (by decide) (fun c_21 => ?_) (fun c_21 => ?_)
            · skip
              have c_21 := k_ge (by omega) (by omega) c_21
              obtain rfl : k = ml.length := by omega
              rw [List.take_length] at hl
              refine lv_iinc (v := nI (j + 1)) (lv' := [(2, .int (nI (j + 1))), (0, .ref (q10 0)), (1, .int (nI (jnL ml (jnR ml j)))), (3, .int (nI ml.length))]) hx hb dX10_areJoined_59 hl (k := 2) rfl (nI_add _ _) (by decide) rfl (fun ls hl => ?_)
              refine lv_goto (tgt := 4) hx hb dX10_areJoined_62 (by decide) ?_
              exact ih_4 (j + 1) (by omega) (by omega) _ _ hP hD hS ls (lv_sub hl [1, 2, 0] rfl)
            · skip
              have c_21 := k_ge_n (by omega) (by omega) c_21
              obtain ⟨hx1, hx2, hx3, hx4, hx5⟩ := hV.m c_21
              have hand9 : jnL (ml.take k) (jnR ml j) &&& (2 ^ (mg ml k).1 ||| 2 ^ (mg ml k).2.1) < 1024 := Nat.lt_of_le_of_lt Nat.and_le_left hjl9
              refine lv_iconst (v := nI 1) hx hb dX10_areJoined_24 (by decide) ?_
              refine lv_aload_n hx hb dX10_areJoined_25 rfl (lv_at hl 0 rfl) ?_
              refine lv_iload_n hx hb dX10_areJoined_26 rfl (lv_at hl 3 rfl) ?_
              have hs_27 : kSplit (wX10 q10 cI cJ cB st_10 kept_10 undoable_10 newest_10 tape_10 taped_10 marks_10 order_10 reach_10 heapOf_10 rows_10 x_10 overs_10 costs_10 ways_10 digits_10 beaten_10 walks_10) (wX10 q10 cI cJ cB st_10 kept_10 undoable_10 newest_10 tape_10 taped_10 marks_10 order_10 reach_10 heapOf_10 rows_10 x_10 overs_10 costs_10 ways_10 digits_10 beaten_10 walks_10) ([] : va_W) [0, 1, 2, 3, 4, 5, 6, 7, 8, 9, 10, 11, 12, 13, 14, 15] [] := ⟨rfl, rfl, rfl, rfl, rfl, by decide⟩
              refine kc_i hP hD hS hA hs_27 (kV (As := [.int (nI k)]) (rest := [.int (nI 1)]) hx hb hml hown hts hKW hP hD hs_27 (c_X10_one l D cI cJ cB q10 st_10 kept_10 undoable_10 newest_10 tape_10 taped_10 marks_10 order_10 reach_10 heapOf_10 rows_10 x_10 overs_10 costs_10 ways_10 digits_10 beaten_10 walks_10 n ml nx ks rr k (by first | assumption | omega) (by first | assumption | omega) (by first | assumption | omega)) (cwV 1 hts gX10_areJoined_X10_one rfl rfl rfl (by decide +kernel) ⟨Nat.le_of_ble_eq_true rfl, Nat.le_of_ble_eq_true rfl⟩) 0 10 rfl rfl rfl rfl hl.1 rfl (Nat.le_of_ble_eq_true rfl) dX10_areJoined_27 ⟨Nat.zero_le _, Nat.zero_le _⟩) (fun r_27 u_27 H locs hw_27 hP hD hS => ?_)
              have er_27 := hw_27
              have er_27 := er_27.symm
              subst er_27
              have hP : va_P D vwCl (wX10 q10 cI cJ cB st_10 kept_10 undoable_10 newest_10 tape_10 taped_10 marks_10 order_10 reach_10 heapOf_10 rows_10 x_10 overs_10 costs_10 ways_10 digits_10 beaten_10 walks_10) H := hP.sub (ws' := (wX10 q10 cI cJ cB st_10 kept_10 undoable_10 newest_10 tape_10 taped_10 marks_10 order_10 reach_10 heapOf_10 rows_10 x_10 overs_10 costs_10 ways_10 digits_10 beaten_10 walks_10)) [0, 1, 2, 3, 4, 5, 6, 7, 8, 9, 10, 11, 12, 13, 14, 15] rfl
              have hD : va_D A (wX10 q10 cI cJ cB st_10 kept_10 undoable_10 newest_10 tape_10 taped_10 marks_10 order_10 reach_10 heapOf_10 rows_10 x_10 overs_10 costs_10 ways_10 digits_10 beaten_10 walks_10) := hD.sub (ws' := (wX10 q10 cI cJ cB st_10 kept_10 undoable_10 newest_10 tape_10 taped_10 marks_10 order_10 reach_10 heapOf_10 rows_10 x_10 overs_10 costs_10 ways_10 digits_10 beaten_10 walks_10)) [0, 1, 2, 3, 4, 5, 6, 7, 8, 9, 10, 11, 12, 13, 14, 15] (by decide) rfl
              refine lv_ishl hx hb dX10_areJoined_30 ?_
              refine k_top (y := nI (2 ^ (mg ml k).1)) (k_shl1 (by omega)) ?_
              refine lv_iconst (v := nI 1) hx hb dX10_areJoined_31 (by decide) ?_
              refine lv_aload_n hx hb dX10_areJoined_32 rfl (lv_at hl 0 rfl) ?_
              refine lv_iload_n hx hb dX10_areJoined_33 rfl (lv_at hl 3 rfl) ?_
              have hs_34 : kSplit (wX10 q10 cI cJ cB st_10 kept_10 undoable_10 newest_10 tape_10 taped_10 marks_10 order_10 reach_10 heapOf_10 rows_10 x_10 overs_10 costs_10 ways_10 digits_10 beaten_10 walks_10) (wX10 q10 cI cJ cB st_10 kept_10 undoable_10 newest_10 tape_10 taped_10 marks_10 order_10 reach_10 heapOf_10 rows_10 x_10 overs_10 costs_10 ways_10 digits_10 beaten_10 walks_10) ([] : va_W) [0, 1, 2, 3, 4, 5, 6, 7, 8, 9, 10, 11, 12, 13, 14, 15] [] := ⟨rfl, rfl, rfl, rfl, rfl, by decide⟩
              refine kc_i hP hD hS hA hs_34 (kV (As := [.int (nI k)]) (rest := [.int (nI 1), .int (nI (2 ^ (mg ml k).1))]) hx hb hml hown hts hKW hP hD hs_34 (c_X10_two l D cI cJ cB q10 st_10 kept_10 undoable_10 newest_10 tape_10 taped_10 marks_10 order_10 reach_10 heapOf_10 rows_10 x_10 overs_10 costs_10 ways_10 digits_10 beaten_10 walks_10 n ml nx ks rr k (by first | assumption | omega) (by first | assumption | omega) (by first | assumption | omega)) (cwV 1 hts gX10_areJoined_X10_two rfl rfl rfl (by decide +kernel) ⟨Nat.le_of_ble_eq_true rfl, Nat.le_of_ble_eq_true rfl⟩) 0 10 rfl rfl rfl rfl hl.1 rfl (Nat.le_of_ble_eq_true rfl) dX10_areJoined_34 ⟨Nat.zero_le _, Nat.zero_le _⟩) (fun r_34 u_34 H locs hw_34 hP hD hS => ?_)
              have er_34 := hw_34
              have er_34 := er_34.symm
              subst er_34
              have hP : va_P D vwCl (wX10 q10 cI cJ cB st_10 kept_10 undoable_10 newest_10 tape_10 taped_10 marks_10 order_10 reach_10 heapOf_10 rows_10 x_10 overs_10 costs_10 ways_10 digits_10 beaten_10 walks_10) H := hP.sub (ws' := (wX10 q10 cI cJ cB st_10 kept_10 undoable_10 newest_10 tape_10 taped_10 marks_10 order_10 reach_10 heapOf_10 rows_10 x_10 overs_10 costs_10 ways_10 digits_10 beaten_10 walks_10)) [0, 1, 2, 3, 4, 5, 6, 7, 8, 9, 10, 11, 12, 13, 14, 15] rfl
              have hD : va_D A (wX10 q10 cI cJ cB st_10 kept_10 undoable_10 newest_10 tape_10 taped_10 marks_10 order_10 reach_10 heapOf_10 rows_10 x_10 overs_10 costs_10 ways_10 digits_10 beaten_10 walks_10) := hD.sub (ws' := (wX10 q10 cI cJ cB st_10 kept_10 undoable_10 newest_10 tape_10 taped_10 marks_10 order_10 reach_10 heapOf_10 rows_10 x_10 overs_10 costs_10 ways_10 digits_10 beaten_10 walks_10)) [0, 1, 2, 3, 4, 5, 6, 7, 8, 9, 10, 11, 12, 13, 14, 15] (by decide) rfl
              refine lv_ishl hx hb dX10_areJoined_37 ?_
              refine k_top (y := nI (2 ^ (mg ml k).2.1)) (k_shl1 (by omega)) ?_
              refine lv_ior hx hb dX10_areJoined_38 ?_
              refine k_top (y := nI (2 ^ (mg ml k).1 ||| 2 ^ (mg ml k).2.1)) (k_or _ _) ?_
              refine lv_istore (lv' := [(4, .int (nI (2 ^ (mg ml k).1 ||| 2 ^ (mg ml k).2.1))), (0, .ref (q10 0)), (1, .int (nI (jnL (ml.take k) (jnR ml j)))), (2, .int (nI j)), (3, .int (nI k))]) hx hb dX10_areJoined_39 hl (by decide) rfl (fun ls hl => ?_)
              refine lv_iload_n hx hb dX10_areJoined_41 rfl (lv_at hl 2 rfl) ?_
              refine lv_iload hx hb dX10_areJoined_42 (lv_at hl 0 rfl) ?_
              refine lv_iand hx hb dX10_areJoined_44 ?_
              refine k_top (y := nI (jnL (ml.take k) (jnR ml j) &&& (2 ^ (mg ml k).1 ||| 2 ^ (mg ml k).2.1))) (k_and _ _) ?_
              refine lv_if_eq (tgt := 53) hx hb dX10_areJoined_45 (by decide) (fun c_45 => ?_) (fun c_45 => ?_)
              · skip
                have c_45 := k0_eq (by omega) c_45
                have hB9 : jnL (ml.take k) (jnR ml j) = jnL (ml.take (k + 1)) (jnR ml j) := by rw [jnL_take c_21, jn1, if_pos c_45]
                refine lv_iinc (v := nI (k + 1)) (lv' := [(3, .int (nI (k + 1))), (4, .int (nI (2 ^ (mg ml k).1 ||| 2 ^ (mg ml k).2.1))), (0, .ref (q10 0)), (1, .int (nI (jnL (ml.take k) (jnR ml j)))), (2, .int (nI j))]) hx hb dX10_areJoined_53 hl (k := 4) rfl (nI_add _ _) (by decide) rfl (fun ls hl => ?_)
                refine lv_goto (tgt := 14) hx hb dX10_areJoined_56 (by decide) ?_
                rw [hB9] at hl
                exact ih_14 (k + 1) (by omega) (by omega) _ _ hP hD hS ls (lv_sub hl [2, 3, 4, 0] rfl)
              · skip
                have c_45 := k0_eq_n (by omega) c_45
                have hB9 : jnL (ml.take k) (jnR ml j) ||| (2 ^ (mg ml k).1 ||| 2 ^ (mg ml k).2.1) = jnL (ml.take (k + 1)) (jnR ml j) := by rw [jnL_take c_21, jn1, if_neg c_45]
                refine lv_iload_n hx hb dX10_areJoined_48 rfl (lv_at hl 2 rfl) ?_
                refine lv_iload hx hb dX10_areJoined_49 (lv_at hl 0 rfl) ?_
                refine lv_ior hx hb dX10_areJoined_51 ?_
                refine k_top (y := nI (jnL (ml.take k) (jnR ml j) ||| (2 ^ (mg ml k).1 ||| 2 ^ (mg ml k).2.1))) (k_or _ _) ?_
                refine lv_istore_n (lv' := [(1, .int (nI (jnL (ml.take k) (jnR ml j) ||| (2 ^ (mg ml k).1 ||| 2 ^ (mg ml k).2.1)))), (4, .int (nI (2 ^ (mg ml k).1 ||| 2 ^ (mg ml k).2.1))), (0, .ref (q10 0)), (2, .int (nI j)), (3, .int (nI k))]) hx hb dX10_areJoined_52 rfl hl (by decide) rfl (fun ls hl => ?_)
                refine lv_iinc (v := nI (k + 1)) (lv' := [(3, .int (nI (k + 1))), (1, .int (nI (jnL (ml.take k) (jnR ml j) ||| (2 ^ (mg ml k).1 ||| 2 ^ (mg ml k).2.1)))), (4, .int (nI (2 ^ (mg ml k).1 ||| 2 ^ (mg ml k).2.1))), (0, .ref (q10 0)), (2, .int (nI j))]) hx hb dX10_areJoined_53 hl (k := 4) rfl (nI_add _ _) (by decide) rfl (fun ls hl => ?_)
                refine lv_goto (tgt := 14) hx hb dX10_areJoined_56 (by decide) ?_
                rw [hB9] at hl
                exact ih_14 (k + 1) (by omega) (by omega) _ _ hP hD hS ls (lv_sub hl [3, 1, 4, 0] rfl)
        exact hL_14 _ 0 (Nat.zero_le _) (Nat.lt_succ_self _) _ _ hP hD hS ls (lv_sub hl [1, 2, 3, 0] rfl)
  exact hL_4 _ 0 (Nat.zero_le _) (Nat.lt_succ_self _) _ _ hP hD hS ls (lv_sub hl [2, 1, 0] rfl)
def rmX10_may : Room := { frames := 3, cells := 0, slots := 0, locals := 69 }
set_option maxHeartbeats 4000000 in
set_option maxRecDepth 100000 in
theorem c_X10_may (l : Launch) (D : va_G) (cI cJ cB : ClassId) (q10 : Nat → Nat) (st_10 : Nat → Int32) (kept_10 : Nat → Int32) (undoable_10 : Int32) (newest_10 : Int32) (tape_10 : Nat → Int32) (taped_10 : Int32) (marks_10 : Nat → Int32) (order_10 : Nat → Int32) (reach_10 : Nat → Int32) (heapOf_10 : Nat → Int32) (rows_10 : Nat → Int64) (x_10 : Nat → Int64) (overs_10 : Nat → Int32) (costs_10 : Nat → Int32) (ways_10 : Nat → Int32) (digits_10 : Nat → Int32) (beaten_10 : Nat → Int32) (walks_10 : Nat → Int32) (n : Nat) (ml : List Mt) (nx : List (Nat × Nat)) (ks : List Nat) (rr : Int32 × Int32 × Int32) (x : Int32) (hR : RS st_10 n ml nx ks rr) (hV : VS n ml nx ks) : ∀ sz, Met l yX10_may wsX10_may rmX10_may (va_Pc [.ref (q10 0), .int x] (PW D (kT cI cJ cB) sz (wX10 q10 cI cJ cB st_10 kept_10 undoable_10 newest_10 tape_10 taped_10 marks_10 order_10 reach_10 heapOf_10 rows_10 x_10 overs_10 costs_10 ways_10 digits_10 beaten_10 walks_10))) (va_Qi (S := Unit) (fun r _ => r = if kIn x n then (if whyF ml nx n x.toInt.toNat = 0 then 1 else 0) else -1) (QW D sz (wX10 q10 cI cJ cB st_10 kept_10 undoable_10 newest_10 tape_10 taped_10 marks_10 order_10 reach_10 heapOf_10 rows_10 x_10 overs_10 costs_10 ways_10 digits_10 beaten_10 walks_10) (fun _ => (wX10 q10 cI cJ cB st_10 kept_10 undoable_10 newest_10 tape_10 taped_10 marks_10 order_10 reach_10 heapOf_10 rows_10 x_10 overs_10 costs_10 ways_10 digits_10 beaten_10 walks_10))) (va_A (wX10 q10 cI cJ cB st_10 kept_10 undoable_10 newest_10 tape_10 taped_10 marks_10 order_10 reach_10 heapOf_10 rows_10 x_10 overs_10 costs_10 ways_10 digits_10 beaten_10 walks_10) sz)) 0 0 (va_A (wX10 q10 cI cJ cB st_10 kept_10 undoable_10 newest_10 tape_10 taped_10 marks_10 order_10 reach_10 heapOf_10 rows_10 x_10 overs_10 costs_10 ways_10 digits_10 beaten_10 walks_10) sz) := by
  intro sz
  refine Met.ofW (cc := cX10_may) (maxL := 3) (ret := (some .int)) (by decide) rfl ?_
  intro p e s m args below meth c s₁ B hml hv
  obtain ⟨hav, hsz, hP, hKW, hD0⟩ := hv
  have hx := B.exec
  have hb := B.bytes
  have hr := B.returns
  have hts := atoms_spec (ws := wsX10_may) B.pre
  have hown : s.vm.findClass RX10 = some m.cls := findClass_of_methodNamed B.named
  have hlocks := B.notSynchronized
  subst hsz
  have hD := hD0.self (sz := s.heap.size)
  obtain ⟨A, hAe⟩ : ∃ A : Nat → Prop, A = va_A (wX10 q10 cI cJ cB st_10 kept_10 undoable_10 newest_10 tape_10 taped_10 marks_10 order_10 reach_10 heapOf_10 rows_10 x_10 overs_10 costs_10 ways_10 digits_10 beaten_10 walks_10) s.heap.size := ⟨_, rfl⟩
  rw [← hAe] at hD
  have hA : ∀ q : Nat, s.heap.size ≤ q → A q := fun q h => by rw [hAe]; exact Or.inr h
  have hS : va_S A s.heap s.heap [] := va_S.rf
  refine k_gen (fun Q hQ => ?_)
  have hl := lv_entry ([.ref (q10 0), .int x]) (n := 3) (Nat.le_of_ble_eq_true rfl)
  refine k_entry hav (lg_entry_eq ..) ?_
  generalize (lg_sl ([.ref (q10 0), .int x]) ++ List.replicate (3 - (lg_sl ([.ref (q10 0), .int x])).length) Slot.unset).toArray = ls at hl ⊢
  have hl : lv_has ls 3 [(0, .ref (q10 0)), (1, .int x)] := hl
  have hn1 := hV.1
  have hn10 := hV.2.1
  have hm120 := hV.2.2.1
  have hx40 := hV.2.2.2.2.1
  have hk4 := hV.2.2.2.2.2.2.1
  have h2n := pow_le_1024 hn10
  have h2p := Nat.two_pow_pos n
  refine lv_aload_n hx hb dX10_may_0 rfl (lv_at hl 0 rfl) ?_
  refine lv_iload_n hx hb dX10_may_1 rfl (lv_at hl 1 rfl) ?_
  have hs_2 : kSplit (wX10 q10 cI cJ cB st_10 kept_10 undoable_10 newest_10 tape_10 taped_10 marks_10 order_10 reach_10 heapOf_10 rows_10 x_10 overs_10 costs_10 ways_10 digits_10 beaten_10 walks_10) (wX10 q10 cI cJ cB st_10 kept_10 undoable_10 newest_10 tape_10 taped_10 marks_10 order_10 reach_10 heapOf_10 rows_10 x_10 overs_10 costs_10 ways_10 digits_10 beaten_10 walks_10) ([] : va_W) [0, 1, 2, 3, 4, 5, 6, 7, 8, 9, 10, 11, 12, 13, 14, 15] [] := ⟨rfl, rfl, rfl, rfl, rfl, by decide⟩
  refine kc_i hP hD hS hA hs_2 (kV (As := [.int x]) (rest := []) hx hb hml hown hts hKW hP hD hs_2 (c_X10_why l D cI cJ cB q10 st_10 kept_10 undoable_10 newest_10 tape_10 taped_10 marks_10 order_10 reach_10 heapOf_10 rows_10 x_10 overs_10 costs_10 ways_10 digits_10 beaten_10 walks_10 n ml nx ks rr x (by first | assumption | omega) (by first | assumption | omega)) (cwV 1 hts gX10_may_X10_why rfl rfl rfl (by decide +kernel) ⟨Nat.le_of_ble_eq_true rfl, Nat.le_of_ble_eq_true rfl⟩) 0 10 rfl rfl rfl rfl hl.1 rfl (Nat.le_of_ble_eq_true rfl) dX10_may_2 ⟨Nat.zero_le _, Nat.zero_le _⟩) (fun r_2 u_2 H locs hw_2 hP hD hS => ?_)
  have er_2 := hw_2
  have er_2 := er_2.symm
  subst er_2
  have hP : va_P D vwCl (wX10 q10 cI cJ cB st_10 kept_10 undoable_10 newest_10 tape_10 taped_10 marks_10 order_10 reach_10 heapOf_10 rows_10 x_10 overs_10 costs_10 ways_10 digits_10 beaten_10 walks_10) H := hP.sub (ws' := (wX10 q10 cI cJ cB st_10 kept_10 undoable_10 newest_10 tape_10 taped_10 marks_10 order_10 reach_10 heapOf_10 rows_10 x_10 overs_10 costs_10 ways_10 digits_10 beaten_10 walks_10)) [0, 1, 2, 3, 4, 5, 6, 7, 8, 9, 10, 11, 12, 13, 14, 15] rfl
  have hD : va_D A (wX10 q10 cI cJ cB st_10 kept_10 undoable_10 newest_10 tape_10 taped_10 marks_10 order_10 reach_10 heapOf_10 rows_10 x_10 overs_10 costs_10 ways_10 digits_10 beaten_10 walks_10) := hD.sub (ws' := (wX10 q10 cI cJ cB st_10 kept_10 undoable_10 newest_10 tape_10 taped_10 marks_10 order_10 reach_10 heapOf_10 rows_10 x_10 overs_10 costs_10 ways_10 digits_10 beaten_10 walks_10)) [0, 1, 2, 3, 4, 5, 6, 7, 8, 9, 10, 11, 12, 13, 14, 15] (by decide) rfl
  refine lv_istore_n (lv' := [(2, .int (if kIn x n then nI (whyF ml nx n x.toInt.toNat) else -1)), (0, .ref (q10 0)), (1, .int x)]) hx hb dX10_may_5 rfl hl (by decide) rfl (fun ls hl => ?_)
  refine lv_iload_n hx hb dX10_may_6 rfl (lv_at hl 0 rfl) ?_
  refine lv_if_ge (tgt := 14) hx hb dX10_may_7 (by decide) (fun c_7 => ?_) (fun c_7 => ?_)
  · skip
    refine lv_iload_n hx hb dX10_may_14 rfl (lv_at hl 0 rfl) ?_
    refine lv_if_ne (tgt := 22) hx hb dX10_may_15 (by decide) (fun c_15 => ?_) (fun c_15 => ?_)
    · skip
      refine lv_iconst (v := nI 0) hx hb dX10_may_22 (by decide) ?_
      subst hQ; subst hAe
      exact W.iret (v := nI 0) hx hb hr (fun t ht _ => ⟨⟨nI 0, (), rfl, by by_cases h9 : kIn x n; (rw [if_pos h9] at c_15; rw [if_pos h9, if_neg (fun z => c_15 (by rw [z]; rfl))]; rfl); (rw [if_neg h9] at c_7; exact absurd c_7 (by decide)), by rw [ht]; exact hP, hD⟩, hS.F ht⟩) hS.2.2 dX10_may_23
    · skip
      refine lv_iconst (v := nI 1) hx hb dX10_may_18 (by decide) ?_
      refine lv_goto (tgt := 23) hx hb dX10_may_19 (by decide) ?_
      subst hQ; subst hAe
      exact W.iret (v := nI 1) hx hb hr (fun t ht _ => ⟨⟨nI 1, (), rfl, by by_cases h9 : kIn x n; (rw [if_pos h9] at c_15; rw [if_pos h9, if_pos (k0_eq (by have := whyF_lt ml nx n x.toInt.toNat; omega) c_15)]; rfl); (rw [if_neg h9] at c_7; exact absurd c_7 (by decide)), by rw [ht]; exact hP, hD⟩, hS.F ht⟩) hS.2.2 dX10_may_23
  · skip
    refine lv_iconst (v := (-1)) hx hb dX10_may_10 (by decide) ?_
    refine lv_goto (tgt := 23) hx hb dX10_may_11 (by decide) ?_
    subst hQ; subst hAe
    exact W.iret (v := (-1)) hx hb hr (fun t ht _ => ⟨⟨(-1), (), rfl, by by_cases h9 : kIn x n; (rw [if_pos h9] at c_7; exact absurd (nI_pos' (by have := whyF_lt ml nx n x.toInt.toNat; omega)) c_7); (rw [if_neg h9]), by rw [ht]; exact hP, hD⟩, hS.F ht⟩) hS.2.2 dX10_may_23
