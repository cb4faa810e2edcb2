def rmX10_common : Room := { frames := 0, cells := 0, slots := 0, locals := 0 }
set_option maxHeartbeats 4000000 in
set_option maxRecDepth 100000 in
theorem c_X10_common (l : Launch) (D : va_G) (cI cJ cB : ClassId) (x : Int64) (Bn : Nat) (hxm : -(2 ^ 63) < x.toInt) (hB63 : Bn < 2 ^ 63) : ∀ sz, Met l yX10_common wsX10_common rmX10_common (va_Pc [.long x, .long (lN Bn)] (PW D (kT cI cJ cB) sz ([] : va_W))) (va_Ql (S := Unit) (fun r _ => r = lN (Nat.gcd x.toInt.natAbs Bn)) (QW D sz ([] : va_W) (fun _ => ([] : va_W))) (va_A ([] : va_W) sz)) 0 0 (va_A ([] : va_W) sz) := by
  intro sz
  refine Met.ofW (cc := cX10_common) (maxL := 10) (ret := (some .long)) (by decide) rfl ?_
  intro p e s m args below meth c s₁ B hml hv
  obtain ⟨hav, hsz, hP, hKW, hD0⟩ := hv
  have hx := B.exec
  have hb := B.bytes
  have hr := B.returns
  have hts := atoms_spec (ws := wsX10_common) B.pre
  have hown : s.vm.findClass RX10 = some m.cls := findClass_of_methodNamed B.named
  have hlocks := B.notSynchronized
  subst hsz
  have hD := hD0.self (sz := s.heap.size)
  obtain ⟨A, hAe⟩ : ∃ A : Nat → Prop, A = va_A ([] : va_W) s.heap.size := ⟨_, rfl⟩
  rw [← hAe] at hD
  have hA : ∀ q : Nat, s.heap.size ≤ q → A q := fun q h => by rw [hAe]; exact Or.inr h
  have hS : va_S A s.heap s.heap [] := va_S.rf
  refine k_gen (fun Q hQ => ?_)
  have hl := lv_entry ([.long x, .long (lN Bn)]) (n := 10) (Nat.le_of_ble_eq_true rfl)
  refine k_entry hav (lg_entry_eq ..) ?_
  generalize (lg_sl ([.long x, .long (lN Bn)]) ++ List.replicate (10 - (lg_sl ([.long x, .long (lN Bn)])).length) Slot.unset).toArray = ls at hl ⊢
  have hl : lv_has ls 10 [(0, .long x), (2, .long (lN Bn))] := hl
  refine lv_lload_n hx hb dX10_common_0 rfl (lv_at hl 0 rfl) ?_
  refine lv_lconst (v := 0) hx hb dX10_common_1 (by decide) ?_
  refine W.lcmp hx hb dX10_common_2 ?_
  refine lv_if_ge (tgt := 11) hx hb dX10_common_3 (by decide) (fun c_3 => ?_) (fun c_3 => ?_)
  · skip
    have c_3 := k_lc_ge c_3
    refine lv_lload_n hx hb dX10_common_11 rfl (lv_at hl 0 rfl) ?_
    refine k_topl (y := lN x.toInt.natAbs) (by rw [← k_labs hxm, if_neg (k_l0n c_3)]) ?_
    refine lv_lstore (lv' := [(4, .long (lN x.toInt.natAbs)), (0, .long x), (2, .long (lN Bn))]) hx hb dX10_common_12 hl (by decide) rfl (fun ls hl => ?_)
    refine lv_lload_n hx hb dX10_common_14 rfl (lv_at hl 2 rfl) ?_
    refine lv_lstore (lv' := [(6, .long (lN Bn)), (4, .long (lN x.toInt.natAbs)), (0, .long x), (2, .long (lN Bn))]) hx hb dX10_common_15 hl (by decide) rfl (fun ls hl => ?_)
    have hL_17 : ∀ (fu : Nat) (X : Nat) (Y : Nat) (hX : X < 2 ^ 63) (hY : Y < 2 ^ 63) (hg : Nat.gcd X Y = Nat.gcd x.toInt.natAbs Bn), Y < fu → ∀ (H : Heap) (locs : List Loc), va_P D vwCl ([] : va_W) H → va_D A ([] : va_W) → va_S A s.heap H locs → ∀ (ls : Array Slot), lv_has ls 10 [(0, .long x), (2, .long (lN Bn)), (4, .long (lN X)), (6, .long (lN Y))] → W p l e (headSpec wsX10_common rmX10_common).room s m args below meth c H locs 0 0 Q (F0 m 17 ls []) := by
      intro fu
      induction fu with
      | zero => intro X Y hX hY hg hfu; exact absurd hfu (Nat.not_lt_zero _)
      | succ fu ih_17 =>
        intro X Y hX hY hg hfu H locs hP hD hS ls hl
        refine lv_lload hx hb dX10_common_17 (lv_at hl 3 rfl) ?_
        refine lv_lconst (v := 0) hx hb dX10_common_19 (by decide) ?_
        refine W.lcmp hx hb dX10_common_20 ?_
        refine lv_if_eq (tgt := 42) hx hb dX10_common_21 (by decide) (fun c_21 => ?_) (fun c_21 => ?_)
        · skip
          have c_21 := k_lc_eq c_21
          refine lv_lload hx hb dX10_common_42 (lv_at hl 2 rfl) ?_
          subst hQ; subst hAe
          exact W.lret (v := lN X) hx hb hr (fun tt9 ht9 _ => ⟨⟨lN X, (), rfl, by rw [← hg, k_lN0 hY c_21, Nat.gcd_zero_right], by rw [ht9]; exact hP, hD⟩, hS.F ht9⟩) hS.2.2 dX10_common_44
        · skip
          have c_21 := k_lc_eq_n c_21
          have hY0 : 0 < Y := Nat.pos_of_ne_zero (fun z => c_21 (by rw [z]; rfl))
          refine lv_lload hx hb dX10_common_24 (lv_at hl 2 rfl) ?_
          refine lv_lload hx hb dX10_common_26 (lv_at hl 3 rfl) ?_
          refine lv_lrem hx hb dX10_common_28 (c_21) ?_
          refine k_topl (y := lN (X % Y)) (pk_lRem hX hY0 hY) ?_
          refine lv_lstore (lv' := [(8, .long (lN (X % Y))), (0, .long x), (2, .long (lN Bn)), (4, .long (lN X)), (6, .long (lN Y))]) hx hb dX10_common_29 hl (by decide) rfl (fun ls hl => ?_)
          refine lv_lload hx hb dX10_common_31 (lv_at hl 4 rfl) ?_
          refine lv_lstore (lv' := [(4, .long (lN Y)), (8, .long (lN (X % Y))), (0, .long x), (2, .long (lN Bn)), (6, .long (lN Y))]) hx hb dX10_common_33 hl (by decide) rfl (fun ls hl => ?_)
          refine lv_lload hx hb dX10_common_35 (lv_at hl 1 rfl) ?_
          refine lv_lstore (lv' := [(6, .long (lN (X % Y))), (4, .long (lN Y)), (8, .long (lN (X % Y))), (0, .long x), (2, .long (lN Bn))]) hx hb dX10_common_37 hl (by decide) rfl (fun ls hl => ?_)
          refine lv_goto (tgt := 17) hx hb dX10_common_39 (by decide) ?_
          exact ih_17 _ _ hY (by have := Nat.mod_lt X hY0; omega) (by rw [Nat.gcd_comm, ← Nat.gcd_rec, Nat.gcd_comm]; exact hg) (by have := Nat.mod_lt X hY0; omega) _ _ hP hD hS ls (lv_sub hl [3, 4, 1, 0] rfl)
    exact hL_17 _ _ _ (k_natAbs_lt hxm) hB63 rfl (Nat.lt_succ_self _) _ _ hP hD hS ls (lv_sub hl [2, 3, 1, 0] rfl)
  · skip
    have c_3 := k_lc_ge_n c_3
    refine lv_lload_n hx hb dX10_common_6 rfl (lv_at hl 0 rfl) ?_
    refine lv_lneg hx hb dX10_common_7 ?_
    refine k_topl (y := lN x.toInt.natAbs) (by rw [← k_labs hxm, if_pos (k_l0p c_3)]) ?_
    refine lv_goto (tgt := 12) hx hb dX10_common_8 (by decide) ?_
    refine lv_lstore (lv' := [(4, .long (lN x.toInt.natAbs)), (0, .long x), (2, .long (lN Bn))]) hx hb dX10_common_12 hl (by decide) rfl (fun ls hl => ?_)
    refine lv_lload_n hx hb dX10_common_14 rfl (lv_at hl 2 rfl) ?_
    refine lv_lstore (lv' := [(6, .long (lN Bn)), (4, .long (lN x.toInt.natAbs)), (0, .long x), (2, .long (lN Bn))]) hx hb dX10_common_15 hl (by decide) rfl (fun ls hl => ?_)
    have hL_17 : ∀ (fu : Nat) (X : Nat) (Y : Nat) (hX : X < 2 ^ 63) (hY : Y < 2 ^ 63) (hg : Nat.gcd X Y = Nat.gcd x.toInt.natAbs Bn), Y < fu → ∀ (H : Heap) (locs : List Loc), va_P D vwCl ([] : va_W) H → va_D A ([] : va_W) → va_S A s.heap H locs → ∀ (ls : Array Slot), lv_has ls 10 [(0, .long x), (2, .long (lN Bn)), (4, .long (lN X)), (6, .long (lN Y))] → W p l e (headSpec wsX10_common rmX10_common).room s m args below meth c H locs 0 0 Q (F0 m 17 ls []) := by
      intro fu
      induction fu with
      | zero => intro X Y hX hY hg hfu; exact absurd hfu (Nat.not_lt_zero _)
      | succ fu ih_17 =>
        intro X Y hX hY hg hfu H locs hP hD hS ls hl
        refine lv_lload hx hb dX10_common_17 (lv_at hl 3 rfl) ?_
        refine lv_lconst (v := 0) hx hb dX10_common_19 (by decide) ?_
        refine W.lcmp hx hb dX10_common_20 ?_
        refine lv_if_eq (tgt := 42) hx hb dX10_common_21 (by decide) (fun c_21 => ?_) (fun c_21 => ?_)
        · skip
          have c_21 := k_lc_eq c_21
          refine lv_lload hx hb dX10_common_42 (lv_at hl 2 rfl) ?_
          subst hQ; subst hAe
          exact W.lret (v := lN X) hx hb hr (fun tt9 ht9 _ => ⟨⟨lN X, (), rfl, by rw [← hg, k_lN0 hY c_21, Nat.gcd_zero_right], by rw [ht9]; exact hP, hD⟩, hS.F ht9⟩) hS.2.2 dX10_common_44
        · skip
          have c_21 := k_lc_eq_n c_21
          have hY0 : 0 < Y := Nat.pos_of_ne_zero (fun z => c_21 (by rw [z]; rfl))
          refine lv_lload hx hb dX10_common_24 (lv_at hl 2 rfl) ?_
          refine lv_lload hx hb dX10_common_26 (lv_at hl 3 rfl) ?_
          refine lv_lrem hx hb dX10_common_28 (c_21) ?_
          refine k_topl (y := lN (X % Y)) (pk_lRem hX hY0 hY) ?_
          refine lv_lstore (lv' := [(8, .long (lN (X % Y))), (0, .long x), (2, .long (lN Bn)), (4, .long (lN X)), (6, .long (lN Y))]) hx hb dX10_common_29 hl (by decide) rfl (fun ls hl => ?_)
          refine lv_lload hx hb dX10_common_31 (lv_at hl 4 rfl) ?_
          refine lv_lstore (lv' := [(4, .long (lN Y)), (8, .long (lN (X % Y))), (0, .long x), (2, .long (lN Bn)), (6, .long (lN Y))]) hx hb dX10_common_33 hl (by decide) rfl (fun ls hl => ?_)
          refine lv_lload hx hb dX10_common_35 (lv_at hl 1 rfl) ?_
          refine lv_lstore (lv' := [(6, .long (lN (X % Y))), (4, .long (lN Y)), (8, .long (lN (X % Y))), (0, .long x), (2, .long (lN Bn))]) hx hb dX10_common_37 hl (by decide) rfl (fun ls hl => ?_)
          refine lv_goto (tgt := 17) hx hb dX10_common_39 (by decide) ?_
          exact ih_17 _ _ hY (by have := Nat.mod_lt X hY0; omega) (by rw [Nat.gcd_comm, ← Nat.gcd_rec, Nat.gcd_comm]; exact hg) (by have := Nat.mod_lt X hY0; omega) _ _ hP hD hS ls (lv_sub hl [3, 4, 1, 0] rfl)
    exact hL_17 _ _ _ (k_natAbs_lt hxm) hB63 rfl (Nat.lt_succ_self _) _ _ hP hD hS ls (lv_sub hl [2, 3, 1, 0] rfl)
def rmX10_equation : Room := { frames := 0, cells := 0, slots := 0, locals := 0 }
set_option maxHeartbeats 4000000 in
set_option maxRecDepth 100000 in
theorem c_X10_equation (l : Launch) (D : va_G) (cI cJ cB : ClassId) (q10 : Nat → Nat) (st_10 : Nat → Int32) (kept_10 : Nat → Int32) (undoable_10 : Int32) (newest_10 : Int32) (tape_10 : Nat → Int32) (taped_10 : Int32) (marks_10 : Nat → Int32) (order_10 : Nat → Int32) (reach_10 : Nat → Int32) (heapOf_10 : Nat → Int32) (rows_10 : Nat → Int64) (x_10 : Nat → Int64) (overs_10 : Nat → Int32) (costs_10 : Nat → Int32) (ways_10 : Nat → Int32) (digits_10 : Nat → Int32) (beaten_10 : Nat → Int32) (walks_10 : Nat → Int32) (a : Nat) (b : Nat) (mo : Int32) (m2 : Nat) (hm5 : m2 ≤ 5) (ha : a ≤ m2) (hb2 : b ≤ m2) : ∀ sz, Met l yX10_equation wsX10_equation rmX10_equation (va_Pc [.ref (q10 0), .int (nI a), .int (nI b), .int mo, .int (nI m2)] (PW D (kT cI cJ cB) sz (wX10 q10 cI cJ cB st_10 kept_10 undoable_10 newest_10 tape_10 taped_10 marks_10 order_10 reach_10 heapOf_10 rows_10 x_10 overs_10 costs_10 ways_10 digits_10 beaten_10 walks_10))) (va_Qv (S := (Nat → Int64)) (fun rows_10' => rows_10' = eqU rows_10 a b mo.toInt64 m2) (QW D sz (wX10 q10 cI cJ cB st_10 kept_10 undoable_10 newest_10 tape_10 taped_10 marks_10 order_10 reach_10 heapOf_10 rows_10 x_10 overs_10 costs_10 ways_10 digits_10 beaten_10 walks_10) (fun rows_10' => (wX10 q10 cI cJ cB st_10 kept_10 undoable_10 newest_10 tape_10 taped_10 marks_10 order_10 reach_10 heapOf_10 rows_10' x_10 overs_10 costs_10 ways_10 digits_10 beaten_10 walks_10))) (va_A (wX10 q10 cI cJ cB st_10 kept_10 undoable_10 newest_10 tape_10 taped_10 marks_10 order_10 reach_10 heapOf_10 rows_10 x_10 overs_10 costs_10 ways_10 digits_10 beaten_10 walks_10) sz)) 0 0 (va_A (wX10 q10 cI cJ cB st_10 kept_10 undoable_10 newest_10 tape_10 taped_10 marks_10 order_10 reach_10 heapOf_10 rows_10 x_10 overs_10 costs_10 ways_10 digits_10 beaten_10 walks_10) sz) := by
  intro sz
  refine Met.ofW (cc := cX10_equation) (maxL := 5) (ret := none) (by decide) rfl ?_
  intro p e s m args below meth c s₁ B hml hv
  obtain ⟨hav, hsz, hP, hKW, hD0⟩ := hv
  have hx := B.exec
  have hb := B.bytes
  have hr := B.returns
  have hts := atoms_spec (ws := wsX10_equation) B.pre
  have hown : s.vm.findClass RX10 = some m.cls := findClass_of_methodNamed B.named
  have hlocks := B.notSynchronized
  subst hsz
  have hD := hD0.self (sz := s.heap.size)
  obtain ⟨A, hAe⟩ : ∃ A : Nat → Prop, A = va_A (wX10 q10 cI cJ cB st_10 kept_10 undoable_10 newest_10 tape_10 taped_10 marks_10 order_10 reach_10 heapOf_10 rows_10 x_10 overs_10 costs_10 ways_10 digits_10 beaten_10 walks_10) s.heap.size := ⟨_, rfl⟩
  rw [← hAe] at hD
  have hA : ∀ q : Nat, s.heap.size ≤ q → A q := fun q h => by rw [hAe]; exact Or.inr h
  have hS : va_S A s.heap s.heap [] := va_S.rf
  refine k_gen (fun Q hQ => ?_)
  have hl := lv_entry ([.ref (q10 0), .int (nI a), .int (nI b), .int mo, .int (nI m2)]) (n := 5) (Nat.le_of_ble_eq_true rfl)
  refine k_entry hav (lg_entry_eq ..) ?_
  generalize (lg_sl ([.ref (q10 0), .int (nI a), .int (nI b), .int mo, .int (nI m2)]) ++ List.replicate (5 - (lg_sl ([.ref (q10 0), .int (nI a), .int (nI b), .int mo, .int (nI m2)])).length) Slot.unset).toArray = ls at hl ⊢
  have hl : lv_has ls 5 [(0, .ref (q10 0)), (1, .int (nI a)), (2, .int (nI b)), (3, .int mo), (4, .int (nI m2))] := hl
  have hu_10 : ∀ w ∈ u_ws RX10 TX10 18, w ∈ wsX10_equation := by decide +kernel
  have hf_31 : Cond.fieldLink RX10 31 "MeetingRanksModel" "rows" "[J" ∈ wsX10_equation := by decide +kernel
  refine lv_iload_n hx hb dX10_equation_0 rfl (lv_at hl 1 rfl) ?_
  refine lv_iload hx hb dX10_equation_1 (lv_at hl 4 rfl) ?_
  refine lv_icmp_ne (tgt := 7) hx hb dX10_equation_3 (by decide) (fun c_3 => ?_) (fun c_3 => ?_)
  · skip
    have c_3 := k_ne (by omega) (by omega) c_3
    refine lv_aload_n hx hb dX10_equation_7 rfl (lv_at hl 0 rfl) ?_
    refine k_get (ci := 10) (v := .ref (q10 8)) (C := RX10) (Tb := TX10) (N := 18) hx hb hts hu_10 hown hKW hP 0 rfl rfl 10 (by decide) hf_31 rfl rfl dX10_equation_8 ?_
    refine lv_bipush (v := nI 6) hx hb dX10_equation_11 (by decide) ?_
    refine lv_iload_n hx hb dX10_equation_13 rfl (lv_at hl 1 rfl) ?_
    refine k_imul hx hb dX10_equation_14 ?_
    refine lv_iload_n hx hb dX10_equation_15 rfl (lv_at hl 1 rfl) ?_
    refine k_iadd hx hb dX10_equation_16 ?_
    refine lv_dup2_11 hx hb dX10_equation_17 rfl rfl ?_
    refine k_lald (n := 36) (i := (6 * a) + a) hx hb hKW hP 8 1 rfl rfl (by omega) (by omega) dX10_equation_18 ?_
    refine lv_lconst (v := 1) hx hb dX10_equation_19 (by decide) ?_
    refine lv_ladd hx hb dX10_equation_20 ?_
    refine k_last (n := 36) (i := (6 * a) + a) (x := (rows_10 ((6 * a) + a)) + (1 : Int64)) (w' := (wX10 q10 cI cJ cB st_10 kept_10 undoable_10 newest_10 tape_10 taped_10 marks_10 order_10 reach_10 heapOf_10 (vp_updL rows_10 ((6 * a) + a) ((rows_10 ((6 * a) + a)) + (1 : Int64))) x_10 overs_10 costs_10 ways_10 digits_10 beaten_10 walks_10)) hx hb hKW hP hD hS 8 1 rfl rfl (by omega) (by omega) dX10_equation_21 rfl (fun H locs hP hD hS => ?_)
    refine lv_iload_n hx hb dX10_equation_22 rfl (lv_at hl 2 rfl) ?_
    refine lv_iload hx hb dX10_equation_23 (lv_at hl 4 rfl) ?_
    refine lv_icmp_ge (tgt := 43) hx hb dX10_equation_25 (by decide) (fun c_25 => ?_) (fun c_25 => ?_)
    · skip
      have c_25 := k_ge (by omega) (by omega) c_25
      refine lv_aload_n hx hb dX10_equation_43 rfl (lv_at hl 0 rfl) ?_
      refine k_get (ci := 10) (v := .ref (q10 8)) (C := RX10) (Tb := TX10) (N := 18) hx hb hts hu_10 hown hKW hP 0 rfl rfl 10 (by decide) hf_31 rfl rfl dX10_equation_44 ?_
      refine lv_bipush (v := nI 6) hx hb dX10_equation_47 (by decide) ?_
      refine lv_iload_n hx hb dX10_equation_49 rfl (lv_at hl 1 rfl) ?_
      refine k_imul hx hb dX10_equation_50 ?_
      refine lv_iconst (v := nI 5) hx hb dX10_equation_51 (by decide) ?_
      refine k_iadd hx hb dX10_equation_52 ?_
      refine lv_dup2_11 hx hb dX10_equation_53 rfl rfl ?_
      refine k_lald (n := 36) (i := (6 * a) + 5) hx hb hKW hP 8 1 rfl rfl (by omega) (by omega) dX10_equation_54 ?_
      refine lv_iload_n hx hb dX10_equation_55 rfl (lv_at hl 3 rfl) ?_
      refine lv_i2l (v := mo.toInt64) hx hb dX10_equation_56 rfl ?_
      refine lv_ladd hx hb dX10_equation_57 ?_
      refine k_last (n := 36) (i := (6 * a) + 5) (x := ((vp_updL rows_10 ((6 * a) + a) ((rows_10 ((6 * a) + a)) + (1 : Int64))) ((6 * a) + 5)) + mo.toInt64) (w' := (wX10 q10 cI cJ cB st_10 kept_10 undoable_10 newest_10 tape_10 taped_10 marks_10 order_10 reach_10 heapOf_10 (vp_updL (vp_updL rows_10 ((6 * a) + a) ((rows_10 ((6 * a) + a)) + (1 : Int64))) ((6 * a) + 5) (((vp_updL rows_10 ((6 * a) + a) ((rows_10 ((6 * a) + a)) + (1 : Int64))) ((6 * a) + 5)) + mo.toInt64)) x_10 overs_10 costs_10 ways_10 digits_10 beaten_10 walks_10)) hx hb hKW hP hD hS 8 1 rfl rfl (by omega) (by omega) dX10_equation_58 rfl (fun H locs hP hD hS => ?_)
      subst hQ; subst hAe
      exact W.vret hx hb hr (fun tt9 ht9 _ => ⟨⟨(vp_updL (vp_updL rows_10 ((6 * a) + a) ((rows_10 ((6 * a) + a)) + (1 : Int64))) ((6 * a) + 5) (((vp_updL rows_10 ((6 * a) + a) ((rows_10 ((6 * a) + a)) + (1 : Int64))) ((6 * a) + 5)) + mo.toInt64)), rfl, by unfold eqU; rw [if_neg c_3]; dsimp only; rw [if_neg (by omega)], by rw [ht9]; exact hP, hD⟩, hS.F ht9⟩) hS.2.2 dX10_equation_59
    · skip
      have c_25 := k_ge_n (by omega) (by omega) c_25
      refine lv_aload_n hx hb dX10_equation_28 rfl (lv_at hl 0 rfl) ?_
      refine k_get (ci := 10) (v := .ref (q10 8)) (C := RX10) (Tb := TX10) (N := 18) hx hb hts hu_10 hown hKW hP 0 rfl rfl 10 (by decide) hf_31 rfl rfl dX10_equation_29 ?_
      refine lv_bipush (v := nI 6) hx hb dX10_equation_32 (by decide) ?_
      refine lv_iload_n hx hb dX10_equation_34 rfl (lv_at hl 1 rfl) ?_
      refine k_imul hx hb dX10_equation_35 ?_
      refine lv_iload_n hx hb dX10_equation_36 rfl (lv_at hl 2 rfl) ?_
      refine k_iadd hx hb dX10_equation_37 ?_
      refine lv_dup2_11 hx hb dX10_equation_38 rfl rfl ?_
      refine k_lald (n := 36) (i := (6 * a) + b) hx hb hKW hP 8 1 rfl rfl (by omega) (by omega) dX10_equation_39 ?_
      refine lv_lconst (v := 1) hx hb dX10_equation_40 (by decide) ?_
      refine lv_lsub hx hb dX10_equation_41 ?_
      refine k_last (n := 36) (i := (6 * a) + b) (x := ((vp_updL rows_10 ((6 * a) + a) ((rows_10 ((6 * a) + a)) + (1 : Int64))) ((6 * a) + b)) - (1 : Int64)) (w' := (wX10 q10 cI cJ cB st_10 kept_10 undoable_10 newest_10 tape_10 taped_10 marks_10 order_10 reach_10 heapOf_10 (vp_updL (vp_updL rows_10 ((6 * a) + a) ((rows_10 ((6 * a) + a)) + (1 : Int64))) ((6 * a) + b) (((vp_updL rows_10 ((6 * a) + a) ((rows_10 ((6 * a) + a)) + (1 : Int64))) ((6 * a) + b)) - (1 : Int64))) x_10 overs_10 costs_10 ways_10 digits_10 beaten_10 walks_10)) hx hb hKW hP hD hS 8 1 rfl rfl (by omega) (by omega) dX10_equation_42 rfl (fun H locs hP hD hS => ?_)
      refine lv_aload_n hx hb dX10_equation_43 rfl (lv_at hl 0 rfl) ?_
      refine k_get (ci := 10) (v := .ref (q10 8)) (C := RX10) (Tb := TX10) (N := 18) hx hb hts hu_10 hown hKW hP 0 rfl rfl 10 (by decide) hf_31 rfl rfl dX10_equation_44 ?_
      refine lv_bipush (v := nI 6) hx hb dX10_equation_47 (by decide) ?_
      refine lv_iload_n hx hb dX10_equation_49 rfl (lv_at hl 1 rfl) ?_
      refine k_imul hx hb dX10_equation_50 ?_
      refine lv_iconst (v := nI 5) hx hb dX10_equation_51 (by decide) ?_
      refine k_iadd hx hb dX10_equation_52 ?_
      refine lv_dup2_11 hx hb dX10_equation_53 rfl rfl ?_
      refine k_lald (n := 36) (i := (6 * a) + 5) hx hb hKW hP 8 1 rfl rfl (by omega) (by omega) dX10_equation_54 ?_
      refine lv_iload_n hx hb dX10_equation_55 rfl (lv_at hl 3 rfl) ?_
      refine lv_i2l (v := mo.toInt64) hx hb dX10_equation_56 rfl ?_
      refine lv_ladd hx hb dX10_equation_57 ?_
      refine k_last (n := 36) (i := (6 * a) + 5) (x := ((vp_updL (vp_updL rows_10 ((6 * a) + a) ((rows_10 ((6 * a) + a)) + (1 : Int64))) ((6 * a) + b) (((vp_updL rows_10 ((6 * a) + a) ((rows_10 ((6 * a) + a)) + (1 : Int64))) ((6 * a) + b)) - (1 : Int64))) ((6 * a) + 5)) + mo.toInt64) (w' := (wX10 q10 cI cJ cB st_10 kept_10 undoable_10 newest_10 tape_10 taped_10 marks_10 order_10 reach_10 heapOf_10 (vp_updL (vp_updL (vp_updL rows_10 ((6 * a) + a) ((rows_10 ((6 * a) + a)) + (1 : Int64))) ((6 * a) + b) (((vp_updL rows_10 ((6 * a) + a) ((rows_10 ((6 * a) + a)) + (1 : Int64))) ((6 * a) + b)) - (1 : Int64))) ((6 * a) + 5) (((vp_updL (vp_updL rows_10 ((6 * a) + a) ((rows_10 ((6 * a) + a)) + (1 : Int64))) ((6 * a) + b) (((vp_updL rows_10 ((6 * a) + a) ((rows_10 ((6 * a) + a)) + (1 : Int64))) ((6 * a) + b)) - (1 : Int64))) ((6 * a) + 5)) + mo.toInt64)) x_10 overs_10 costs_10 ways_10 digits_10 beaten_10 walks_10)) hx hb hKW hP hD hS 8 1 rfl rfl (by omega) (by omega) dX10_equation_58 rfl (fun H locs hP hD hS => ?_)
      subst hQ; subst hAe
      exact W.vret hx hb hr (fun tt9 ht9 _ => ⟨⟨(vp_updL (vp_updL (vp_updL rows_10 ((6 * a) + a) ((rows_10 ((6 * a) + a)) + (1 : Int64))) ((6 * a) + b) (((vp_updL rows_10 ((6 * a) + a) ((rows_10 ((6 * a) + a)) + (1 : Int64))) ((6 * a) + b)) - (1 : Int64))) ((6 * a) + 5) (((vp_updL (vp_updL rows_10 ((6 * a) + a) ((rows_10 ((6 * a) + a)) + (1 : Int64))) ((6 * a) + b) (((vp_updL rows_10 ((6 * a) + a) ((rows_10 ((6 * a) + a)) + (1 : Int64))) ((6 * a) + b)) - (1 : Int64))) ((6 * a) + 5)) + mo.toInt64)), rfl, by unfold eqU; rw [if_neg c_3]; dsimp only; rw [if_pos c_25], by rw [ht9]; exact hP, hD⟩, hS.F ht9⟩) hS.2.2 dX10_equation_59
  · skip
    have c_3 := k_ne_n (by omega) (by omega) c_3
    subst hQ; subst hAe
    exact W.vret hx hb hr (fun tt9 ht9 _ => ⟨⟨(rows_10), rfl, by unfold eqU; rw [if_pos c_3], by rw [ht9]; exact hP, hD⟩, hS.F ht9⟩) hS.2.2 dX10_equation_6
def rmX10_gap : Room := { frames := 2, cells := 0, slots := 0, locals := 45 }
set_option maxHeartbeats 4000000 in
set_option maxRecDepth 100000 in
theorem c_X10_gap (l : Launch) (D : va_G) (cI cJ cB : ClassId) (q10 : Nat → Nat) (st_10 : Nat → Int32) (kept_10 : Nat → Int32) (undoable_10 : Int32) (newest_10 : Int32) (tape_10 : Nat → Int32) (taped_10 : Int32) (marks_10 : Nat → Int32) (order_10 : Nat → Int32) (reach_10 : Nat → Int32) (heapOf_10 : Nat → Int32) (rows_10 : Nat → Int64) (x_10 : Nat → Int64) (overs_10 : Nat → Int32) (costs_10 : Nat → Int32) (ways_10 : Nat → Int32) (digits_10 : Nat → Int32) (beaten_10 : Nat → Int32) (walks_10 : Nat → Int32) (n : Nat) (ml : List Mt) (nx : List (Nat × Nat)) (ks : List Nat) (rr : Int32 × Int32 × Int32) (x : Int32) (y : Int32) (hR : RS st_10 n ml nx ks rr) (hV : VS n ml nx ks) (hG : n ≤ 6 → jnR ml n = 2 ^ n - 1 → GapR ml n rows_10) : ∀ sz, Met l yX10_gap wsX10_gap rmX10_gap (va_Pc [.ref (q10 0), .int x, .int y] (PW D (kT cI cJ cB) sz (wX10 q10 cI cJ cB st_10 kept_10 undoable_10 newest_10 tape_10 taped_10 marks_10 order_10 reach_10 heapOf_10 rows_10 x_10 overs_10 costs_10 ways_10 digits_10 beaten_10 walks_10))) (va_Ql (S := (Nat → Int64) × (Nat → Int64)) (fun r uu => match uu with | (rows_10', x_10') => r = if kIn x n ∧ kIn y 2 ∧ n ≤ 6 ∧ jnR ml n = 2 ^ n - 1 then (if y = 0 then (upF (gjR (eqL (n - 1) ml (zfL rows_10 36)) (n - 1) 5 (n - 1)).1 n x.toInt.toNat) / gcF (upF (gjR (eqL (n - 1) ml (zfL rows_10 36)) (n - 1) 5 (n - 1)).1 n x.toInt.toNat) ((gjR (eqL (n - 1) ml (zfL rows_10 36)) (n - 1) 5 (n - 1)).2 * (nI n).toInt64) else ((gjR (eqL (n - 1) ml (zfL rows_10 36)) (n - 1) 5 (n - 1)).2 * (nI n).toInt64) / gcF (upF (gjR (eqL (n - 1) ml (zfL rows_10 36)) (n - 1) 5 (n - 1)).1 n x.toInt.toNat) ((gjR (eqL (n - 1) ml (zfL rows_10 36)) (n - 1) 5 (n - 1)).2 * (nI n).toInt64)) else 0) (QW D sz (wX10 q10 cI cJ cB st_10 kept_10 undoable_10 newest_10 tape_10 taped_10 marks_10 order_10 reach_10 heapOf_10 rows_10 x_10 overs_10 costs_10 ways_10 digits_10 beaten_10 walks_10) (fun uu => match uu with | (rows_10', x_10') => (wX10 q10 cI cJ cB st_10 kept_10 undoable_10 newest_10 tape_10 taped_10 marks_10 order_10 reach_10 heapOf_10 rows_10' x_10' overs_10 costs_10 ways_10 digits_10 beaten_10 walks_10))) (va_A (wX10 q10 cI cJ cB st_10 kept_10 undoable_10 newest_10 tape_10 taped_10 marks_10 order_10 reach_10 heapOf_10 rows_10 x_10 overs_10 costs_10 ways_10 digits_10 beaten_10 walks_10) sz)) 0 0 (va_A (wX10 q10 cI cJ cB st_10 kept_10 undoable_10 newest_10 tape_10 taped_10 marks_10 order_10 reach_10 heapOf_10 rows_10 x_10 overs_10 costs_10 ways_10 digits_10 beaten_10 walks_10) sz) := by
  intro sz
  refine Met.ofW (cc := cX10_gap) (maxL := 14) (ret := (some .long)) (by decide) rfl ?_
  intro p e s m args below meth c s₁ B hml hv
  obtain ⟨hav, hsz, hP, hKW, hD0⟩ := hv
  have hx := B.exec
  have hb := B.bytes
  have hr := B.returns
  have hts := atoms_spec (ws := wsX10_gap) B.pre
  have hown : s.vm.findClass RX10 = some m.cls := findClass_of_methodNamed B.named
  have hlocks := B.notSynchronized
  subst hsz
  have hD := hD0.self (sz := s.heap.size)
  obtain ⟨A, hAe⟩ : ∃ A : Nat → Prop, A = va_A (wX10 q10 cI cJ cB st_10 kept_10 undoable_10 newest_10 tape_10 taped_10 marks_10 order_10 reach_10 heapOf_10 rows_10 x_10 overs_10 costs_10 ways_10 digits_10 beaten_10 walks_10) s.heap.size := ⟨_, rfl⟩
  rw [← hAe] at hD
  have hA : ∀ q : Nat, s.heap.size ≤ q → A q := fun q h => by rw [hAe]; exact Or.inr h
  have hS : va_S A s.heap s.heap [] := va_S.rf
  refine k_gen (fun Q hQ => ?_)
  have hl := lv_entry ([.ref (q10 0), .int x, .int y]) (n := 14) (Nat.le_of_ble_eq_true rfl)
  refine k_entry hav (lg_entry_eq ..) ?_
  generalize (lg_sl ([.ref (q10 0), .int x, .int y]) ++ List.replicate (14 - (lg_sl ([.ref (q10 0), .int x, .int y])).length) Slot.unset).toArray = ls at hl ⊢
  have hl : lv_has ls 14 [(0, .ref (q10 0)), (1, .int x), (2, .int y)] := hl
  have hu_10 : ∀ w ∈ u_ws RX10 TX10 18, w ∈ wsX10_gap := by decide +kernel
  have hf_7 : Cond.fieldLink RX10 7 "MeetingRanksModel" "st" "[I" ∈ wsX10_gap := by decide +kernel
  have hf_31 : Cond.fieldLink RX10 31 "MeetingRanksModel" "rows" "[J" ∈ wsX10_gap := by decide +kernel
  have hf_35 : Cond.fieldLink RX10 35 "MeetingRanksModel" "x" "[J" ∈ wsX10_gap := by decide +kernel
  have hn1 := hV.1
  have hn10 := hV.2.1
  have hm120 := hV.2.2.1
  have hx40 := hV.2.2.2.2.1
  have hk4 := hV.2.2.2.2.2.2.1
  have h2n := pow_le_1024 hn10
  have h2p := Nat.two_pow_pos n
  refine lv_aload_n hx hb dX10_gap_0 rfl (lv_at hl 0 rfl) ?_
  refine lv_iload_n hx hb dX10_gap_1 rfl (lv_at hl 1 rfl) ?_
  have hs_2 : kSplit (wX10 q10 cI cJ cB st_10 kept_10 undoable_10 newest_10 tape_10 taped_10 marks_10 order_10 reach_10 heapOf_10 rows_10 x_10 overs_10 costs_10 ways_10 digits_10 beaten_10 walks_10) (wX10 q10 cI cJ cB st_10 kept_10 undoable_10 newest_10 tape_10 taped_10 marks_10 order_10 reach_10 heapOf_10 rows_10 x_10 overs_10 costs_10 ways_10 digits_10 beaten_10 walks_10) ([] : va_W) [0, 1, 2, 3, 4, 5, 6, 7, 8, 9, 10, 11, 12, 13, 14, 15] [] := ⟨rfl, rfl, rfl, rfl, rfl, by decide⟩
  refine kc_i hP hD hS hA hs_2 (kV (As := [.int x]) (rest := []) hx hb hml hown hts hKW hP hD hs_2 (c_X10_isPlayer l D cI cJ cB q10 st_10 kept_10 undoable_10 newest_10 tape_10 taped_10 marks_10 order_10 reach_10 heapOf_10 rows_10 x_10 overs_10 costs_10 ways_10 digits_10 beaten_10 walks_10 n ml nx ks rr x (by first | assumption | omega) (by first | assumption | omega)) (cwV 1 hts gX10_gap_X10_isPlayer rfl rfl rfl (by decide +kernel) ⟨Nat.le_of_ble_eq_true rfl, Nat.le_of_ble_eq_true rfl⟩) 0 10 rfl rfl rfl rfl hl.1 rfl (Nat.le_of_ble_eq_true rfl) dX10_gap_2 ⟨Nat.zero_le _, Nat.zero_le _⟩) (fun r_2 u_2 H locs hw_2 hP hD hS => ?_)
  have er_2 := hw_2
  have er_2 := er_2.symm
  subst er_2
  have hP : va_P D vwCl (wX10 q10 cI cJ cB st_10 kept_10 undoable_10 newest_10 tape_10 taped_10 marks_10 order_10 reach_10 heapOf_10 rows_10 x_10 overs_10 costs_10 ways_10 digits_10 beaten_10 walks_10) H := hP.sub (ws' := (wX10 q10 cI cJ cB st_10 kept_10 undoable_10 newest_10 tape_10 taped_10 marks_10 order_10 reach_10 heapOf_10 rows_10 x_10 overs_10 costs_10 ways_10 digits_10 beaten_10 walks_10)) [0, 1, 2, 3, 4, 5, 6, 7, 8, 9, 10, 11, 12, 13, 14, 15] rfl
  have hD : va_D A (wX10 q10 cI cJ cB st_10 kept_10 undoable_10 newest_10 tape_10 taped_10 marks_10 order_10 reach_10 heapOf_10 rows_10 x_10 overs_10 costs_10 ways_10 digits_10 beaten_10 walks_10) := hD.sub (ws' := (wX10 q10 cI cJ cB st_10 kept_10 undoable_10 newest_10 tape_10 taped_10 marks_10 order_10 reach_10 heapOf_10 rows_10 x_10 overs_10 costs_10 ways_10 digits_10 beaten_10 walks_10)) [0, 1, 2, 3, 4, 5, 6, 7, 8, 9, 10, 11, 12, 13, 14, 15] (by decide) rfl
  refine lv_if_eq (tgt := 33) hx hb dX10_gap_5 (by decide) (fun c_5 => ?_) (fun c_5 => ?_)
  · skip
    have c_5 := k_b0 c_5
    refine lv_lconst (v := 0) hx hb dX10_gap_33 (by decide) ?_
    subst hQ; subst hAe
    exact W.lret (v := (0 : Int64)) hx hb hr (fun tt9 ht9 _ => ⟨⟨(0 : Int64), (rows_10, x_10), rfl, (if_neg (fun z => c_5 z.1)).symm, by rw [ht9]; exact hP, hD⟩, hS.F ht9⟩) hS.2.2 dX10_gap_34
  · skip
    have c_5 := k_b1 c_5
    refine lv_iload_n hx hb dX10_gap_8 rfl (lv_at hl 2 rfl) ?_
    refine lv_if_lt (tgt := 33) hx hb dX10_gap_9 (by decide) (fun c_9 => ?_) (fun c_9 => ?_)
    · skip
      refine lv_lconst (v := 0) hx hb dX10_gap_33 (by decide) ?_
      subst hQ; subst hAe
      exact W.lret (v := (0 : Int64)) hx hb hr (fun tt9 ht9 _ => ⟨⟨(0 : Int64), (rows_10, x_10), rfl, (if_neg (fun z => kIn_lo c_9 z.2.1)).symm, by rw [ht9]; exact hP, hD⟩, hS.F ht9⟩) hS.2.2 dX10_gap_34
    · skip
      refine lv_iload_n hx hb dX10_gap_12 rfl (lv_at hl 2 rfl) ?_
      refine lv_iconst (v := nI 1) hx hb dX10_gap_13 (by decide) ?_
      refine lv_icmp_gt (tgt := 33) hx hb dX10_gap_14 (by decide) (fun c_14 => ?_) (fun c_14 => ?_)
      · skip
        refine lv_lconst (v := 0) hx hb dX10_gap_33 (by decide) ?_
        subst hQ; subst hAe
        exact W.lret (v := (0 : Int64)) hx hb hr (fun tt9 ht9 _ => ⟨⟨(0 : Int64), (rows_10, x_10), rfl, (if_neg (fun z => kIn_gt (m := 1) (by decide) c_14 z.2.1)).symm, by rw [ht9]; exact hP, hD⟩, hS.F ht9⟩) hS.2.2 dX10_gap_34
      · skip
        refine lv_aload_n hx hb dX10_gap_17 rfl (lv_at hl 0 rfl) ?_
        have hs_18 : kSplit (wX10 q10 cI cJ cB st_10 kept_10 undoable_10 newest_10 tape_10 taped_10 marks_10 order_10 reach_10 heapOf_10 rows_10 x_10 overs_10 costs_10 ways_10 digits_10 beaten_10 walks_10) (wX10 q10 cI cJ cB st_10 kept_10 undoable_10 newest_10 tape_10 taped_10 marks_10 order_10 reach_10 heapOf_10 rows_10 x_10 overs_10 costs_10 ways_10 digits_10 beaten_10 walks_10) ([] : va_W) [0, 1, 2, 3, 4, 5, 6, 7, 8, 9, 10, 11, 12, 13, 14, 15] [] := ⟨rfl, rfl, rfl, rfl, rfl, by decide⟩
        refine kc_i hP hD hS hA hs_18 (kV (As := []) (rest := []) hx hb hml hown hts hKW hP hD hs_18 (c_X10_n l D cI cJ cB q10 st_10 kept_10 undoable_10 newest_10 tape_10 taped_10 marks_10 order_10 reach_10 heapOf_10 rows_10 x_10 overs_10 costs_10 ways_10 digits_10 beaten_10 walks_10 n ml nx ks rr (by first | assumption | omega) (by first | assumption | omega)) (cwV 0 hts gX10_gap_X10_n rfl rfl rfl (by decide +kernel) ⟨Nat.le_of_ble_eq_true rfl, Nat.le_of_ble_eq_true rfl⟩) 0 10 rfl rfl rfl rfl hl.1 rfl (Nat.le_of_ble_eq_true rfl) dX10_gap_18 ⟨Nat.zero_le _, Nat.zero_le _⟩) (fun r_18 u_18 H locs hw_18 hP hD hS => ?_)
        have er_18 := hw_18
        have er_18 := er_18.symm
        subst er_18
        have hP : va_P D vwCl (wX10 q10 cI cJ cB st_10 kept_10 undoable_10 newest_10 tape_10 taped_10 marks_10 order_10 reach_10 heapOf_10 rows_10 x_10 overs_10 costs_10 ways_10 digits_10 beaten_10 walks_10) H := hP.sub (ws' := (wX10 q10 cI cJ cB st_10 kept_10 undoable_10 newest_10 tape_10 taped_10 marks_10 order_10 reach_10 heapOf_10 rows_10 x_10 overs_10 costs_10 ways_10 digits_10 beaten_10 walks_10)) [0, 1, 2, 3, 4, 5, 6, 7, 8, 9, 10, 11, 12, 13, 14, 15] rfl
        have hD : va_D A (wX10 q10 cI cJ cB st_10 kept_10 undoable_10 newest_10 tape_10 taped_10 marks_10 order_10 reach_10 heapOf_10 rows_10 x_10 overs_10 costs_10 ways_10 digits_10 beaten_10 walks_10) := hD.sub (ws' := (wX10 q10 cI cJ cB st_10 kept_10 undoable_10 newest_10 tape_10 taped_10 marks_10 order_10 reach_10 heapOf_10 rows_10 x_10 overs_10 costs_10 ways_10 digits_10 beaten_10 walks_10)) [0, 1, 2, 3, 4, 5, 6, 7, 8, 9, 10, 11, 12, 13, 14, 15] (by decide) rfl
        refine lv_bipush (v := nI 6) hx hb dX10_gap_21 (by decide) ?_
        refine lv_icmp_gt (tgt := 33) hx hb dX10_gap_23 (by decide) (fun c_23 => ?_) (fun c_23 => ?_)
        · skip
          have c_23 := k_gt (by omega) (by omega) c_23
          refine lv_lconst (v := 0) hx hb dX10_gap_33 (by decide) ?_
          subst hQ; subst hAe
          exact W.lret (v := (0 : Int64)) hx hb hr (fun tt9 ht9 _ => ⟨⟨(0 : Int64), (rows_10, x_10), rfl, (if_neg (fun z => absurd z.2.2.1 (by omega))).symm, by rw [ht9]; exact hP, hD⟩, hS.F ht9⟩) hS.2.2 dX10_gap_34
        · skip
          have c_23 := k_gt_n (by omega) (by omega) c_23
          refine lv_aload_n hx hb dX10_gap_26 rfl (lv_at hl 0 rfl) ?_
          have hs_27 : kSplit (wX10 q10 cI cJ cB st_10 kept_10 undoable_10 newest_10 tape_10 taped_10 marks_10 order_10 reach_10 heapOf_10 rows_10 x_10 overs_10 costs_10 ways_10 digits_10 beaten_10 walks_10) (wX10 q10 cI cJ cB st_10 kept_10 undoable_10 newest_10 tape_10 taped_10 marks_10 order_10 reach_10 heapOf_10 rows_10 x_10 overs_10 costs_10 ways_10 digits_10 beaten_10 walks_10) ([] : va_W) [0, 1, 2, 3, 4, 5, 6, 7, 8, 9, 10, 11, 12, 13, 14, 15] [] := ⟨rfl, rfl, rfl, rfl, rfl, by decide⟩
          refine kc_i hP hD hS hA hs_27 (kV (As := []) (rest := []) hx hb hml hown hts hKW hP hD hs_27 (c_X10_areJoined l D cI cJ cB q10 st_10 kept_10 undoable_10 newest_10 tape_10 taped_10 marks_10 order_10 reach_10 heapOf_10 rows_10 x_10 overs_10 costs_10 ways_10 digits_10 beaten_10 walks_10 n ml nx ks rr (by first | assumption | omega) (by first | assumption | omega)) (cwV 0 hts gX10_gap_X10_areJoined rfl rfl rfl (by decide +kernel) ⟨Nat.le_of_ble_eq_true rfl, Nat.le_of_ble_eq_true rfl⟩) 0 10 rfl rfl rfl rfl hl.1 rfl (Nat.le_of_ble_eq_true rfl) dX10_gap_27 ⟨Nat.zero_le _, Nat.zero_le _⟩) (fun r_27 u_27 H locs hw_27 hP hD hS => ?_)
          have er_27 := hw_27
          have er_27 := er_27.symm
          subst er_27
          have hP : va_P D vwCl (wX10 q10 cI cJ cB st_10 kept_10 undoable_10 newest_10 tape_10 taped_10 marks_10 order_10 reach_10 heapOf_10 rows_10 x_10 overs_10 costs_10 ways_10 digits_10 beaten_10 walks_10) H := hP.sub (ws' := (wX10 q10 cI cJ cB st_10 kept_10 undoable_10 newest_10 tape_10 taped_10 marks_10 order_10 reach_10 heapOf_10 rows_10 x_10 overs_10 costs_10 ways_10 digits_10 beaten_10 walks_10)) [0, 1, 2, 3, 4, 5, 6, 7, 8, 9, 10, 11, 12, 13, 14, 15] rfl
          have hD : va_D A (wX10 q10 cI cJ cB st_10 kept_10 undoable_10 newest_10 tape_10 taped_10 marks_10 order_10 reach_10 heapOf_10 rows_10 x_10 overs_10 costs_10 ways_10 digits_10 beaten_10 walks_10) := hD.sub (ws' := (wX10 q10 cI cJ cB st_10 kept_10 undoable_10 newest_10 tape_10 taped_10 marks_10 order_10 reach_10 heapOf_10 rows_10 x_10 overs_10 costs_10 ways_10 digits_10 beaten_10 walks_10)) [0, 1, 2, 3, 4, 5, 6, 7, 8, 9, 10, 11, 12, 13, 14, 15] (by decide) rfl
          refine lv_if_ne (tgt := 35) hx hb dX10_gap_30 (by decide) (fun c_30 => ?_) (fun c_30 => ?_)
          · skip
            have c_30 := k_b1 c_30
            have hn6 : n ≤ 6 := c_23
            have hj9 := c_30
            obtain ⟨y, hy2, rfl⟩ := kIn_nat (kIn_le (m := 1) (by decide) c_9 c_14)
            obtain ⟨x, hx2, rfl⟩ := kIn_nat c_5
            obtain ⟨B9, hB0, hB63, hlow⟩ := (hG hn6 hj9).2.1
            refine lv_aload_n hx hb dX10_gap_35 rfl (lv_at hl 0 rfl) ?_
            have hs_36 : kSplit (wX10 q10 cI cJ cB st_10 kept_10 undoable_10 newest_10 tape_10 taped_10 marks_10 order_10 reach_10 heapOf_10 rows_10 x_10 overs_10 costs_10 ways_10 digits_10 beaten_10 walks_10) (wX10 q10 cI cJ cB st_10 kept_10 undoable_10 newest_10 tape_10 taped_10 marks_10 order_10 reach_10 heapOf_10 rows_10 x_10 overs_10 costs_10 ways_10 digits_10 beaten_10 walks_10) ([] : va_W) [0, 1, 2, 3, 4, 5, 6, 7, 8, 9, 10, 11, 12, 13, 14, 15] [] := ⟨rfl, rfl, rfl, rfl, rfl, by decide⟩
            refine kc_i hP hD hS hA hs_36 (kV (As := []) (rest := []) hx hb hml hown hts hKW hP hD hs_36 (c_X10_n l D cI cJ cB q10 st_10 kept_10 undoable_10 newest_10 tape_10 taped_10 marks_10 order_10 reach_10 heapOf_10 rows_10 x_10 overs_10 costs_10 ways_10 digits_10 beaten_10 walks_10 n ml nx ks rr (by first | assumption | omega) (by first | assumption | omega)) (cwV 0 hts gX10_gap_X10_n rfl rfl rfl (by decide +kernel) ⟨Nat.le_of_ble_eq_true rfl, Nat.le_of_ble_eq_true rfl⟩) 0 10 rfl rfl rfl rfl hl.1 rfl (Nat.le_of_ble_eq_true rfl) dX10_gap_36 ⟨Nat.zero_le _, Nat.zero_le _⟩) (fun r_36 u_36 H locs hw_36 hP hD hS => ?_)
            have er_36 := hw_36
            have er_36 := er_36.symm
            subst er_36
            have hP : va_P D vwCl (wX10 q10 cI cJ cB st_10 kept_10 undoable_10 newest_10 tape_10 taped_10 marks_10 order_10 reach_10 heapOf_10 rows_10 x_10 overs_10 costs_10 ways_10 digits_10 beaten_10 walks_10) H := hP.sub (ws' := (wX10 q10 cI cJ cB st_10 kept_10 undoable_10 newest_10 tape_10 taped_10 marks_10 order_10 reach_10 heapOf_10 rows_10 x_10 overs_10 costs_10 ways_10 digits_10 beaten_10 walks_10)) [0, 1, 2, 3, 4, 5, 6, 7, 8, 9, 10, 11, 12, 13, 14, 15] rfl
            have hD : va_D A (wX10 q10 cI cJ cB st_10 kept_10 undoable_10 newest_10 tape_10 taped_10 marks_10 order_10 reach_10 heapOf_10 rows_10 x_10 overs_10 costs_10 ways_10 digits_10 beaten_10 walks_10) := hD.sub (ws' := (wX10 q10 cI cJ cB st_10 kept_10 undoable_10 newest_10 tape_10 taped_10 marks_10 order_10 reach_10 heapOf_10 rows_10 x_10 overs_10 costs_10 ways_10 digits_10 beaten_10 walks_10)) [0, 1, 2, 3, 4, 5, 6, 7, 8, 9, 10, 11, 12, 13, 14, 15] (by decide) rfl
            refine lv_iconst (v := nI 1) hx hb dX10_gap_39 (by decide) ?_
            refine k_isub hx hb (by omega) dX10_gap_40 ?_
            refine lv_istore_n (lv' := [(3, .int (nI (n - 1))), (0, .ref (q10 0)), (1, .int (nI x)), (2, .int (nI y))]) hx hb dX10_gap_41 rfl hl (by decide) rfl (fun ls hl => ?_)
            refine lv_iconst (v := nI 0) hx hb dX10_gap_42 (by decide) ?_
            refine lv_istore (lv' := [(4, .int (nI 0)), (3, .int (nI (n - 1))), (0, .ref (q10 0)), (1, .int (nI x)), (2, .int (nI y))]) hx hb dX10_gap_43 hl (by decide) rfl (fun ls hl => ?_)
            have hL_45 : ∀ (fu : Nat) (k : Nat) (hk : k ≤ 36), 36 - k < fu → ∀ (H : Heap) (locs : List Loc), va_P D vwCl (wX10 q10 cI cJ cB st_10 kept_10 undoable_10 newest_10 tape_10 taped_10 marks_10 order_10 reach_10 heapOf_10 (zfL rows_10 k) x_10 overs_10 costs_10 ways_10 digits_10 beaten_10 walks_10) H → va_D A (wX10 q10 cI cJ cB st_10 kept_10 undoable_10 newest_10 tape_10 taped_10 marks_10 order_10 reach_10 heapOf_10 (zfL rows_10 k) x_10 overs_10 costs_10 ways_10 digits_10 beaten_10 walks_10) → va_S A s.heap H locs → ∀ (ls : Array Slot), lv_has ls 14 [(0, .ref (q10 0)), (1, .int (nI x)), (2, .int (nI y)), (3, .int (nI (n - 1))), (4, .int (nI k))] → W p l e (headSpec wsX10_gap rmX10_gap).room s m args below meth c H locs 0 0 Q (F0 m 45 ls []) := by
              intro fu
              induction fu with
              | zero => intro k hk hfu; exact absurd hfu (Nat.not_lt_zero _)
              | succ fu ih_45 =>
                intro k hk hfu H locs hP hD hS ls hl
                refine lv_iload hx hb dX10_gap_45 (lv_at hl 4 rfl) ?_
                refine lv_bipush (v := nI 36) hx hb dX10_gap_47 (by decide) ?_
                refine lv_icmp_ge (tgt := 66) hx hb dX10_gap_49 (by decide) (fun c_49 => ?_) (fun c_49 => ?_)
                · skip
                  have c_49 := k_ge (by omega) (by omega) c_49
                  obtain rfl : k = 36 := by omega
                  refine lv_iconst (v := nI 0) hx hb dX10_gap_66 (by decide) ?_
                  refine lv_istore (lv' := [(4, .int (nI 0)), (0, .ref (q10 0)), (1, .int (nI x)), (2, .int (nI y)), (3, .int (nI (n - 1)))]) hx hb dX10_gap_67 hl (by decide) rfl (fun ls hl => ?_)
                  have hL_69 : ∀ (fu : Nat) (k : Nat) (hk : k ≤ ml.length), ml.length - k < fu → ∀ (H : Heap) (locs : List Loc), va_P D vwCl (wX10 q10 cI cJ cB st_10 kept_10 undoable_10 newest_10 tape_10 taped_10 marks_10 order_10 reach_10 heapOf_10 (eqL (n - 1) (ml.take k) (zfL rows_10 36)) x_10 overs_10 costs_10 ways_10 digits_10 beaten_10 walks_10) H → va_D A (wX10 q10 cI cJ cB st_10 kept_10 undoable_10 newest_10 tape_10 taped_10 marks_10 order_10 reach_10 heapOf_10 (eqL (n - 1) (ml.take k) (zfL rows_10 36)) x_10 overs_10 costs_10 ways_10 digits_10 beaten_10 walks_10) → va_S A s.heap H locs → ∀ (ls : Array Slot), lv_has ls 14 [(0, .ref (q10 0)), (1, .int (nI x)), (2, .int (nI y)), (3, .int (nI (n - 1))), (4, .int (nI k))] → W p l e (headSpec wsX10_gap rmX10_gap).room s m args below meth c H locs 0 0 Q (F0 m 69 ls []) := by
                    intro fu
                    induction fu with
                    | zero => intro k hk hfu; exact absurd hfu (Nat.not_lt_zero _)
                    | succ fu ih_69 =>
                      intro k hk hfu H locs hP hD hS ls hl
                      refine lv_iload hx hb dX10_gap_69 (lv_at hl 4 rfl) ?_
                      refine lv_aload_n hx hb dX10_gap_71 rfl (lv_at hl 0 rfl) ?_
                      refine k_get (ci := 10) (v := .ref (q10 1)) (C := RX10) (Tb := TX10) (N := 18) hx hb hts hu_10 hown hKW hP 0 rfl rfl 0 (by decide) hf_7 rfl rfl dX10_gap_72 ?_
                      refine lv_iconst (v := nI 1) hx hb dX10_gap_75 (by decide) ?_
                      refine k_iald (n := 600) (i := 1) hx hb hKW hP 1 0 rfl rfl (by omega) (by omega) dX10_gap_76 ?_
                      refine k_top (y := nI ml.length) (hR.2.1) ?_
                      refine lv_icmp_ge (tgt := 133) hx hb dX10_gap_77 (by decide) (fun c_77 => ?_) (fun c_77 => ?_)
                      · skip
                        have c_77 := k_ge (by omega) (by omega) c_77
                        obtain rfl : k = ml.length := by omega
                        refine lv_lconst (v := 1) hx hb dX10_gap_133 (by decide) ?_
                        refine lv_lstore (lv' := [(4, .long (1 : Int64)), (0, .ref (q10 0)), (1, .int (nI x)), (2, .int (nI y)), (3, .int (nI (n - 1)))]) hx hb dX10_gap_134 hl (by decide) rfl (fun ls hl => ?_)
                        refine lv_iconst (v := nI 0) hx hb dX10_gap_136 (by decide) ?_
                        refine lv_istore (lv' := [(6, .int (nI 0)), (4, .long (1 : Int64)), (0, .ref (q10 0)), (1, .int (nI x)), (2, .int (nI y)), (3, .int (nI (n - 1)))]) hx hb dX10_gap_137 hl (by decide) rfl (fun ls hl => ?_)
                        have hL_139 : ∀ (fu : Nat) (c2 : Nat) (hc2 : c2 ≤ n - 1), n - 1 - c2 < fu → ∀ (H : Heap) (locs : List Loc), va_P D vwCl (wX10 q10 cI cJ cB st_10 kept_10 undoable_10 newest_10 tape_10 taped_10 marks_10 order_10 reach_10 heapOf_10 ((gjR (eqL (n - 1) ml (zfL rows_10 36)) (n - 1) 5 c2).1) x_10 overs_10 costs_10 ways_10 digits_10 beaten_10 walks_10) H → va_D A (wX10 q10 cI cJ cB st_10 kept_10 undoable_10 newest_10 tape_10 taped_10 marks_10 order_10 reach_10 heapOf_10 ((gjR (eqL (n - 1) ml (zfL rows_10 36)) (n - 1) 5 c2).1) x_10 overs_10 costs_10 ways_10 digits_10 beaten_10 walks_10) → va_S A s.heap H locs → ∀ (ls : Array Slot), lv_has ls 14 [(0, .ref (q10 0)), (1, .int (nI x)), (2, .int (nI y)), (3, .int (nI (n - 1))), (4, .long ((gjR (eqL (n - 1) ml (zfL rows_10 36)) (n - 1) 5 c2).2)), (6, .int (nI c2))] → W p l e (headSpec wsX10_gap rmX10_gap).room s m args below meth c H locs 0 0 Q (F0 m 139 ls []) := by
                          intro fu
                          induction fu with
                          | zero => intro c2 hc2 hfu; exact absurd hfu (Nat.not_lt_zero _)
                          | succ fu ih_139 =>
                            intro c2 hc2 hfu H locs hP hD hS ls hl
                            refine lv_iload hx hb dX10_gap_139 (lv_at hl 5 rfl) ?_
                            refine lv_iload_n hx hb dX10_gap_141 rfl (lv_at hl 3 rfl) ?_
                            refine lv_icmp_ge (tgt := 281) hx hb dX10_gap_142 (by decide) (fun c_142 => ?_) (fun c_142 => ?_)
                            · skip
                              have c_142 := k_ge (by omega) (by omega) c_142
                              obtain rfl : c2 = n - 1 := by omega
                              refine lv_lconst (v := 0) hx hb dX10_gap_281 (by decide) ?_
                              refine lv_lstore (lv' := [(6, .long (0 : Int64)), (0, .ref (q10 0)), (1, .int (nI x)), (2, .int (nI y)), (3, .int (nI (n - 1))), (4, .long ((gjR (eqL (n - 1) ml (zfL rows_10 36)) (n - 1) 5 (n - 1)).2))]) hx hb dX10_gap_282 hl (by decide) rfl (fun ls hl => ?_)
                              refine lv_iconst (v := nI 0) hx hb dX10_gap_284 (by decide) ?_
                              refine lv_istore (lv' := [(8, .int (nI 0)), (6, .long (0 : Int64)), (0, .ref (q10 0)), (1, .int (nI x)), (2, .int (nI y)), (3, .int (nI (n - 1))), (4, .long ((gjR (eqL (n - 1) ml (zfL rows_10 36)) (n - 1) 5 (n - 1)).2))]) hx hb dX10_gap_285 hl (by decide) rfl (fun ls hl => ?_)
                              have hL_287 : ∀ (fu : Nat) (k : Nat) (sv : Int64) (xf : Nat → Int64) (hk : k ≤ n - 1) (hs : sv = sL (fun k => (gjR (eqL (n - 1) ml (zfL rows_10 36)) (n - 1) 5 (n - 1)).1 (6 * k + 5)) k) (hxf : ∀ i, i < k → xf i = (gjR (eqL (n - 1) ml (zfL rows_10 36)) (n - 1) 5 (n - 1)).1 (6 * i + 5)), n - 1 - k < fu → ∀ (H : Heap) (locs : List Loc), va_P D vwCl (wX10 q10 cI cJ cB st_10 kept_10 undoable_10 newest_10 tape_10 taped_10 marks_10 order_10 reach_10 heapOf_10 ((gjR (eqL (n - 1) ml (zfL rows_10 36)) (n - 1) 5 (n - 1)).1) xf overs_10 costs_10 ways_10 digits_10 beaten_10 walks_10) H → va_D A (wX10 q10 cI cJ cB st_10 kept_10 undoable_10 newest_10 tape_10 taped_10 marks_10 order_10 reach_10 heapOf_10 ((gjR (eqL (n - 1) ml (zfL rows_10 36)) (n - 1) 5 (n - 1)).1) xf overs_10 costs_10 ways_10 digits_10 beaten_10 walks_10) → va_S A s.heap H locs → ∀ (ls : Array Slot), lv_has ls 14 [(0, .ref (q10 0)), (1, .int (nI x)), (2, .int (nI y)), (3, .int (nI (n - 1))), (4, .long ((gjR (eqL (n - 1) ml (zfL rows_10 36)) (n - 1) 5 (n - 1)).2)), (6, .long sv), (8, .int (nI k))] → W p l e (headSpec wsX10_gap rmX10_gap).room s m args below meth c H locs 0 0 Q (F0 m 287 ls []) := by
                                intro fu
                                induction fu with
                                | zero => intro k sv xf hk hs hxf hfu; exact absurd hfu (Nat.not_lt_zero _)
                                | succ fu ih_287 =>
                                  intro k sv xf hk hs hxf hfu H locs hP hD hS ls hl
                                  refine lv_iload hx hb dX10_gap_287 (lv_at hl 6 rfl) ?_
                                  refine lv_iload_n hx hb dX10_gap_289 rfl (lv_at hl 3 rfl) ?_
                                  refine lv_icmp_ge (tgt := 330) hx hb dX10_gap_290 (by decide) (fun c_290 => ?_) (fun c_290 => ?_)
                                  · skip
                                    have c_290 := k_ge (by omega) (by omega) c_290
                                    obtain rfl : k = n - 1 := by omega
                                    subst hs
                                    refine lv_iload_n hx hb dX10_gap_330 rfl (lv_at hl 3 rfl) ?_
                                    refine lv_bipush (v := nI 6) hx hb dX10_gap_331 (by decide) ?_
                                    refine lv_icmp_ge (tgt := 343) hx hb dX10_gap_333 (by decide) (fun c_333 => ?_) (fun c_333 => ?_)
                                    · skip
                                      have c_333 := k_ge (by omega) (by omega) c_333
                                      exact absurd c_333 (by omega)
                                    · skip
                                      have c_333 := k_ge_n (by omega) (by omega) c_333
                                      refine lv_aload_n hx hb dX10_gap_336 rfl (lv_at hl 0 rfl) ?_
                                      refine k_get (ci := 10) (v := .ref (q10 9)) (C := RX10) (Tb := TX10) (N := 18) hx hb hts hu_10 hown hKW hP 0 rfl rfl 11 (by decide) hf_35 rfl rfl dX10_gap_337 ?_
                                      refine lv_iload_n hx hb dX10_gap_340 rfl (lv_at hl 3 rfl) ?_
                                      refine lv_lconst (v := 0) hx hb dX10_gap_341 (by decide) ?_
                                      refine k_last (n := 6) (i := n - 1) (x := (0 : Int64)) (w' := (wX10 q10 cI cJ cB st_10 kept_10 undoable_10 newest_10 tape_10 taped_10 marks_10 order_10 reach_10 heapOf_10 ((gjR (eqL (n - 1) ml (zfL rows_10 36)) (n - 1) 5 (n - 1)).1) (vp_updL xf (n - 1) (0 : Int64)) overs_10 costs_10 ways_10 digits_10 beaten_10 walks_10)) hx hb hKW hP hD hS 9 1 rfl rfl (by omega) (by omega) dX10_gap_342 rfl (fun H locs hP hD hS => ?_)
                                      refine lv_aload_n hx hb dX10_gap_343 rfl (lv_at hl 0 rfl) ?_
                                      refine k_get (ci := 10) (v := .ref (q10 9)) (C := RX10) (Tb := TX10) (N := 18) hx hb hts hu_10 hown hKW hP 0 rfl rfl 11 (by decide) hf_35 rfl rfl dX10_gap_344 ?_
                                      refine lv_iload_n hx hb dX10_gap_347 rfl (lv_at hl 1 rfl) ?_
                                      refine k_lald (n := 6) (i := x) hx hb hKW hP 9 1 rfl rfl (by omega) (by omega) dX10_gap_348 ?_
                                      refine k_topl (y := if x < n - 1 then (gjR (eqL (n - 1) ml (zfL rows_10 36)) (n - 1) 5 (n - 1)).1 (6 * x + 5) else 0) (by by_cases h9 : x < n - 1; (rw [pk_uLn (by omega), if_pos h9]; exact hxf x h9); (rw [show x = n - 1 by omega, pk_uLs, if_neg (by omega)])) ?_
                                      refine lv_aload_n hx hb dX10_gap_349 rfl (lv_at hl 0 rfl) ?_
                                      have hs_350 : kSplit (wX10 q10 cI cJ cB st_10 kept_10 undoable_10 newest_10 tape_10 taped_10 marks_10 order_10 reach_10 heapOf_10 ((gjR (eqL (n - 1) ml (zfL rows_10 36)) (n - 1) 5 (n - 1)).1) (vp_updL xf (n - 1) (0 : Int64)) overs_10 costs_10 ways_10 digits_10 beaten_10 walks_10) (wX10 q10 cI cJ cB st_10 kept_10 undoable_10 newest_10 tape_10 taped_10 marks_10 order_10 reach_10 heapOf_10 ((gjR (eqL (n - 1) ml (zfL rows_10 36)) (n - 1) 5 (n - 1)).1) (vp_updL xf (n - 1) (0 : Int64)) overs_10 costs_10 ways_10 digits_10 beaten_10 walks_10) ([] : va_W) [0, 1, 2, 3, 4, 5, 6, 7, 8, 9, 10, 11, 12, 13, 14, 15] [] := ⟨rfl, rfl, rfl, rfl, rfl, by decide⟩
                                      refine kc_i hP hD hS hA hs_350 (kV (As := []) (rest := [.long (if x < n - 1 then (gjR (eqL (n - 1) ml (zfL rows_10 36)) (n - 1) 5 (n - 1)).1 (6 * x + 5) else 0)]) hx hb hml hown hts hKW hP hD hs_350 (c_X10_n l D cI cJ cB q10 st_10 kept_10 undoable_10 newest_10 tape_10 taped_10 marks_10 order_10 reach_10 heapOf_10 ((gjR (eqL (n - 1) ml (zfL rows_10 36)) (n - 1) 5 (n - 1)).1) (vp_updL xf (n - 1) (0 : Int64)) overs_10 costs_10 ways_10 digits_10 beaten_10 walks_10 n ml nx ks rr (by first | assumption | omega) (by first | assumption | omega)) (cwV 0 hts gX10_gap_X10_n rfl rfl rfl (by decide +kernel) ⟨Nat.le_of_ble_eq_true rfl, Nat.le_of_ble_eq_true rfl⟩) 0 10 rfl rfl rfl rfl hl.1 rfl (Nat.le_of_ble_eq_true rfl) dX10_gap_350 ⟨Nat.zero_le _, Nat.zero_le _⟩) (fun r_350 u_350 H locs hw_350 hP hD hS => ?_)
                                      have er_350 := hw_350
                                      have er_350 := er_350.symm
                                      subst er_350
                                      have hP : va_P D vwCl (wX10 q10 cI cJ cB st_10 kept_10 undoable_10 newest_10 tape_10 taped_10 marks_10 order_10 reach_10 heapOf_10 ((gjR (eqL (n - 1) ml (zfL rows_10 36)) (n - 1) 5 (n - 1)).1) (vp_updL xf (n - 1) (0 : Int64)) overs_10 costs_10 ways_10 digits_10 beaten_10 walks_10) H := hP.sub (ws' := (wX10 q10 cI cJ cB st_10 kept_10 undoable_10 newest_10 tape_10 taped_10 marks_10 order_10 reach_10 heapOf_10 ((gjR (eqL (n - 1) ml (zfL rows_10 36)) (n - 1) 5 (n - 1)).1) (vp_updL xf (n - 1) (0 : Int64)) overs_10 costs_10 ways_10 digits_10 beaten_10 walks_10)) [0, 1, 2, 3, 4, 5, 6, 7, 8, 9, 10, 11, 12, 13, 14, 15] rfl
                                      have hD : va_D A (wX10 q10 cI cJ cB st_10 kept_10 undoable_10 newest_10 tape_10 taped_10 marks_10 order_10 reach_10 heapOf_10 ((gjR (eqL (n - 1) ml (zfL rows_10 36)) (n - 1) 5 (n - 1)).1) (vp_updL xf (n - 1) (0 : Int64)) overs_10 costs_10 ways_10 digits_10 beaten_10 walks_10) := hD.sub (ws' := (wX10 q10 cI cJ cB st_10 kept_10 undoable_10 newest_10 tape_10 taped_10 marks_10 order_10 reach_10 heapOf_10 ((gjR (eqL (n - 1) ml (zfL rows_10 36)) (n - 1) 5 (n - 1)).1) (vp_updL xf (n - 1) (0 : Int64)) overs_10 costs_10 ways_10 digits_10 beaten_10 walks_10)) [0, 1, 2, 3, 4, 5, 6, 7, 8, 9, 10, 11, 12, 13, 14, 15] (by decide) rfl
                                      refine lv_i2l (v := (nI n).toInt64) hx hb dX10_gap_353 rfl ?_
                                      refine lv_lmul hx hb dX10_gap_354 ?_
                                      refine lv_lload hx hb dX10_gap_355 (lv_at hl 5 rfl) ?_
                                      refine lv_lsub hx hb dX10_gap_357 ?_
                                      refine k_topl (y := upF (gjR (eqL (n - 1) ml (zfL rows_10 36)) (n - 1) 5 (n - 1)).1 n x) (rfl) ?_
                                      refine lv_lstore (lv' := [(8, .long (upF (gjR (eqL (n - 1) ml (zfL rows_10 36)) (n - 1) 5 (n - 1)).1 n x)), (0, .ref (q10 0)), (1, .int (nI x)), (2, .int (nI y)), (3, .int (nI (n - 1))), (4, .long ((gjR (eqL (n - 1) ml (zfL rows_10 36)) (n - 1) 5 (n - 1)).2)), (6, .long (sL (fun k => (gjR (eqL (n - 1) ml (zfL rows_10 36)) (n - 1) 5 (n - 1)).1 (6 * k + 5)) (n - 1)))]) hx hb dX10_gap_358 hl (by decide) rfl (fun ls hl => ?_)
                                      refine lv_lload hx hb dX10_gap_360 (lv_at hl 5 rfl) ?_
                                      refine lv_aload_n hx hb dX10_gap_362 rfl (lv_at hl 1 rfl) ?_
                                      have hs_363 : kSplit (wX10 q10 cI cJ cB st_10 kept_10 undoable_10 newest_10 tape_10 taped_10 marks_10 order_10 reach_10 heapOf_10 ((gjR (eqL (n - 1) ml (zfL rows_10 36)) (n - 1) 5 (n - 1)).1) (vp_updL xf (n - 1) (0 : Int64)) overs_10 costs_10 ways_10 digits_10 beaten_10 walks_10) (wX10 q10 cI cJ cB st_10 kept_10 undoable_10 newest_10 tape_10 taped_10 marks_10 order_10 reach_10 heapOf_10 ((gjR (eqL (n - 1) ml (zfL rows_10 36)) (n - 1) 5 (n - 1)).1) (vp_updL xf (n - 1) (0 : Int64)) overs_10 costs_10 ways_10 digits_10 beaten_10 walks_10) ([] : va_W) [0, 1, 2, 3, 4, 5, 6, 7, 8, 9, 10, 11, 12, 13, 14, 15] [] := ⟨rfl, rfl, rfl, rfl, rfl, by decide⟩
                                      refine kc_i hP hD hS hA hs_363 (kV (As := []) (rest := [.long ((gjR (eqL (n - 1) ml (zfL rows_10 36)) (n - 1) 5 (n - 1)).2)]) hx hb hml hown hts hKW hP hD hs_363 (c_X10_n l D cI cJ cB q10 st_10 kept_10 undoable_10 newest_10 tape_10 taped_10 marks_10 order_10 reach_10 heapOf_10 ((gjR (eqL (n - 1) ml (zfL rows_10 36)) (n - 1) 5 (n - 1)).1) (vp_updL xf (n - 1) (0 : Int64)) overs_10 costs_10 ways_10 digits_10 beaten_10 walks_10 n ml nx ks rr (by first | assumption | omega) (by first | assumption | omega)) (cwV 0 hts gX10_gap_X10_n rfl rfl rfl (by decide +kernel) ⟨Nat.le_of_ble_eq_true rfl, Nat.le_of_ble_eq_true rfl⟩) 0 10 rfl rfl rfl rfl hl.1 rfl (Nat.le_of_ble_eq_true rfl) dX10_gap_363 ⟨Nat.zero_le _, Nat.zero_le _⟩) (fun r_363 u_363 H locs hw_363 hP hD hS => ?_)
                                      have er_363 := hw_363
                                      have er_363 := er_363.symm
                                      subst er_363
                                      have hP : va_P D vwCl (wX10 q10 cI cJ cB st_10 kept_10 undoable_10 newest_10 tape_10 taped_10 marks_10 order_10 reach_10 heapOf_10 ((gjR (eqL (n - 1) ml (zfL rows_10 36)) (n - 1) 5 (n - 1)).1) (vp_updL xf (n - 1) (0 : Int64)) overs_10 costs_10 ways_10 digits_10 beaten_10 walks_10) H := hP.sub (ws' := (wX10 q10 cI cJ cB st_10 kept_10 undoable_10 newest_10 tape_10 taped_10 marks_10 order_10 reach_10 heapOf_10 ((gjR (eqL (n - 1) ml (zfL rows_10 36)) (n - 1) 5 (n - 1)).1) (vp_updL xf (n - 1) (0 : Int64)) overs_10 costs_10 ways_10 digits_10 beaten_10 walks_10)) [0, 1, 2, 3, 4, 5, 6, 7, 8, 9, 10, 11, 12, 13, 14, 15] rfl
                                      have hD : va_D A (wX10 q10 cI cJ cB st_10 kept_10 undoable_10 newest_10 tape_10 taped_10 marks_10 order_10 reach_10 heapOf_10 ((gjR (eqL (n - 1) ml (zfL rows_10 36)) (n - 1) 5 (n - 1)).1) (vp_updL xf (n - 1) (0 : Int64)) overs_10 costs_10 ways_10 digits_10 beaten_10 walks_10) := hD.sub (ws' := (wX10 q10 cI cJ cB st_10 kept_10 undoable_10 newest_10 tape_10 taped_10 marks_10 order_10 reach_10 heapOf_10 ((gjR (eqL (n - 1) ml (zfL rows_10 36)) (n - 1) 5 (n - 1)).1) (vp_updL xf (n - 1) (0 : Int64)) overs_10 costs_10 ways_10 digits_10 beaten_10 walks_10)) [0, 1, 2, 3, 4, 5, 6, 7, 8, 9, 10, 11, 12, 13, 14, 15] (by decide) rfl
                                      refine lv_i2l (v := (nI n).toInt64) hx hb dX10_gap_366 rfl ?_
                                      refine lv_lmul hx hb dX10_gap_367 ?_
                                      refine k_topl (y := lN B9) (hlow) ?_
                                      refine lv_lstore (lv' := [(10, .long (lN B9)), (8, .long (upF (gjR (eqL (n - 1) ml (zfL rows_10 36)) (n - 1) 5 (n - 1)).1 n x)), (0, .ref (q10 0)), (1, .int (nI x)), (2, .int (nI y)), (3, .int (nI (n - 1))), (4, .long ((gjR (eqL (n - 1) ml (zfL rows_10 36)) (n - 1) 5 (n - 1)).2)), (6, .long (sL (fun k => (gjR (eqL (n - 1) ml (zfL rows_10 36)) (n - 1) 5 (n - 1)).1 (6 * k + 5)) (n - 1)))]) hx hb dX10_gap_368 hl (by decide) rfl (fun ls hl => ?_)
                                      refine lv_lload hx hb dX10_gap_370 (lv_at hl 1 rfl) ?_
                                      refine lv_lload hx hb dX10_gap_372 (lv_at hl 0 rfl) ?_
                                      have hs_374 : kSplit (wX10 q10 cI cJ cB st_10 kept_10 undoable_10 newest_10 tape_10 taped_10 marks_10 order_10 reach_10 heapOf_10 ((gjR (eqL (n - 1) ml (zfL rows_10 36)) (n - 1) 5 (n - 1)).1) (vp_updL xf (n - 1) (0 : Int64)) overs_10 costs_10 ways_10 digits_10 beaten_10 walks_10) ([] : va_W) (wX10 q10 cI cJ cB st_10 kept_10 undoable_10 newest_10 tape_10 taped_10 marks_10 order_10 reach_10 heapOf_10 ((gjR (eqL (n - 1) ml (zfL rows_10 36)) (n - 1) 5 (n - 1)).1) (vp_updL xf (n - 1) (0 : Int64)) overs_10 costs_10 ways_10 digits_10 beaten_10 walks_10) [] [0, 1, 2, 3, 4, 5, 6, 7, 8, 9, 10, 11, 12, 13, 14, 15] := ⟨rfl, rfl, rfl, rfl, rfl, by decide⟩
                                      refine kc_l hP hD hS hA hs_374 (kS (As := [.long (upF (gjR (eqL (n - 1) ml (zfL rows_10 36)) (n - 1) 5 (n - 1)).1 n x), .long (lN B9)]) (rest := []) hx hb hml hown hts hKW hP hD hs_374 (c_X10_common l D cI cJ cB (upF (gjR (eqL (n - 1) ml (zfL rows_10 36)) (n - 1) 5 (n - 1)).1 n x) B9 ((hG hn6 hj9).2.2 x hx2) hB63) (va_cwS 2 hts gX10_gap_X10_common rfl rfl rfl (by decide +kernel) ⟨Nat.le_of_ble_eq_true rfl, Nat.le_of_ble_eq_true rfl⟩) rfl hl.1 rfl (Nat.le_of_ble_eq_true rfl) dX10_gap_374 ⟨Nat.zero_le _, Nat.zero_le _⟩) (fun r_374 u_374 H locs hw_374 hP hD hS => ?_)
                                      have er_374 := hw_374
                                      have er_374 := er_374.symm
                                      subst er_374
                                      have hP : va_P D vwCl (wX10 q10 cI cJ cB st_10 kept_10 undoable_10 newest_10 tape_10 taped_10 marks_10 order_10 reach_10 heapOf_10 ((gjR (eqL (n - 1) ml (zfL rows_10 36)) (n - 1) 5 (n - 1)).1) (vp_updL xf (n - 1) (0 : Int64)) overs_10 costs_10 ways_10 digits_10 beaten_10 walks_10) H := hP.sub (ws' := (wX10 q10 cI cJ cB st_10 kept_10 undoable_10 newest_10 tape_10 taped_10 marks_10 order_10 reach_10 heapOf_10 ((gjR (eqL (n - 1) ml (zfL rows_10 36)) (n - 1) 5 (n - 1)).1) (vp_updL xf (n - 1) (0 : Int64)) overs_10 costs_10 ways_10 digits_10 beaten_10 walks_10)) [0, 1, 2, 3, 4, 5, 6, 7, 8, 9, 10, 11, 12, 13, 14, 15] rfl
                                      have hD : va_D A (wX10 q10 cI cJ cB st_10 kept_10 undoable_10 newest_10 tape_10 taped_10 marks_10 order_10 reach_10 heapOf_10 ((gjR (eqL (n - 1) ml (zfL rows_10 36)) (n - 1) 5 (n - 1)).1) (vp_updL xf (n - 1) (0 : Int64)) overs_10 costs_10 ways_10 digits_10 beaten_10 walks_10) := hD.sub (ws' := (wX10 q10 cI cJ cB st_10 kept_10 undoable_10 newest_10 tape_10 taped_10 marks_10 order_10 reach_10 heapOf_10 ((gjR (eqL (n - 1) ml (zfL rows_10 36)) (n - 1) 5 (n - 1)).1) (vp_updL xf (n - 1) (0 : Int64)) overs_10 costs_10 ways_10 digits_10 beaten_10 walks_10)) [0, 1, 2, 3, 4, 5, 6, 7, 8, 9, 10, 11, 12, 13, 14, 15] (by decide) rfl
                                      refine lv_lstore (lv' := [(12, .long (lN (Nat.gcd (upF (gjR (eqL (n - 1) ml (zfL rows_10 36)) (n - 1) 5 (n - 1)).1 n x).toInt.natAbs B9))), (10, .long (lN B9)), (8, .long (upF (gjR (eqL (n - 1) ml (zfL rows_10 36)) (n - 1) 5 (n - 1)).1 n x)), (0, .ref (q10 0)), (1, .int (nI x)), (2, .int (nI y)), (3, .int (nI (n - 1))), (4, .long ((gjR (eqL (n - 1) ml (zfL rows_10 36)) (n - 1) 5 (n - 1)).2)), (6, .long (sL (fun k => (gjR (eqL (n - 1) ml (zfL rows_10 36)) (n - 1) 5 (n - 1)).1 (6 * k + 5)) (n - 1)))]) hx hb dX10_gap_377 hl (by decide) rfl (fun ls hl => ?_)
                                      refine lv_iload_n hx hb dX10_gap_379 rfl (lv_at hl 5 rfl) ?_
                                      refine lv_if_ne (tgt := 391) hx hb dX10_gap_380 (by decide) (fun c_380 => ?_) (fun c_380 => ?_)
                                      · skip
                                        have c_380 := k0_ne (by omega) c_380
                                        refine lv_lload hx hb dX10_gap_391 (lv_at hl 1 rfl) ?_
                                        refine lv_lload hx hb dX10_gap_393 (lv_at hl 0 rfl) ?_
                                        refine lv_ldiv hx hb dX10_gap_395 (gcd_ne hB0 hB63) ?_
                                        subst hQ; subst hAe
                                        exact W.lret (v := (lN B9) / (lN (Nat.gcd (upF (gjR (eqL (n - 1) ml (zfL rows_10 36)) (n - 1) 5 (n - 1)).1 n x).toInt.natAbs B9))) hx hb hr (fun tt9 ht9 _ => ⟨⟨(lN B9) / (lN (Nat.gcd (upF (gjR (eqL (n - 1) ml (zfL rows_10 36)) (n - 1) 5 (n - 1)).1 n x).toInt.natAbs B9)), ((gjR (eqL (n - 1) ml (zfL rows_10 36)) (n - 1) 5 (n - 1)).1, vp_updL xf (n - 1) (0 : Int64)), rfl, by rw [if_pos ⟨(kIn_nI (by omega)).mpr hx2, (kIn_nI (by omega)).mpr (by omega), hn6, hj9⟩, if_neg (fun z => c_380 (k0_eq (by omega) z)), hlow, gcF_lN hB63, k_tt (by omega)], by rw [ht9]; exact hP, hD⟩, hS.F ht9⟩) hS.2.2 dX10_gap_396
                                      · skip
                                        have c_380 := k0_ne_n (by omega) c_380
                                        refine lv_lload hx hb dX10_gap_383 (lv_at hl 2 rfl) ?_
                                        refine lv_lload hx hb dX10_gap_385 (lv_at hl 0 rfl) ?_
                                        refine lv_ldiv hx hb dX10_gap_387 (gcd_ne hB0 hB63) ?_
                                        refine lv_goto (tgt := 396) hx hb dX10_gap_388 (by decide) ?_
                                        subst hQ; subst hAe
                                        exact W.lret (v := (upF (gjR (eqL (n - 1) ml (zfL rows_10 36)) (n - 1) 5 (n - 1)).1 n x) / (lN (Nat.gcd (upF (gjR (eqL (n - 1) ml (zfL rows_10 36)) (n - 1) 5 (n - 1)).1 n x).toInt.natAbs B9))) hx hb hr (fun tt9 ht9 _ => ⟨⟨(upF (gjR (eqL (n - 1) ml (zfL rows_10 36)) (n - 1) 5 (n - 1)).1 n x) / (lN (Nat.gcd (upF (gjR (eqL (n - 1) ml (zfL rows_10 36)) (n - 1) 5 (n - 1)).1 n x).toInt.natAbs B9)), ((gjR (eqL (n - 1) ml (zfL rows_10 36)) (n - 1) 5 (n - 1)).1, vp_updL xf (n - 1) (0 : Int64)), rfl, by rw [if_pos ⟨(kIn_nI (by omega)).mpr hx2, (kIn_nI (by omega)).mpr (by omega), hn6, hj9⟩, if_pos (by rw [c_380]; rfl), hlow, gcF_lN hB63, k_tt (by omega)], by rw [ht9]; exact hP, hD⟩, hS.F ht9⟩) hS.2.2 dX10_gap_396
                                  · skip
                                    have c_290 := k_ge_n (by omega) (by omega) c_290
                                    refine lv_aload_n hx hb dX10_gap_293 rfl (lv_at hl 0 rfl) ?_
                                    refine k_get (ci := 10) (v := .ref (q10 9)) (C := RX10) (Tb := TX10) (N := 18) hx hb hts hu_10 hown hKW hP 0 rfl rfl 11 (by decide) hf_35 rfl rfl dX10_gap_294 ?_
                                    refine lv_iload hx hb dX10_gap_297 (lv_at hl 6 rfl) ?_
                                    refine lv_aload_n hx hb dX10_gap_299 rfl (lv_at hl 0 rfl) ?_
                                    refine k_get (ci := 10) (v := .ref (q10 8)) (C := RX10) (Tb := TX10) (N := 18) hx hb hts hu_10 hown hKW hP 0 rfl rfl 10 (by decide) hf_31 rfl rfl dX10_gap_300 ?_
                                    refine lv_bipush (v := nI 6) hx hb dX10_gap_303 (by decide) ?_
                                    refine lv_iload hx hb dX10_gap_305 (lv_at hl 6 rfl) ?_
                                    refine k_imul hx hb dX10_gap_307 ?_
                                    refine lv_iconst (v := nI 5) hx hb dX10_gap_308 (by decide) ?_
                                    refine k_iadd hx hb dX10_gap_309 ?_
                                    refine k_lald (n := 36) (i := (6 * k) + 5) hx hb hKW hP 8 1 rfl rfl (by omega) (by omega) dX10_gap_310 ?_
                                    refine k_last (n := 6) (i := k) (x := ((gjR (eqL (n - 1) ml (zfL rows_10 36)) (n - 1) 5 (n - 1)).1) ((6 * k) + 5)) (w' := (wX10 q10 cI cJ cB st_10 kept_10 undoable_10 newest_10 tape_10 taped_10 marks_10 order_10 reach_10 heapOf_10 ((gjR (eqL (n - 1) ml (zfL rows_10 36)) (n - 1) 5 (n - 1)).1) (vp_updL xf k (((gjR (eqL (n - 1) ml (zfL rows_10 36)) (n - 1) 5 (n - 1)).1) ((6 * k) + 5))) overs_10 costs_10 ways_10 digits_10 beaten_10 walks_10)) hx hb hKW hP hD hS 9 1 rfl rfl (by omega) (by omega) dX10_gap_311 rfl (fun H locs hP hD hS => ?_)
                                    refine lv_lload hx hb dX10_gap_312 (lv_at hl 5 rfl) ?_
                                    refine lv_aload_n hx hb dX10_gap_314 rfl (lv_at hl 0 rfl) ?_
                                    refine k_get (ci := 10) (v := .ref (q10 9)) (C := RX10) (Tb := TX10) (N := 18) hx hb hts hu_10 hown hKW hP 0 rfl rfl 11 (by decide) hf_35 rfl rfl dX10_gap_315 ?_
                                    refine lv_iload hx hb dX10_gap_318 (lv_at hl 6 rfl) ?_
                                    refine k_lald (n := 6) (i := k) hx hb hKW hP 9 1 rfl rfl (by omega) (by omega) dX10_gap_320 ?_
                                    refine k_topl (y := (gjR (eqL (n - 1) ml (zfL rows_10 36)) (n - 1) 5 (n - 1)).1 (6 * k + 5)) (pk_uLs) ?_
                                    refine lv_ladd hx hb dX10_gap_321 ?_
                                    refine lv_lstore (lv' := [(6, .long (sv + ((gjR (eqL (n - 1) ml (zfL rows_10 36)) (n - 1) 5 (n - 1)).1 (6 * k + 5)))), (0, .ref (q10 0)), (1, .int (nI x)), (2, .int (nI y)), (3, .int (nI (n - 1))), (4, .long ((gjR (eqL (n - 1) ml (zfL rows_10 36)) (n - 1) 5 (n - 1)).2)), (8, .int (nI k))]) hx hb dX10_gap_322 hl (by decide) rfl (fun ls hl => ?_)
                                    refine lv_iinc (v := nI (k + 1)) (lv' := [(8, .int (nI (k + 1))), (6, .long (sv + ((gjR (eqL (n - 1) ml (zfL rows_10 36)) (n - 1) 5 (n - 1)).1 (6 * k + 5)))), (0, .ref (q10 0)), (1, .int (nI x)), (2, .int (nI y)), (3, .int (nI (n - 1))), (4, .long ((gjR (eqL (n - 1) ml (zfL rows_10 36)) (n - 1) 5 (n - 1)).2))]) hx hb dX10_gap_324 hl (k := 6) rfl (nI_add _ _) (by decide) rfl (fun ls hl => ?_)
                                    refine lv_goto (tgt := 287) hx hb dX10_gap_327 (by decide) ?_
                                    exact ih_287 _ _ _ (by omega) (by rw [hs]; rfl) (fun i hi => by by_cases e9 : i = k; (subst e9; exact pk_uLs); (rw [pk_uLn e9]; exact hxf i (by omega))) (by omega) _ _ hP hD hS ls (lv_sub hl [2, 3, 4, 5, 6, 1, 0] rfl)
                              exact hL_287 _ 0 _ _ (Nat.zero_le _) rfl (fun i hi => absurd hi (Nat.not_lt_zero i)) (Nat.lt_succ_self _) _ _ hP hD hS ls (lv_sub hl [2, 3, 4, 5, 6, 1, 0] rfl)
                            · skip
                              have c_142 := k_ge_n (by omega) (by omega) c_142
                              refine lv_iconst (v := nI 0) hx hb dX10_gap_145 (by decide) ?_
                              refine lv_istore (lv' := [(7, .int (nI 0)), (0, .ref (q10 0)), (1, .int (nI x)), (2, .int (nI y)), (3, .int (nI (n - 1))), (4, .long ((gjR (eqL (n - 1) ml (zfL rows_10 36)) (n - 1) 5 c2).2)), (6, .int (nI c2))]) hx hb dX10_gap_146 hl (by decide) rfl (fun ls hl => ?_)
                              have hL_148 : ∀ (fu : Nat) (r2 : Nat) (hr2 : r2 ≤ n - 1), n - 1 - r2 < fu → ∀ (H : Heap) (locs : List Loc), va_P D vwCl (wX10 q10 cI cJ cB st_10 kept_10 undoable_10 newest_10 tape_10 taped_10 marks_10 order_10 reach_10 heapOf_10 (gjP (gjR (eqL (n - 1) ml (zfL rows_10 36)) (n - 1) 5 c2).1 c2 5 (gjR (eqL (n - 1) ml (zfL rows_10 36)) (n - 1) 5 c2).2 r2 0) x_10 overs_10 costs_10 ways_10 digits_10 beaten_10 walks_10) H → va_D A (wX10 q10 cI cJ cB st_10 kept_10 undoable_10 newest_10 tape_10 taped_10 marks_10 order_10 reach_10 heapOf_10 (gjP (gjR (eqL (n - 1) ml (zfL rows_10 36)) (n - 1) 5 c2).1 c2 5 (gjR (eqL (n - 1) ml (zfL rows_10 36)) (n - 1) 5 c2).2 r2 0) x_10 overs_10 costs_10 ways_10 digits_10 beaten_10 walks_10) → va_S A s.heap H locs → ∀ (ls : Array Slot), lv_has ls 14 [(0, .ref (q10 0)), (1, .int (nI x)), (2, .int (nI y)), (3, .int (nI (n - 1))), (4, .long ((gjR (eqL (n - 1) ml (zfL rows_10 36)) (n - 1) 5 c2).2)), (6, .int (nI c2)), (7, .int (nI r2))] → W p l e (headSpec wsX10_gap rmX10_gap).room s m args below meth c H locs 0 0 Q (F0 m 148 ls []) := by
                                intro fu
                                induction fu with
                                | zero => intro r2 hr2 hfu; exact absurd hfu (Nat.not_lt_zero _)
                                | succ fu ih_148 =>
                                  intro r2 hr2 hfu H locs hP hD hS ls hl
                                  refine lv_iload hx hb dX10_gap_148 (lv_at hl 6 rfl) ?_
                                  refine lv_iload_n hx hb dX10_gap_150 rfl (lv_at hl 3 rfl) ?_
                                  refine lv_icmp_ge (tgt := 260) hx hb dX10_gap_151 (by decide) (fun c_151 => ?_) (fun c_151 => ?_)
                                  · skip
                                    have c_151 := k_ge (by omega) (by omega) c_151
                                    obtain rfl : r2 = n - 1 := by omega
                                    refine lv_aload_n hx hb dX10_gap_260 rfl (lv_at hl 0 rfl) ?_
                                    refine k_get (ci := 10) (v := .ref (q10 8)) (C := RX10) (Tb := TX10) (N := 18) hx hb hts hu_10 hown hKW hP 0 rfl rfl 10 (by decide) hf_31 rfl rfl dX10_gap_261 ?_
                                    refine lv_bipush (v := nI 6) hx hb dX10_gap_264 (by decide) ?_
                                    refine lv_iload hx hb dX10_gap_266 (lv_at hl 5 rfl) ?_
                                    refine k_imul hx hb dX10_gap_268 ?_
                                    refine lv_iload hx hb dX10_gap_269 (lv_at hl 5 rfl) ?_
                                    refine k_iadd hx hb dX10_gap_271 ?_
                                    refine k_lald (n := 36) (i := (6 * c2) + c2) hx hb hKW hP 8 1 rfl rfl (by omega) (by omega) dX10_gap_272 ?_
                                    refine k_topl (y := (gjR (eqL (n - 1) ml (zfL rows_10 36)) (n - 1) 5 c2).1 (6 * c2 + c2)) (gj_rd (by omega)) ?_
                                    refine lv_lstore (lv' := [(4, .long ((gjR (eqL (n - 1) ml (zfL rows_10 36)) (n - 1) 5 c2).1 (6 * c2 + c2))), (0, .ref (q10 0)), (1, .int (nI x)), (2, .int (nI y)), (3, .int (nI (n - 1))), (6, .int (nI c2)), (7, .int (nI (n - 1)))]) hx hb dX10_gap_273 hl (by decide) rfl (fun ls hl => ?_)
                                    refine lv_iinc (v := nI (c2 + 1)) (lv' := [(6, .int (nI (c2 + 1))), (4, .long ((gjR (eqL (n - 1) ml (zfL rows_10 36)) (n - 1) 5 c2).1 (6 * c2 + c2))), (0, .ref (q10 0)), (1, .int (nI x)), (2, .int (nI y)), (3, .int (nI (n - 1))), (7, .int (nI (n - 1)))]) hx hb dX10_gap_275 hl (k := 5) rfl (nI_add _ _) (by decide) rfl (fun ls hl => ?_)
                                    refine lv_goto (tgt := 139) hx hb dX10_gap_278 (by decide) ?_
                                    exact ih_139 (c2 + 1) (by omega) (by omega) _ _ hP hD hS ls (lv_sub hl [2, 3, 4, 5, 1, 0] rfl)
                                  · skip
                                    have c_151 := k_ge_n (by omega) (by omega) c_151
                                    refine lv_iload hx hb dX10_gap_154 (lv_at hl 6 rfl) ?_
                                    refine lv_iload hx hb dX10_gap_156 (lv_at hl 5 rfl) ?_
                                    refine lv_icmp_ne (tgt := 164) hx hb dX10_gap_158 (by decide) (fun c_158 => ?_) (fun c_158 => ?_)
                                    · skip
                                      have c_158 := k_ne (by omega) (by omega) c_158
                                      refine lv_aload_n hx hb dX10_gap_164 rfl (lv_at hl 0 rfl) ?_
                                      refine k_get (ci := 10) (v := .ref (q10 8)) (C := RX10) (Tb := TX10) (N := 18) hx hb hts hu_10 hown hKW hP 0 rfl rfl 10 (by decide) hf_31 rfl rfl dX10_gap_165 ?_
                                      refine lv_bipush (v := nI 6) hx hb dX10_gap_168 (by decide) ?_
                                      refine lv_iload hx hb dX10_gap_170 (lv_at hl 6 rfl) ?_
                                      refine k_imul hx hb dX10_gap_172 ?_
                                      refine lv_iload hx hb dX10_gap_173 (lv_at hl 5 rfl) ?_
                                      refine k_iadd hx hb dX10_gap_175 ?_
                                      refine k_lald (n := 36) (i := (6 * r2) + c2) hx hb hKW hP 8 1 rfl rfl (by omega) (by omega) dX10_gap_176 ?_
                                      refine k_topl (y := (gjR (eqL (n - 1) ml (zfL rows_10 36)) (n - 1) 5 c2).1 (6 * r2 + c2)) (gj_rd (by omega)) ?_
                                      refine lv_lstore (lv' := [(8, .long ((gjR (eqL (n - 1) ml (zfL rows_10 36)) (n - 1) 5 c2).1 (6 * r2 + c2))), (0, .ref (q10 0)), (1, .int (nI x)), (2, .int (nI y)), (3, .int (nI (n - 1))), (4, .long ((gjR (eqL (n - 1) ml (zfL rows_10 36)) (n - 1) 5 c2).2)), (6, .int (nI c2)), (7, .int (nI r2))]) hx hb dX10_gap_177 hl (by decide) rfl (fun ls hl => ?_)
                                      refine lv_iconst (v := nI 0) hx hb dX10_gap_179 (by decide) ?_
                                      refine lv_istore (lv' := [(10, .int (nI 0)), (8, .long ((gjR (eqL (n - 1) ml (zfL rows_10 36)) (n - 1) 5 c2).1 (6 * r2 + c2))), (0, .ref (q10 0)), (1, .int (nI x)), (2, .int (nI y)), (3, .int (nI (n - 1))), (4, .long ((gjR (eqL (n - 1) ml (zfL rows_10 36)) (n - 1) 5 c2).2)), (6, .int (nI c2)), (7, .int (nI r2))]) hx hb dX10_gap_180 hl (by decide) rfl (fun ls hl => ?_)
                                      have hL_182 : ∀ (fu : Nat) (j : Nat) (hj : j ≤ 6), 6 - j < fu → ∀ (H : Heap) (locs : List Loc), va_P D vwCl (wX10 q10 cI cJ cB st_10 kept_10 undoable_10 newest_10 tape_10 taped_10 marks_10 order_10 reach_10 heapOf_10 (gjP (gjR (eqL (n - 1) ml (zfL rows_10 36)) (n - 1) 5 c2).1 c2 5 (gjR (eqL (n - 1) ml (zfL rows_10 36)) (n - 1) 5 c2).2 r2 j) x_10 overs_10 costs_10 ways_10 digits_10 beaten_10 walks_10) H → va_D A (wX10 q10 cI cJ cB st_10 kept_10 undoable_10 newest_10 tape_10 taped_10 marks_10 order_10 reach_10 heapOf_10 (gjP (gjR (eqL (n - 1) ml (zfL rows_10 36)) (n - 1) 5 c2).1 c2 5 (gjR (eqL (n - 1) ml (zfL rows_10 36)) (n - 1) 5 c2).2 r2 j) x_10 overs_10 costs_10 ways_10 digits_10 beaten_10 walks_10) → va_S A s.heap H locs → ∀ (ls : Array Slot), lv_has ls 14 [(0, .ref (q10 0)), (1, .int (nI x)), (2, .int (nI y)), (3, .int (nI (n - 1))), (4, .long ((gjR (eqL (n - 1) ml (zfL rows_10 36)) (n - 1) 5 c2).2)), (6, .int (nI c2)), (7, .int (nI r2)), (8, .long ((gjR (eqL (n - 1) ml (zfL rows_10 36)) (n - 1) 5 c2).1 (6 * r2 + c2))), (10, .int (nI j))] → W p l e (headSpec wsX10_gap rmX10_gap).room s m args below meth c H locs 0 0 Q (F0 m 182 ls []) := by
                                        intro fu
                                        induction fu with
                                        | zero => intro j hj hfu; exact absurd hfu (Nat.not_lt_zero _)
                                        | succ fu ih_182 =>
                                          intro j hj hfu H locs hP hD hS ls hl
                                          refine lv_iload hx hb dX10_gap_182 (lv_at hl 8 rfl) ?_
                                          refine lv_iconst (v := nI 5) hx hb dX10_gap_184 (by decide) ?_
                                          refine lv_icmp_gt (tgt := 254) hx hb dX10_gap_185 (by decide) (fun c_185 => ?_) (fun c_185 => ?_)
                                          · skip
                                            have c_185 := k_gt (by omega) (by omega) c_185
                                            obtain rfl : j = 6 := by omega
                                            refine lv_iinc (v := nI (r2 + 1)) (lv' := [(7, .int (nI (r2 + 1))), (0, .ref (q10 0)), (1, .int (nI x)), (2, .int (nI y)), (3, .int (nI (n - 1))), (4, .long ((gjR (eqL (n - 1) ml (zfL rows_10 36)) (n - 1) 5 c2).2)), (6, .int (nI c2)), (8, .long ((gjR (eqL (n - 1) ml (zfL rows_10 36)) (n - 1) 5 c2).1 (6 * r2 + c2))), (10, .int (nI 6))]) hx hb dX10_gap_254 hl (k := 6) rfl (nI_add _ _) (by decide) rfl (fun ls hl => ?_)
                                            refine lv_goto (tgt := 148) hx hb dX10_gap_257 (by decide) ?_
                                            rw [gj_row6] at hP hD
                                            exact ih_148 _ (by omega) (by omega) _ _ hP hD hS ls (lv_sub hl [1, 2, 3, 4, 5, 6, 0] rfl)
                                          · skip
                                            have c_185 := k_gt_n (by omega) (by omega) c_185
                                            refine lv_aload_n hx hb dX10_gap_188 rfl (lv_at hl 0 rfl) ?_
                                            refine k_get (ci := 10) (v := .ref (q10 8)) (C := RX10) (Tb := TX10) (N := 18) hx hb hts hu_10 hown hKW hP 0 rfl rfl 10 (by decide) hf_31 rfl rfl dX10_gap_189 ?_
                                            refine lv_bipush (v := nI 6) hx hb dX10_gap_192 (by decide) ?_
                                            refine lv_iload hx hb dX10_gap_194 (lv_at hl 6 rfl) ?_
                                            refine k_imul hx hb dX10_gap_196 ?_
                                            refine lv_iload hx hb dX10_gap_197 (lv_at hl 8 rfl) ?_
                                            refine k_iadd hx hb dX10_gap_199 ?_
                                            refine lv_aload_n hx hb dX10_gap_200 rfl (lv_at hl 0 rfl) ?_
                                            refine k_get (ci := 10) (v := .ref (q10 8)) (C := RX10) (Tb := TX10) (N := 18) hx hb hts hu_10 hown hKW hP 0 rfl rfl 10 (by decide) hf_31 rfl rfl dX10_gap_201 ?_
                                            refine lv_bipush (v := nI 6) hx hb dX10_gap_204 (by decide) ?_
                                            refine lv_iload hx hb dX10_gap_206 (lv_at hl 5 rfl) ?_
                                            refine k_imul hx hb dX10_gap_208 ?_
                                            refine lv_iload hx hb dX10_gap_209 (lv_at hl 5 rfl) ?_
                                            refine k_iadd hx hb dX10_gap_211 ?_
                                            refine k_lald (n := 36) (i := (6 * c2) + c2) hx hb hKW hP 8 1 rfl rfl (by omega) (by omega) dX10_gap_212 ?_
                                            refine k_topl (y := (gjR (eqL (n - 1) ml (zfL rows_10 36)) (n - 1) 5 c2).1 (6 * c2 + c2)) (gj_rd (by omega)) ?_
                                            refine lv_aload_n hx hb dX10_gap_213 rfl (lv_at hl 0 rfl) ?_
                                            refine k_get (ci := 10) (v := .ref (q10 8)) (C := RX10) (Tb := TX10) (N := 18) hx hb hts hu_10 hown hKW hP 0 rfl rfl 10 (by decide) hf_31 rfl rfl dX10_gap_214 ?_
                                            refine lv_bipush (v := nI 6) hx hb dX10_gap_217 (by decide) ?_
                                            refine lv_iload hx hb dX10_gap_219 (lv_at hl 6 rfl) ?_
                                            refine k_imul hx hb dX10_gap_221 ?_
                                            refine lv_iload hx hb dX10_gap_222 (lv_at hl 8 rfl) ?_
                                            refine k_iadd hx hb dX10_gap_224 ?_
                                            refine k_lald (n := 36) (i := (6 * r2) + j) hx hb hKW hP 8 1 rfl rfl (by omega) (by omega) dX10_gap_225 ?_
                                            refine k_topl (y := (gjR (eqL (n - 1) ml (zfL rows_10 36)) (n - 1) 5 c2).1 (6 * r2 + j)) (gj_rd (by omega)) ?_
                                            refine lv_lmul hx hb dX10_gap_226 ?_
                                            refine lv_lload hx hb dX10_gap_227 (lv_at hl 7 rfl) ?_
                                            refine lv_aload_n hx hb dX10_gap_229 rfl (lv_at hl 0 rfl) ?_
                                            refine k_get (ci := 10) (v := .ref (q10 8)) (C := RX10) (Tb := TX10) (N := 18) hx hb hts hu_10 hown hKW hP 0 rfl rfl 10 (by decide) hf_31 rfl rfl dX10_gap_230 ?_
                                            refine lv_bipush (v := nI 6) hx hb dX10_gap_233 (by decide) ?_
                                            refine lv_iload hx hb dX10_gap_235 (lv_at hl 5 rfl) ?_
                                            refine k_imul hx hb dX10_gap_237 ?_
                                            refine lv_iload hx hb dX10_gap_238 (lv_at hl 8 rfl) ?_
                                            refine k_iadd hx hb dX10_gap_240 ?_
                                            refine k_lald (n := 36) (i := (6 * c2) + j) hx hb hKW hP 8 1 rfl rfl (by omega) (by omega) dX10_gap_241 ?_
                                            refine k_topl (y := (gjR (eqL (n - 1) ml (zfL rows_10 36)) (n - 1) 5 c2).1 (6 * c2 + j)) (gj_rd (by omega)) ?_
                                            refine lv_lmul hx hb dX10_gap_242 ?_
                                            refine lv_lsub hx hb dX10_gap_243 ?_
                                            refine lv_lload hx hb dX10_gap_244 (lv_at hl 4 rfl) ?_
                                            refine lv_ldiv hx hb dX10_gap_246 (k_lpos ((hG hn6 hj9).1 c2 (by omega))) ?_
                                            refine k_last (n := 36) (i := (6 * r2) + j) (x := ((((gjR (eqL (n - 1) ml (zfL rows_10 36)) (n - 1) 5 c2).1 (6 * c2 + c2)) * ((gjR (eqL (n - 1) ml (zfL rows_10 36)) (n - 1) 5 c2).1 (6 * r2 + j))) - (((gjR (eqL (n - 1) ml (zfL rows_10 36)) (n - 1) 5 c2).1 (6 * r2 + c2)) * ((gjR (eqL (n - 1) ml (zfL rows_10 36)) (n - 1) 5 c2).1 (6 * c2 + j)))) / ((gjR (eqL (n - 1) ml (zfL rows_10 36)) (n - 1) 5 c2).2)) (w' := (wX10 q10 cI cJ cB st_10 kept_10 undoable_10 newest_10 tape_10 taped_10 marks_10 order_10 reach_10 heapOf_10 (vp_updL (gjP (gjR (eqL (n - 1) ml (zfL rows_10 36)) (n - 1) 5 c2).1 c2 5 (gjR (eqL (n - 1) ml (zfL rows_10 36)) (n - 1) 5 c2).2 r2 j) ((6 * r2) + j) (((((gjR (eqL (n - 1) ml (zfL rows_10 36)) (n - 1) 5 c2).1 (6 * c2 + c2)) * ((gjR (eqL (n - 1) ml (zfL rows_10 36)) (n - 1) 5 c2).1 (6 * r2 + j))) - (((gjR (eqL (n - 1) ml (zfL rows_10 36)) (n - 1) 5 c2).1 (6 * r2 + c2)) * ((gjR (eqL (n - 1) ml (zfL rows_10 36)) (n - 1) 5 c2).1 (6 * c2 + j)))) / ((gjR (eqL (n - 1) ml (zfL rows_10 36)) (n - 1) 5 c2).2))) x_10 overs_10 costs_10 ways_10 digits_10 beaten_10 walks_10)) hx hb hKW hP hD hS 8 1 rfl rfl (by omega) (by omega) dX10_gap_247 rfl (fun H locs hP hD hS => ?_)
                                            refine lv_iinc (v := nI (j + 1)) (lv' := [(10, .int (nI (j + 1))), (0, .ref (q10 0)), (1, .int (nI x)), (2, .int (nI y)), (3, .int (nI (n - 1))), (4, .long ((gjR (eqL (n - 1) ml (zfL rows_10 36)) (n - 1) 5 c2).2)), (6, .int (nI c2)), (7, .int (nI r2)), (8, .long ((gjR (eqL (n - 1) ml (zfL rows_10 36)) (n - 1) 5 c2).1 (6 * r2 + c2)))]) hx hb dX10_gap_248 hl (k := 8) rfl (nI_add _ _) (by decide) rfl (fun ls hl => ?_)
                                            refine lv_goto (tgt := 182) hx hb dX10_gap_251 (by decide) ?_
                                            have hg9 := gj_step (c := (gjR (eqL (n - 1) ml (zfL rows_10 36)) (n - 1) 5 c2).1) (k := c2) (cb := 5) (be := (gjR (eqL (n - 1) ml (zfL rows_10 36)) (n - 1) 5 c2).2) (I := r2) (J := j) (ix := 6 * r2 + j) rfl (by omega) (by omega) c_158 rfl
                                            unfold gjE at hg9
                                            rw [hg9] at hP hD
                                            exact ih_182 _ (by omega) (by omega) _ _ hP hD hS ls (lv_sub hl [1, 2, 3, 4, 5, 6, 7, 8, 0] rfl)
                                      exact hL_182 _ 0 (Nat.zero_le _) (Nat.lt_succ_self _) _ _ hP hD hS ls (lv_sub hl [2, 3, 4, 5, 6, 7, 8, 1, 0] rfl)
                                    · skip
                                      have c_158 := k_ne_n (by omega) (by omega) c_158
                                      refine lv_goto (tgt := 254) hx hb dX10_gap_161 (by decide) ?_
                                      refine lv_iinc (v := nI (r2 + 1)) (lv' := [(7, .int (nI (r2 + 1))), (0, .ref (q10 0)), (1, .int (nI x)), (2, .int (nI y)), (3, .int (nI (n - 1))), (4, .long ((gjR (eqL (n - 1) ml (zfL rows_10 36)) (n - 1) 5 c2).2)), (6, .int (nI c2))]) hx hb dX10_gap_254 hl (k := 6) rfl (nI_add _ _) (by decide) rfl (fun ls hl => ?_)
                                      refine lv_goto (tgt := 148) hx hb dX10_gap_257 (by decide) ?_
                                      rw [gj_ke c_158] at hP hD
                                      exact ih_148 _ (by omega) (by omega) _ _ hP hD hS ls (lv_sub hl [1, 2, 3, 4, 5, 6, 0] rfl)
                              exact hL_148 _ 0 (Nat.zero_le _) (Nat.lt_succ_self _) _ _ (by rw [gj_0]; exact hP) (by rw [gj_0]; exact hD) hS ls (lv_sub hl [1, 2, 3, 4, 5, 6, 0] rfl)
                        exact hL_139 _ 0 (Nat.zero_le _) (Nat.lt_succ_self _) _ _ (by rw [List.take_length] at hP; exact hP) (by rw [List.take_length] at hD; exact hD) hS ls (lv_sub hl [2, 3, 4, 5, 1, 0] rfl)
                      · skip
                        have c_77 := k_ge_n (by omega) (by omega) c_77
                        obtain ⟨hy1, hy3, hy4, hy5, hy6⟩ := hV.m c_77
                        refine lv_aload_n hx hb dX10_gap_80 rfl (lv_at hl 0 rfl) ?_
                        refine lv_aload_n hx hb dX10_gap_81 rfl (lv_at hl 0 rfl) ?_
                        refine lv_iload hx hb dX10_gap_82 (lv_at hl 4 rfl) ?_
                        have hs_84 : kSplit (wX10 q10 cI cJ cB st_10 kept_10 undoable_10 newest_10 tape_10 taped_10 marks_10 order_10 reach_10 heapOf_10 (eqL (n - 1) (ml.take k) (zfL rows_10 36)) x_10 overs_10 costs_10 ways_10 digits_10 beaten_10 walks_10) (wX10 q10 cI cJ cB st_10 kept_10 undoable_10 newest_10 tape_10 taped_10 marks_10 order_10 reach_10 heapOf_10 (eqL (n - 1) (ml.take k) (zfL rows_10 36)) x_10 overs_10 costs_10 ways_10 digits_10 beaten_10 walks_10) ([] : va_W) [0, 1, 2, 3, 4, 5, 6, 7, 8, 9, 10, 11, 12, 13, 14, 15] [] := ⟨rfl, rfl, rfl, rfl, rfl, by decide⟩
                        refine kc_i hP hD hS hA hs_84 (kV (As := [.int (nI k)]) (rest := [.ref (q10 0)]) hx hb hml hown hts hKW hP hD hs_84 (c_X10_one l D cI cJ cB q10 st_10 kept_10 undoable_10 newest_10 tape_10 taped_10 marks_10 order_10 reach_10 heapOf_10 (eqL (n - 1) (ml.take k) (zfL rows_10 36)) x_10 overs_10 costs_10 ways_10 digits_10 beaten_10 walks_10 n ml nx ks rr k (by first | assumption | omega) (by first | assumption | omega) (by first | assumption | omega)) (cwV 1 hts gX10_gap_X10_one rfl rfl rfl (by decide +kernel) ⟨Nat.le_of_ble_eq_true rfl, Nat.le_of_ble_eq_true rfl⟩) 0 10 rfl rfl rfl rfl hl.1 rfl (Nat.le_of_ble_eq_true rfl) dX10_gap_84 ⟨Nat.zero_le _, Nat.zero_le _⟩) (fun r_84 u_84 H locs hw_84 hP hD hS => ?_)
                        have er_84 := hw_84
                        have er_84 := er_84.symm
                        subst er_84
                        have hP : va_P D vwCl (wX10 q10 cI cJ cB st_10 kept_10 undoable_10 newest_10 tape_10 taped_10 marks_10 order_10 reach_10 heapOf_10 (eqL (n - 1) (ml.take k) (zfL rows_10 36)) x_10 overs_10 costs_10 ways_10 digits_10 beaten_10 walks_10) H := hP.sub (ws' := (wX10 q10 cI cJ cB st_10 kept_10 undoable_10 newest_10 tape_10 taped_10 marks_10 order_10 reach_10 heapOf_10 (eqL (n - 1) (ml.take k) (zfL rows_10 36)) x_10 overs_10 costs_10 ways_10 digits_10 beaten_10 walks_10)) [0, 1, 2, 3, 4, 5, 6, 7, 8, 9, 10, 11, 12, 13, 14, 15] rfl
                        have hD : va_D A (wX10 q10 cI cJ cB st_10 kept_10 undoable_10 newest_10 tape_10 taped_10 marks_10 order_10 reach_10 heapOf_10 (eqL (n - 1) (ml.take k) (zfL rows_10 36)) x_10 overs_10 costs_10 ways_10 digits_10 beaten_10 walks_10) := hD.sub (ws' := (wX10 q10 cI cJ cB st_10 kept_10 undoable_10 newest_10 tape_10 taped_10 marks_10 order_10 reach_10 heapOf_10 (eqL (n - 1) (ml.take k) (zfL rows_10 36)) x_10 overs_10 costs_10 ways_10 digits_10 beaten_10 walks_10)) [0, 1, 2, 3, 4, 5, 6, 7, 8, 9, 10, 11, 12, 13, 14, 15] (by decide) rfl
                        refine lv_aload_n hx hb dX10_gap_87 rfl (lv_at hl 0 rfl) ?_
                        refine lv_iload hx hb dX10_gap_88 (lv_at hl 4 rfl) ?_
                        have hs_90 : kSplit (wX10 q10 cI cJ cB st_10 kept_10 undoable_10 newest_10 tape_10 taped_10 marks_10 order_10 reach_10 heapOf_10 (eqL (n - 1) (ml.take k) (zfL rows_10 36)) x_10 overs_10 costs_10 ways_10 digits_10 beaten_10 walks_10) (wX10 q10 cI cJ cB st_10 kept_10 undoable_10 newest_10 tape_10 taped_10 marks_10 order_10 reach_10 heapOf_10 (eqL (n - 1) (ml.take k) (zfL rows_10 36)) x_10 overs_10 costs_10 ways_10 digits_10 beaten_10 walks_10) ([] : va_W) [0, 1, 2, 3, 4, 5, 6, 7, 8, 9, 10, 11, 12, 13, 14, 15] [] := ⟨rfl, rfl, rfl, rfl, rfl, by decide⟩
                        refine kc_i hP hD hS hA hs_90 (kV (As := [.int (nI k)]) (rest := [.int (nI ((mg ml k).1)), .ref (q10 0)]) hx hb hml hown hts hKW hP hD hs_90 (c_X10_two l D cI cJ cB q10 st_10 kept_10 undoable_10 newest_10 tape_10 taped_10 marks_10 order_10 reach_10 heapOf_10 (eqL (n - 1) (ml.take k) (zfL rows_10 36)) x_10 overs_10 costs_10 ways_10 digits_10 beaten_10 walks_10 n ml nx ks rr k (by first | assumption | omega) (by first | assumption | omega) (by first | assumption | omega)) (cwV 1 hts gX10_gap_X10_two rfl rfl rfl (by decide +kernel) ⟨Nat.le_of_ble_eq_true rfl, Nat.le_of_ble_eq_true rfl⟩) 0 10 rfl rfl rfl rfl hl.1 rfl (Nat.le_of_ble_eq_true rfl) dX10_gap_90 ⟨Nat.zero_le _, Nat.zero_le _⟩) (fun r_90 u_90 H locs hw_90 hP hD hS => ?_)
                        have er_90 := hw_90
                        have er_90 := er_90.symm
                        subst er_90
                        have hP : va_P D vwCl (wX10 q10 cI cJ cB st_10 kept_10 undoable_10 newest_10 tape_10 taped_10 marks_10 order_10 reach_10 heapOf_10 (eqL (n - 1) (ml.take k) (zfL rows_10 36)) x_10 overs_10 costs_10 ways_10 digits_10 beaten_10 walks_10) H := hP.sub (ws' := (wX10 q10 cI cJ cB st_10 kept_10 undoable_10 newest_10 tape_10 taped_10 marks_10 order_10 reach_10 heapOf_10 (eqL (n - 1) (ml.take k) (zfL rows_10 36)) x_10 overs_10 costs_10 ways_10 digits_10 beaten_10 walks_10)) [0, 1, 2, 3, 4, 5, 6, 7, 8, 9, 10, 11, 12, 13, 14, 15] rfl
                        have hD : va_D A (wX10 q10 cI cJ cB st_10 kept_10 undoable_10 newest_10 tape_10 taped_10 marks_10 order_10 reach_10 heapOf_10 (eqL (n - 1) (ml.take k) (zfL rows_10 36)) x_10 overs_10 costs_10 ways_10 digits_10 beaten_10 walks_10) := hD.sub (ws' := (wX10 q10 cI cJ cB st_10 kept_10 undoable_10 newest_10 tape_10 taped_10 marks_10 order_10 reach_10 heapOf_10 (eqL (n - 1) (ml.take k) (zfL rows_10 36)) x_10 overs_10 costs_10 ways_10 digits_10 beaten_10 walks_10)) [0, 1, 2, 3, 4, 5, 6, 7, 8, 9, 10, 11, 12, 13, 14, 15] (by decide) rfl
                        refine lv_aload_n hx hb dX10_gap_93 rfl (lv_at hl 0 rfl) ?_
                        refine lv_iload hx hb dX10_gap_94 (lv_at hl 4 rfl) ?_
                        have hs_96 : kSplit (wX10 q10 cI cJ cB st_10 kept_10 undoable_10 newest_10 tape_10 taped_10 marks_10 order_10 reach_10 heapOf_10 (eqL (n - 1) (ml.take k) (zfL rows_10 36)) x_10 overs_10 costs_10 ways_10 digits_10 beaten_10 walks_10) (wX10 q10 cI cJ cB st_10 kept_10 undoable_10 newest_10 tape_10 taped_10 marks_10 order_10 reach_10 heapOf_10 (eqL (n - 1) (ml.take k) (zfL rows_10 36)) x_10 overs_10 costs_10 ways_10 digits_10 beaten_10 walks_10) ([] : va_W) [0, 1, 2, 3, 4, 5, 6, 7, 8, 9, 10, 11, 12, 13, 14, 15] [] := ⟨rfl, rfl, rfl, rfl, rfl, by decide⟩
                        refine kc_i hP hD hS hA hs_96 (kV (As := [.int (nI k)]) (rest := [.int (nI ((mg ml k).2.1)), .int (nI ((mg ml k).1)), .ref (q10 0)]) hx hb hml hown hts hKW hP hD hs_96 (c_X10_more l D cI cJ cB q10 st_10 kept_10 undoable_10 newest_10 tape_10 taped_10 marks_10 order_10 reach_10 heapOf_10 (eqL (n - 1) (ml.take k) (zfL rows_10 36)) x_10 overs_10 costs_10 ways_10 digits_10 beaten_10 walks_10 n ml nx ks rr k (by first | assumption | omega) (by first | assumption | omega) (by first | assumption | omega)) (cwV 1 hts gX10_gap_X10_more rfl rfl rfl (by decide +kernel) ⟨Nat.le_of_ble_eq_true rfl, Nat.le_of_ble_eq_true rfl⟩) 0 10 rfl rfl rfl rfl hl.1 rfl (Nat.le_of_ble_eq_true rfl) dX10_gap_96 ⟨Nat.zero_le _, Nat.zero_le _⟩) (fun r_96 u_96 H locs hw_96 hP hD hS => ?_)
                        have er_96 := hw_96
                        have er_96 := er_96.symm
                        subst er_96
                        have hP : va_P D vwCl (wX10 q10 cI cJ cB st_10 kept_10 undoable_10 newest_10 tape_10 taped_10 marks_10 order_10 reach_10 heapOf_10 (eqL (n - 1) (ml.take k) (zfL rows_10 36)) x_10 overs_10 costs_10 ways_10 digits_10 beaten_10 walks_10) H := hP.sub (ws' := (wX10 q10 cI cJ cB st_10 kept_10 undoable_10 newest_10 tape_10 taped_10 marks_10 order_10 reach_10 heapOf_10 (eqL (n - 1) (ml.take k) (zfL rows_10 36)) x_10 overs_10 costs_10 ways_10 digits_10 beaten_10 walks_10)) [0, 1, 2, 3, 4, 5, 6, 7, 8, 9, 10, 11, 12, 13, 14, 15] rfl
                        have hD : va_D A (wX10 q10 cI cJ cB st_10 kept_10 undoable_10 newest_10 tape_10 taped_10 marks_10 order_10 reach_10 heapOf_10 (eqL (n - 1) (ml.take k) (zfL rows_10 36)) x_10 overs_10 costs_10 ways_10 digits_10 beaten_10 walks_10) := hD.sub (ws' := (wX10 q10 cI cJ cB st_10 kept_10 undoable_10 newest_10 tape_10 taped_10 marks_10 order_10 reach_10 heapOf_10 (eqL (n - 1) (ml.take k) (zfL rows_10 36)) x_10 overs_10 costs_10 ways_10 digits_10 beaten_10 walks_10)) [0, 1, 2, 3, 4, 5, 6, 7, 8, 9, 10, 11, 12, 13, 14, 15] (by decide) rfl
                        refine lv_iload_n hx hb dX10_gap_99 rfl (lv_at hl 3 rfl) ?_
                        have hs_100 : kSplit (wX10 q10 cI cJ cB st_10 kept_10 undoable_10 newest_10 tape_10 taped_10 marks_10 order_10 reach_10 heapOf_10 (eqL (n - 1) (ml.take k) (zfL rows_10 36)) x_10 overs_10 costs_10 ways_10 digits_10 beaten_10 walks_10) (wX10 q10 cI cJ cB st_10 kept_10 undoable_10 newest_10 tape_10 taped_10 marks_10 order_10 reach_10 heapOf_10 (eqL (n - 1) (ml.take k) (zfL rows_10 36)) x_10 overs_10 costs_10 ways_10 digits_10 beaten_10 walks_10) ([] : va_W) [0, 1, 2, 3, 4, 5, 6, 7, 8, 9, 10, 11, 12, 13, 14, 15] [] := ⟨rfl, rfl, rfl, rfl, rfl, by decide⟩
                        refine kc_v hP hD hS hA hs_100 (kV (As := [.int (nI ((mg ml k).1)), .int (nI ((mg ml k).2.1)), .int (nI (mg ml k).2.2.1 - nI (mg ml k).2.2.2), .int (nI (n - 1))]) (rest := []) hx hb hml hown hts hKW hP hD hs_100 (c_X10_equation l D cI cJ cB q10 st_10 kept_10 undoable_10 newest_10 tape_10 taped_10 marks_10 order_10 reach_10 heapOf_10 (eqL (n - 1) (ml.take k) (zfL rows_10 36)) x_10 overs_10 costs_10 ways_10 digits_10 beaten_10 walks_10 ((mg ml k).1) ((mg ml k).2.1) (nI (mg ml k).2.2.1 - nI (mg ml k).2.2.2) (n - 1) (by omega) (by omega) (by omega)) (cwV 4 hts gX10_gap_X10_equation rfl rfl rfl (by decide +kernel) ⟨Nat.le_of_ble_eq_true rfl, Nat.le_of_ble_eq_true rfl⟩) 0 10 rfl rfl rfl rfl hl.1 rfl (Nat.le_of_ble_eq_true rfl) dX10_gap_100 ⟨Nat.zero_le _, Nat.zero_le _⟩) (fun u_100 H locs hw_100 hP hD hS => ?_)
                        obtain ⟨rows_10_100, rfl⟩ : ∃ z, z = u_100 := ⟨_, rfl⟩
                        have e_rows_10_100 := hw_100
                        have e_rows_10_100 := e_rows_10_100.symm
                        subst e_rows_10_100
                        have hP : va_P D vwCl (wX10 q10 cI cJ cB st_10 kept_10 undoable_10 newest_10 tape_10 taped_10 marks_10 order_10 reach_10 heapOf_10 (eqU (eqL (n - 1) (ml.take k) (zfL rows_10 36)) ((mg ml k).1) ((mg ml k).2.1) (nI (mg ml k).2.2.1 - nI (mg ml k).2.2.2).toInt64 (n - 1)) x_10 overs_10 costs_10 ways_10 digits_10 beaten_10 walks_10) H := hP.sub (ws' := (wX10 q10 cI cJ cB st_10 kept_10 undoable_10 newest_10 tape_10 taped_10 marks_10 order_10 reach_10 heapOf_10 (eqU (eqL (n - 1) (ml.take k) (zfL rows_10 36)) ((mg ml k).1) ((mg ml k).2.1) (nI (mg ml k).2.2.1 - nI (mg ml k).2.2.2).toInt64 (n - 1)) x_10 overs_10 costs_10 ways_10 digits_10 beaten_10 walks_10)) [0, 1, 2, 3, 4, 5, 6, 7, 8, 9, 10, 11, 12, 13, 14, 15] rfl
                        have hD : va_D A (wX10 q10 cI cJ cB st_10 kept_10 undoable_10 newest_10 tape_10 taped_10 marks_10 order_10 reach_10 heapOf_10 (eqU (eqL (n - 1) (ml.take k) (zfL rows_10 36)) ((mg ml k).1) ((mg ml k).2.1) (nI (mg ml k).2.2.1 - nI (mg ml k).2.2.2).toInt64 (n - 1)) x_10 overs_10 costs_10 ways_10 digits_10 beaten_10 walks_10) := hD.sub (ws' := (wX10 q10 cI cJ cB st_10 kept_10 undoable_10 newest_10 tape_10 taped_10 marks_10 order_10 reach_10 heapOf_10 (eqU (eqL (n - 1) (ml.take k) (zfL rows_10 36)) ((mg ml k).1) ((mg ml k).2.1) (nI (mg ml k).2.2.1 - nI (mg ml k).2.2.2).toInt64 (n - 1)) x_10 overs_10 costs_10 ways_10 digits_10 beaten_10 walks_10)) [0, 1, 2, 3, 4, 5, 6, 7, 8, 9, 10, 11, 12, 13, 14, 15] (by decide) rfl
                        refine lv_aload_n hx hb dX10_gap_103 rfl (lv_at hl 0 rfl) ?_
                        refine lv_aload_n hx hb dX10_gap_104 rfl (lv_at hl 0 rfl) ?_
                        refine lv_iload hx hb dX10_gap_105 (lv_at hl 4 rfl) ?_
                        have hs_107 : kSplit (wX10 q10 cI cJ cB st_10 kept_10 undoable_10 newest_10 tape_10 taped_10 marks_10 order_10 reach_10 heapOf_10 (eqU (eqL (n - 1) (ml.take k) (zfL rows_10 36)) ((mg ml k).1) ((mg ml k).2.1) (nI (mg ml k).2.2.1 - nI (mg ml k).2.2.2).toInt64 (n - 1)) x_10 overs_10 costs_10 ways_10 digits_10 beaten_10 walks_10) (wX10 q10 cI cJ cB st_10 kept_10 undoable_10 newest_10 tape_10 taped_10 marks_10 order_10 reach_10 heapOf_10 (eqU (eqL (n - 1) (ml.take k) (zfL rows_10 36)) ((mg ml k).1) ((mg ml k).2.1) (nI (mg ml k).2.2.1 - nI (mg ml k).2.2.2).toInt64 (n - 1)) x_10 overs_10 costs_10 ways_10 digits_10 beaten_10 walks_10) ([] : va_W) [0, 1, 2, 3, 4, 5, 6, 7, 8, 9, 10, 11, 12, 13, 14, 15] [] := ⟨rfl, rfl, rfl, rfl, rfl, by decide⟩
                        refine kc_i hP hD hS hA hs_107 (kV (As := [.int (nI k)]) (rest := [.ref (q10 0)]) hx hb hml hown hts hKW hP hD hs_107 (c_X10_two l D cI cJ cB q10 st_10 kept_10 undoable_10 newest_10 tape_10 taped_10 marks_10 order_10 reach_10 heapOf_10 (eqU (eqL (n - 1) (ml.take k) (zfL rows_10 36)) ((mg ml k).1) ((mg ml k).2.1) (nI (mg ml k).2.2.1 - nI (mg ml k).2.2.2).toInt64 (n - 1)) x_10 overs_10 costs_10 ways_10 digits_10 beaten_10 walks_10 n ml nx ks rr k (by first | assumption | omega) (by first | assumption | omega) (by first | assumption | omega)) (cwV 1 hts gX10_gap_X10_two rfl rfl rfl (by decide +kernel) ⟨Nat.le_of_ble_eq_true rfl, Nat.le_of_ble_eq_true rfl⟩) 0 10 rfl rfl rfl rfl hl.1 rfl (Nat.le_of_ble_eq_true rfl) dX10_gap_107 ⟨Nat.zero_le _, Nat.zero_le _⟩) (fun r_107 u_107 H locs hw_107 hP hD hS => ?_)
                        have er_107 := hw_107
                        have er_107 := er_107.symm
                        subst er_107
                        have hP : va_P D vwCl (wX10 q10 cI cJ cB st_10 kept_10 undoable_10 newest_10 tape_10 taped_10 marks_10 order_10 reach_10 heapOf_10 (eqU (eqL (n - 1) (ml.take k) (zfL rows_10 36)) ((mg ml k).1) ((mg ml k).2.1) (nI (mg ml k).2.2.1 - nI (mg ml k).2.2.2).toInt64 (n - 1)) x_10 overs_10 costs_10 ways_10 digits_10 beaten_10 walks_10) H := hP.sub (ws' := (wX10 q10 cI cJ cB st_10 kept_10 undoable_10 newest_10 tape_10 taped_10 marks_10 order_10 reach_10 heapOf_10 (eqU (eqL (n - 1) (ml.take k) (zfL rows_10 36)) ((mg ml k).1) ((mg ml k).2.1) (nI (mg ml k).2.2.1 - nI (mg ml k).2.2.2).toInt64 (n - 1)) x_10 overs_10 costs_10 ways_10 digits_10 beaten_10 walks_10)) [0, 1, 2, 3, 4, 5, 6, 7, 8, 9, 10, 11, 12, 13, 14, 15] rfl
                        have hD : va_D A (wX10 q10 cI cJ cB st_10 kept_10 undoable_10 newest_10 tape_10 taped_10 marks_10 order_10 reach_10 heapOf_10 (eqU (eqL (n - 1) (ml.take k) (zfL rows_10 36)) ((mg ml k).1) ((mg ml k).2.1) (nI (mg ml k).2.2.1 - nI (mg ml k).2.2.2).toInt64 (n - 1)) x_10 overs_10 costs_10 ways_10 digits_10 beaten_10 walks_10) := hD.sub (ws' := (wX10 q10 cI cJ cB st_10 kept_10 undoable_10 newest_10 tape_10 taped_10 marks_10 order_10 reach_10 heapOf_10 (eqU (eqL (n - 1) (ml.take k) (zfL rows_10 36)) ((mg ml k).1) ((mg ml k).2.1) (nI (mg ml k).2.2.1 - nI (mg ml k).2.2.2).toInt64 (n - 1)) x_10 overs_10 costs_10 ways_10 digits_10 beaten_10 walks_10)) [0, 1, 2, 3, 4, 5, 6, 7, 8, 9, 10, 11, 12, 13, 14, 15] (by decide) rfl
                        refine lv_aload_n hx hb dX10_gap_110 rfl (lv_at hl 0 rfl) ?_
                        refine lv_iload hx hb dX10_gap_111 (lv_at hl 4 rfl) ?_
                        have hs_113 : kSplit (wX10 q10 cI cJ cB st_10 kept_10 undoable_10 newest_10 tape_10 taped_10 marks_10 order_10 reach_10 heapOf_10 (eqU (eqL (n - 1) (ml.take k) (zfL rows_10 36)) ((mg ml k).1) ((mg ml k).2.1) (nI (mg ml k).2.2.1 - nI (mg ml k).2.2.2).toInt64 (n - 1)) x_10 overs_10 costs_10 ways_10 digits_10 beaten_10 walks_10) (wX10 q10 cI cJ cB st_10 kept_10 undoable_10 newest_10 tape_10 taped_10 marks_10 order_10 reach_10 heapOf_10 (eqU (eqL (n - 1) (ml.take k) (zfL rows_10 36)) ((mg ml k).1) ((mg ml k).2.1) (nI (mg ml k).2.2.1 - nI (mg ml k).2.2.2).toInt64 (n - 1)) x_10 overs_10 costs_10 ways_10 digits_10 beaten_10 walks_10) ([] : va_W) [0, 1, 2, 3, 4, 5, 6, 7, 8, 9, 10, 11, 12, 13, 14, 15] [] := ⟨rfl, rfl, rfl, rfl, rfl, by decide⟩
                        refine kc_i hP hD hS hA hs_113 (kV (As := [.int (nI k)]) (rest := [.int (nI ((mg ml k).2.1)), .ref (q10 0)]) hx hb hml hown hts hKW hP hD hs_113 (c_X10_one l D cI cJ cB q10 st_10 kept_10 undoable_10 newest_10 tape_10 taped_10 marks_10 order_10 reach_10 heapOf_10 (eqU (eqL (n - 1) (ml.take k) (zfL rows_10 36)) ((mg ml k).1) ((mg ml k).2.1) (nI (mg ml k).2.2.1 - nI (mg ml k).2.2.2).toInt64 (n - 1)) x_10 overs_10 costs_10 ways_10 digits_10 beaten_10 walks_10 n ml nx ks rr k (by first | assumption | omega) (by first | assumption | omega) (by first | assumption | omega)) (cwV 1 hts gX10_gap_X10_one rfl rfl rfl (by decide +kernel) ⟨Nat.le_of_ble_eq_true rfl, Nat.le_of_ble_eq_true rfl⟩) 0 10 rfl rfl rfl rfl hl.1 rfl (Nat.le_of_ble_eq_true rfl) dX10_gap_113 ⟨Nat.zero_le _, Nat.zero_le _⟩) (fun r_113 u_113 H locs hw_113 hP hD hS => ?_)
                        have er_113 := hw_113
                        have er_113 := er_113.symm
                        subst er_113
                        have hP : va_P D vwCl (wX10 q10 cI cJ cB st_10 kept_10 undoable_10 newest_10 tape_10 taped_10 marks_10 order_10 reach_10 heapOf_10 (eqU (eqL (n - 1) (ml.take k) (zfL rows_10 36)) ((mg ml k).1) ((mg ml k).2.1) (nI (mg ml k).2.2.1 - nI (mg ml k).2.2.2).toInt64 (n - 1)) x_10 overs_10 costs_10 ways_10 digits_10 beaten_10 walks_10) H := hP.sub (ws' := (wX10 q10 cI cJ cB st_10 kept_10 undoable_10 newest_10 tape_10 taped_10 marks_10 order_10 reach_10 heapOf_10 (eqU (eqL (n - 1) (ml.take k) (zfL rows_10 36)) ((mg ml k).1) ((mg ml k).2.1) (nI (mg ml k).2.2.1 - nI (mg ml k).2.2.2).toInt64 (n - 1)) x_10 overs_10 costs_10 ways_10 digits_10 beaten_10 walks_10)) [0, 1, 2, 3, 4, 5, 6, 7, 8, 9, 10, 11, 12, 13, 14, 15] rfl
                        have hD : va_D A (wX10 q10 cI cJ cB st_10 kept_10 undoable_10 newest_10 tape_10 taped_10 marks_10 order_10 reach_10 heapOf_10 (eqU (eqL (n - 1) (ml.take k) (zfL rows_10 36)) ((mg ml k).1) ((mg ml k).2.1) (nI (mg ml k).2.2.1 - nI (mg ml k).2.2.2).toInt64 (n - 1)) x_10 overs_10 costs_10 ways_10 digits_10 beaten_10 walks_10) := hD.sub (ws' := (wX10 q10 cI cJ cB st_10 kept_10 undoable_10 newest_10 tape_10 taped_10 marks_10 order_10 reach_10 heapOf_10 (eqU (eqL (n - 1) (ml.take k) (zfL rows_10 36)) ((mg ml k).1) ((mg ml k).2.1) (nI (mg ml k).2.2.1 - nI (mg ml k).2.2.2).toInt64 (n - 1)) x_10 overs_10 costs_10 ways_10 digits_10 beaten_10 walks_10)) [0, 1, 2, 3, 4, 5, 6, 7, 8, 9, 10, 11, 12, 13, 14, 15] (by decide) rfl
                        refine lv_aload_n hx hb dX10_gap_116 rfl (lv_at hl 0 rfl) ?_
                        refine lv_iload hx hb dX10_gap_117 (lv_at hl 4 rfl) ?_
                        have hs_119 : kSplit (wX10 q10 cI cJ cB st_10 kept_10 undoable_10 newest_10 tape_10 taped_10 marks_10 order_10 reach_10 heapOf_10 (eqU (eqL (n - 1) (ml.take k) (zfL rows_10 36)) ((mg ml k).1) ((mg ml k).2.1) (nI (mg ml k).2.2.1 - nI (mg ml k).2.2.2).toInt64 (n - 1)) x_10 overs_10 costs_10 ways_10 digits_10 beaten_10 walks_10) (wX10 q10 cI cJ cB st_10 kept_10 undoable_10 newest_10 tape_10 taped_10 marks_10 order_10 reach_10 heapOf_10 (eqU (eqL (n - 1) (ml.take k) (zfL rows_10 36)) ((mg ml k).1) ((mg ml k).2.1) (nI (mg ml k).2.2.1 - nI (mg ml k).2.2.2).toInt64 (n - 1)) x_10 overs_10 costs_10 ways_10 digits_10 beaten_10 walks_10) ([] : va_W) [0, 1, 2, 3, 4, 5, 6, 7, 8, 9, 10, 11, 12, 13, 14, 15] [] := ⟨rfl, rfl, rfl, rfl, rfl, by decide⟩
                        refine kc_i hP hD hS hA hs_119 (kV (As := [.int (nI k)]) (rest := [.int (nI ((mg ml k).1)), .int (nI ((mg ml k).2.1)), .ref (q10 0)]) hx hb hml hown hts hKW hP hD hs_119 (c_X10_more l D cI cJ cB q10 st_10 kept_10 undoable_10 newest_10 tape_10 taped_10 marks_10 order_10 reach_10 heapOf_10 (eqU (eqL (n - 1) (ml.take k) (zfL rows_10 36)) ((mg ml k).1) ((mg ml k).2.1) (nI (mg ml k).2.2.1 - nI (mg ml k).2.2.2).toInt64 (n - 1)) x_10 overs_10 costs_10 ways_10 digits_10 beaten_10 walks_10 n ml nx ks rr k (by first | assumption | omega) (by first | assumption | omega) (by first | assumption | omega)) (cwV 1 hts gX10_gap_X10_more rfl rfl rfl (by decide +kernel) ⟨Nat.le_of_ble_eq_true rfl, Nat.le_of_ble_eq_true rfl⟩) 0 10 rfl rfl rfl rfl hl.1 rfl (Nat.le_of_ble_eq_true rfl) dX10_gap_119 ⟨Nat.zero_le _, Nat.zero_le _⟩) (fun r_119 u_119 H locs hw_119 hP hD hS => ?_)
                        have er_119 := hw_119
                        have er_119 := er_119.symm
                        subst er_119
                        have hP : va_P D vwCl (wX10 q10 cI cJ cB st_10 kept_10 undoable_10 newest_10 tape_10 taped_10 marks_10 order_10 reach_10 heapOf_10 (eqU (eqL (n - 1) (ml.take k) (zfL rows_10 36)) ((mg ml k).1) ((mg ml k).2.1) (nI (mg ml k).2.2.1 - nI (mg ml k).2.2.2).toInt64 (n - 1)) x_10 overs_10 costs_10 ways_10 digits_10 beaten_10 walks_10) H := hP.sub (ws' := (wX10 q10 cI cJ cB st_10 kept_10 undoable_10 newest_10 tape_10 taped_10 marks_10 order_10 reach_10 heapOf_10 (eqU (eqL (n - 1) (ml.take k) (zfL rows_10 36)) ((mg ml k).1) ((mg ml k).2.1) (nI (mg ml k).2.2.1 - nI (mg ml k).2.2.2).toInt64 (n - 1)) x_10 overs_10 costs_10 ways_10 digits_10 beaten_10 walks_10)) [0, 1, 2, 3, 4, 5, 6, 7, 8, 9, 10, 11, 12, 13, 14, 15] rfl
                        have hD : va_D A (wX10 q10 cI cJ cB st_10 kept_10 undoable_10 newest_10 tape_10 taped_10 marks_10 order_10 reach_10 heapOf_10 (eqU (eqL (n - 1) (ml.take k) (zfL rows_10 36)) ((mg ml k).1) ((mg ml k).2.1) (nI (mg ml k).2.2.1 - nI (mg ml k).2.2.2).toInt64 (n - 1)) x_10 overs_10 costs_10 ways_10 digits_10 beaten_10 walks_10) := hD.sub (ws' := (wX10 q10 cI cJ cB st_10 kept_10 undoable_10 newest_10 tape_10 taped_10 marks_10 order_10 reach_10 heapOf_10 (eqU (eqL (n - 1) (ml.take k) (zfL rows_10 36)) ((mg ml k).1) ((mg ml k).2.1) (nI (mg ml k).2.2.1 - nI (mg ml k).2.2.2).toInt64 (n - 1)) x_10 overs_10 costs_10 ways_10 digits_10 beaten_10 walks_10)) [0, 1, 2, 3, 4, 5, 6, 7, 8, 9, 10, 11, 12, 13, 14, 15] (by decide) rfl
                        refine lv_ineg hx hb dX10_gap_122 ?_
                        refine lv_iload_n hx hb dX10_gap_123 rfl (lv_at hl 3 rfl) ?_
                        have hs_124 : kSplit (wX10 q10 cI cJ cB st_10 kept_10 undoable_10 newest_10 tape_10 taped_10 marks_10 order_10 reach_10 heapOf_10 (eqU (eqL (n - 1) (ml.take k) (zfL rows_10 36)) ((mg ml k).1) ((mg ml k).2.1) (nI (mg ml k).2.2.1 - nI (mg ml k).2.2.2).toInt64 (n - 1)) x_10 overs_10 costs_10 ways_10 digits_10 beaten_10 walks_10) (wX10 q10 cI cJ cB st_10 kept_10 undoable_10 newest_10 tape_10 taped_10 marks_10 order_10 reach_10 heapOf_10 (eqU (eqL (n - 1) (ml.take k) (zfL rows_10 36)) ((mg ml k).1) ((mg ml k).2.1) (nI (mg ml k).2.2.1 - nI (mg ml k).2.2.2).toInt64 (n - 1)) x_10 overs_10 costs_10 ways_10 digits_10 beaten_10 walks_10) ([] : va_W) [0, 1, 2, 3, 4, 5, 6, 7, 8, 9, 10, 11, 12, 13, 14, 15] [] := ⟨rfl, rfl, rfl, rfl, rfl, by decide⟩
                        refine kc_v hP hD hS hA hs_124 (kV (As := [.int (nI ((mg ml k).2.1)), .int (nI ((mg ml k).1)), .int (-(nI (mg ml k).2.2.1 - nI (mg ml k).2.2.2)), .int (nI (n - 1))]) (rest := []) hx hb hml hown hts hKW hP hD hs_124 (c_X10_equation l D cI cJ cB q10 st_10 kept_10 undoable_10 newest_10 tape_10 taped_10 marks_10 order_10 reach_10 heapOf_10 (eqU (eqL (n - 1) (ml.take k) (zfL rows_10 36)) ((mg ml k).1) ((mg ml k).2.1) (nI (mg ml k).2.2.1 - nI (mg ml k).2.2.2).toInt64 (n - 1)) x_10 overs_10 costs_10 ways_10 digits_10 beaten_10 walks_10 ((mg ml k).2.1) ((mg ml k).1) (-(nI (mg ml k).2.2.1 - nI (mg ml k).2.2.2)) (n - 1) (by omega) (by omega) (by omega)) (cwV 4 hts gX10_gap_X10_equation rfl rfl rfl (by decide +kernel) ⟨Nat.le_of_ble_eq_true rfl, Nat.le_of_ble_eq_true rfl⟩) 0 10 rfl rfl rfl rfl hl.1 rfl (Nat.le_of_ble_eq_true rfl) dX10_gap_124 ⟨Nat.zero_le _, Nat.zero_le _⟩) (fun u_124 H locs hw_124 hP hD hS => ?_)
                        obtain ⟨rows_10_124, rfl⟩ : ∃ z, z = u_124 := ⟨_, rfl⟩
                        have e_rows_10_124 := hw_124
                        have e_rows_10_124 := e_rows_10_124.symm
                        subst e_rows_10_124
                        have hP : va_P D vwCl (wX10 q10 cI cJ cB st_10 kept_10 undoable_10 newest_10 tape_10 taped_10 marks_10 order_10 reach_10 heapOf_10 (eqU (eqU (eqL (n - 1) (ml.take k) (zfL rows_10 36)) ((mg ml k).1) ((mg ml k).2.1) (nI (mg ml k).2.2.1 - nI (mg ml k).2.2.2).toInt64 (n - 1)) ((mg ml k).2.1) ((mg ml k).1) (-(nI (mg ml k).2.2.1 - nI (mg ml k).2.2.2)).toInt64 (n - 1)) x_10 overs_10 costs_10 ways_10 digits_10 beaten_10 walks_10) H := hP.sub (ws' := (wX10 q10 cI cJ cB st_10 kept_10 undoable_10 newest_10 tape_10 taped_10 marks_10 order_10 reach_10 heapOf_10 (eqU (eqU (eqL (n - 1) (ml.take k) (zfL rows_10 36)) ((mg ml k).1) ((mg ml k).2.1) (nI (mg ml k).2.2.1 - nI (mg ml k).2.2.2).toInt64 (n - 1)) ((mg ml k).2.1) ((mg ml k).1) (-(nI (mg ml k).2.2.1 - nI (mg ml k).2.2.2)).toInt64 (n - 1)) x_10 overs_10 costs_10 ways_10 digits_10 beaten_10 walks_10)) [0, 1, 2, 3, 4, 5, 6, 7, 8, 9, 10, 11, 12, 13, 14, 15] rfl
                        have hD : va_D A (wX10 q10 cI cJ cB st_10 kept_10 undoable_10 newest_10 tape_10 taped_10 marks_10 order_10 reach_10 heapOf_10 (eqU (eqU (eqL (n - 1) (ml.take k) (zfL rows_10 36)) ((mg ml k).1) ((mg ml k).2.1) (nI (mg ml k).2.2.1 - nI (mg ml k).2.2.2).toInt64 (n - 1)) ((mg ml k).2.1) ((mg ml k).1) (-(nI (mg ml k).2.2.1 - nI (mg ml k).2.2.2)).toInt64 (n - 1)) x_10 overs_10 costs_10 ways_10 digits_10 beaten_10 walks_10) := hD.sub (ws' := (wX10 q10 cI cJ cB st_10 kept_10 undoable_10 newest_10 tape_10 taped_10 marks_10 order_10 reach_10 heapOf_10 (eqU (eqU (eqL (n - 1) (ml.take k) (zfL rows_10 36)) ((mg ml k).1) ((mg ml k).2.1) (nI (mg ml k).2.2.1 - nI (mg ml k).2.2.2).toInt64 (n - 1)) ((mg ml k).2.1) ((mg ml k).1) (-(nI (mg ml k).2.2.1 - nI (mg ml k).2.2.2)).toInt64 (n - 1)) x_10 overs_10 costs_10 ways_10 digits_10 beaten_10 walks_10)) [0, 1, 2, 3, 4, 5, 6, 7, 8, 9, 10, 11, 12, 13, 14, 15] (by decide) rfl
                        refine lv_iinc (v := nI (k + 1)) (lv' := [(4, .int (nI (k + 1))), (0, .ref (q10 0)), (1, .int (nI x)), (2, .int (nI y)), (3, .int (nI (n - 1)))]) hx hb dX10_gap_127 hl (k := 4) rfl (nI_add _ _) (by decide) rfl (fun ls hl => ?_)
                        refine lv_goto (tgt := 69) hx hb dX10_gap_130 (by decide) ?_
                        exact ih_69 (k + 1) (by omega) (by omega) _ _ (by rw [eqL_take c_77]; exact hP) (by rw [eqL_take c_77]; exact hD) hS ls (lv_sub hl [1, 2, 3, 4, 0] rfl)
                  exact hL_69 _ 0 (Nat.zero_le _) (Nat.lt_succ_self _) _ _ hP hD hS ls (lv_sub hl [1, 2, 3, 4, 0] rfl)
                · skip
                  have c_49 := k_ge_n (by omega) (by omega) c_49
                  refine lv_aload_n hx hb dX10_gap_52 rfl (lv_at hl 0 rfl) ?_
                  refine k_get (ci := 10) (v := .ref (q10 8)) (C := RX10) (Tb := TX10) (N := 18) hx hb hts hu_10 hown hKW hP 0 rfl rfl 10 (by decide) hf_31 rfl rfl dX10_gap_53 ?_
                  refine lv_iload hx hb dX10_gap_56 (lv_at hl 4 rfl) ?_
                  refine lv_lconst (v := 0) hx hb dX10_gap_58 (by decide) ?_
                  refine k_last (n := 36) (i := k) (x := (0 : Int64)) (w' := (wX10 q10 cI cJ cB st_10 kept_10 undoable_10 newest_10 tape_10 taped_10 marks_10 order_10 reach_10 heapOf_10 (vp_updL (zfL rows_10 k) k (0 : Int64)) x_10 overs_10 costs_10 ways_10 digits_10 beaten_10 walks_10)) hx hb hKW hP hD hS 8 1 rfl rfl (by omega) (by omega) dX10_gap_59 rfl (fun H locs hP hD hS => ?_)
                  refine lv_iinc (v := nI (k + 1)) (lv' := [(4, .int (nI (k + 1))), (0, .ref (q10 0)), (1, .int (nI x)), (2, .int (nI y)), (3, .int (nI (n - 1)))]) hx hb dX10_gap_60 hl (k := 4) rfl (nI_add _ _) (by decide) rfl (fun ls hl => ?_)
                  refine lv_goto (tgt := 45) hx hb dX10_gap_63 (by decide) ?_
                  rw [zfL_s] at hP hD
                  exact ih_45 _ (by omega) (by omega) _ _ hP hD hS ls (lv_sub hl [1, 2, 3, 4, 0] rfl)
            exact hL_45 _ 0 (by omega) (Nat.lt_succ_self _) _ _ (by rw [zfL_0]; exact hP) (by rw [zfL_0]; exact hD) hS ls (lv_sub hl [2, 3, 4, 1, 0] rfl)
          · skip
            have c_30 := k_b0 c_30
            refine lv_lconst (v := 0) hx hb dX10_gap_33 (by decide) ?_
            subst hQ; subst hAe
            exact W.lret (v := (0 : Int64)) hx hb hr (fun tt9 ht9 _ => ⟨⟨(0 : Int64), (rows_10, x_10), rfl, (if_neg (fun z => c_30 z.2.2.2)).symm, by rw [ht9]; exact hP, hD⟩, hS.F ht9⟩) hS.2.2 dX10_gap_34
