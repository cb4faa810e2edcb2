def rmX10_isFree : Room := { frames := 1, cells := 0, slots := 0, locals := 20 }
set_option maxHeartbeats 4000000 in
set_option maxRecDepth 100000 in
theorem c_X10_isFree (l : Launch) (D : va_G) (cI cJ cB : ClassId) (q10 : Nat → Nat) (st_10 : Nat → Int32) (kept_10 : Nat → Int32) (undoable_10 : Int32) (newest_10 : Int32) (tape_10 : Nat → Int32) (taped_10 : Int32) (marks_10 : Nat → Int32) (order_10 : Nat → Int32) (reach_10 : Nat → Int32) (heapOf_10 : Nat → Int32) (rows_10 : Nat → Int64) (x_10 : Nat → Int64) (overs_10 : Nat → Int32) (costs_10 : Nat → Int32) (ways_10 : Nat → Int32) (digits_10 : Nat → Int32) (beaten_10 : Nat → Int32) (walks_10 : Nat → Int32) (n : Nat) (ml : List Mt) (nx : List (Nat × Nat)) (ks : List Nat) (rr : Int32 × Int32 × Int32) (R : Nat → Nat) (p1 : Nat) (hR : RS st_10 n ml nx ks rr) (hV : VS n ml nx ks) (hRB : RB n reach_10 R) (hp1 : p1 < n) : ∀ sz, Met l yX10_isFree wsX10_isFree rmX10_isFree (va_Pc [.ref (q10 0), .int (nI p1)] (PW D (kT cI cJ cB) sz (wX10 q10 cI cJ cB st_10 kept_10 undoable_10 newest_10 tape_10 taped_10 marks_10 order_10 reach_10 heapOf_10 rows_10 x_10 overs_10 costs_10 ways_10 digits_10 beaten_10 walks_10))) (va_Qi (S := Unit) (fun r _ => r = if frB R heapOf_10 p1 n = true then 1 else 0) (QW D sz (wX10 q10 cI cJ cB st_10 kept_10 undoable_10 newest_10 tape_10 taped_10 marks_10 order_10 reach_10 heapOf_10 rows_10 x_10 overs_10 costs_10 ways_10 digits_10 beaten_10 walks_10) (fun _ => (wX10 q10 cI cJ cB st_10 kept_10 undoable_10 newest_10 tape_10 taped_10 marks_10 order_10 reach_10 heapOf_10 rows_10 x_10 overs_10 costs_10 ways_10 digits_10 beaten_10 walks_10))) (va_A (wX10 q10 cI cJ cB st_10 kept_10 undoable_10 newest_10 tape_10 taped_10 marks_10 order_10 reach_10 heapOf_10 rows_10 x_10 overs_10 costs_10 ways_10 digits_10 beaten_10 walks_10) sz)) 0 0 (va_A (wX10 q10 cI cJ cB st_10 kept_10 undoable_10 newest_10 tape_10 taped_10 marks_10 order_10 reach_10 heapOf_10 rows_10 x_10 overs_10 costs_10 ways_10 digits_10 beaten_10 walks_10) sz) := by
  intro sz
  refine Met.ofW (cc := cX10_isFree) (maxL := 4) (ret := (some .boolean)) (by decide) rfl ?_
  intro p e s m args below meth c s₁ B hml hv
  obtain ⟨hav, hsz, hP, hKW, hD0⟩ := hv
  have hx := B.exec
  have hb := B.bytes
  have hr := B.returns
  have hts := atoms_spec (ws := wsX10_isFree) B.pre
  have hown : s.vm.findClass RX10 = some m.cls := findClass_of_methodNamed B.named
  have hlocks := B.notSynchronized
  subst hsz
  have hD := hD0.self (sz := s.heap.size)
  obtain ⟨A, hAe⟩ : ∃ A : Nat → Prop, A = va_A (wX10 q10 cI cJ cB st_10 kept_10 undoable_10 newest_10 tape_10 taped_10 marks_10 order_10 reach_10 heapOf_10 rows_10 x_10 overs_10 costs_10 ways_10 digits_10 beaten_10 walks_10) s.heap.size := ⟨_, rfl⟩
  rw [← hAe] at hD
  have hA : ∀ q : Nat, s.heap.size ≤ q → A q := fun q h => by rw [hAe]; exact Or.inr h
  have hS : va_S A s.heap s.heap [] := va_S.rf
  refine k_gen (fun Q hQ => ?_)
  have hl := lv_entry ([.ref (q10 0), .int (nI p1)]) (n := 4) (Nat.le_of_ble_eq_true rfl)
  refine k_entry hav (lg_entry_eq ..) ?_
  generalize (lg_sl ([.ref (q10 0), .int (nI p1)]) ++ List.replicate (4 - (lg_sl ([.ref (q10 0), .int (nI p1)])).length) Slot.unset).toArray = ls at hl ⊢
  have hl : lv_has ls 4 [(0, .ref (q10 0)), (1, .int (nI p1))] := hl
  have hu_10 : ∀ w ∈ u_ws RX10 TX10 18, w ∈ wsX10_isFree := by decide +kernel
  have hf_25 : Cond.fieldLink RX10 25 "MeetingRanksModel" "reach" "[I" ∈ wsX10_isFree := by decide +kernel
  have hf_28 : Cond.fieldLink RX10 28 "MeetingRanksModel" "heapOf" "[I" ∈ wsX10_isFree := by decide +kernel
  have hn1 := hV.1
  have hn10 := hV.2.1
  have hm120 := hV.2.2.1
  have hx40 := hV.2.2.2.2.1
  have hk4 := hV.2.2.2.2.2.2.1
  have h2n := pow_le_1024 hn10
  have h2p := Nat.two_pow_pos n
  refine lv_iconst (v := nI 1) hx hb dX10_isFree_0 (by decide) ?_
  refine lv_istore_n (lv' := [(2, .int (nI 1)), (0, .ref (q10 0)), (1, .int (nI p1))]) hx hb dX10_isFree_1 rfl hl (by decide) rfl (fun ls hl => ?_)
  refine lv_iconst (v := nI 0) hx hb dX10_isFree_2 (by decide) ?_
  refine lv_istore_n (lv' := [(3, .int (nI 0)), (2, .int (nI 1)), (0, .ref (q10 0)), (1, .int (nI p1))]) hx hb dX10_isFree_3 rfl hl (by decide) rfl (fun ls hl => ?_)
  have hL_4 : ∀ (fu : Nat) (q : Nat) (t : Nat) (hq : q ≤ n) (ht : t = if frB R heapOf_10 p1 q = true then 1 else 0), n - q < fu → ∀ (H : Heap) (locs : List Loc), va_P D vwCl (wX10 q10 cI cJ cB st_10 kept_10 undoable_10 newest_10 tape_10 taped_10 marks_10 order_10 reach_10 heapOf_10 rows_10 x_10 overs_10 costs_10 ways_10 digits_10 beaten_10 walks_10) H → va_D A (wX10 q10 cI cJ cB st_10 kept_10 undoable_10 newest_10 tape_10 taped_10 marks_10 order_10 reach_10 heapOf_10 rows_10 x_10 overs_10 costs_10 ways_10 digits_10 beaten_10 walks_10) → va_S A s.heap H locs → ∀ (ls : Array Slot), lv_has ls 4 [(0, .ref (q10 0)), (1, .int (nI p1)), (2, .int (nI t)), (3, .int (nI q))] → W p l e (headSpec wsX10_isFree rmX10_isFree).room s m args below meth c H locs 0 0 Q (F0 m 4 ls []) := by
    intro fu
    induction fu with
    | zero => intro q t hq ht hfu; exact absurd hfu (Nat.not_lt_zero _)
    | succ fu ih_4 =>
      intro q t hq ht hfu H locs hP hD hS ls hl
      have ht1 : t ≤ 1 := by rw [ht]; split <;> omega
      refine lv_iload_n hx hb dX10_isFree_4 rfl (lv_at hl 3 rfl) ?_
      refine lv_aload_n hx hb dX10_isFree_5 rfl (lv_at hl 0 rfl) ?_
      have hs_6 : kSplit (wX10 q10 cI cJ cB st_10 kept_10 undoable_10 newest_10 tape_10 taped_10 marks_10 order_10 reach_10 heapOf_10 rows_10 x_10 overs_10 costs_10 ways_10 digits_10 beaten_10 walks_10) (wX10 q10 cI cJ cB st_10 kept_10 undoable_10 newest_10 tape_10 taped_10 marks_10 order_10 reach_10 heapOf_10 rows_10 x_10 overs_10 costs_10 ways_10 digits_10 beaten_10 walks_10) ([] : va_W) [0, 1, 2, 3, 4, 5, 6, 7, 8, 9, 10, 11, 12, 13, 14, 15] [] := ⟨rfl, rfl, rfl, rfl, rfl, by decide⟩
      refine kc_i hP hD hS hA hs_6 (kV (As := []) (rest := [.int (nI q)]) hx hb hml hown hts hKW hP hD hs_6 (c_X10_n l D cI cJ cB q10 st_10 kept_10 undoable_10 newest_10 tape_10 taped_10 marks_10 order_10 reach_10 heapOf_10 rows_10 x_10 overs_10 costs_10 ways_10 digits_10 beaten_10 walks_10 n ml nx ks rr (by first | assumption | omega) (by first | assumption | omega)) (cwV 0 hts gX10_isFree_X10_n rfl rfl rfl (by decide +kernel) ⟨Nat.le_of_ble_eq_true rfl, Nat.le_of_ble_eq_true rfl⟩) 0 10 rfl rfl rfl rfl hl.1 rfl (Nat.le_of_ble_eq_true rfl) dX10_isFree_6 ⟨Nat.zero_le _, Nat.zero_le _⟩) (fun r_6 u_6 H locs hw_6 hP hD hS => ?_)
      have er_6 := hw_6
      have er_6 := er_6.symm
      subst er_6
      have hP : va_P D vwCl (wX10 q10 cI cJ cB st_10 kept_10 undoable_10 newest_10 tape_10 taped_10 marks_10 order_10 reach_10 heapOf_10 rows_10 x_10 overs_10 costs_10 ways_10 digits_10 beaten_10 walks_10) H := hP.sub (ws' := (wX10 q10 cI cJ cB st_10 kept_10 undoable_10 newest_10 tape_10 taped_10 marks_10 order_10 reach_10 heapOf_10 rows_10 x_10 overs_10 costs_10 ways_10 digits_10 beaten_10 walks_10)) [0, 1, 2, 3, 4, 5, 6, 7, 8, 9, 10, 11, 12, 13, 14, 15] rfl
      have hD : va_D A (wX10 q10 cI cJ cB st_10 kept_10 undoable_10 newest_10 tape_10 taped_10 marks_10 order_10 reach_10 heapOf_10 rows_10 x_10 overs_10 costs_10 ways_10 digits_10 beaten_10 walks_10) := hD.sub (ws' := (wX10 q10 cI cJ cB st_10 kept_10 undoable_10 newest_10 tape_10 taped_10 marks_10 order_10 reach_10 heapOf_10 rows_10 x_10 overs_10 costs_10 ways_10 digits_10 beaten_10 walks_10)) [0, 1, 2, 3, 4, 5, 6, 7, 8, 9, 10, 11, 12, 13, 14, 15] (by decide) rfl
      refine lv_icmp_ge (tgt := 64) hx hb dX10_isFree_9 (by decide) (fun c_9 => ?_) (fun c_9 => ?_)
      · skip
        have c_9 := k_ge (by omega) (by omega) c_9
        refine lv_iload_n hx hb dX10_isFree_64 rfl (lv_at hl 2 rfl) ?_
        subst hQ; subst hAe
        exact W.zret (v := nI t) (ty := .boolean) hx hb hr (by have : t = 0 ∨ t = 1 := (by omega); rcases this with h9 | h9 <;> rw [h9] <;> decide) (fun tt9 ht9 _ => ⟨⟨nI t, (), rfl, by rw [ht]; have e9 : q = n := (by omega); subst e9; split <;> rfl, by rw [ht9]; exact hP, hD⟩, hS.F ht9⟩) hS.2.2 dX10_isFree_65
      · skip
        have c_9 := k_ge_n (by omega) (by omega) c_9
        have hRq9 := (hRB q (by omega)).2
        have hRp9 := (hRB p1 hp1).2
        refine lv_iload_n hx hb dX10_isFree_12 rfl (lv_at hl 2 rfl) ?_
        refine lv_if_eq (tgt := 64) hx hb dX10_isFree_13 (by decide) (fun c_13 => ?_) (fun c_13 => ?_)
        · skip
          have c_13 := k0_eq (by omega) c_13
          refine lv_iload_n hx hb dX10_isFree_64 rfl (lv_at hl 2 rfl) ?_
          subst hQ; subst hAe
          exact W.zret (v := nI t) (ty := .boolean) hx hb hr (by have : t = 0 ∨ t = 1 := (by omega); rcases this with h9 | h9 <;> rw [h9] <;> decide) (fun tt9 ht9 _ => ⟨⟨nI t, (), rfl, by rw [c_13, if_neg (fun z => by rw [c_13, if_pos (fr_le z hq)] at ht; omega)]; rfl, by rw [ht9]; exact hP, hD⟩, hS.F ht9⟩) hS.2.2 dX10_isFree_65
        · skip
          have c_13 := k0_eq_n (by omega) c_13
          have h13 := core_t ht c_13
          refine lv_aload_n hx hb dX10_isFree_16 rfl (lv_at hl 0 rfl) ?_
          refine k_get (ci := 10) (v := .ref (q10 7)) (C := RX10) (Tb := TX10) (N := 18) hx hb hts hu_10 hown hKW hP 0 rfl rfl 9 (by decide) hf_28 rfl rfl dX10_isFree_17 ?_
          refine lv_iload_n hx hb dX10_isFree_20 rfl (lv_at hl 3 rfl) ?_
          refine k_iald (n := 10) (i := q) hx hb hKW hP 7 0 rfl rfl (by omega) (by omega) dX10_isFree_21 ?_
          refine lv_if_ge (tgt := 52) hx hb dX10_isFree_22 (by decide) (fun c_22 => ?_) (fun c_22 => ?_)
          · skip
            refine lv_iconst (v := nI 1) hx hb dX10_isFree_52 (by decide) ?_
            refine lv_goto (tgt := 57) hx hb dX10_isFree_53 (by decide) ?_
            refine lv_istore_n (lv' := [(2, .int (nI 1)), (0, .ref (q10 0)), (1, .int (nI p1)), (3, .int (nI q))]) hx hb dX10_isFree_57 rfl hl (by decide) rfl (fun ls hl => ?_)
            refine lv_iinc (v := nI (q + 1)) (lv' := [(3, .int (nI (q + 1))), (2, .int (nI 1)), (0, .ref (q10 0)), (1, .int (nI p1))]) hx hb dX10_isFree_58 hl (k := 3) rfl (nI_add _ _) (by decide) rfl (fun ls hl => ?_)
            refine lv_goto (tgt := 4) hx hb dX10_isFree_61 (by decide) ?_
            exact ih_4 _ _ (by omega) (by rw [if_pos (fr_1 h13 c_22)]) (by omega) _ _ hP hD hS ls (lv_sub hl [2, 3, 1, 0] rfl)
          · skip
            refine lv_aload_n hx hb dX10_isFree_25 rfl (lv_at hl 0 rfl) ?_
            refine k_get (ci := 10) (v := .ref (q10 6)) (C := RX10) (Tb := TX10) (N := 18) hx hb hts hu_10 hown hKW hP 0 rfl rfl 8 (by decide) hf_25 rfl rfl dX10_isFree_26 ?_
            refine lv_iload_n hx hb dX10_isFree_29 rfl (lv_at hl 3 rfl) ?_
            refine k_iald (n := 10) (i := q) hx hb hKW hP 6 0 rfl rfl (by omega) (by omega) dX10_isFree_30 ?_
            refine k_top (y := nI (R q)) ((hRB q (by omega)).1) ?_
            refine lv_iload_n hx hb dX10_isFree_31 rfl (lv_at hl 1 rfl) ?_
            refine lv_ishr hx hb dX10_isFree_32 ?_
            refine k_top (y := nI (R q / 2 ^ p1)) (k_shr (by omega) (by omega)) ?_
            refine lv_iconst (v := nI 1) hx hb dX10_isFree_33 (by decide) ?_
            refine lv_iand hx hb dX10_isFree_34 ?_
            refine k_top (y := nI (R q / 2 ^ p1 % 2)) (k_and1 _ (k_shr_lt (by omega))) ?_
            refine lv_if_eq (tgt := 52) hx hb dX10_isFree_35 (by decide) (fun c_35 => ?_) (fun c_35 => ?_)
            · skip
              have c_35 := k0_eq (by omega) c_35
              refine lv_iconst (v := nI 1) hx hb dX10_isFree_52 (by decide) ?_
              refine lv_goto (tgt := 57) hx hb dX10_isFree_53 (by decide) ?_
              refine lv_istore_n (lv' := [(2, .int (nI 1)), (0, .ref (q10 0)), (1, .int (nI p1)), (3, .int (nI q))]) hx hb dX10_isFree_57 rfl hl (by decide) rfl (fun ls hl => ?_)
              refine lv_iinc (v := nI (q + 1)) (lv' := [(3, .int (nI (q + 1))), (2, .int (nI 1)), (0, .ref (q10 0)), (1, .int (nI p1))]) hx hb dX10_isFree_58 hl (k := 3) rfl (nI_add _ _) (by decide) rfl (fun ls hl => ?_)
              refine lv_goto (tgt := 4) hx hb dX10_isFree_61 (by decide) ?_
              exact ih_4 _ _ (by omega) (by rw [if_pos (fr_2 h13 (tb_mod0.mpr c_35))]) (by omega) _ _ hP hD hS ls (lv_sub hl [2, 3, 1, 0] rfl)
            · skip
              have c_35 := k0_eq_n (by omega) c_35
              refine lv_aload_n hx hb dX10_isFree_38 rfl (lv_at hl 0 rfl) ?_
              refine k_get (ci := 10) (v := .ref (q10 6)) (C := RX10) (Tb := TX10) (N := 18) hx hb hts hu_10 hown hKW hP 0 rfl rfl 8 (by decide) hf_25 rfl rfl dX10_isFree_39 ?_
              refine lv_iload_n hx hb dX10_isFree_42 rfl (lv_at hl 1 rfl) ?_
              refine k_iald (n := 10) (i := p1) hx hb hKW hP 6 0 rfl rfl (by omega) (by omega) dX10_isFree_43 ?_
              refine k_top (y := nI (R p1)) ((hRB p1 hp1).1) ?_
              refine lv_iload_n hx hb dX10_isFree_44 rfl (lv_at hl 3 rfl) ?_
              refine lv_ishr hx hb dX10_isFree_45 ?_
              refine k_top (y := nI (R p1 / 2 ^ q)) (k_shr (by omega) (by omega)) ?_
              refine lv_iconst (v := nI 1) hx hb dX10_isFree_46 (by decide) ?_
              refine lv_iand hx hb dX10_isFree_47 ?_
              refine k_top (y := nI (R p1 / 2 ^ q % 2)) (k_and1 _ (k_shr_lt (by omega))) ?_
              refine lv_iconst (v := nI 1) hx hb dX10_isFree_48 (by decide) ?_
              refine lv_icmp_ne (tgt := 56) hx hb dX10_isFree_49 (by decide) (fun c_49 => ?_) (fun c_49 => ?_)
              · skip
                have c_49 := k_ne (by omega) (by omega) c_49
                refine lv_iconst (v := nI 0) hx hb dX10_isFree_56 (by decide) ?_
                refine lv_istore_n (lv' := [(2, .int (nI 0)), (0, .ref (q10 0)), (1, .int (nI p1)), (3, .int (nI q))]) hx hb dX10_isFree_57 rfl hl (by decide) rfl (fun ls hl => ?_)
                refine lv_iinc (v := nI (q + 1)) (lv' := [(3, .int (nI (q + 1))), (2, .int (nI 0)), (0, .ref (q10 0)), (1, .int (nI p1))]) hx hb dX10_isFree_58 hl (k := 3) rfl (nI_add _ _) (by decide) rfl (fun ls hl => ?_)
                refine lv_goto (tgt := 4) hx hb dX10_isFree_61 (by decide) ?_
                exact ih_4 _ _ (by omega) (by rw [if_neg (fr_4 (k_neg c_22) (tb_mod.mpr (by omega)) (fun z => c_49 (tb_mod.mp z)))]) (by omega) _ _ hP hD hS ls (lv_sub hl [2, 3, 1, 0] rfl)
              · skip
                have c_49 := k_ne_n (by omega) (by omega) c_49
                refine lv_iconst (v := nI 1) hx hb dX10_isFree_52 (by decide) ?_
                refine lv_goto (tgt := 57) hx hb dX10_isFree_53 (by decide) ?_
                refine lv_istore_n (lv' := [(2, .int (nI 1)), (0, .ref (q10 0)), (1, .int (nI p1)), (3, .int (nI q))]) hx hb dX10_isFree_57 rfl hl (by decide) rfl (fun ls hl => ?_)
                refine lv_iinc (v := nI (q + 1)) (lv' := [(3, .int (nI (q + 1))), (2, .int (nI 1)), (0, .ref (q10 0)), (1, .int (nI p1))]) hx hb dX10_isFree_58 hl (k := 3) rfl (nI_add _ _) (by decide) rfl (fun ls hl => ?_)
                refine lv_goto (tgt := 4) hx hb dX10_isFree_61 (by decide) ?_
                exact ih_4 _ _ (by omega) (by rw [if_pos (fr_3 h13 (tb_mod.mpr c_49))]) (by omega) _ _ hP hD hS ls (lv_sub hl [2, 3, 1, 0] rfl)
  exact hL_4 _ 0 1 (Nat.zero_le _) rfl (Nat.lt_succ_self _) _ _ hP hD hS ls (lv_sub hl [2, 3, 1, 0] rfl)
def rmX10_findHeaps : Room := { frames := 2, cells := 0, slots := 0, locals := 43 }
set_option maxHeartbeats 4000000 in
set_option maxRecDepth 100000 in
theorem c_X10_findHeaps (l : Launch) (D : va_G) (cI cJ cB : ClassId) (q10 : Nat → Nat) (st_10 : Nat → Int32) (kept_10 : Nat → Int32) (undoable_10 : Int32) (newest_10 : Int32) (tape_10 : Nat → Int32) (taped_10 : Int32) (marks_10 : Nat → Int32) (order_10 : Nat → Int32) (reach_10 : Nat → Int32) (heapOf_10 : Nat → Int32) (rows_10 : Nat → Int64) (x_10 : Nat → Int64) (overs_10 : Nat → Int32) (costs_10 : Nat → Int32) (ways_10 : Nat → Int32) (digits_10 : Nat → Int32) (beaten_10 : Nat → Int32) (walks_10 : Nat → Int32) (n : Nat) (ml : List Mt) (nx : List (Nat × Nat)) (ks : List Nat) (rr : Int32 × Int32 × Int32) (hR : RS st_10 n ml nx ks rr) (hV : VS n ml nx ks) : ∀ sz, Met l yX10_findHeaps wsX10_findHeaps rmX10_findHeaps (va_Pc [.ref (q10 0)] (PW D (kT cI cJ cB) sz (wX10 q10 cI cJ cB st_10 kept_10 undoable_10 newest_10 tape_10 taped_10 marks_10 order_10 reach_10 heapOf_10 rows_10 x_10 overs_10 costs_10 ways_10 digits_10 beaten_10 walks_10))) (va_Qi (S := (Nat → Int32) × (Nat → Int32)) (fun r uu => match uu with | (reach_10', heapOf_10') => ∃ h0, (∀ x, x < n → h0 x = -1) ∧ r = nI (hpF (RW ml n) n (n + 1) h0 0).2 ∧ heapOf_10' = (hpF (RW ml n) n (n + 1) h0 0).1) (QW D sz (wX10 q10 cI cJ cB st_10 kept_10 undoable_10 newest_10 tape_10 taped_10 marks_10 order_10 reach_10 heapOf_10 rows_10 x_10 overs_10 costs_10 ways_10 digits_10 beaten_10 walks_10) (fun uu => match uu with | (reach_10', heapOf_10') => (wX10 q10 cI cJ cB st_10 kept_10 undoable_10 newest_10 tape_10 taped_10 marks_10 order_10 reach_10' heapOf_10' rows_10 x_10 overs_10 costs_10 ways_10 digits_10 beaten_10 walks_10))) (va_A (wX10 q10 cI cJ cB st_10 kept_10 undoable_10 newest_10 tape_10 taped_10 marks_10 order_10 reach_10 heapOf_10 rows_10 x_10 overs_10 costs_10 ways_10 digits_10 beaten_10 walks_10) sz)) 0 0 (va_A (wX10 q10 cI cJ cB st_10 kept_10 undoable_10 newest_10 tape_10 taped_10 marks_10 order_10 reach_10 heapOf_10 rows_10 x_10 overs_10 costs_10 ways_10 digits_10 beaten_10 walks_10) sz) := by
  intro sz
  refine Met.ofW (cc := cX10_findHeaps) (maxL := 5) (ret := (some .int)) (by decide) rfl ?_
  intro p e s m args below meth c s₁ B hml hv
  obtain ⟨hav, hsz, hP, hKW, hD0⟩ := hv
  have hx := B.exec
  have hb := B.bytes
  have hr := B.returns
  have hts := atoms_spec (ws := wsX10_findHeaps) B.pre
  have hown : s.vm.findClass RX10 = some m.cls := findClass_of_methodNamed B.named
  have hlocks := B.notSynchronized
  subst hsz
  have hD := hD0.self (sz := s.heap.size)
  obtain ⟨A, hAe⟩ : ∃ A : Nat → Prop, A = va_A (wX10 q10 cI cJ cB st_10 kept_10 undoable_10 newest_10 tape_10 taped_10 marks_10 order_10 reach_10 heapOf_10 rows_10 x_10 overs_10 costs_10 ways_10 digits_10 beaten_10 walks_10) s.heap.size := ⟨_, rfl⟩
  rw [← hAe] at hD
  have hA : ∀ q : Nat, s.heap.size ≤ q → A q := fun q h => by rw [hAe]; exact Or.inr h
  have hS : va_S A s.heap s.heap [] := va_S.rf
  refine k_gen (fun Q hQ => ?_)
  have hl := lv_entry ([.ref (q10 0)]) (n := 5) (Nat.le_of_ble_eq_true rfl)
  refine k_entry hav (lg_entry_eq ..) ?_
  generalize (lg_sl ([.ref (q10 0)]) ++ List.replicate (5 - (lg_sl ([.ref (q10 0)])).length) Slot.unset).toArray = ls at hl ⊢
  have hl : lv_has ls 5 [(0, .ref (q10 0))] := hl
  have hu_10 : ∀ w ∈ u_ws RX10 TX10 18, w ∈ wsX10_findHeaps := by decide +kernel
  have hf_7 : Cond.fieldLink RX10 7 "MeetingRanksModel" "st" "[I" ∈ wsX10_findHeaps := by decide +kernel
  have hf_25 : Cond.fieldLink RX10 25 "MeetingRanksModel" "reach" "[I" ∈ wsX10_findHeaps := by decide +kernel
  have hf_28 : Cond.fieldLink RX10 28 "MeetingRanksModel" "heapOf" "[I" ∈ wsX10_findHeaps := by decide +kernel
  have hn1 := hV.1
  have hn10 := hV.2.1
  have hm120 := hV.2.2.1
  have hx40 := hV.2.2.2.2.1
  have hk4 := hV.2.2.2.2.2.2.1
  have h2n := pow_le_1024 hn10
  have h2p := Nat.two_pow_pos n
  refine lv_iconst (v := nI 0) hx hb dX10_findHeaps_0 (by decide) ?_
  refine lv_istore_n (lv' := [(1, .int (nI 0)), (0, .ref (q10 0))]) hx hb dX10_findHeaps_1 rfl hl (by decide) rfl (fun ls hl => ?_)
  have hL_2 : ∀ (fu : Nat) (p1 : Nat) (f : Nat → Int32) (h0 : Nat → Int32) (hp1 : p1 ≤ n) (hf : ∀ x, x < p1 → f x = nI (2 ^ x)) (hh0 : ∀ x, x < p1 → h0 x = -1), n - p1 < fu → ∀ (H : Heap) (locs : List Loc), va_P D vwCl (wX10 q10 cI cJ cB st_10 kept_10 undoable_10 newest_10 tape_10 taped_10 marks_10 order_10 f h0 rows_10 x_10 overs_10 costs_10 ways_10 digits_10 beaten_10 walks_10) H → va_D A (wX10 q10 cI cJ cB st_10 kept_10 undoable_10 newest_10 tape_10 taped_10 marks_10 order_10 f h0 rows_10 x_10 overs_10 costs_10 ways_10 digits_10 beaten_10 walks_10) → va_S A s.heap H locs → ∀ (ls : Array Slot), lv_has ls 5 [(0, .ref (q10 0)), (1, .int (nI p1))] → W p l e (headSpec wsX10_findHeaps rmX10_findHeaps).room s m args below meth c H locs 0 0 Q (F0 m 2 ls []) := by
    intro fu
    induction fu with
    | zero => intro p1 f h0 hp1 hf hh0 hfu; exact absurd hfu (Nat.not_lt_zero _)
    | succ fu ih_2 =>
      intro p1 f h0 hp1 hf hh0 hfu H locs hP hD hS ls hl
      refine lv_iload_n hx hb dX10_findHeaps_2 rfl (lv_at hl 1 rfl) ?_
      refine lv_aload_n hx hb dX10_findHeaps_3 rfl (lv_at hl 0 rfl) ?_
      have hs_4 : kSplit (wX10 q10 cI cJ cB st_10 kept_10 undoable_10 newest_10 tape_10 taped_10 marks_10 order_10 f h0 rows_10 x_10 overs_10 costs_10 ways_10 digits_10 beaten_10 walks_10) (wX10 q10 cI cJ cB st_10 kept_10 undoable_10 newest_10 tape_10 taped_10 marks_10 order_10 f h0 rows_10 x_10 overs_10 costs_10 ways_10 digits_10 beaten_10 walks_10) ([] : va_W) [0, 1, 2, 3, 4, 5, 6, 7, 8, 9, 10, 11, 12, 13, 14, 15] [] := ⟨rfl, rfl, rfl, rfl, rfl, by decide⟩
      refine kc_i hP hD hS hA hs_4 (kV (As := []) (rest := [.int (nI p1)]) hx hb hml hown hts hKW hP hD hs_4 (c_X10_n l D cI cJ cB q10 st_10 kept_10 undoable_10 newest_10 tape_10 taped_10 marks_10 order_10 f h0 rows_10 x_10 overs_10 costs_10 ways_10 digits_10 beaten_10 walks_10 n ml nx ks rr (by first | assumption | omega) (by first | assumption | omega)) (cwV 0 hts gX10_findHeaps_X10_n rfl rfl rfl (by decide +kernel) ⟨Nat.le_of_ble_eq_true rfl, Nat.le_of_ble_eq_true rfl⟩) 0 10 rfl rfl rfl rfl hl.1 rfl (Nat.le_of_ble_eq_true rfl) dX10_findHeaps_4 ⟨Nat.zero_le _, Nat.zero_le _⟩) (fun r_4 u_4 H locs hw_4 hP hD hS => ?_)
      have er_4 := hw_4
      have er_4 := er_4.symm
      subst er_4
      have hP : va_P D vwCl (wX10 q10 cI cJ cB st_10 kept_10 undoable_10 newest_10 tape_10 taped_10 marks_10 order_10 f h0 rows_10 x_10 overs_10 costs_10 ways_10 digits_10 beaten_10 walks_10) H := hP.sub (ws' := (wX10 q10 cI cJ cB st_10 kept_10 undoable_10 newest_10 tape_10 taped_10 marks_10 order_10 f h0 rows_10 x_10 overs_10 costs_10 ways_10 digits_10 beaten_10 walks_10)) [0, 1, 2, 3, 4, 5, 6, 7, 8, 9, 10, 11, 12, 13, 14, 15] rfl
      have hD : va_D A (wX10 q10 cI cJ cB st_10 kept_10 undoable_10 newest_10 tape_10 taped_10 marks_10 order_10 f h0 rows_10 x_10 overs_10 costs_10 ways_10 digits_10 beaten_10 walks_10) := hD.sub (ws' := (wX10 q10 cI cJ cB st_10 kept_10 undoable_10 newest_10 tape_10 taped_10 marks_10 order_10 f h0 rows_10 x_10 overs_10 costs_10 ways_10 digits_10 beaten_10 walks_10)) [0, 1, 2, 3, 4, 5, 6, 7, 8, 9, 10, 11, 12, 13, 14, 15] (by decide) rfl
      refine lv_icmp_ge (tgt := 32) hx hb dX10_findHeaps_7 (by decide) (fun c_7 => ?_) (fun c_7 => ?_)
      · skip
        have c_7 := k_ge (by omega) (by omega) c_7
        obtain rfl : n = p1 := by omega
        refine lv_iconst (v := nI 0) hx hb dX10_findHeaps_32 (by decide) ?_
        refine lv_istore_n (lv' := [(1, .int (nI 0)), (0, .ref (q10 0))]) hx hb dX10_findHeaps_33 rfl hl (by decide) rfl (fun ls hl => ?_)
        have hL_34 : ∀ (fu : Nat) (k : Nat) (f : Nat → Int32) (hk : k ≤ ml.length) (hf : RB n f (rcF (ml.take k) rc0)), ml.length - k < fu → ∀ (H : Heap) (locs : List Loc), va_P D vwCl (wX10 q10 cI cJ cB st_10 kept_10 undoable_10 newest_10 tape_10 taped_10 marks_10 order_10 f h0 rows_10 x_10 overs_10 costs_10 ways_10 digits_10 beaten_10 walks_10) H → va_D A (wX10 q10 cI cJ cB st_10 kept_10 undoable_10 newest_10 tape_10 taped_10 marks_10 order_10 f h0 rows_10 x_10 overs_10 costs_10 ways_10 digits_10 beaten_10 walks_10) → va_S A s.heap H locs → ∀ (ls : Array Slot), lv_has ls 5 [(0, .ref (q10 0)), (1, .int (nI k))] → W p l e (headSpec wsX10_findHeaps rmX10_findHeaps).room s m args below meth c H locs 0 0 Q (F0 m 34 ls []) := by
          intro fu
          induction fu with
          | zero => intro k f hk hf hfu; exact absurd hfu (Nat.not_lt_zero _)
          | succ fu ih_34 =>
            intro k f hk hf hfu H locs hP hD hS ls hl
            refine lv_iload_n hx hb dX10_findHeaps_34 rfl (lv_at hl 1 rfl) ?_
            refine lv_aload_n hx hb dX10_findHeaps_35 rfl (lv_at hl 0 rfl) ?_
            refine k_get (ci := 10) (v := .ref (q10 1)) (C := RX10) (Tb := TX10) (N := 18) hx hb hts hu_10 hown hKW hP 0 rfl rfl 0 (by decide) hf_7 rfl rfl dX10_findHeaps_36 ?_
            refine lv_iconst (v := nI 1) hx hb dX10_findHeaps_39 (by decide) ?_
            refine k_iald (n := 600) (i := 1) hx hb hKW hP 1 0 rfl rfl (by omega) (by omega) dX10_findHeaps_40 ?_
            refine k_top (y := nI ml.length) (hR.2.1) ?_
            refine lv_icmp_ge (tgt := 106) hx hb dX10_findHeaps_41 (by decide) (fun c_41 => ?_) (fun c_41 => ?_)
            · skip
              have c_41 := k_ge (by omega) (by omega) c_41
              obtain rfl : k = ml.length := by omega
              rw [List.take_length] at hf
              refine lv_iconst (v := nI 0) hx hb dX10_findHeaps_106 (by decide) ?_
              refine lv_istore_n (lv' := [(1, .int (nI 0)), (0, .ref (q10 0))]) hx hb dX10_findHeaps_107 rfl hl (by decide) rfl (fun ls hl => ?_)
              have hL_108 : ∀ (fu : Nat) (b1 : Nat) (f : Nat → Int32) (hb1 : b1 ≤ n) (hf : RB n f (wB n (rcF ml rc0) b1)), n - b1 < fu → ∀ (H : Heap) (locs : List Loc), va_P D vwCl (wX10 q10 cI cJ cB st_10 kept_10 undoable_10 newest_10 tape_10 taped_10 marks_10 order_10 f h0 rows_10 x_10 overs_10 costs_10 ways_10 digits_10 beaten_10 walks_10) H → va_D A (wX10 q10 cI cJ cB st_10 kept_10 undoable_10 newest_10 tape_10 taped_10 marks_10 order_10 f h0 rows_10 x_10 overs_10 costs_10 ways_10 digits_10 beaten_10 walks_10) → va_S A s.heap H locs → ∀ (ls : Array Slot), lv_has ls 5 [(0, .ref (q10 0)), (1, .int (nI b1))] → W p l e (headSpec wsX10_findHeaps rmX10_findHeaps).room s m args below meth c H locs 0 0 Q (F0 m 108 ls []) := by
                intro fu
                induction fu with
                | zero => intro b1 f hb1 hf hfu; exact absurd hfu (Nat.not_lt_zero _)
                | succ fu ih_108 =>
                  intro b1 f hb1 hf hfu H locs hP hD hS ls hl
                  refine lv_iload_n hx hb dX10_findHeaps_108 rfl (lv_at hl 1 rfl) ?_
                  refine lv_aload_n hx hb dX10_findHeaps_109 rfl (lv_at hl 0 rfl) ?_
                  have hs_110 : kSplit (wX10 q10 cI cJ cB st_10 kept_10 undoable_10 newest_10 tape_10 taped_10 marks_10 order_10 f h0 rows_10 x_10 overs_10 costs_10 ways_10 digits_10 beaten_10 walks_10) (wX10 q10 cI cJ cB st_10 kept_10 undoable_10 newest_10 tape_10 taped_10 marks_10 order_10 f h0 rows_10 x_10 overs_10 costs_10 ways_10 digits_10 beaten_10 walks_10) ([] : va_W) [0, 1, 2, 3, 4, 5, 6, 7, 8, 9, 10, 11, 12, 13, 14, 15] [] := ⟨rfl, rfl, rfl, rfl, rfl, by decide⟩
                  refine kc_i hP hD hS hA hs_110 (kV (As := []) (rest := [.int (nI b1)]) hx hb hml hown hts hKW hP hD hs_110 (c_X10_n l D cI cJ cB q10 st_10 kept_10 undoable_10 newest_10 tape_10 taped_10 marks_10 order_10 f h0 rows_10 x_10 overs_10 costs_10 ways_10 digits_10 beaten_10 walks_10 n ml nx ks rr (by first | assumption | omega) (by first | assumption | omega)) (cwV 0 hts gX10_findHeaps_X10_n rfl rfl rfl (by decide +kernel) ⟨Nat.le_of_ble_eq_true rfl, Nat.le_of_ble_eq_true rfl⟩) 0 10 rfl rfl rfl rfl hl.1 rfl (Nat.le_of_ble_eq_true rfl) dX10_findHeaps_110 ⟨Nat.zero_le _, Nat.zero_le _⟩) (fun r_110 u_110 H locs hw_110 hP hD hS => ?_)
                  have er_110 := hw_110
                  have er_110 := er_110.symm
                  subst er_110
                  have hP : va_P D vwCl (wX10 q10 cI cJ cB st_10 kept_10 undoable_10 newest_10 tape_10 taped_10 marks_10 order_10 f h0 rows_10 x_10 overs_10 costs_10 ways_10 digits_10 beaten_10 walks_10) H := hP.sub (ws' := (wX10 q10 cI cJ cB st_10 kept_10 undoable_10 newest_10 tape_10 taped_10 marks_10 order_10 f h0 rows_10 x_10 overs_10 costs_10 ways_10 digits_10 beaten_10 walks_10)) [0, 1, 2, 3, 4, 5, 6, 7, 8, 9, 10, 11, 12, 13, 14, 15] rfl
                  have hD : va_D A (wX10 q10 cI cJ cB st_10 kept_10 undoable_10 newest_10 tape_10 taped_10 marks_10 order_10 f h0 rows_10 x_10 overs_10 costs_10 ways_10 digits_10 beaten_10 walks_10) := hD.sub (ws' := (wX10 q10 cI cJ cB st_10 kept_10 undoable_10 newest_10 tape_10 taped_10 marks_10 order_10 f h0 rows_10 x_10 overs_10 costs_10 ways_10 digits_10 beaten_10 walks_10)) [0, 1, 2, 3, 4, 5, 6, 7, 8, 9, 10, 11, 12, 13, 14, 15] (by decide) rfl
                  refine lv_icmp_ge (tgt := 167) hx hb dX10_findHeaps_113 (by decide) (fun c_113 => ?_) (fun c_113 => ?_)
                  · skip
                    have c_113 := k_ge (by omega) (by omega) c_113
                    obtain rfl : n = b1 := by omega
                    have hself9 : selfB (RW ml n) n := self_wB (self_rc ml rc0 self_0) n
                    refine lv_iconst (v := nI 0) hx hb dX10_findHeaps_167 (by decide) ?_
                    refine lv_istore_n (lv' := [(1, .int (nI 0)), (0, .ref (q10 0))]) hx hb dX10_findHeaps_168 rfl hl (by decide) rfl (fun ls hl => ?_)
                    refine lv_iconst (v := nI 1) hx hb dX10_findHeaps_169 (by decide) ?_
                    refine lv_istore_n (lv' := [(2, .int (nI 1)), (1, .int (nI 0)), (0, .ref (q10 0))]) hx hb dX10_findHeaps_170 rfl hl (by decide) rfl (fun ls hl => ?_)
                    have hL_171 : ∀ (fu : Nat) (hp : Nat) (g : Nat) (fl : Nat) (h : Nat → Int32) (hg1 : g ≤ 1) (hfl : negC h n < fl) (hhp : hp + fl ≤ n + 1) (hres : hpF (RW ml n) n (n + 1) h0 0 = if g = 1 then hpF (RW ml n) n fl h hp else (h, hp)), 2 * negC h n + g < fu → ∀ (H : Heap) (locs : List Loc), va_P D vwCl (wX10 q10 cI cJ cB st_10 kept_10 undoable_10 newest_10 tape_10 taped_10 marks_10 order_10 f h rows_10 x_10 overs_10 costs_10 ways_10 digits_10 beaten_10 walks_10) H → va_D A (wX10 q10 cI cJ cB st_10 kept_10 undoable_10 newest_10 tape_10 taped_10 marks_10 order_10 f h rows_10 x_10 overs_10 costs_10 ways_10 digits_10 beaten_10 walks_10) → va_S A s.heap H locs → ∀ (ls : Array Slot), lv_has ls 5 [(0, .ref (q10 0)), (1, .int (nI hp)), (2, .int (nI g))] → W p l e (headSpec wsX10_findHeaps rmX10_findHeaps).room s m args below meth c H locs 0 0 Q (F0 m 171 ls []) := by
                      intro fu
                      induction fu with
                      | zero => intro hp g fl h hg1 hfl hhp hres hfu; exact absurd hfu (Nat.not_lt_zero _)
                      | succ fu ih_171 =>
                        intro hp g fl h hg1 hfl hhp hres hfu H locs hP hD hS ls hl
                        refine lv_iload_n hx hb dX10_findHeaps_171 rfl (lv_at hl 2 rfl) ?_
                        refine lv_if_eq (tgt := 300) hx hb dX10_findHeaps_172 (by decide) (fun c_172 => ?_) (fun c_172 => ?_)
                        · skip
                          have c_172 := k0_eq (by omega) c_172
                          refine lv_iload_n hx hb dX10_findHeaps_300 rfl (lv_at hl 1 rfl) ?_
                          subst hQ; subst hAe
                          exact W.iret (v := nI hp) hx hb hr (fun tt9 ht9 _ => ⟨⟨nI hp, (f, h), rfl, ⟨h0, hh0, by rw [hres, if_neg (by omega)], by rw [hres, if_neg (by omega)]⟩, by rw [ht9]; exact hP, hD⟩, hS.F ht9⟩) hS.2.2 dX10_findHeaps_301
                        · skip
                          have c_172 := k0_eq_n (by omega) c_172
                          refine lv_iconst (v := (-1)) hx hb dX10_findHeaps_175 (by decide) ?_
                          refine lv_istore_n (lv' := [(3, .int (-1)), (0, .ref (q10 0)), (1, .int (nI hp)), (2, .int (nI g))]) hx hb dX10_findHeaps_176 rfl hl (by decide) rfl (fun ls hl => ?_)
                          have hJ_221 : ∀ (v : Int32) (hv : v = oI (srch (nxP (RW ml n) n h) 0 n)), ∀ (H : Heap) (locs : List Loc), va_P D vwCl (wX10 q10 cI cJ cB st_10 kept_10 undoable_10 newest_10 tape_10 taped_10 marks_10 order_10 f h rows_10 x_10 overs_10 costs_10 ways_10 digits_10 beaten_10 walks_10) H → va_D A (wX10 q10 cI cJ cB st_10 kept_10 undoable_10 newest_10 tape_10 taped_10 marks_10 order_10 f h rows_10 x_10 overs_10 costs_10 ways_10 digits_10 beaten_10 walks_10) → va_S A s.heap H locs → ∀ (ls : Array Slot), lv_has ls 5 [(0, .ref (q10 0)), (1, .int (nI hp)), (2, .int (nI g)), (3, .int v)] → W p l e (headSpec wsX10_findHeaps rmX10_findHeaps).room s m args below meth c H locs 0 0 Q (F0 m 221 ls []) := by
                            intro v hv H locs hP hD hS ls hl
                            refine lv_iload_n hx hb dX10_findHeaps_221 rfl (lv_at hl 3 rfl) ?_
                            refine lv_if_lt (tgt := 229) hx hb dX10_findHeaps_222 (by decide) (fun c_222 => ?_) (fun c_222 => ?_)
                            · skip
                              have hs9 := oI_none hv c_222 (fun j hj => by have := (srch_some hj).2.1; omega)
                              refine lv_iconst (v := nI 0) hx hb dX10_findHeaps_229 (by decide) ?_
                              refine lv_istore_n (lv' := [(2, .int (nI 0)), (0, .ref (q10 0)), (1, .int (nI hp)), (3, .int v)]) hx hb dX10_findHeaps_230 rfl hl (by decide) rfl (fun ls hl => ?_)
                              refine lv_iload_n hx hb dX10_findHeaps_231 rfl (lv_at hl 0 rfl) ?_
                              refine lv_if_ne (tgt := 238) hx hb dX10_findHeaps_232 (by decide) (fun c_232 => ?_) (fun c_232 => ?_)
                              · skip
                                have c_232 := k0_ne (by omega) c_232
                                exact absurd rfl c_232
                              · skip
                                have c_232 := k0_ne_n (by omega) c_232
                                
                                refine lv_goto (tgt := 171) hx hb dX10_findHeaps_235 (by decide) ?_
                                exact ih_171 _ 0 fl _ (by omega) hfl (by omega) (by rw [hres, if_pos (by omega), hpF_none hs9]; rfl) (by omega) _ _ hP hD hS ls (lv_sub hl [1, 2, 0] rfl)
                            · skip
                              obtain ⟨j, hs9, ej9⟩ := oI_some hv c_222
                              subst ej9
                              have hj9 := srch_some hs9
                              have hj3 := hj9.2.2.1
                              rw [Bool.and_eq_true] at hj3
                              have hneg9 := negC_hset (h := h) (hp := hp) (n := n) (R := RW ml n) (p := j) (by omega) (hself9 j (by omega)) (of_decide_eq_true hj3.1) (by omega)
                              have hRj9 : RW ml n j < 1024 := (hf j (by omega)).2
                              refine lv_iconst (v := nI 1) hx hb dX10_findHeaps_225 (by decide) ?_
                              refine lv_goto (tgt := 230) hx hb dX10_findHeaps_226 (by decide) ?_
                              refine lv_istore_n (lv' := [(2, .int (nI 1)), (0, .ref (q10 0)), (1, .int (nI hp)), (3, .int (nI j))]) hx hb dX10_findHeaps_230 rfl hl (by decide) rfl (fun ls hl => ?_)
                              refine lv_iload_n hx hb dX10_findHeaps_231 rfl (lv_at hl 0 rfl) ?_
                              refine lv_if_ne (tgt := 238) hx hb dX10_findHeaps_232 (by decide) (fun c_232 => ?_) (fun c_232 => ?_)
                              · skip
                                have c_232 := k0_ne (by omega) c_232
                                
                                refine lv_iconst (v := nI 0) hx hb dX10_findHeaps_238 (by decide) ?_
                                refine lv_istore (lv' := [(4, .int (nI 0)), (2, .int (nI 1)), (0, .ref (q10 0)), (1, .int (nI hp)), (3, .int (nI j))]) hx hb dX10_findHeaps_239 hl (by decide) rfl (fun ls hl => ?_)
                                have hL_241 : ∀ (fu : Nat) (q : Nat) (hq : q ≤ n), n - q < fu → ∀ (H : Heap) (locs : List Loc), va_P D vwCl (wX10 q10 cI cJ cB st_10 kept_10 undoable_10 newest_10 tape_10 taped_10 marks_10 order_10 f (hset (RW ml n) h j hp q) rows_10 x_10 overs_10 costs_10 ways_10 digits_10 beaten_10 walks_10) H → va_D A (wX10 q10 cI cJ cB st_10 kept_10 undoable_10 newest_10 tape_10 taped_10 marks_10 order_10 f (hset (RW ml n) h j hp q) rows_10 x_10 overs_10 costs_10 ways_10 digits_10 beaten_10 walks_10) → va_S A s.heap H locs → ∀ (ls : Array Slot), lv_has ls 5 [(0, .ref (q10 0)), (1, .int (nI hp)), (2, .int (nI 1)), (3, .int (nI j)), (4, .int (nI q))] → W p l e (headSpec wsX10_findHeaps rmX10_findHeaps).room s m args below meth c H locs 0 0 Q (F0 m 241 ls []) := by
                                  intro fu
                                  induction fu with
                                  | zero => intro q hq hfu; exact absurd hfu (Nat.not_lt_zero _)
                                  | succ fu ih_241 =>
                                    intro q hq hfu H locs hP hD hS ls hl
                                    refine lv_iload hx hb dX10_findHeaps_241 (lv_at hl 4 rfl) ?_
                                    refine lv_aload_n hx hb dX10_findHeaps_243 rfl (lv_at hl 0 rfl) ?_
                                    have hs_244 : kSplit (wX10 q10 cI cJ cB st_10 kept_10 undoable_10 newest_10 tape_10 taped_10 marks_10 order_10 f (hset (RW ml n) h j hp q) rows_10 x_10 overs_10 costs_10 ways_10 digits_10 beaten_10 walks_10) (wX10 q10 cI cJ cB st_10 kept_10 undoable_10 newest_10 tape_10 taped_10 marks_10 order_10 f (hset (RW ml n) h j hp q) rows_10 x_10 overs_10 costs_10 ways_10 digits_10 beaten_10 walks_10) ([] : va_W) [0, 1, 2, 3, 4, 5, 6, 7, 8, 9, 10, 11, 12, 13, 14, 15] [] := ⟨rfl, rfl, rfl, rfl, rfl, by decide⟩
                                    refine kc_i hP hD hS hA hs_244 (kV (As := []) (rest := [.int (nI q)]) hx hb hml hown hts hKW hP hD hs_244 (c_X10_n l D cI cJ cB q10 st_10 kept_10 undoable_10 newest_10 tape_10 taped_10 marks_10 order_10 f (hset (RW ml n) h j hp q) rows_10 x_10 overs_10 costs_10 ways_10 digits_10 beaten_10 walks_10 n ml nx ks rr (by first | assumption | omega) (by first | assumption | omega)) (cwV 0 hts gX10_findHeaps_X10_n rfl rfl rfl (by decide +kernel) ⟨Nat.le_of_ble_eq_true rfl, Nat.le_of_ble_eq_true rfl⟩) 0 10 rfl rfl rfl rfl hl.1 rfl (Nat.le_of_ble_eq_true rfl) dX10_findHeaps_244 ⟨Nat.zero_le _, Nat.zero_le _⟩) (fun r_244 u_244 H locs hw_244 hP hD hS => ?_)
                                    have er_244 := hw_244
                                    have er_244 := er_244.symm
                                    subst er_244
                                    have hP : va_P D vwCl (wX10 q10 cI cJ cB st_10 kept_10 undoable_10 newest_10 tape_10 taped_10 marks_10 order_10 f (hset (RW ml n) h j hp q) rows_10 x_10 overs_10 costs_10 ways_10 digits_10 beaten_10 walks_10) H := hP.sub (ws' := (wX10 q10 cI cJ cB st_10 kept_10 undoable_10 newest_10 tape_10 taped_10 marks_10 order_10 f (hset (RW ml n) h j hp q) rows_10 x_10 overs_10 costs_10 ways_10 digits_10 beaten_10 walks_10)) [0, 1, 2, 3, 4, 5, 6, 7, 8, 9, 10, 11, 12, 13, 14, 15] rfl
                                    have hD : va_D A (wX10 q10 cI cJ cB st_10 kept_10 undoable_10 newest_10 tape_10 taped_10 marks_10 order_10 f (hset (RW ml n) h j hp q) rows_10 x_10 overs_10 costs_10 ways_10 digits_10 beaten_10 walks_10) := hD.sub (ws' := (wX10 q10 cI cJ cB st_10 kept_10 undoable_10 newest_10 tape_10 taped_10 marks_10 order_10 f (hset (RW ml n) h j hp q) rows_10 x_10 overs_10 costs_10 ways_10 digits_10 beaten_10 walks_10)) [0, 1, 2, 3, 4, 5, 6, 7, 8, 9, 10, 11, 12, 13, 14, 15] (by decide) rfl
                                    refine lv_icmp_ge (tgt := 294) hx hb dX10_findHeaps_247 (by decide) (fun c_247 => ?_) (fun c_247 => ?_)
                                    · skip
                                      have c_247 := k_ge (by omega) (by omega) c_247
                                      obtain rfl : n = q := by omega
                                      refine lv_iinc (v := nI (hp + 1)) (lv' := [(1, .int (nI (hp + 1))), (0, .ref (q10 0)), (2, .int (nI 1)), (3, .int (nI j)), (4, .int (nI n))]) hx hb dX10_findHeaps_294 hl (k := 1) rfl (nI_add _ _) (by decide) rfl (fun ls hl => ?_)
                                      refine lv_goto (tgt := 171) hx hb dX10_findHeaps_297 (by decide) ?_
                                      exact ih_171 _ 1 (fl - 1) _ (by omega) (by omega) (by omega) (by rw [hres, if_pos (by omega), if_pos rfl]; obtain ⟨f9, ef9⟩ : ∃ f, fl = f + 1 := ⟨fl - 1, by omega⟩; subst ef9; exact hpF_some hs9) (by omega) _ _ hP hD hS ls (lv_sub hl [1, 0, 2] rfl)
                                    · skip
                                      have c_247 := k_ge_n (by omega) (by omega) c_247
                                      have hRq9 : RW ml n q < 1024 := (hf q (by omega)).2
                                      refine lv_aload_n hx hb dX10_findHeaps_250 rfl (lv_at hl 0 rfl) ?_
                                      refine k_get (ci := 10) (v := .ref (q10 6)) (C := RX10) (Tb := TX10) (N := 18) hx hb hts hu_10 hown hKW hP 0 rfl rfl 8 (by decide) hf_25 rfl rfl dX10_findHeaps_251 ?_
                                      refine lv_iload_n hx hb dX10_findHeaps_254 rfl (lv_at hl 3 rfl) ?_
                                      refine k_iald (n := 10) (i := j) hx hb hKW hP 6 0 rfl rfl (by omega) (by omega) dX10_findHeaps_255 ?_
                                      refine k_top (y := nI (RW ml n j)) ((hf _ (by omega)).1) ?_
                                      refine lv_iload hx hb dX10_findHeaps_256 (lv_at hl 4 rfl) ?_
                                      refine lv_ishr hx hb dX10_findHeaps_258 ?_
                                      refine k_top (y := nI (RW ml n j / 2 ^ q)) (k_shr (by omega) (by omega)) ?_
                                      refine lv_iconst (v := nI 1) hx hb dX10_findHeaps_259 (by decide) ?_
                                      refine lv_iand hx hb dX10_findHeaps_260 ?_
                                      refine k_top (y := nI (RW ml n j / 2 ^ q % 2)) (k_and1 _ (k_shr_lt (by omega))) ?_
                                      refine lv_iconst (v := nI 1) hx hb dX10_findHeaps_261 (by decide) ?_
                                      refine lv_icmp_ne (tgt := 288) hx hb dX10_findHeaps_262 (by decide) (fun c_262 => ?_) (fun c_262 => ?_)
                                      · skip
                                        have c_262 := k_ne (by omega) (by omega) c_262
                                        refine lv_iinc (v := nI (q + 1)) (lv' := [(4, .int (nI (q + 1))), (0, .ref (q10 0)), (1, .int (nI hp)), (2, .int (nI 1)), (3, .int (nI j))]) hx hb dX10_findHeaps_288 hl (k := 4) rfl (nI_add _ _) (by decide) rfl (fun ls hl => ?_)
                                        refine lv_goto (tgt := 241) hx hb dX10_findHeaps_291 (by decide) ?_
                                        rw [hset_n (fun z => c_262 (tb_mod.mp z.1))] at hP hD
                                        exact ih_241 (q + 1) (by omega) (by omega) _ _ hP hD hS ls (lv_sub hl [1, 2, 3, 4, 0] rfl)
                                      · skip
                                        have c_262 := k_ne_n (by omega) (by omega) c_262
                                        refine lv_aload_n hx hb dX10_findHeaps_265 rfl (lv_at hl 0 rfl) ?_
                                        refine k_get (ci := 10) (v := .ref (q10 6)) (C := RX10) (Tb := TX10) (N := 18) hx hb hts hu_10 hown hKW hP 0 rfl rfl 8 (by decide) hf_25 rfl rfl dX10_findHeaps_266 ?_
                                        refine lv_iload hx hb dX10_findHeaps_269 (lv_at hl 4 rfl) ?_
                                        refine k_iald (n := 10) (i := q) hx hb hKW hP 6 0 rfl rfl (by omega) (by omega) dX10_findHeaps_271 ?_
                                        refine k_top (y := nI (RW ml n q)) ((hf _ (by omega)).1) ?_
                                        refine lv_iload_n hx hb dX10_findHeaps_272 rfl (lv_at hl 3 rfl) ?_
                                        refine lv_ishr hx hb dX10_findHeaps_273 ?_
                                        refine k_top (y := nI (RW ml n q / 2 ^ j)) (k_shr (by omega) (by omega)) ?_
                                        refine lv_iconst (v := nI 1) hx hb dX10_findHeaps_274 (by decide) ?_
                                        refine lv_iand hx hb dX10_findHeaps_275 ?_
                                        refine k_top (y := nI (RW ml n q / 2 ^ j % 2)) (k_and1 _ (k_shr_lt (by omega))) ?_
                                        refine lv_iconst (v := nI 1) hx hb dX10_findHeaps_276 (by decide) ?_
                                        refine lv_icmp_ne (tgt := 288) hx hb dX10_findHeaps_277 (by decide) (fun c_277 => ?_) (fun c_277 => ?_)
                                        · skip
                                          have c_277 := k_ne (by omega) (by omega) c_277
                                          refine lv_iinc (v := nI (q + 1)) (lv' := [(4, .int (nI (q + 1))), (0, .ref (q10 0)), (1, .int (nI hp)), (2, .int (nI 1)), (3, .int (nI j))]) hx hb dX10_findHeaps_288 hl (k := 4) rfl (nI_add _ _) (by decide) rfl (fun ls hl => ?_)
                                          refine lv_goto (tgt := 241) hx hb dX10_findHeaps_291 (by decide) ?_
                                          rw [hset_n (fun z => c_277 (tb_mod.mp z.2))] at hP hD
                                          exact ih_241 (q + 1) (by omega) (by omega) _ _ hP hD hS ls (lv_sub hl [1, 2, 3, 4, 0] rfl)
                                        · skip
                                          have c_277 := k_ne_n (by omega) (by omega) c_277
                                          refine lv_aload_n hx hb dX10_findHeaps_280 rfl (lv_at hl 0 rfl) ?_
                                          refine k_get (ci := 10) (v := .ref (q10 7)) (C := RX10) (Tb := TX10) (N := 18) hx hb hts hu_10 hown hKW hP 0 rfl rfl 9 (by decide) hf_28 rfl rfl dX10_findHeaps_281 ?_
                                          refine lv_iload hx hb dX10_findHeaps_284 (lv_at hl 4 rfl) ?_
                                          refine lv_iload_n hx hb dX10_findHeaps_286 rfl (lv_at hl 1 rfl) ?_
                                          refine k_iast (n := 10) (i := q) (x := nI hp) (w' := (wX10 q10 cI cJ cB st_10 kept_10 undoable_10 newest_10 tape_10 taped_10 marks_10 order_10 f (upd (hset (RW ml n) h j hp q) q (nI hp)) rows_10 x_10 overs_10 costs_10 ways_10 digits_10 beaten_10 walks_10)) hx hb hKW hP hD hS 7 0 rfl rfl (by omega) (by omega) dX10_findHeaps_287 rfl (fun H locs hP hD hS => ?_)
                                          refine lv_iinc (v := nI (q + 1)) (lv' := [(4, .int (nI (q + 1))), (0, .ref (q10 0)), (1, .int (nI hp)), (2, .int (nI 1)), (3, .int (nI j))]) hx hb dX10_findHeaps_288 hl (k := 4) rfl (nI_add _ _) (by decide) rfl (fun ls hl => ?_)
                                          refine lv_goto (tgt := 241) hx hb dX10_findHeaps_291 (by decide) ?_
                                          rw [hset_y (tb_mod.mpr c_262) (tb_mod.mpr c_277)] at hP hD
                                          exact ih_241 (q + 1) (by omega) (by omega) _ _ hP hD hS ls (lv_sub hl [1, 2, 3, 4, 0] rfl)
                                exact hL_241 _ 0 (Nat.zero_le _) (Nat.lt_succ_self _) _ _ (by rw [hset_0]; exact hP) (by rw [hset_0]; exact hD) hS ls (lv_sub hl [2, 3, 1, 4, 0] rfl)
                              · skip
                                have c_232 := k0_ne_n (by omega) c_232
                                exact absurd c_232 (by decide)
                          refine lv_iconst (v := nI 0) hx hb dX10_findHeaps_177 (by decide) ?_
                          refine lv_istore (lv' := [(4, .int (nI 0)), (3, .int (-1)), (0, .ref (q10 0)), (1, .int (nI hp)), (2, .int (nI g))]) hx hb dX10_findHeaps_178 hl (by decide) rfl (fun ls hl => ?_)
                          have hL_180 : ∀ (fu : Nat) (p2 : Nat) (v : Int32) (hp2 : p2 ≤ n) (hv : (v = -1 ∧ srch (nxP (RW ml n) n h) 0 n = srch (nxP (RW ml n) n h) p2 (n - p2)) ∨ ∃ j, v = nI j ∧ srch (nxP (RW ml n) n h) 0 n = some j), n - p2 < fu → ∀ (H : Heap) (locs : List Loc), va_P D vwCl (wX10 q10 cI cJ cB st_10 kept_10 undoable_10 newest_10 tape_10 taped_10 marks_10 order_10 f h rows_10 x_10 overs_10 costs_10 ways_10 digits_10 beaten_10 walks_10) H → va_D A (wX10 q10 cI cJ cB st_10 kept_10 undoable_10 newest_10 tape_10 taped_10 marks_10 order_10 f h rows_10 x_10 overs_10 costs_10 ways_10 digits_10 beaten_10 walks_10) → va_S A s.heap H locs → ∀ (ls : Array Slot), lv_has ls 5 [(0, .ref (q10 0)), (1, .int (nI hp)), (2, .int (nI g)), (3, .int v), (4, .int (nI p2))] → W p l e (headSpec wsX10_findHeaps rmX10_findHeaps).room s m args below meth c H locs 0 0 Q (F0 m 180 ls []) := by
                            intro fu
                            induction fu with
                            | zero => intro p2 v hp2 hv hfu; exact absurd hfu (Nat.not_lt_zero _)
                            | succ fu ih_180 =>
                              intro p2 v hp2 hv hfu H locs hP hD hS ls hl
                              refine lv_iload hx hb dX10_findHeaps_180 (lv_at hl 4 rfl) ?_
                              refine lv_aload_n hx hb dX10_findHeaps_182 rfl (lv_at hl 0 rfl) ?_
                              have hs_183 : kSplit (wX10 q10 cI cJ cB st_10 kept_10 undoable_10 newest_10 tape_10 taped_10 marks_10 order_10 f h rows_10 x_10 overs_10 costs_10 ways_10 digits_10 beaten_10 walks_10) (wX10 q10 cI cJ cB st_10 kept_10 undoable_10 newest_10 tape_10 taped_10 marks_10 order_10 f h rows_10 x_10 overs_10 costs_10 ways_10 digits_10 beaten_10 walks_10) ([] : va_W) [0, 1, 2, 3, 4, 5, 6, 7, 8, 9, 10, 11, 12, 13, 14, 15] [] := ⟨rfl, rfl, rfl, rfl, rfl, by decide⟩
                              refine kc_i hP hD hS hA hs_183 (kV (As := []) (rest := [.int (nI p2)]) hx hb hml hown hts hKW hP hD hs_183 (c_X10_n l D cI cJ cB q10 st_10 kept_10 undoable_10 newest_10 tape_10 taped_10 marks_10 order_10 f h rows_10 x_10 overs_10 costs_10 ways_10 digits_10 beaten_10 walks_10 n ml nx ks rr (by first | assumption | omega) (by first | assumption | omega)) (cwV 0 hts gX10_findHeaps_X10_n rfl rfl rfl (by decide +kernel) ⟨Nat.le_of_ble_eq_true rfl, Nat.le_of_ble_eq_true rfl⟩) 0 10 rfl rfl rfl rfl hl.1 rfl (Nat.le_of_ble_eq_true rfl) dX10_findHeaps_183 ⟨Nat.zero_le _, Nat.zero_le _⟩) (fun r_183 u_183 H locs hw_183 hP hD hS => ?_)
                              have er_183 := hw_183
                              have er_183 := er_183.symm
                              subst er_183
                              have hP : va_P D vwCl (wX10 q10 cI cJ cB st_10 kept_10 undoable_10 newest_10 tape_10 taped_10 marks_10 order_10 f h rows_10 x_10 overs_10 costs_10 ways_10 digits_10 beaten_10 walks_10) H := hP.sub (ws' := (wX10 q10 cI cJ cB st_10 kept_10 undoable_10 newest_10 tape_10 taped_10 marks_10 order_10 f h rows_10 x_10 overs_10 costs_10 ways_10 digits_10 beaten_10 walks_10)) [0, 1, 2, 3, 4, 5, 6, 7, 8, 9, 10, 11, 12, 13, 14, 15] rfl
                              have hD : va_D A (wX10 q10 cI cJ cB st_10 kept_10 undoable_10 newest_10 tape_10 taped_10 marks_10 order_10 f h rows_10 x_10 overs_10 costs_10 ways_10 digits_10 beaten_10 walks_10) := hD.sub (ws' := (wX10 q10 cI cJ cB st_10 kept_10 undoable_10 newest_10 tape_10 taped_10 marks_10 order_10 f h rows_10 x_10 overs_10 costs_10 ways_10 digits_10 beaten_10 walks_10)) [0, 1, 2, 3, 4, 5, 6, 7, 8, 9, 10, 11, 12, 13, 14, 15] (by decide) rfl
                              refine lv_icmp_ge (tgt := 221) hx hb dX10_findHeaps_186 (by decide) (fun c_186 => ?_) (fun c_186 => ?_)
                              · skip
                                have c_186 := k_ge (by omega) (by omega) c_186
                                exact hJ_221 _ (by rcases hv with ⟨h1, h2⟩ | ⟨j, h1, h2⟩; (rw [h2, show n - p2 = 0 by omega, h1]; rfl); (rw [h1, h2]; rfl)) _ _ hP hD hS ls (lv_sub hl [0, 1, 2, 3] rfl)
                              · skip
                                have c_186 := k_ge_n (by omega) (by omega) c_186
                                refine lv_iload_n hx hb dX10_findHeaps_189 rfl (lv_at hl 3 rfl) ?_
                                refine lv_if_ge (tgt := 221) hx hb dX10_findHeaps_190 (by decide) (fun c_190 => ?_) (fun c_190 => ?_)
                                · skip
                                  exact hJ_221 _ (by rcases hv with ⟨h1, h2⟩ | ⟨j, h1, h2⟩; (rw [h1] at c_190; exact absurd c_190 (by decide)); (rw [h1, h2]; rfl)) _ _ hP hD hS ls (lv_sub hl [0, 1, 2, 3] rfl)
                                · skip
                                  have hv37 : v = -1 ∧ srch (nxP (RW ml n) n h) 0 n = srch (nxP (RW ml n) n h) p2 (n - p2) := by
                                    rcases hv with h | ⟨j, h1, h2⟩
                                    · exact h
                                    · rw [h1] at c_190; exact absurd (nI_pos' (by have := (srch_some h2).2.1; omega)) c_190
                                  refine lv_aload_n hx hb dX10_findHeaps_193 rfl (lv_at hl 0 rfl) ?_
                                  refine k_get (ci := 10) (v := .ref (q10 7)) (C := RX10) (Tb := TX10) (N := 18) hx hb hts hu_10 hown hKW hP 0 rfl rfl 9 (by decide) hf_28 rfl rfl dX10_findHeaps_194 ?_
                                  refine lv_iload hx hb dX10_findHeaps_197 (lv_at hl 4 rfl) ?_
                                  refine k_iald (n := 10) (i := p2) hx hb hKW hP 7 0 rfl rfl (by omega) (by omega) dX10_findHeaps_199 ?_
                                  refine lv_if_ge (tgt := 215) hx hb dX10_findHeaps_200 (by decide) (fun c_200 => ?_) (fun c_200 => ?_)
                                  · skip
                                    refine lv_iinc (v := nI (p2 + 1)) (lv' := [(4, .int (nI (p2 + 1))), (0, .ref (q10 0)), (1, .int (nI hp)), (2, .int (nI g)), (3, .int v)]) hx hb dX10_findHeaps_215 hl (k := 4) rfl (nI_add _ _) (by decide) rfl (fun ls hl => ?_)
                                    refine lv_goto (tgt := 180) hx hb dX10_findHeaps_218 (by decide) ?_
                                    exact ih_180 _ _ (by omega) (Or.inl ⟨hv37.1, by rw [hv37.2, show n - p2 = (n - (p2 + 1)) + 1 by omega]; exact srch_no (fun z => by rw [Bool.and_eq_true] at z; exact k_ge0' c_200 (of_decide_eq_true z.1))⟩) (by omega) _ _ hP hD hS ls (lv_sub hl [1, 2, 3, 4, 0] rfl)
                                  · skip
                                    refine lv_aload_n hx hb dX10_findHeaps_203 rfl (lv_at hl 0 rfl) ?_
                                    refine lv_iload hx hb dX10_findHeaps_204 (lv_at hl 4 rfl) ?_
                                    have hs_206 : kSplit (wX10 q10 cI cJ cB st_10 kept_10 undoable_10 newest_10 tape_10 taped_10 marks_10 order_10 f h rows_10 x_10 overs_10 costs_10 ways_10 digits_10 beaten_10 walks_10) (wX10 q10 cI cJ cB st_10 kept_10 undoable_10 newest_10 tape_10 taped_10 marks_10 order_10 f h rows_10 x_10 overs_10 costs_10 ways_10 digits_10 beaten_10 walks_10) ([] : va_W) [0, 1, 2, 3, 4, 5, 6, 7, 8, 9, 10, 11, 12, 13, 14, 15] [] := ⟨rfl, rfl, rfl, rfl, rfl, by decide⟩
                                    refine kc_i hP hD hS hA hs_206 (kV (As := [.int (nI p2)]) (rest := []) hx hb hml hown hts hKW hP hD hs_206 (c_X10_isFree l D cI cJ cB q10 st_10 kept_10 undoable_10 newest_10 tape_10 taped_10 marks_10 order_10 f h rows_10 x_10 overs_10 costs_10 ways_10 digits_10 beaten_10 walks_10 n ml nx ks rr (RW ml n) p2 (by first | assumption | omega) (by first | assumption | omega) hf (by first | assumption | omega)) (cwV 1 hts gX10_findHeaps_X10_isFree rfl rfl rfl (by decide +kernel) ⟨Nat.le_of_ble_eq_true rfl, Nat.le_of_ble_eq_true rfl⟩) 0 10 rfl rfl rfl rfl hl.1 rfl (Nat.le_of_ble_eq_true rfl) dX10_findHeaps_206 ⟨Nat.zero_le _, Nat.zero_le _⟩) (fun r_206 u_206 H locs hw_206 hP hD hS => ?_)
                                    have er_206 := hw_206
                                    have er_206 := er_206.symm
                                    subst er_206
                                    have hP : va_P D vwCl (wX10 q10 cI cJ cB st_10 kept_10 undoable_10 newest_10 tape_10 taped_10 marks_10 order_10 f h rows_10 x_10 overs_10 costs_10 ways_10 digits_10 beaten_10 walks_10) H := hP.sub (ws' := (wX10 q10 cI cJ cB st_10 kept_10 undoable_10 newest_10 tape_10 taped_10 marks_10 order_10 f h rows_10 x_10 overs_10 costs_10 ways_10 digits_10 beaten_10 walks_10)) [0, 1, 2, 3, 4, 5, 6, 7, 8, 9, 10, 11, 12, 13, 14, 15] rfl
                                    have hD : va_D A (wX10 q10 cI cJ cB st_10 kept_10 undoable_10 newest_10 tape_10 taped_10 marks_10 order_10 f h rows_10 x_10 overs_10 costs_10 ways_10 digits_10 beaten_10 walks_10) := hD.sub (ws' := (wX10 q10 cI cJ cB st_10 kept_10 undoable_10 newest_10 tape_10 taped_10 marks_10 order_10 f h rows_10 x_10 overs_10 costs_10 ways_10 digits_10 beaten_10 walks_10)) [0, 1, 2, 3, 4, 5, 6, 7, 8, 9, 10, 11, 12, 13, 14, 15] (by decide) rfl
                                    refine lv_if_eq (tgt := 215) hx hb dX10_findHeaps_209 (by decide) (fun c_209 => ?_) (fun c_209 => ?_)
                                    · skip
                                      have c_209 := k_b0 c_209
                                      refine lv_iinc (v := nI (p2 + 1)) (lv' := [(4, .int (nI (p2 + 1))), (0, .ref (q10 0)), (1, .int (nI hp)), (2, .int (nI g)), (3, .int v)]) hx hb dX10_findHeaps_215 hl (k := 4) rfl (nI_add _ _) (by decide) rfl (fun ls hl => ?_)
                                      refine lv_goto (tgt := 180) hx hb dX10_findHeaps_218 (by decide) ?_
                                      exact ih_180 _ _ (by omega) (Or.inl ⟨hv37.1, by rw [hv37.2, show n - p2 = (n - (p2 + 1)) + 1 by omega]; exact srch_no (fun z => by rw [Bool.and_eq_true] at z; exact c_209 z.2)⟩) (by omega) _ _ hP hD hS ls (lv_sub hl [1, 2, 3, 4, 0] rfl)
                                    · skip
                                      have c_209 := k_b1 c_209
                                      refine lv_iload hx hb dX10_findHeaps_212 (lv_at hl 4 rfl) ?_
                                      refine lv_istore_n (lv' := [(3, .int (nI p2)), (0, .ref (q10 0)), (1, .int (nI hp)), (2, .int (nI g)), (4, .int (nI p2))]) hx hb dX10_findHeaps_214 rfl hl (by decide) rfl (fun ls hl => ?_)
                                      refine lv_iinc (v := nI (p2 + 1)) (lv' := [(4, .int (nI (p2 + 1))), (3, .int (nI p2)), (0, .ref (q10 0)), (1, .int (nI hp)), (2, .int (nI g))]) hx hb dX10_findHeaps_215 hl (k := 4) rfl (nI_add _ _) (by decide) rfl (fun ls hl => ?_)
                                      refine lv_goto (tgt := 180) hx hb dX10_findHeaps_218 (by decide) ?_
                                      exact ih_180 _ _ (by omega) (Or.inr ⟨p2, rfl, by rw [hv37.2, show n - p2 = (n - (p2 + 1)) + 1 by omega]; exact srch_yes (by rw [Bool.and_eq_true]; exact ⟨decide_eq_true (k_neg c_200), c_209⟩)⟩) (by omega) _ _ hP hD hS ls (lv_sub hl [2, 3, 4, 1, 0] rfl)
                          exact hL_180 _ 0 _ (Nat.zero_le _) (Or.inl ⟨rfl, rfl⟩) (Nat.lt_succ_self _) _ _ hP hD hS ls (lv_sub hl [2, 3, 4, 1, 0] rfl)
                    exact hL_171 _ 0 1 (n + 1) _ (by omega) (by have := negC_le h0 n; omega) (by omega) rfl (Nat.lt_succ_self _) _ _ hP hD hS ls (lv_sub hl [2, 1, 0] rfl)
                  · skip
                    have c_113 := k_ge_n (by omega) (by omega) c_113
                    refine lv_iconst (v := nI 0) hx hb dX10_findHeaps_116 (by decide) ?_
                    refine lv_istore_n (lv' := [(2, .int (nI 0)), (0, .ref (q10 0)), (1, .int (nI b1))]) hx hb dX10_findHeaps_117 rfl hl (by decide) rfl (fun ls hl => ?_)
                    have hL_118 : ∀ (fu : Nat) (p1 : Nat) (f2 : Nat → Int32) (hp1 : p1 ≤ n) (hf2 : RB n f2 (wA b1 (wB n (rcF ml rc0) b1) p1)), n - p1 < fu → ∀ (H : Heap) (locs : List Loc), va_P D vwCl (wX10 q10 cI cJ cB st_10 kept_10 undoable_10 newest_10 tape_10 taped_10 marks_10 order_10 f2 h0 rows_10 x_10 overs_10 costs_10 ways_10 digits_10 beaten_10 walks_10) H → va_D A (wX10 q10 cI cJ cB st_10 kept_10 undoable_10 newest_10 tape_10 taped_10 marks_10 order_10 f2 h0 rows_10 x_10 overs_10 costs_10 ways_10 digits_10 beaten_10 walks_10) → va_S A s.heap H locs → ∀ (ls : Array Slot), lv_has ls 5 [(0, .ref (q10 0)), (1, .int (nI b1)), (2, .int (nI p1))] → W p l e (headSpec wsX10_findHeaps rmX10_findHeaps).room s m args below meth c H locs 0 0 Q (F0 m 118 ls []) := by
                      intro fu
                      induction fu with
                      | zero => intro p1 f2 hp1 hf2 hfu; exact absurd hfu (Nat.not_lt_zero _)
                      | succ fu ih_118 =>
                        intro p1 f2 hp1 hf2 hfu H locs hP hD hS ls hl
                        refine lv_iload_n hx hb dX10_findHeaps_118 rfl (lv_at hl 2 rfl) ?_
                        refine lv_aload_n hx hb dX10_findHeaps_119 rfl (lv_at hl 0 rfl) ?_
                        have hs_120 : kSplit (wX10 q10 cI cJ cB st_10 kept_10 undoable_10 newest_10 tape_10 taped_10 marks_10 order_10 f2 h0 rows_10 x_10 overs_10 costs_10 ways_10 digits_10 beaten_10 walks_10) (wX10 q10 cI cJ cB st_10 kept_10 undoable_10 newest_10 tape_10 taped_10 marks_10 order_10 f2 h0 rows_10 x_10 overs_10 costs_10 ways_10 digits_10 beaten_10 walks_10) ([] : va_W) [0, 1, 2, 3, 4, 5, 6, 7, 8, 9, 10, 11, 12, 13, 14, 15] [] := ⟨rfl, rfl, rfl, rfl, rfl, by decide⟩
                        refine kc_i hP hD hS hA hs_120 (kV (As := []) (rest := [.int (nI p1)]) hx hb hml hown hts hKW hP hD hs_120 (c_X10_n l D cI cJ cB q10 st_10 kept_10 undoable_10 newest_10 tape_10 taped_10 marks_10 order_10 f2 h0 rows_10 x_10 overs_10 costs_10 ways_10 digits_10 beaten_10 walks_10 n ml nx ks rr (by first | assumption | omega) (by first | assumption | omega)) (cwV 0 hts gX10_findHeaps_X10_n rfl rfl rfl (by decide +kernel) ⟨Nat.le_of_ble_eq_true rfl, Nat.le_of_ble_eq_true rfl⟩) 0 10 rfl rfl rfl rfl hl.1 rfl (Nat.le_of_ble_eq_true rfl) dX10_findHeaps_120 ⟨Nat.zero_le _, Nat.zero_le _⟩) (fun r_120 u_120 H locs hw_120 hP hD hS => ?_)
                        have er_120 := hw_120
                        have er_120 := er_120.symm
                        subst er_120
                        have hP : va_P D vwCl (wX10 q10 cI cJ cB st_10 kept_10 undoable_10 newest_10 tape_10 taped_10 marks_10 order_10 f2 h0 rows_10 x_10 overs_10 costs_10 ways_10 digits_10 beaten_10 walks_10) H := hP.sub (ws' := (wX10 q10 cI cJ cB st_10 kept_10 undoable_10 newest_10 tape_10 taped_10 marks_10 order_10 f2 h0 rows_10 x_10 overs_10 costs_10 ways_10 digits_10 beaten_10 walks_10)) [0, 1, 2, 3, 4, 5, 6, 7, 8, 9, 10, 11, 12, 13, 14, 15] rfl
                        have hD : va_D A (wX10 q10 cI cJ cB st_10 kept_10 undoable_10 newest_10 tape_10 taped_10 marks_10 order_10 f2 h0 rows_10 x_10 overs_10 costs_10 ways_10 digits_10 beaten_10 walks_10) := hD.sub (ws' := (wX10 q10 cI cJ cB st_10 kept_10 undoable_10 newest_10 tape_10 taped_10 marks_10 order_10 f2 h0 rows_10 x_10 overs_10 costs_10 ways_10 digits_10 beaten_10 walks_10)) [0, 1, 2, 3, 4, 5, 6, 7, 8, 9, 10, 11, 12, 13, 14, 15] (by decide) rfl
                        refine lv_icmp_ge (tgt := 161) hx hb dX10_findHeaps_123 (by decide) (fun c_123 => ?_) (fun c_123 => ?_)
                        · skip
                          have c_123 := k_ge (by omega) (by omega) c_123
                          obtain rfl : n = p1 := by omega
                          refine lv_iinc (v := nI (b1 + 1)) (lv' := [(1, .int (nI (b1 + 1))), (0, .ref (q10 0)), (2, .int (nI n))]) hx hb dX10_findHeaps_161 hl (k := 1) rfl (nI_add _ _) (by decide) rfl (fun ls hl => ?_)
                          refine lv_goto (tgt := 108) hx hb dX10_findHeaps_164 (by decide) ?_
                          exact ih_108 _ _ (by omega) hf2 (by omega) _ _ hP hD hS ls (lv_sub hl [1, 0] rfl)
                        · skip
                          have c_123 := k_ge_n (by omega) (by omega) c_123
                          have hR9 := (hf2 p1 (by omega)).2
                          refine lv_aload_n hx hb dX10_findHeaps_126 rfl (lv_at hl 0 rfl) ?_
                          refine k_get (ci := 10) (v := .ref (q10 6)) (C := RX10) (Tb := TX10) (N := 18) hx hb hts hu_10 hown hKW hP 0 rfl rfl 8 (by decide) hf_25 rfl rfl dX10_findHeaps_127 ?_
                          refine lv_iload_n hx hb dX10_findHeaps_130 rfl (lv_at hl 2 rfl) ?_
                          refine k_iald (n := 10) (i := p1) hx hb hKW hP 6 0 rfl rfl (by omega) (by omega) dX10_findHeaps_131 ?_
                          refine k_top (y := nI (wA b1 (wB n (rcF ml rc0) b1) p1 p1)) ((hf2 p1 (by omega)).1) ?_
                          refine lv_iload_n hx hb dX10_findHeaps_132 rfl (lv_at hl 1 rfl) ?_
                          refine lv_ishr hx hb dX10_findHeaps_133 ?_
                          refine k_top (y := nI (wA b1 (wB n (rcF ml rc0) b1) p1 p1 / 2 ^ b1)) (k_shr (by omega) (by omega)) ?_
                          refine lv_iconst (v := nI 1) hx hb dX10_findHeaps_134 (by decide) ?_
                          refine lv_iand hx hb dX10_findHeaps_135 ?_
                          refine k_top (y := nI (wA b1 (wB n (rcF ml rc0) b1) p1 p1 / 2 ^ b1 % 2)) (k_and1 _ (k_shr_lt (by omega))) ?_
                          refine lv_iconst (v := nI 1) hx hb dX10_findHeaps_136 (by decide) ?_
                          refine lv_icmp_ne (tgt := 155) hx hb dX10_findHeaps_137 (by decide) (fun c_137 => ?_) (fun c_137 => ?_)
                          · skip
                            have c_137 := k_ne (by omega) (by omega) c_137
                            refine lv_iinc (v := nI (p1 + 1)) (lv' := [(2, .int (nI (p1 + 1))), (0, .ref (q10 0)), (1, .int (nI b1))]) hx hb dX10_findHeaps_155 hl (k := 2) rfl (nI_add _ _) (by decide) rfl (fun ls hl => ?_)
                            refine lv_goto (tgt := 118) hx hb dX10_findHeaps_158 (by decide) ?_
                            exact ih_118 _ _ (by omega) (wStep_n hf2 (fun z => c_137 (tb_mod.mp z))) (by omega) _ _ hP hD hS ls (lv_sub hl [1, 2, 0] rfl)
                          · skip
                            have c_137 := k_ne_n (by omega) (by omega) c_137
                            refine lv_aload_n hx hb dX10_findHeaps_140 rfl (lv_at hl 0 rfl) ?_
                            refine k_get (ci := 10) (v := .ref (q10 6)) (C := RX10) (Tb := TX10) (N := 18) hx hb hts hu_10 hown hKW hP 0 rfl rfl 8 (by decide) hf_25 rfl rfl dX10_findHeaps_141 ?_
                            refine lv_iload_n hx hb dX10_findHeaps_144 rfl (lv_at hl 2 rfl) ?_
                            refine lv_dup2_11 hx hb dX10_findHeaps_145 rfl rfl ?_
                            refine k_iald (n := 10) (i := p1) hx hb hKW hP 6 0 rfl rfl (by omega) (by omega) dX10_findHeaps_146 ?_
                            refine k_top (y := nI (wA b1 (wB n (rcF ml rc0) b1) p1 p1)) ((hf2 p1 (by omega)).1) ?_
                            refine lv_aload_n hx hb dX10_findHeaps_147 rfl (lv_at hl 0 rfl) ?_
                            refine k_get (ci := 10) (v := .ref (q10 6)) (C := RX10) (Tb := TX10) (N := 18) hx hb hts hu_10 hown hKW hP 0 rfl rfl 8 (by decide) hf_25 rfl rfl dX10_findHeaps_148 ?_
                            refine lv_iload_n hx hb dX10_findHeaps_151 rfl (lv_at hl 1 rfl) ?_
                            refine k_iald (n := 10) (i := b1) hx hb hKW hP 6 0 rfl rfl (by omega) (by omega) dX10_findHeaps_152 ?_
                            refine k_top (y := nI (wA b1 (wB n (rcF ml rc0) b1) p1 b1)) ((hf2 b1 (by omega)).1) ?_
                            refine lv_ior hx hb dX10_findHeaps_153 ?_
                            refine k_top (y := nI (wA b1 (wB n (rcF ml rc0) b1) p1 p1 ||| wA b1 (wB n (rcF ml rc0) b1) p1 b1)) (k_or _ _) ?_
                            refine k_iast (n := 10) (i := p1) (x := nI (wA b1 (wB n (rcF ml rc0) b1) p1 p1 ||| wA b1 (wB n (rcF ml rc0) b1) p1 b1)) (w' := (wX10 q10 cI cJ cB st_10 kept_10 undoable_10 newest_10 tape_10 taped_10 marks_10 order_10 (upd f2 p1 (nI (wA b1 (wB n (rcF ml rc0) b1) p1 p1 ||| wA b1 (wB n (rcF ml rc0) b1) p1 b1))) h0 rows_10 x_10 overs_10 costs_10 ways_10 digits_10 beaten_10 walks_10)) hx hb hKW hP hD hS 6 0 rfl rfl (by omega) (by omega) dX10_findHeaps_154 rfl (fun H locs hP hD hS => ?_)
                            refine lv_iinc (v := nI (p1 + 1)) (lv' := [(2, .int (nI (p1 + 1))), (0, .ref (q10 0)), (1, .int (nI b1))]) hx hb dX10_findHeaps_155 hl (k := 2) rfl (nI_add _ _) (by decide) rfl (fun ls hl => ?_)
                            refine lv_goto (tgt := 118) hx hb dX10_findHeaps_158 (by decide) ?_
                            exact ih_118 _ _ (by omega) (wStep_y hf2 (tb_mod.mpr c_137) (or_1024 (hf2 p1 (by omega)).2 (hf2 b1 (by omega)).2)) (by omega) _ _ hP hD hS ls (lv_sub hl [1, 2, 0] rfl)
                    exact hL_118 _ 0 _ (Nat.zero_le _) hf (Nat.lt_succ_self _) _ _ hP hD hS ls (lv_sub hl [1, 2, 0] rfl)
              exact hL_108 _ 0 _ (Nat.zero_le _) hf (Nat.lt_succ_self _) _ _ hP hD hS ls (lv_sub hl [1, 0] rfl)
            · skip
              have c_41 := k_ge_n (by omega) (by omega) c_41
              obtain ⟨hx1, hx2, hx3, hx4, hx5⟩ := hV.m c_41
              have hJ_72 : ∀ (f1 : Nat → Int32) (hf1 : RB n f1 (rcA (mg ml k) (rcF (ml.take k) rc0))), ∀ (H : Heap) (locs : List Loc), va_P D vwCl (wX10 q10 cI cJ cB st_10 kept_10 undoable_10 newest_10 tape_10 taped_10 marks_10 order_10 f1 h0 rows_10 x_10 overs_10 costs_10 ways_10 digits_10 beaten_10 walks_10) H → va_D A (wX10 q10 cI cJ cB st_10 kept_10 undoable_10 newest_10 tape_10 taped_10 marks_10 order_10 f1 h0 rows_10 x_10 overs_10 costs_10 ways_10 digits_10 beaten_10 walks_10) → va_S A s.heap H locs → ∀ (ls : Array Slot), lv_has ls 5 [(0, .ref (q10 0)), (1, .int (nI k))] → W p l e (headSpec wsX10_findHeaps rmX10_findHeaps).room s m args below meth c H locs 0 0 Q (F0 m 72 ls []) := by
                intro f1 hf1 H locs hP hD hS ls hl
                have hJ_100 : ∀ (f2 : Nat → Int32) (hf2 : RB n f2 (rcB (mg ml k) (rcA (mg ml k) (rcF (ml.take k) rc0)))), ∀ (H : Heap) (locs : List Loc), va_P D vwCl (wX10 q10 cI cJ cB st_10 kept_10 undoable_10 newest_10 tape_10 taped_10 marks_10 order_10 f2 h0 rows_10 x_10 overs_10 costs_10 ways_10 digits_10 beaten_10 walks_10) H → va_D A (wX10 q10 cI cJ cB st_10 kept_10 undoable_10 newest_10 tape_10 taped_10 marks_10 order_10 f2 h0 rows_10 x_10 overs_10 costs_10 ways_10 digits_10 beaten_10 walks_10) → va_S A s.heap H locs → ∀ (ls : Array Slot), lv_has ls 5 [(0, .ref (q10 0)), (1, .int (nI k))] → W p l e (headSpec wsX10_findHeaps rmX10_findHeaps).room s m args below meth c H locs 0 0 Q (F0 m 100 ls []) := by
                  intro f2 hf2 H locs hP hD hS ls hl
                  refine lv_iinc (v := nI (k + 1)) (lv' := [(1, .int (nI (k + 1))), (0, .ref (q10 0))]) hx hb dX10_findHeaps_100 hl (k := 1) rfl (nI_add _ _) (by decide) rfl (fun ls hl => ?_)
                  refine lv_goto (tgt := 34) hx hb dX10_findHeaps_103 (by decide) ?_
                  exact ih_34 _ _ (by omega) (by rw [rcF_take c_41]; exact hf2) (by omega) _ _ hP hD hS ls (lv_sub hl [1, 0] rfl)
                refine lv_aload_n hx hb dX10_findHeaps_72 rfl (lv_at hl 0 rfl) ?_
                refine lv_iload_n hx hb dX10_findHeaps_73 rfl (lv_at hl 1 rfl) ?_
                have hs_74 : kSplit (wX10 q10 cI cJ cB st_10 kept_10 undoable_10 newest_10 tape_10 taped_10 marks_10 order_10 f1 h0 rows_10 x_10 overs_10 costs_10 ways_10 digits_10 beaten_10 walks_10) (wX10 q10 cI cJ cB st_10 kept_10 undoable_10 newest_10 tape_10 taped_10 marks_10 order_10 f1 h0 rows_10 x_10 overs_10 costs_10 ways_10 digits_10 beaten_10 walks_10) ([] : va_W) [0, 1, 2, 3, 4, 5, 6, 7, 8, 9, 10, 11, 12, 13, 14, 15] [] := ⟨rfl, rfl, rfl, rfl, rfl, by decide⟩
                refine kc_i hP hD hS hA hs_74 (kV (As := [.int (nI k)]) (rest := []) hx hb hml hown hts hKW hP hD hs_74 (c_X10_more l D cI cJ cB q10 st_10 kept_10 undoable_10 newest_10 tape_10 taped_10 marks_10 order_10 f1 h0 rows_10 x_10 overs_10 costs_10 ways_10 digits_10 beaten_10 walks_10 n ml nx ks rr k (by first | assumption | omega) (by first | assumption | omega) (by first | assumption | omega)) (cwV 1 hts gX10_findHeaps_X10_more rfl rfl rfl (by decide +kernel) ⟨Nat.le_of_ble_eq_true rfl, Nat.le_of_ble_eq_true rfl⟩) 0 10 rfl rfl rfl rfl hl.1 rfl (Nat.le_of_ble_eq_true rfl) dX10_findHeaps_74 ⟨Nat.zero_le _, Nat.zero_le _⟩) (fun r_74 u_74 H locs hw_74 hP hD hS => ?_)
                have er_74 := hw_74
                have er_74 := er_74.symm
                subst er_74
                have hP : va_P D vwCl (wX10 q10 cI cJ cB st_10 kept_10 undoable_10 newest_10 tape_10 taped_10 marks_10 order_10 f1 h0 rows_10 x_10 overs_10 costs_10 ways_10 digits_10 beaten_10 walks_10) H := hP.sub (ws' := (wX10 q10 cI cJ cB st_10 kept_10 undoable_10 newest_10 tape_10 taped_10 marks_10 order_10 f1 h0 rows_10 x_10 overs_10 costs_10 ways_10 digits_10 beaten_10 walks_10)) [0, 1, 2, 3, 4, 5, 6, 7, 8, 9, 10, 11, 12, 13, 14, 15] rfl
                have hD : va_D A (wX10 q10 cI cJ cB st_10 kept_10 undoable_10 newest_10 tape_10 taped_10 marks_10 order_10 f1 h0 rows_10 x_10 overs_10 costs_10 ways_10 digits_10 beaten_10 walks_10) := hD.sub (ws' := (wX10 q10 cI cJ cB st_10 kept_10 undoable_10 newest_10 tape_10 taped_10 marks_10 order_10 f1 h0 rows_10 x_10 overs_10 costs_10 ways_10 digits_10 beaten_10 walks_10)) [0, 1, 2, 3, 4, 5, 6, 7, 8, 9, 10, 11, 12, 13, 14, 15] (by decide) rfl
                refine lv_if_gt (tgt := 100) hx hb dX10_findHeaps_77 (by decide) (fun c_77 => ?_) (fun c_77 => ?_)
                · skip
                  have c_77 := mo_gt (by omega) (by omega) c_77
                  exact hJ_100 _ (by unfold rcB; rw [if_neg (by omega)]; exact hf1) _ _ hP hD hS ls (lv_sub hl [0, 1] rfl)
                · skip
                  have c_77 := mo_gt_n (by omega) (by omega) c_77
                  refine lv_aload_n hx hb dX10_findHeaps_80 rfl (lv_at hl 0 rfl) ?_
                  refine k_get (ci := 10) (v := .ref (q10 6)) (C := RX10) (Tb := TX10) (N := 18) hx hb hts hu_10 hown hKW hP 0 rfl rfl 8 (by decide) hf_25 rfl rfl dX10_findHeaps_81 ?_
                  refine lv_aload_n hx hb dX10_findHeaps_84 rfl (lv_at hl 0 rfl) ?_
                  refine lv_iload_n hx hb dX10_findHeaps_85 rfl (lv_at hl 1 rfl) ?_
                  have hs_86 : kSplit (wX10 q10 cI cJ cB st_10 kept_10 undoable_10 newest_10 tape_10 taped_10 marks_10 order_10 f1 h0 rows_10 x_10 overs_10 costs_10 ways_10 digits_10 beaten_10 walks_10) (wX10 q10 cI cJ cB st_10 kept_10 undoable_10 newest_10 tape_10 taped_10 marks_10 order_10 f1 h0 rows_10 x_10 overs_10 costs_10 ways_10 digits_10 beaten_10 walks_10) ([] : va_W) [0, 1, 2, 3, 4, 5, 6, 7, 8, 9, 10, 11, 12, 13, 14, 15] [] := ⟨rfl, rfl, rfl, rfl, rfl, by decide⟩
                  refine kc_i hP hD hS hA hs_86 (kV (As := [.int (nI k)]) (rest := [.ref (q10 6)]) hx hb hml hown hts hKW hP hD hs_86 (c_X10_two l D cI cJ cB q10 st_10 kept_10 undoable_10 newest_10 tape_10 taped_10 marks_10 order_10 f1 h0 rows_10 x_10 overs_10 costs_10 ways_10 digits_10 beaten_10 walks_10 n ml nx ks rr k (by first | assumption | omega) (by first | assumption | omega) (by first | assumption | omega)) (cwV 1 hts gX10_findHeaps_X10_two rfl rfl rfl (by decide +kernel) ⟨Nat.le_of_ble_eq_true rfl, Nat.le_of_ble_eq_true rfl⟩) 0 10 rfl rfl rfl rfl hl.1 rfl (Nat.le_of_ble_eq_true rfl) dX10_findHeaps_86 ⟨Nat.zero_le _, Nat.zero_le _⟩) (fun r_86 u_86 H locs hw_86 hP hD hS => ?_)
                  have er_86 := hw_86
                  have er_86 := er_86.symm
                  subst er_86
                  have hP : va_P D vwCl (wX10 q10 cI cJ cB st_10 kept_10 undoable_10 newest_10 tape_10 taped_10 marks_10 order_10 f1 h0 rows_10 x_10 overs_10 costs_10 ways_10 digits_10 beaten_10 walks_10) H := hP.sub (ws' := (wX10 q10 cI cJ cB st_10 kept_10 undoable_10 newest_10 tape_10 taped_10 marks_10 order_10 f1 h0 rows_10 x_10 overs_10 costs_10 ways_10 digits_10 beaten_10 walks_10)) [0, 1, 2, 3, 4, 5, 6, 7, 8, 9, 10, 11, 12, 13, 14, 15] rfl
                  have hD : va_D A (wX10 q10 cI cJ cB st_10 kept_10 undoable_10 newest_10 tape_10 taped_10 marks_10 order_10 f1 h0 rows_10 x_10 overs_10 costs_10 ways_10 digits_10 beaten_10 walks_10) := hD.sub (ws' := (wX10 q10 cI cJ cB st_10 kept_10 undoable_10 newest_10 tape_10 taped_10 marks_10 order_10 f1 h0 rows_10 x_10 overs_10 costs_10 ways_10 digits_10 beaten_10 walks_10)) [0, 1, 2, 3, 4, 5, 6, 7, 8, 9, 10, 11, 12, 13, 14, 15] (by decide) rfl
                  refine lv_dup2_11 hx hb dX10_findHeaps_89 rfl rfl ?_
                  refine k_iald (n := 10) (i := (mg ml k).2.1) hx hb hKW hP 6 0 rfl rfl (by omega) (by omega) dX10_findHeaps_90 ?_
                  refine k_top (y := nI (rcA (mg ml k) (rcF (ml.take k) rc0) (mg ml k).2.1)) ((hf1 _ (by omega)).1) ?_
                  refine lv_iconst (v := nI 1) hx hb dX10_findHeaps_91 (by decide) ?_
                  refine lv_aload_n hx hb dX10_findHeaps_92 rfl (lv_at hl 0 rfl) ?_
                  refine lv_iload_n hx hb dX10_findHeaps_93 rfl (lv_at hl 1 rfl) ?_
                  have hs_94 : kSplit (wX10 q10 cI cJ cB st_10 kept_10 undoable_10 newest_10 tape_10 taped_10 marks_10 order_10 f1 h0 rows_10 x_10 overs_10 costs_10 ways_10 digits_10 beaten_10 walks_10) (wX10 q10 cI cJ cB st_10 kept_10 undoable_10 newest_10 tape_10 taped_10 marks_10 order_10 f1 h0 rows_10 x_10 overs_10 costs_10 ways_10 digits_10 beaten_10 walks_10) ([] : va_W) [0, 1, 2, 3, 4, 5, 6, 7, 8, 9, 10, 11, 12, 13, 14, 15] [] := ⟨rfl, rfl, rfl, rfl, rfl, by decide⟩
                  refine kc_i hP hD hS hA hs_94 (kV (As := [.int (nI k)]) (rest := [.int (nI 1), .int (nI (rcA (mg ml k) (rcF (ml.take k) rc0) (mg ml k).2.1)), .int (nI ((mg ml k).2.1)), .ref (q10 6)]) hx hb hml hown hts hKW hP hD hs_94 (c_X10_one l D cI cJ cB q10 st_10 kept_10 undoable_10 newest_10 tape_10 taped_10 marks_10 order_10 f1 h0 rows_10 x_10 overs_10 costs_10 ways_10 digits_10 beaten_10 walks_10 n ml nx ks rr k (by first | assumption | omega) (by first | assumption | omega) (by first | assumption | omega)) (cwV 1 hts gX10_findHeaps_X10_one rfl rfl rfl (by decide +kernel) ⟨Nat.le_of_ble_eq_true rfl, Nat.le_of_ble_eq_true rfl⟩) 0 10 rfl rfl rfl rfl hl.1 rfl (Nat.le_of_ble_eq_true rfl) dX10_findHeaps_94 ⟨Nat.zero_le _, Nat.zero_le _⟩) (fun r_94 u_94 H locs hw_94 hP hD hS => ?_)
                  have er_94 := hw_94
                  have er_94 := er_94.symm
                  subst er_94
                  have hP : va_P D vwCl (wX10 q10 cI cJ cB st_10 kept_10 undoable_10 newest_10 tape_10 taped_10 marks_10 order_10 f1 h0 rows_10 x_10 overs_10 costs_10 ways_10 digits_10 beaten_10 walks_10) H := hP.sub (ws' := (wX10 q10 cI cJ cB st_10 kept_10 undoable_10 newest_10 tape_10 taped_10 marks_10 order_10 f1 h0 rows_10 x_10 overs_10 costs_10 ways_10 digits_10 beaten_10 walks_10)) [0, 1, 2, 3, 4, 5, 6, 7, 8, 9, 10, 11, 12, 13, 14, 15] rfl
                  have hD : va_D A (wX10 q10 cI cJ cB st_10 kept_10 undoable_10 newest_10 tape_10 taped_10 marks_10 order_10 f1 h0 rows_10 x_10 overs_10 costs_10 ways_10 digits_10 beaten_10 walks_10) := hD.sub (ws' := (wX10 q10 cI cJ cB st_10 kept_10 undoable_10 newest_10 tape_10 taped_10 marks_10 order_10 f1 h0 rows_10 x_10 overs_10 costs_10 ways_10 digits_10 beaten_10 walks_10)) [0, 1, 2, 3, 4, 5, 6, 7, 8, 9, 10, 11, 12, 13, 14, 15] (by decide) rfl
                  refine lv_ishl hx hb dX10_findHeaps_97 ?_
                  refine k_top (y := nI (2 ^ (mg ml k).1)) (k_shl1 (by omega)) ?_
                  refine lv_ior hx hb dX10_findHeaps_98 ?_
                  refine k_top (y := nI (rcA (mg ml k) (rcF (ml.take k) rc0) (mg ml k).2.1 ||| 2 ^ (mg ml k).1)) (k_or _ _) ?_
                  refine k_iast (n := 10) (i := (mg ml k).2.1) (x := nI (rcA (mg ml k) (rcF (ml.take k) rc0) (mg ml k).2.1 ||| 2 ^ (mg ml k).1)) (w' := (wX10 q10 cI cJ cB st_10 kept_10 undoable_10 newest_10 tape_10 taped_10 marks_10 order_10 (upd f1 ((mg ml k).2.1) (nI (rcA (mg ml k) (rcF (ml.take k) rc0) (mg ml k).2.1 ||| 2 ^ (mg ml k).1))) h0 rows_10 x_10 overs_10 costs_10 ways_10 digits_10 beaten_10 walks_10)) hx hb hKW hP hD hS 6 0 rfl rfl (by omega) (by omega) dX10_findHeaps_99 rfl (fun H locs hP hD hS => ?_)
                  exact hJ_100 _ (by unfold rcB; rw [if_pos (by omega)]; exact RB_upd hf1 (or_1024 (hf1 _ (by omega)).2 (p2_1024 (by omega)))) _ _ hP hD hS ls (lv_sub hl [0, 1] rfl)
              refine lv_aload_n hx hb dX10_findHeaps_44 rfl (lv_at hl 0 rfl) ?_
              refine lv_iload_n hx hb dX10_findHeaps_45 rfl (lv_at hl 1 rfl) ?_
              have hs_46 : kSplit (wX10 q10 cI cJ cB st_10 kept_10 undoable_10 newest_10 tape_10 taped_10 marks_10 order_10 f h0 rows_10 x_10 overs_10 costs_10 ways_10 digits_10 beaten_10 walks_10) (wX10 q10 cI cJ cB st_10 kept_10 undoable_10 newest_10 tape_10 taped_10 marks_10 order_10 f h0 rows_10 x_10 overs_10 costs_10 ways_10 digits_10 beaten_10 walks_10) ([] : va_W) [0, 1, 2, 3, 4, 5, 6, 7, 8, 9, 10, 11, 12, 13, 14, 15] [] := ⟨rfl, rfl, rfl, rfl, rfl, by decide⟩
              refine kc_i hP hD hS hA hs_46 (kV (As := [.int (nI k)]) (rest := []) hx hb hml hown hts hKW hP hD hs_46 (c_X10_more l D cI cJ cB q10 st_10 kept_10 undoable_10 newest_10 tape_10 taped_10 marks_10 order_10 f h0 rows_10 x_10 overs_10 costs_10 ways_10 digits_10 beaten_10 walks_10 n ml nx ks rr k (by first | assumption | omega) (by first | assumption | omega) (by first | assumption | omega)) (cwV 1 hts gX10_findHeaps_X10_more rfl rfl rfl (by decide +kernel) ⟨Nat.le_of_ble_eq_true rfl, Nat.le_of_ble_eq_true rfl⟩) 0 10 rfl rfl rfl rfl hl.1 rfl (Nat.le_of_ble_eq_true rfl) dX10_findHeaps_46 ⟨Nat.zero_le _, Nat.zero_le _⟩) (fun r_46 u_46 H locs hw_46 hP hD hS => ?_)
              have er_46 := hw_46
              have er_46 := er_46.symm
              subst er_46
              have hP : va_P D vwCl (wX10 q10 cI cJ cB st_10 kept_10 undoable_10 newest_10 tape_10 taped_10 marks_10 order_10 f h0 rows_10 x_10 overs_10 costs_10 ways_10 digits_10 beaten_10 walks_10) H := hP.sub (ws' := (wX10 q10 cI cJ cB st_10 kept_10 undoable_10 newest_10 tape_10 taped_10 marks_10 order_10 f h0 rows_10 x_10 overs_10 costs_10 ways_10 digits_10 beaten_10 walks_10)) [0, 1, 2, 3, 4, 5, 6, 7, 8, 9, 10, 11, 12, 13, 14, 15] rfl
              have hD : va_D A (wX10 q10 cI cJ cB st_10 kept_10 undoable_10 newest_10 tape_10 taped_10 marks_10 order_10 f h0 rows_10 x_10 overs_10 costs_10 ways_10 digits_10 beaten_10 walks_10) := hD.sub (ws' := (wX10 q10 cI cJ cB st_10 kept_10 undoable_10 newest_10 tape_10 taped_10 marks_10 order_10 f h0 rows_10 x_10 overs_10 costs_10 ways_10 digits_10 beaten_10 walks_10)) [0, 1, 2, 3, 4, 5, 6, 7, 8, 9, 10, 11, 12, 13, 14, 15] (by decide) rfl
              refine lv_if_lt (tgt := 72) hx hb dX10_findHeaps_49 (by decide) (fun c_49 => ?_) (fun c_49 => ?_)
              · skip
                have c_49 := mo_lt (by omega) (by omega) c_49
                exact hJ_72 _ (by unfold rcA; rw [if_neg (by omega)]; exact hf) _ _ hP hD hS ls (lv_sub hl [0, 1] rfl)
              · skip
                have c_49 := mo_lt_n (by omega) (by omega) c_49
                refine lv_aload_n hx hb dX10_findHeaps_52 rfl (lv_at hl 0 rfl) ?_
                refine k_get (ci := 10) (v := .ref (q10 6)) (C := RX10) (Tb := TX10) (N := 18) hx hb hts hu_10 hown hKW hP 0 rfl rfl 8 (by decide) hf_25 rfl rfl dX10_findHeaps_53 ?_
                refine lv_aload_n hx hb dX10_findHeaps_56 rfl (lv_at hl 0 rfl) ?_
                refine lv_iload_n hx hb dX10_findHeaps_57 rfl (lv_at hl 1 rfl) ?_
                have hs_58 : kSplit (wX10 q10 cI cJ cB st_10 kept_10 undoable_10 newest_10 tape_10 taped_10 marks_10 order_10 f h0 rows_10 x_10 overs_10 costs_10 ways_10 digits_10 beaten_10 walks_10) (wX10 q10 cI cJ cB st_10 kept_10 undoable_10 newest_10 tape_10 taped_10 marks_10 order_10 f h0 rows_10 x_10 overs_10 costs_10 ways_10 digits_10 beaten_10 walks_10) ([] : va_W) [0, 1, 2, 3, 4, 5, 6, 7, 8, 9, 10, 11, 12, 13, 14, 15] [] := ⟨rfl, rfl, rfl, rfl, rfl, by decide⟩
                refine kc_i hP hD hS hA hs_58 (kV (As := [.int (nI k)]) (rest := [.ref (q10 6)]) hx hb hml hown hts hKW hP hD hs_58 (c_X10_one l D cI cJ cB q10 st_10 kept_10 undoable_10 newest_10 tape_10 taped_10 marks_10 order_10 f h0 rows_10 x_10 overs_10 costs_10 ways_10 digits_10 beaten_10 walks_10 n ml nx ks rr k (by first | assumption | omega) (by first | assumption | omega) (by first | assumption | omega)) (cwV 1 hts gX10_findHeaps_X10_one rfl rfl rfl (by decide +kernel) ⟨Nat.le_of_ble_eq_true rfl, Nat.le_of_ble_eq_true rfl⟩) 0 10 rfl rfl rfl rfl hl.1 rfl (Nat.le_of_ble_eq_true rfl) dX10_findHeaps_58 ⟨Nat.zero_le _, Nat.zero_le _⟩) (fun r_58 u_58 H locs hw_58 hP hD hS => ?_)
                have er_58 := hw_58
                have er_58 := er_58.symm
                subst er_58
                have hP : va_P D vwCl (wX10 q10 cI cJ cB st_10 kept_10 undoable_10 newest_10 tape_10 taped_10 marks_10 order_10 f h0 rows_10 x_10 overs_10 costs_10 ways_10 digits_10 beaten_10 walks_10) H := hP.sub (ws' := (wX10 q10 cI cJ cB st_10 kept_10 undoable_10 newest_10 tape_10 taped_10 marks_10 order_10 f h0 rows_10 x_10 overs_10 costs_10 ways_10 digits_10 beaten_10 walks_10)) [0, 1, 2, 3, 4, 5, 6, 7, 8, 9, 10, 11, 12, 13, 14, 15] rfl
                have hD : va_D A (wX10 q10 cI cJ cB st_10 kept_10 undoable_10 newest_10 tape_10 taped_10 marks_10 order_10 f h0 rows_10 x_10 overs_10 costs_10 ways_10 digits_10 beaten_10 walks_10) := hD.sub (ws' := (wX10 q10 cI cJ cB st_10 kept_10 undoable_10 newest_10 tape_10 taped_10 marks_10 order_10 f h0 rows_10 x_10 overs_10 costs_10 ways_10 digits_10 beaten_10 walks_10)) [0, 1, 2, 3, 4, 5, 6, 7, 8, 9, 10, 11, 12, 13, 14, 15] (by decide) rfl
                refine lv_dup2_11 hx hb dX10_findHeaps_61 rfl rfl ?_
                refine k_iald (n := 10) (i := (mg ml k).1) hx hb hKW hP 6 0 rfl rfl (by omega) (by omega) dX10_findHeaps_62 ?_
                refine k_top (y := nI ((rcF (ml.take k) rc0) (mg ml k).1)) ((hf _ (by omega)).1) ?_
                refine lv_iconst (v := nI 1) hx hb dX10_findHeaps_63 (by decide) ?_
                refine lv_aload_n hx hb dX10_findHeaps_64 rfl (lv_at hl 0 rfl) ?_
                refine lv_iload_n hx hb dX10_findHeaps_65 rfl (lv_at hl 1 rfl) ?_
                have hs_66 : kSplit (wX10 q10 cI cJ cB st_10 kept_10 undoable_10 newest_10 tape_10 taped_10 marks_10 order_10 f h0 rows_10 x_10 overs_10 costs_10 ways_10 digits_10 beaten_10 walks_10) (wX10 q10 cI cJ cB st_10 kept_10 undoable_10 newest_10 tape_10 taped_10 marks_10 order_10 f h0 rows_10 x_10 overs_10 costs_10 ways_10 digits_10 beaten_10 walks_10) ([] : va_W) [0, 1, 2, 3, 4, 5, 6, 7, 8, 9, 10, 11, 12, 13, 14, 15] [] := ⟨rfl, rfl, rfl, rfl, rfl, by decide⟩
                refine kc_i hP hD hS hA hs_66 (kV (As := [.int (nI k)]) (rest := [.int (nI 1), .int (nI ((rcF (ml.take k) rc0) (mg ml k).1)), .int (nI ((mg ml k).1)), .ref (q10 6)]) hx hb hml hown hts hKW hP hD hs_66 (c_X10_two l D cI cJ cB q10 st_10 kept_10 undoable_10 newest_10 tape_10 taped_10 marks_10 order_10 f h0 rows_10 x_10 overs_10 costs_10 ways_10 digits_10 beaten_10 walks_10 n ml nx ks rr k (by first | assumption | omega) (by first | assumption | omega) (by first | assumption | omega)) (cwV 1 hts gX10_findHeaps_X10_two rfl rfl rfl (by decide +kernel) ⟨Nat.le_of_ble_eq_true rfl, Nat.le_of_ble_eq_true rfl⟩) 0 10 rfl rfl rfl rfl hl.1 rfl (Nat.le_of_ble_eq_true rfl) dX10_findHeaps_66 ⟨Nat.zero_le _, Nat.zero_le _⟩) (fun r_66 u_66 H locs hw_66 hP hD hS => ?_)
                have er_66 := hw_66
                have er_66 := er_66.symm
                subst er_66
                have hP : va_P D vwCl (wX10 q10 cI cJ cB st_10 kept_10 undoable_10 newest_10 tape_10 taped_10 marks_10 order_10 f h0 rows_10 x_10 overs_10 costs_10 ways_10 digits_10 beaten_10 walks_10) H := hP.sub (ws' := (wX10 q10 cI cJ cB st_10 kept_10 undoable_10 newest_10 tape_10 taped_10 marks_10 order_10 f h0 rows_10 x_10 overs_10 costs_10 ways_10 digits_10 beaten_10 walks_10)) [0, 1, 2, 3, 4, 5, 6, 7, 8, 9, 10, 11, 12, 13, 14, 15] rfl
                have hD : va_D A (wX10 q10 cI cJ cB st_10 kept_10 undoable_10 newest_10 tape_10 taped_10 marks_10 order_10 f h0 rows_10 x_10 overs_10 costs_10 ways_10 digits_10 beaten_10 walks_10) := hD.sub (ws' := (wX10 q10 cI cJ cB st_10 kept_10 undoable_10 newest_10 tape_10 taped_10 marks_10 order_10 f h0 rows_10 x_10 overs_10 costs_10 ways_10 digits_10 beaten_10 walks_10)) [0, 1, 2, 3, 4, 5, 6, 7, 8, 9, 10, 11, 12, 13, 14, 15] (by decide) rfl
                refine lv_ishl hx hb dX10_findHeaps_69 ?_
                refine k_top (y := nI (2 ^ (mg ml k).2.1)) (k_shl1 (by omega)) ?_
                refine lv_ior hx hb dX10_findHeaps_70 ?_
                refine k_top (y := nI ((rcF (ml.take k) rc0) (mg ml k).1 ||| 2 ^ (mg ml k).2.1)) (k_or _ _) ?_
                refine k_iast (n := 10) (i := (mg ml k).1) (x := nI ((rcF (ml.take k) rc0) (mg ml k).1 ||| 2 ^ (mg ml k).2.1)) (w' := (wX10 q10 cI cJ cB st_10 kept_10 undoable_10 newest_10 tape_10 taped_10 marks_10 order_10 (upd f ((mg ml k).1) (nI ((rcF (ml.take k) rc0) (mg ml k).1 ||| 2 ^ (mg ml k).2.1))) h0 rows_10 x_10 overs_10 costs_10 ways_10 digits_10 beaten_10 walks_10)) hx hb hKW hP hD hS 6 0 rfl rfl (by omega) (by omega) dX10_findHeaps_71 rfl (fun H locs hP hD hS => ?_)
                exact hJ_72 _ (by unfold rcA; rw [if_pos (by omega)]; exact RB_upd hf (or_1024 (hf _ (by omega)).2 (p2_1024 (by omega)))) _ _ hP hD hS ls (lv_sub hl [0, 1] rfl)
        exact hL_34 _ 0 _ (Nat.zero_le _) (fun x hx9 => ⟨hf x hx9, p2_1024 (by omega)⟩) (Nat.lt_succ_self _) _ _ hP hD hS ls (lv_sub hl [1, 0] rfl)
      · skip
        have c_7 := k_ge_n (by omega) (by omega) c_7
        refine lv_aload_n hx hb dX10_findHeaps_10 rfl (lv_at hl 0 rfl) ?_
        refine k_get (ci := 10) (v := .ref (q10 6)) (C := RX10) (Tb := TX10) (N := 18) hx hb hts hu_10 hown hKW hP 0 rfl rfl 8 (by decide) hf_25 rfl rfl dX10_findHeaps_11 ?_
        refine lv_iload_n hx hb dX10_findHeaps_14 rfl (lv_at hl 1 rfl) ?_
        refine lv_iconst (v := nI 1) hx hb dX10_findHeaps_15 (by decide) ?_
        refine lv_iload_n hx hb dX10_findHeaps_16 rfl (lv_at hl 1 rfl) ?_
        refine lv_ishl hx hb dX10_findHeaps_17 ?_
        refine k_top (y := nI (2 ^ p1)) (k_shl1 (by omega)) ?_
        refine k_iast (n := 10) (i := p1) (x := nI (2 ^ p1)) (w' := (wX10 q10 cI cJ cB st_10 kept_10 undoable_10 newest_10 tape_10 taped_10 marks_10 order_10 (upd f p1 (nI (2 ^ p1))) h0 rows_10 x_10 overs_10 costs_10 ways_10 digits_10 beaten_10 walks_10)) hx hb hKW hP hD hS 6 0 rfl rfl (by omega) (by omega) dX10_findHeaps_18 rfl (fun H locs hP hD hS => ?_)
        refine lv_aload_n hx hb dX10_findHeaps_19 rfl (lv_at hl 0 rfl) ?_
        refine k_get (ci := 10) (v := .ref (q10 7)) (C := RX10) (Tb := TX10) (N := 18) hx hb hts hu_10 hown hKW hP 0 rfl rfl 9 (by decide) hf_28 rfl rfl dX10_findHeaps_20 ?_
        refine lv_iload_n hx hb dX10_findHeaps_23 rfl (lv_at hl 1 rfl) ?_
        refine lv_iconst (v := (-1)) hx hb dX10_findHeaps_24 (by decide) ?_
        refine k_iast (n := 10) (i := p1) (x := (-1)) (w' := (wX10 q10 cI cJ cB st_10 kept_10 undoable_10 newest_10 tape_10 taped_10 marks_10 order_10 (upd f p1 (nI (2 ^ p1))) (upd h0 p1 (-1)) rows_10 x_10 overs_10 costs_10 ways_10 digits_10 beaten_10 walks_10)) hx hb hKW hP hD hS 7 0 rfl rfl (by omega) (by omega) dX10_findHeaps_25 rfl (fun H locs hP hD hS => ?_)
        refine lv_iinc (v := nI (p1 + 1)) (lv' := [(1, .int (nI (p1 + 1))), (0, .ref (q10 0))]) hx hb dX10_findHeaps_26 hl (k := 1) rfl (nI_add _ _) (by decide) rfl (fun ls hl => ?_)
        refine lv_goto (tgt := 2) hx hb dX10_findHeaps_29 (by decide) ?_
        exact ih_2 _ _ _ (by omega) (fun x hx9 => by by_cases e9 : x = p1; (subst e9; exact pk_us); (rw [pk_un e9]; exact hf x (by omega))) (fun x hx9 => by by_cases e9 : x = p1; (subst e9; exact pk_us); (rw [pk_un e9]; exact hh0 x (by omega))) (by omega) _ _ hP hD hS ls (lv_sub hl [1, 0] rfl)
  exact hL_2 _ 0 _ _ (Nat.zero_le _) (fun x hx9 => absurd hx9 (Nat.not_lt_zero x)) (fun x hx9 => absurd hx9 (Nat.not_lt_zero x)) (Nat.lt_succ_self _) _ _ hP hD hS ls (lv_sub hl [1, 0] rfl)
