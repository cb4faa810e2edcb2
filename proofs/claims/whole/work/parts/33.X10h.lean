def rmX10_bound : Room := { frames := 3, cells := 0, slots := 0, locals := 67 }
set_option maxHeartbeats 4000000 in
set_option maxRecDepth 100000 in
theorem c_X10_bound (l : Launch) (D : va_G) (cI cJ cB : ClassId) (q10 : Nat → Nat) (st_10 : Nat → Int32) (kept_10 : Nat → Int32) (undoable_10 : Int32) (newest_10 : Int32) (tape_10 : Nat → Int32) (taped_10 : Int32) (marks_10 : Nat → Int32) (order_10 : Nat → Int32) (reach_10 : Nat → Int32) (heapOf_10 : Nat → Int32) (rows_10 : Nat → Int64) (x_10 : Nat → Int64) (overs_10 : Nat → Int32) (costs_10 : Nat → Int32) (ways_10 : Nat → Int32) (digits_10 : Nat → Int32) (beaten_10 : Nat → Int32) (walks_10 : Nat → Int32) (n : Nat) (ml : List Mt) (nx : List (Nat × Nat)) (ks : List Nat) (rr : Int32 × Int32 × Int32) (hR : RS st_10 n ml nx ks rr) (hV : VS n ml nx ks) : ∀ sz, Met l yX10_bound wsX10_bound rmX10_bound (va_Pc [.ref (q10 0)] (PW D (kT cI cJ cB) sz (wX10 q10 cI cJ cB st_10 kept_10 undoable_10 newest_10 tape_10 taped_10 marks_10 order_10 reach_10 heapOf_10 rows_10 x_10 overs_10 costs_10 ways_10 digits_10 beaten_10 walks_10))) (va_Qi (S := (Nat → Int32)) (fun r overs_10' => r = nI ((bd1 n n 0 (0, fun a b => ov ml a b)).1)) (QW D sz (wX10 q10 cI cJ cB st_10 kept_10 undoable_10 newest_10 tape_10 taped_10 marks_10 order_10 reach_10 heapOf_10 rows_10 x_10 overs_10 costs_10 ways_10 digits_10 beaten_10 walks_10) (fun overs_10' => (wX10 q10 cI cJ cB st_10 kept_10 undoable_10 newest_10 tape_10 taped_10 marks_10 order_10 reach_10 heapOf_10 rows_10 x_10 overs_10' costs_10 ways_10 digits_10 beaten_10 walks_10))) (va_A (wX10 q10 cI cJ cB st_10 kept_10 undoable_10 newest_10 tape_10 taped_10 marks_10 order_10 reach_10 heapOf_10 rows_10 x_10 overs_10 costs_10 ways_10 digits_10 beaten_10 walks_10) sz)) 0 0 (va_A (wX10 q10 cI cJ cB st_10 kept_10 undoable_10 newest_10 tape_10 taped_10 marks_10 order_10 reach_10 heapOf_10 rows_10 x_10 overs_10 costs_10 ways_10 digits_10 beaten_10 walks_10) sz) := by
  intro sz
  refine Met.ofW (cc := cX10_bound) (maxL := 5) (ret := (some .int)) (by decide) rfl ?_
  intro p e s m args below meth c s₁ B hml hv
  obtain ⟨hav, hsz, hP, hKW, hD0⟩ := hv
  have hx := B.exec
  have hb := B.bytes
  have hr := B.returns
  have hts := atoms_spec (ws := wsX10_bound) B.pre
  have hown : s.vm.findClass RX10 = some m.cls := findClass_of_methodNamed B.named
  have hlocks := B.notSynchronized
  subst hsz
  have hD := hD0.self (sz := s.heap.size)
  obtain ⟨A, hAe⟩ : ∃ A : Nat → Prop, A = va_A (wX10 q10 cI cJ cB st_10 kept_10 undoable_10 newest_10 tape_10 taped_10 marks_10 order_10 reach_10 heapOf_10 rows_10 x_10 overs_10 costs_10 ways_10 digits_10 beaten_10 walks_10) s.heap.size := ⟨_, rfl⟩
  rw [← hAe] at hD
  have hA : ∀ q : Nat, s.heap.size ≤ q → A q := fun q h => by rw [hAe]; exact Or.inr h
  have hS : va_S A s.heap s.heap [] := va_S.rf
  refine k_gen (fun Q hQ => ?_)
  have hl := lv_entry ([.ref (q10 0)]) (n := 5) (Nat.le_of_ble_eq_true rfl)
  refine k_entry hav (lg_entry_eq ..) ?_
  generalize (lg_sl ([.ref (q10 0)]) ++ List.replicate (5 - (lg_sl ([.ref (q10 0)])).length) Slot.unset).toArray = ls at hl ⊢
  have hl : lv_has ls 5 [(0, .ref (q10 0))] := hl
  have hn1 := hV.1
  have hn10 := hV.2.1
  have hm120 := hV.2.2.1
  have hx40 := hV.2.2.2.2.1
  have hk4 := hV.2.2.2.2.2.2.1
  have h2n := pow_le_1024 hn10
  have h2p := Nat.two_pow_pos n
  refine lv_aload_n hx hb dX10_bound_0 rfl (lv_at hl 0 rfl) ?_
  have hs_1 : kSplit (wX10 q10 cI cJ cB st_10 kept_10 undoable_10 newest_10 tape_10 taped_10 marks_10 order_10 reach_10 heapOf_10 rows_10 x_10 overs_10 costs_10 ways_10 digits_10 beaten_10 walks_10) (wX10 q10 cI cJ cB st_10 kept_10 undoable_10 newest_10 tape_10 taped_10 marks_10 order_10 reach_10 heapOf_10 rows_10 x_10 overs_10 costs_10 ways_10 digits_10 beaten_10 walks_10) ([] : va_W) [0, 1, 2, 3, 4, 5, 6, 7, 8, 9, 10, 11, 12, 13, 14, 15] [] := ⟨rfl, rfl, rfl, rfl, rfl, by decide⟩
  refine kc_v hP hD hS hA hs_1 (kV (As := []) (rest := []) hx hb hml hown hts hKW hP hD hs_1 (c_X10_gatherOvers l D cI cJ cB q10 st_10 kept_10 undoable_10 newest_10 tape_10 taped_10 marks_10 order_10 reach_10 heapOf_10 rows_10 x_10 overs_10 costs_10 ways_10 digits_10 beaten_10 walks_10 n ml nx ks rr (by first | assumption | omega) (by first | assumption | omega)) (cwV 0 hts gX10_bound_X10_gatherOvers rfl rfl rfl (by decide +kernel) ⟨Nat.le_of_ble_eq_true rfl, Nat.le_of_ble_eq_true rfl⟩) 0 10 rfl rfl rfl rfl hl.1 rfl (Nat.le_of_ble_eq_true rfl) dX10_bound_1 ⟨Nat.zero_le _, Nat.zero_le _⟩) (fun u_1 H locs hw_1 hP hD hS => ?_)
  obtain ⟨overs_10_1, rfl⟩ : ∃ z, z = u_1 := ⟨_, rfl⟩
  have hP : va_P D vwCl (wX10 q10 cI cJ cB st_10 kept_10 undoable_10 newest_10 tape_10 taped_10 marks_10 order_10 reach_10 heapOf_10 rows_10 x_10 overs_10_1 costs_10 ways_10 digits_10 beaten_10 walks_10) H := hP.sub (ws' := (wX10 q10 cI cJ cB st_10 kept_10 undoable_10 newest_10 tape_10 taped_10 marks_10 order_10 reach_10 heapOf_10 rows_10 x_10 overs_10_1 costs_10 ways_10 digits_10 beaten_10 walks_10)) [0, 1, 2, 3, 4, 5, 6, 7, 8, 9, 10, 11, 12, 13, 14, 15] rfl
  have hD : va_D A (wX10 q10 cI cJ cB st_10 kept_10 undoable_10 newest_10 tape_10 taped_10 marks_10 order_10 reach_10 heapOf_10 rows_10 x_10 overs_10_1 costs_10 ways_10 digits_10 beaten_10 walks_10) := hD.sub (ws' := (wX10 q10 cI cJ cB st_10 kept_10 undoable_10 newest_10 tape_10 taped_10 marks_10 order_10 reach_10 heapOf_10 rows_10 x_10 overs_10_1 costs_10 ways_10 digits_10 beaten_10 walks_10)) [0, 1, 2, 3, 4, 5, 6, 7, 8, 9, 10, 11, 12, 13, 14, 15] (by decide) rfl
  refine lv_iconst (v := nI 0) hx hb dX10_bound_4 (by decide) ?_
  refine lv_istore_n (lv' := [(1, .int (nI 0)), (0, .ref (q10 0))]) hx hb dX10_bound_5 rfl hl (by decide) rfl (fun ls hl => ?_)
  refine lv_iconst (v := nI 0) hx hb dX10_bound_6 (by decide) ?_
  refine lv_istore_n (lv' := [(2, .int (nI 0)), (1, .int (nI 0)), (0, .ref (q10 0))]) hx hb dX10_bound_7 rfl hl (by decide) rfl (fun ls hl => ?_)
  have hL_8 : ∀ (fu : Nat) (a : Nat) (sm : Nat) (o : Nat → Nat → Nat) (f : Nat → Int32) (ha : a ≤ n) (hO : ∀ x y, x < n → y < n → f (10 * x + y) = nI (o x y)) (ho : ∀ x y, o x y ≤ 120) (hb9 : bd1 n n 0 (0, fun a b => ov ml a b) = bd1 n (n - a) a (sm, o)), n - a < fu → ∀ (H : Heap) (locs : List Loc), va_P D vwCl (wX10 q10 cI cJ cB st_10 kept_10 undoable_10 newest_10 tape_10 taped_10 marks_10 order_10 reach_10 heapOf_10 rows_10 x_10 f costs_10 ways_10 digits_10 beaten_10 walks_10) H → va_D A (wX10 q10 cI cJ cB st_10 kept_10 undoable_10 newest_10 tape_10 taped_10 marks_10 order_10 reach_10 heapOf_10 rows_10 x_10 f costs_10 ways_10 digits_10 beaten_10 walks_10) → va_S A s.heap H locs → ∀ (ls : Array Slot), lv_has ls 5 [(0, .ref (q10 0)), (1, .int (nI sm)), (2, .int (nI a))] → W p l e (headSpec wsX10_bound rmX10_bound).room s m args below meth c H locs 0 0 Q (F0 m 8 ls []) := by
    intro fu
    induction fu with
    | zero => intro a sm o f ha hO ho hb9 hfu; exact absurd hfu (Nat.not_lt_zero _)
    | succ fu ih_8 =>
      intro a sm o f ha hO ho hb9 hfu H locs hP hD hS ls hl
      refine lv_iload_n hx hb dX10_bound_8 rfl (lv_at hl 2 rfl) ?_
      refine lv_aload_n hx hb dX10_bound_9 rfl (lv_at hl 0 rfl) ?_
      have hs_10 : kSplit (wX10 q10 cI cJ cB st_10 kept_10 undoable_10 newest_10 tape_10 taped_10 marks_10 order_10 reach_10 heapOf_10 rows_10 x_10 f costs_10 ways_10 digits_10 beaten_10 walks_10) (wX10 q10 cI cJ cB st_10 kept_10 undoable_10 newest_10 tape_10 taped_10 marks_10 order_10 reach_10 heapOf_10 rows_10 x_10 f costs_10 ways_10 digits_10 beaten_10 walks_10) ([] : va_W) [0, 1, 2, 3, 4, 5, 6, 7, 8, 9, 10, 11, 12, 13, 14, 15] [] := ⟨rfl, rfl, rfl, rfl, rfl, by decide⟩
      refine kc_i hP hD hS hA hs_10 (kV (As := []) (rest := [.int (nI a)]) hx hb hml hown hts hKW hP hD hs_10 (c_X10_n l D cI cJ cB q10 st_10 kept_10 undoable_10 newest_10 tape_10 taped_10 marks_10 order_10 reach_10 heapOf_10 rows_10 x_10 f costs_10 ways_10 digits_10 beaten_10 walks_10 n ml nx ks rr (by first | assumption | omega) (by first | assumption | omega)) (cwV 0 hts gX10_bound_X10_n rfl rfl rfl (by decide +kernel) ⟨Nat.le_of_ble_eq_true rfl, Nat.le_of_ble_eq_true rfl⟩) 0 10 rfl rfl rfl rfl hl.1 rfl (Nat.le_of_ble_eq_true rfl) dX10_bound_10 ⟨Nat.zero_le _, Nat.zero_le _⟩) (fun r_10 u_10 H locs hw_10 hP hD hS => ?_)
      have er_10 := hw_10
      have er_10 := er_10.symm
      subst er_10
      have hP : va_P D vwCl (wX10 q10 cI cJ cB st_10 kept_10 undoable_10 newest_10 tape_10 taped_10 marks_10 order_10 reach_10 heapOf_10 rows_10 x_10 f costs_10 ways_10 digits_10 beaten_10 walks_10) H := hP.sub (ws' := (wX10 q10 cI cJ cB st_10 kept_10 undoable_10 newest_10 tape_10 taped_10 marks_10 order_10 reach_10 heapOf_10 rows_10 x_10 f costs_10 ways_10 digits_10 beaten_10 walks_10)) [0, 1, 2, 3, 4, 5, 6, 7, 8, 9, 10, 11, 12, 13, 14, 15] rfl
      have hD : va_D A (wX10 q10 cI cJ cB st_10 kept_10 undoable_10 newest_10 tape_10 taped_10 marks_10 order_10 reach_10 heapOf_10 rows_10 x_10 f costs_10 ways_10 digits_10 beaten_10 walks_10) := hD.sub (ws' := (wX10 q10 cI cJ cB st_10 kept_10 undoable_10 newest_10 tape_10 taped_10 marks_10 order_10 reach_10 heapOf_10 rows_10 x_10 f costs_10 ways_10 digits_10 beaten_10 walks_10)) [0, 1, 2, 3, 4, 5, 6, 7, 8, 9, 10, 11, 12, 13, 14, 15] (by decide) rfl
      refine lv_icmp_ge (tgt := 80) hx hb dX10_bound_13 (by decide) (fun c_13 => ?_) (fun c_13 => ?_)
      · skip
        have c_13 := k_ge (by omega) (by omega) c_13
        refine lv_iload_n hx hb dX10_bound_80 rfl (lv_at hl 1 rfl) ?_
        subst hQ; subst hAe
        exact W.iret (v := nI sm) hx hb hr (fun t ht _ => ⟨⟨nI sm, (f), rfl, by rw [hb9, show n - a = 0 by omega]; rfl, by rw [ht]; exact hP, hD⟩, hS.F ht⟩) hS.2.2 dX10_bound_81
      · skip
        have c_13 := k_ge_n (by omega) (by omega) c_13
        refine lv_iload_n hx hb dX10_bound_16 rfl (lv_at hl 2 rfl) ?_
        refine lv_iconst (v := nI 1) hx hb dX10_bound_17 (by decide) ?_
        refine k_iadd hx hb dX10_bound_18 ?_
        refine lv_istore_n (lv' := [(3, .int (nI (a + 1))), (0, .ref (q10 0)), (1, .int (nI sm)), (2, .int (nI a))]) hx hb dX10_bound_19 rfl hl (by decide) rfl (fun ls hl => ?_)
        have hL_20 : ∀ (fu : Nat) (b : Nat) (sm : Nat) (o : Nat → Nat → Nat) (f : Nat → Int32) (hab : a < b) (hb2 : b ≤ n) (hO : ∀ x y, x < n → y < n → f (10 * x + y) = nI (o x y)) (ho : ∀ x y, o x y ≤ 120) (hb9 : bd1 n n 0 (0, fun a b => ov ml a b) = bd1 n (n - (a + 1)) (a + 1) (bd2 n a (n - b) b (sm, o))), n - b < fu → ∀ (H : Heap) (locs : List Loc), va_P D vwCl (wX10 q10 cI cJ cB st_10 kept_10 undoable_10 newest_10 tape_10 taped_10 marks_10 order_10 reach_10 heapOf_10 rows_10 x_10 f costs_10 ways_10 digits_10 beaten_10 walks_10) H → va_D A (wX10 q10 cI cJ cB st_10 kept_10 undoable_10 newest_10 tape_10 taped_10 marks_10 order_10 reach_10 heapOf_10 rows_10 x_10 f costs_10 ways_10 digits_10 beaten_10 walks_10) → va_S A s.heap H locs → ∀ (ls : Array Slot), lv_has ls 5 [(0, .ref (q10 0)), (1, .int (nI sm)), (2, .int (nI a)), (3, .int (nI b))] → W p l e (headSpec wsX10_bound rmX10_bound).room s m args below meth c H locs 0 0 Q (F0 m 20 ls []) := by
          intro fu
          induction fu with
          | zero => intro b sm o f hab hb2 hO ho hb9 hfu; exact absurd hfu (Nat.not_lt_zero _)
          | succ fu ih_20 =>
            intro b sm o f hab hb2 hO ho hb9 hfu H locs hP hD hS ls hl
            refine lv_iload_n hx hb dX10_bound_20 rfl (lv_at hl 3 rfl) ?_
            refine lv_aload_n hx hb dX10_bound_21 rfl (lv_at hl 0 rfl) ?_
            have hs_22 : kSplit (wX10 q10 cI cJ cB st_10 kept_10 undoable_10 newest_10 tape_10 taped_10 marks_10 order_10 reach_10 heapOf_10 rows_10 x_10 f costs_10 ways_10 digits_10 beaten_10 walks_10) (wX10 q10 cI cJ cB st_10 kept_10 undoable_10 newest_10 tape_10 taped_10 marks_10 order_10 reach_10 heapOf_10 rows_10 x_10 f costs_10 ways_10 digits_10 beaten_10 walks_10) ([] : va_W) [0, 1, 2, 3, 4, 5, 6, 7, 8, 9, 10, 11, 12, 13, 14, 15] [] := ⟨rfl, rfl, rfl, rfl, rfl, by decide⟩
            refine kc_i hP hD hS hA hs_22 (kV (As := []) (rest := [.int (nI b)]) hx hb hml hown hts hKW hP hD hs_22 (c_X10_n l D cI cJ cB q10 st_10 kept_10 undoable_10 newest_10 tape_10 taped_10 marks_10 order_10 reach_10 heapOf_10 rows_10 x_10 f costs_10 ways_10 digits_10 beaten_10 walks_10 n ml nx ks rr (by first | assumption | omega) (by first | assumption | omega)) (cwV 0 hts gX10_bound_X10_n rfl rfl rfl (by decide +kernel) ⟨Nat.le_of_ble_eq_true rfl, Nat.le_of_ble_eq_true rfl⟩) 0 10 rfl rfl rfl rfl hl.1 rfl (Nat.le_of_ble_eq_true rfl) dX10_bound_22 ⟨Nat.zero_le _, Nat.zero_le _⟩) (fun r_22 u_22 H locs hw_22 hP hD hS => ?_)
            have er_22 := hw_22
            have er_22 := er_22.symm
            subst er_22
            have hP : va_P D vwCl (wX10 q10 cI cJ cB st_10 kept_10 undoable_10 newest_10 tape_10 taped_10 marks_10 order_10 reach_10 heapOf_10 rows_10 x_10 f costs_10 ways_10 digits_10 beaten_10 walks_10) H := hP.sub (ws' := (wX10 q10 cI cJ cB st_10 kept_10 undoable_10 newest_10 tape_10 taped_10 marks_10 order_10 reach_10 heapOf_10 rows_10 x_10 f costs_10 ways_10 digits_10 beaten_10 walks_10)) [0, 1, 2, 3, 4, 5, 6, 7, 8, 9, 10, 11, 12, 13, 14, 15] rfl
            have hD : va_D A (wX10 q10 cI cJ cB st_10 kept_10 undoable_10 newest_10 tape_10 taped_10 marks_10 order_10 reach_10 heapOf_10 rows_10 x_10 f costs_10 ways_10 digits_10 beaten_10 walks_10) := hD.sub (ws' := (wX10 q10 cI cJ cB st_10 kept_10 undoable_10 newest_10 tape_10 taped_10 marks_10 order_10 reach_10 heapOf_10 rows_10 x_10 f costs_10 ways_10 digits_10 beaten_10 walks_10)) [0, 1, 2, 3, 4, 5, 6, 7, 8, 9, 10, 11, 12, 13, 14, 15] (by decide) rfl
            refine lv_icmp_ge (tgt := 74) hx hb dX10_bound_25 (by decide) (fun c_25 => ?_) (fun c_25 => ?_)
            · skip
              have c_25 := k_ge (by omega) (by omega) c_25
              refine lv_iinc (v := nI (a + 1)) (lv' := [(2, .int (nI (a + 1))), (0, .ref (q10 0)), (1, .int (nI sm)), (3, .int (nI b))]) hx hb dX10_bound_74 hl (k := 2) rfl (nI_add _ _) (by decide) rfl (fun ls hl => ?_)
              refine lv_goto (tgt := 8) hx hb dX10_bound_77 (by decide) ?_
              exact ih_8 _ _ o _ (by omega) hO ho (by rw [hb9, show n - b = 0 by omega]; rfl) (by omega) _ _ hP hD hS ls (lv_sub hl [1, 2, 0] rfl)
            · skip
              have c_25 := k_ge_n (by omega) (by omega) c_25
              refine lv_iload_n hx hb dX10_bound_28 rfl (lv_at hl 3 rfl) ?_
              refine lv_iconst (v := nI 1) hx hb dX10_bound_29 (by decide) ?_
              refine k_iadd hx hb dX10_bound_30 ?_
              refine lv_istore (lv' := [(4, .int (nI (b + 1))), (0, .ref (q10 0)), (1, .int (nI sm)), (2, .int (nI a)), (3, .int (nI b))]) hx hb dX10_bound_31 hl (by decide) rfl (fun ls hl => ?_)
              have hL_33 : ∀ (fu : Nat) (c2 : Nat) (sm : Nat) (o : Nat → Nat → Nat) (f : Nat → Int32) (hbc : b < c2) (hc2 : c2 ≤ n) (hO : ∀ x y, x < n → y < n → f (10 * x + y) = nI (o x y)) (ho : ∀ x y, o x y ≤ 120) (hb9 : bd1 n n 0 (0, fun a b => ov ml a b) = bd1 n (n - (a + 1)) (a + 1) (bd2 n a (n - (b + 1)) (b + 1) (bd3 a b (n - c2) c2 (sm, o)))), n - c2 < fu → ∀ (H : Heap) (locs : List Loc), va_P D vwCl (wX10 q10 cI cJ cB st_10 kept_10 undoable_10 newest_10 tape_10 taped_10 marks_10 order_10 reach_10 heapOf_10 rows_10 x_10 f costs_10 ways_10 digits_10 beaten_10 walks_10) H → va_D A (wX10 q10 cI cJ cB st_10 kept_10 undoable_10 newest_10 tape_10 taped_10 marks_10 order_10 reach_10 heapOf_10 rows_10 x_10 f costs_10 ways_10 digits_10 beaten_10 walks_10) → va_S A s.heap H locs → ∀ (ls : Array Slot), lv_has ls 5 [(0, .ref (q10 0)), (1, .int (nI sm)), (2, .int (nI a)), (3, .int (nI b)), (4, .int (nI c2))] → W p l e (headSpec wsX10_bound rmX10_bound).room s m args below meth c H locs 0 0 Q (F0 m 33 ls []) := by
                intro fu
                induction fu with
                | zero => intro c2 sm o f hbc hc2 hO ho hb9 hfu; exact absurd hfu (Nat.not_lt_zero _)
                | succ fu ih_33 =>
                  intro c2 sm o f hbc hc2 hO ho hb9 hfu H locs hP hD hS ls hl
                  refine lv_iload hx hb dX10_bound_33 (lv_at hl 4 rfl) ?_
                  refine lv_aload_n hx hb dX10_bound_35 rfl (lv_at hl 0 rfl) ?_
                  have hs_36 : kSplit (wX10 q10 cI cJ cB st_10 kept_10 undoable_10 newest_10 tape_10 taped_10 marks_10 order_10 reach_10 heapOf_10 rows_10 x_10 f costs_10 ways_10 digits_10 beaten_10 walks_10) (wX10 q10 cI cJ cB st_10 kept_10 undoable_10 newest_10 tape_10 taped_10 marks_10 order_10 reach_10 heapOf_10 rows_10 x_10 f costs_10 ways_10 digits_10 beaten_10 walks_10) ([] : va_W) [0, 1, 2, 3, 4, 5, 6, 7, 8, 9, 10, 11, 12, 13, 14, 15] [] := ⟨rfl, rfl, rfl, rfl, rfl, by decide⟩
                  refine kc_i hP hD hS hA hs_36 (kV (As := []) (rest := [.int (nI c2)]) hx hb hml hown hts hKW hP hD hs_36 (c_X10_n l D cI cJ cB q10 st_10 kept_10 undoable_10 newest_10 tape_10 taped_10 marks_10 order_10 reach_10 heapOf_10 rows_10 x_10 f costs_10 ways_10 digits_10 beaten_10 walks_10 n ml nx ks rr (by first | assumption | omega) (by first | assumption | omega)) (cwV 0 hts gX10_bound_X10_n rfl rfl rfl (by decide +kernel) ⟨Nat.le_of_ble_eq_true rfl, Nat.le_of_ble_eq_true rfl⟩) 0 10 rfl rfl rfl rfl hl.1 rfl (Nat.le_of_ble_eq_true rfl) dX10_bound_36 ⟨Nat.zero_le _, Nat.zero_le _⟩) (fun r_36 u_36 H locs hw_36 hP hD hS => ?_)
                  have er_36 := hw_36
                  have er_36 := er_36.symm
                  subst er_36
                  have hP : va_P D vwCl (wX10 q10 cI cJ cB st_10 kept_10 undoable_10 newest_10 tape_10 taped_10 marks_10 order_10 reach_10 heapOf_10 rows_10 x_10 f costs_10 ways_10 digits_10 beaten_10 walks_10) H := hP.sub (ws' := (wX10 q10 cI cJ cB st_10 kept_10 undoable_10 newest_10 tape_10 taped_10 marks_10 order_10 reach_10 heapOf_10 rows_10 x_10 f costs_10 ways_10 digits_10 beaten_10 walks_10)) [0, 1, 2, 3, 4, 5, 6, 7, 8, 9, 10, 11, 12, 13, 14, 15] rfl
                  have hD : va_D A (wX10 q10 cI cJ cB st_10 kept_10 undoable_10 newest_10 tape_10 taped_10 marks_10 order_10 reach_10 heapOf_10 rows_10 x_10 f costs_10 ways_10 digits_10 beaten_10 walks_10) := hD.sub (ws' := (wX10 q10 cI cJ cB st_10 kept_10 undoable_10 newest_10 tape_10 taped_10 marks_10 order_10 reach_10 heapOf_10 rows_10 x_10 f costs_10 ways_10 digits_10 beaten_10 walks_10)) [0, 1, 2, 3, 4, 5, 6, 7, 8, 9, 10, 11, 12, 13, 14, 15] (by decide) rfl
                  refine lv_icmp_ge (tgt := 68) hx hb dX10_bound_39 (by decide) (fun c_39 => ?_) (fun c_39 => ?_)
                  · skip
                    have c_39 := k_ge (by omega) (by omega) c_39
                    refine lv_iinc (v := nI (b + 1)) (lv' := [(3, .int (nI (b + 1))), (0, .ref (q10 0)), (1, .int (nI sm)), (2, .int (nI a)), (4, .int (nI c2))]) hx hb dX10_bound_68 hl (k := 3) rfl (nI_add _ _) (by decide) rfl (fun ls hl => ?_)
                    refine lv_goto (tgt := 20) hx hb dX10_bound_71 (by decide) ?_
                    exact ih_20 _ _ o _ (by omega) (by omega) hO ho (by rw [hb9, show n - c2 = 0 by omega]; rfl) (by omega) _ _ hP hD hS ls (lv_sub hl [1, 2, 3, 0] rfl)
                  · skip
                    have c_39 := k_ge_n (by omega) (by omega) c_39
                    refine lv_iload_n hx hb dX10_bound_42 rfl (lv_at hl 1 rfl) ?_
                    refine lv_aload_n hx hb dX10_bound_43 rfl (lv_at hl 0 rfl) ?_
                    refine lv_iload_n hx hb dX10_bound_44 rfl (lv_at hl 2 rfl) ?_
                    refine lv_iload_n hx hb dX10_bound_45 rfl (lv_at hl 3 rfl) ?_
                    refine lv_iload hx hb dX10_bound_46 (lv_at hl 4 rfl) ?_
                    have hs_48 : kSplit (wX10 q10 cI cJ cB st_10 kept_10 undoable_10 newest_10 tape_10 taped_10 marks_10 order_10 reach_10 heapOf_10 rows_10 x_10 f costs_10 ways_10 digits_10 beaten_10 walks_10) (wX10 q10 cI cJ cB st_10 kept_10 undoable_10 newest_10 tape_10 taped_10 marks_10 order_10 reach_10 heapOf_10 rows_10 x_10 f costs_10 ways_10 digits_10 beaten_10 walks_10) ([] : va_W) [0, 1, 2, 3, 4, 5, 6, 7, 8, 9, 10, 11, 12, 13, 14, 15] [] := ⟨rfl, rfl, rfl, rfl, rfl, by decide⟩
                    refine kc_i hP hD hS hA hs_48 (kV (As := [.int (nI a), .int (nI b), .int (nI c2)]) (rest := [.int (nI sm)]) hx hb hml hown hts hKW hP hD hs_48 (c_X10_ring l D cI cJ cB q10 st_10 kept_10 undoable_10 newest_10 tape_10 taped_10 marks_10 order_10 reach_10 heapOf_10 rows_10 x_10 f costs_10 ways_10 digits_10 beaten_10 walks_10 n ml nx ks rr o a b c2 (by first | assumption | omega) (by first | assumption | omega) (by first | assumption | omega) (by first | assumption | omega) (by first | assumption | omega) (by first | assumption | omega) (by first | assumption | omega) (by first | assumption | omega) (by first | assumption | omega) (by first | assumption | omega)) (cwV 3 hts gX10_bound_X10_ring rfl rfl rfl (by decide +kernel) ⟨Nat.le_of_ble_eq_true rfl, Nat.le_of_ble_eq_true rfl⟩) 0 10 rfl rfl rfl rfl hl.1 rfl (Nat.le_of_ble_eq_true rfl) dX10_bound_48 ⟨Nat.zero_le _, Nat.zero_le _⟩) (fun r_48 u_48 H locs hw_48 hP hD hS => ?_)
                    obtain ⟨f1, rfl⟩ : ∃ z, z = u_48 := ⟨_, rfl⟩
                    obtain ⟨er_48, hw_48⟩ := hw_48
                    have er_48 := er_48.symm
                    subst er_48
                    have hP : va_P D vwCl (wX10 q10 cI cJ cB st_10 kept_10 undoable_10 newest_10 tape_10 taped_10 marks_10 order_10 reach_10 heapOf_10 rows_10 x_10 f1 costs_10 ways_10 digits_10 beaten_10 walks_10) H := hP.sub (ws' := (wX10 q10 cI cJ cB st_10 kept_10 undoable_10 newest_10 tape_10 taped_10 marks_10 order_10 reach_10 heapOf_10 rows_10 x_10 f1 costs_10 ways_10 digits_10 beaten_10 walks_10)) [0, 1, 2, 3, 4, 5, 6, 7, 8, 9, 10, 11, 12, 13, 14, 15] rfl
                    have hD : va_D A (wX10 q10 cI cJ cB st_10 kept_10 undoable_10 newest_10 tape_10 taped_10 marks_10 order_10 reach_10 heapOf_10 rows_10 x_10 f1 costs_10 ways_10 digits_10 beaten_10 walks_10) := hD.sub (ws' := (wX10 q10 cI cJ cB st_10 kept_10 undoable_10 newest_10 tape_10 taped_10 marks_10 order_10 reach_10 heapOf_10 rows_10 x_10 f1 costs_10 ways_10 digits_10 beaten_10 walks_10)) [0, 1, 2, 3, 4, 5, 6, 7, 8, 9, 10, 11, 12, 13, 14, 15] (by decide) rfl
                    refine lv_aload_n hx hb dX10_bound_51 rfl (lv_at hl 0 rfl) ?_
                    refine lv_iload_n hx hb dX10_bound_52 rfl (lv_at hl 2 rfl) ?_
                    refine lv_iload hx hb dX10_bound_53 (lv_at hl 4 rfl) ?_
                    refine lv_iload_n hx hb dX10_bound_55 rfl (lv_at hl 3 rfl) ?_
                    have hs_56 : kSplit (wX10 q10 cI cJ cB st_10 kept_10 undoable_10 newest_10 tape_10 taped_10 marks_10 order_10 reach_10 heapOf_10 rows_10 x_10 f1 costs_10 ways_10 digits_10 beaten_10 walks_10) (wX10 q10 cI cJ cB st_10 kept_10 undoable_10 newest_10 tape_10 taped_10 marks_10 order_10 reach_10 heapOf_10 rows_10 x_10 f1 costs_10 ways_10 digits_10 beaten_10 walks_10) ([] : va_W) [0, 1, 2, 3, 4, 5, 6, 7, 8, 9, 10, 11, 12, 13, 14, 15] [] := ⟨rfl, rfl, rfl, rfl, rfl, by decide⟩
                    refine kc_i hP hD hS hA hs_56 (kV (As := [.int (nI a), .int (nI c2), .int (nI b)]) (rest := [.int (nI (ring3 o a b c2)), .int (nI sm)]) hx hb hml hown hts hKW hP hD hs_56 (c_X10_ring l D cI cJ cB q10 st_10 kept_10 undoable_10 newest_10 tape_10 taped_10 marks_10 order_10 reach_10 heapOf_10 rows_10 x_10 f1 costs_10 ways_10 digits_10 beaten_10 walks_10 n ml nx ks rr (ringO o a b c2) a c2 b (by first | assumption | omega) (by first | assumption | omega) hw_48 (ringO_le ho) (by first | assumption | omega) (by first | assumption | omega) (by first | assumption | omega) (by first | assumption | omega) (by first | assumption | omega) (by first | assumption | omega)) (cwV 3 hts gX10_bound_X10_ring rfl rfl rfl (by decide +kernel) ⟨Nat.le_of_ble_eq_true rfl, Nat.le_of_ble_eq_true rfl⟩) 0 10 rfl rfl rfl rfl hl.1 rfl (Nat.le_of_ble_eq_true rfl) dX10_bound_56 ⟨Nat.zero_le _, Nat.zero_le _⟩) (fun r_56 u_56 H locs hw_56 hP hD hS => ?_)
                    obtain ⟨f2, rfl⟩ : ∃ z, z = u_56 := ⟨_, rfl⟩
                    obtain ⟨er_56, hw_56⟩ := hw_56
                    have er_56 := er_56.symm
                    subst er_56
                    have hP : va_P D vwCl (wX10 q10 cI cJ cB st_10 kept_10 undoable_10 newest_10 tape_10 taped_10 marks_10 order_10 reach_10 heapOf_10 rows_10 x_10 f2 costs_10 ways_10 digits_10 beaten_10 walks_10) H := hP.sub (ws' := (wX10 q10 cI cJ cB st_10 kept_10 undoable_10 newest_10 tape_10 taped_10 marks_10 order_10 reach_10 heapOf_10 rows_10 x_10 f2 costs_10 ways_10 digits_10 beaten_10 walks_10)) [0, 1, 2, 3, 4, 5, 6, 7, 8, 9, 10, 11, 12, 13, 14, 15] rfl
                    have hD : va_D A (wX10 q10 cI cJ cB st_10 kept_10 undoable_10 newest_10 tape_10 taped_10 marks_10 order_10 reach_10 heapOf_10 rows_10 x_10 f2 costs_10 ways_10 digits_10 beaten_10 walks_10) := hD.sub (ws' := (wX10 q10 cI cJ cB st_10 kept_10 undoable_10 newest_10 tape_10 taped_10 marks_10 order_10 reach_10 heapOf_10 rows_10 x_10 f2 costs_10 ways_10 digits_10 beaten_10 walks_10)) [0, 1, 2, 3, 4, 5, 6, 7, 8, 9, 10, 11, 12, 13, 14, 15] (by decide) rfl
                    refine k_iadd hx hb dX10_bound_59 ?_
                    refine k_iadd hx hb dX10_bound_60 ?_
                    refine lv_istore_n (lv' := [(1, .int (nI (sm + ((ring3 o a b c2) + (ring3 (ringO o a b c2) a c2 b))))), (0, .ref (q10 0)), (2, .int (nI a)), (3, .int (nI b)), (4, .int (nI c2))]) hx hb dX10_bound_61 rfl hl (by decide) rfl (fun ls hl => ?_)
                    refine lv_iinc (v := nI (c2 + 1)) (lv' := [(4, .int (nI (c2 + 1))), (1, .int (nI (sm + ((ring3 o a b c2) + (ring3 (ringO o a b c2) a c2 b))))), (0, .ref (q10 0)), (2, .int (nI a)), (3, .int (nI b))]) hx hb dX10_bound_62 hl (k := 4) rfl (nI_add _ _) (by decide) rfl (fun ls hl => ?_)
                    refine lv_goto (tgt := 33) hx hb dX10_bound_65 (by decide) ?_
                    exact ih_33 _ _ (ringO (ringO o a b c2) a c2 b) _ (by omega) (by omega) hw_56 (ringO_le (ringO_le ho)) (by rw [hb9, show n - c2 = (n - (c2 + 1)) + 1 by omega]; exact congrArg (fun z => bd1 n (n - (a + 1)) (a + 1) (bd2 n a (n - (b + 1)) (b + 1) z)) bd3_s) (by omega) _ _ hP hD hS ls (lv_sub hl [2, 1, 3, 4, 0] rfl)
              exact hL_33 _ _ _ o _ (by omega) (by omega) hO ho (by rw [hb9, show n - b = (n - (b + 1)) + 1 by omega]; exact congrArg _ bd2_s) (Nat.lt_succ_self _) _ _ hP hD hS ls (lv_sub hl [1, 2, 3, 4, 0] rfl)
        exact hL_20 _ _ _ o _ (by omega) (by omega) hO ho (by rw [hb9, show n - a = (n - (a + 1)) + 1 by omega]; exact bd1_s) (Nat.lt_succ_self _) _ _ hP hD hS ls (lv_sub hl [1, 2, 3, 0] rfl)
  exact hL_8 _ 0 0 (fun a b => ov ml a b) _ (Nat.zero_le _) hw_1 (fun x y => Nat.le_trans (ov_le ml x y) hm120) rfl (Nat.lt_succ_self _) _ _ hP hD hS ls (lv_sub hl [2, 1, 0] rfl)
def rmX10_walks : Room := { frames := 4, cells := 0, slots := 0, locals := 89 }
set_option maxHeartbeats 4000000 in
set_option maxRecDepth 100000 in
theorem c_X10_walks (l : Launch) (D : va_G) (cI cJ cB : ClassId) (q10 : Nat → Nat) (st_10 : Nat → Int32) (kept_10 : Nat → Int32) (undoable_10 : Int32) (newest_10 : Int32) (tape_10 : Nat → Int32) (taped_10 : Int32) (marks_10 : Nat → Int32) (order_10 : Nat → Int32) (reach_10 : Nat → Int32) (heapOf_10 : Nat → Int32) (rows_10 : Nat → Int64) (x_10 : Nat → Int64) (overs_10 : Nat → Int32) (costs_10 : Nat → Int32) (ways_10 : Nat → Int32) (digits_10 : Nat → Int32) (beaten_10 : Nat → Int32) (walks_10 : Nat → Int32) (n : Nat) (ml : List Mt) (nx : List (Nat × Nat)) (ks : List Nat) (rr : Int32 × Int32 × Int32) (hR : RS st_10 n ml nx ks rr) (hV : VS n ml nx ks) : ∀ sz, Met l yX10_walks wsX10_walks rmX10_walks (va_Pc [.ref (q10 0)] (PW D (kT cI cJ cB) sz (wX10 q10 cI cJ cB st_10 kept_10 undoable_10 newest_10 tape_10 taped_10 marks_10 order_10 reach_10 heapOf_10 rows_10 x_10 overs_10 costs_10 ways_10 digits_10 beaten_10 walks_10))) (va_Qi (S := (Nat → Int32) × (Nat → Int32)) (fun r uu => match uu with | (beaten_10', walks_10') => ∃ W, WkOK (fun a => btF ml n a) n W (2 ^ n) ∧ r = sI (fun p => W (1024 * p + (2 ^ n - 1))) n) (QW D sz (wX10 q10 cI cJ cB st_10 kept_10 undoable_10 newest_10 tape_10 taped_10 marks_10 order_10 reach_10 heapOf_10 rows_10 x_10 overs_10 costs_10 ways_10 digits_10 beaten_10 walks_10) (fun uu => match uu with | (beaten_10', walks_10') => (wX10 q10 cI cJ cB st_10 kept_10 undoable_10 newest_10 tape_10 taped_10 marks_10 order_10 reach_10 heapOf_10 rows_10 x_10 overs_10 costs_10 ways_10 digits_10 beaten_10' walks_10'))) (va_A (wX10 q10 cI cJ cB st_10 kept_10 undoable_10 newest_10 tape_10 taped_10 marks_10 order_10 reach_10 heapOf_10 rows_10 x_10 overs_10 costs_10 ways_10 digits_10 beaten_10 walks_10) sz)) 0 0 (va_A (wX10 q10 cI cJ cB st_10 kept_10 undoable_10 newest_10 tape_10 taped_10 marks_10 order_10 reach_10 heapOf_10 rows_10 x_10 overs_10 costs_10 ways_10 digits_10 beaten_10 walks_10) sz) := by
  intro sz
  refine Met.ofW (cc := cX10_walks) (maxL := 6) (ret := (some .int)) (by decide) rfl ?_
  intro p e s m args below meth c s₁ B hml hv
  obtain ⟨hav, hsz, hP, hKW, hD0⟩ := hv
  have hx := B.exec
  have hb := B.bytes
  have hr := B.returns
  have hts := atoms_spec (ws := wsX10_walks) B.pre
  have hown : s.vm.findClass RX10 = some m.cls := findClass_of_methodNamed B.named
  have hlocks := B.notSynchronized
  subst hsz
  have hD := hD0.self (sz := s.heap.size)
  obtain ⟨A, hAe⟩ : ∃ A : Nat → Prop, A = va_A (wX10 q10 cI cJ cB st_10 kept_10 undoable_10 newest_10 tape_10 taped_10 marks_10 order_10 reach_10 heapOf_10 rows_10 x_10 overs_10 costs_10 ways_10 digits_10 beaten_10 walks_10) s.heap.size := ⟨_, rfl⟩
  rw [← hAe] at hD
  have hA : ∀ q : Nat, s.heap.size ≤ q → A q := fun q h => by rw [hAe]; exact Or.inr h
  have hS : va_S A s.heap s.heap [] := va_S.rf
  refine k_gen (fun Q hQ => ?_)
  have hl := lv_entry ([.ref (q10 0)]) (n := 6) (Nat.le_of_ble_eq_true rfl)
  refine k_entry hav (lg_entry_eq ..) ?_
  generalize (lg_sl ([.ref (q10 0)]) ++ List.replicate (6 - (lg_sl ([.ref (q10 0)])).length) Slot.unset).toArray = ls at hl ⊢
  have hl : lv_has ls 6 [(0, .ref (q10 0))] := hl
  have hu_10 : ∀ w ∈ u_ws RX10 TX10 18, w ∈ wsX10_walks := by decide +kernel
  have hf_50 : Cond.fieldLink RX10 50 "MeetingRanksModel" "beaten" "[I" ∈ wsX10_walks := by decide +kernel
  have hf_53 : Cond.fieldLink RX10 53 "MeetingRanksModel" "walks" "[I" ∈ wsX10_walks := by decide +kernel
  have hn1 := hV.1
  have hn10 := hV.2.1
  have hm120 := hV.2.2.1
  have hx40 := hV.2.2.2.2.1
  have hk4 := hV.2.2.2.2.2.2.1
  have h2n := pow_le_1024 hn10
  have h2p := Nat.two_pow_pos n
  refine lv_aload_n hx hb dX10_walks_0 rfl (lv_at hl 0 rfl) ?_
  have hs_1 : kSplit (wX10 q10 cI cJ cB st_10 kept_10 undoable_10 newest_10 tape_10 taped_10 marks_10 order_10 reach_10 heapOf_10 rows_10 x_10 overs_10 costs_10 ways_10 digits_10 beaten_10 walks_10) (wX10 q10 cI cJ cB st_10 kept_10 undoable_10 newest_10 tape_10 taped_10 marks_10 order_10 reach_10 heapOf_10 rows_10 x_10 overs_10 costs_10 ways_10 digits_10 beaten_10 walks_10) ([] : va_W) [0, 1, 2, 3, 4, 5, 6, 7, 8, 9, 10, 11, 12, 13, 14, 15] [] := ⟨rfl, rfl, rfl, rfl, rfl, by decide⟩
  refine kc_v hP hD hS hA hs_1 (kV (As := []) (rest := []) hx hb hml hown hts hKW hP hD hs_1 (c_X10_gatherBeaten l D cI cJ cB q10 st_10 kept_10 undoable_10 newest_10 tape_10 taped_10 marks_10 order_10 reach_10 heapOf_10 rows_10 x_10 overs_10 costs_10 ways_10 digits_10 beaten_10 walks_10 n ml nx ks rr (by first | assumption | omega) (by first | assumption | omega)) (cwV 0 hts gX10_walks_X10_gatherBeaten rfl rfl rfl (by decide +kernel) ⟨Nat.le_of_ble_eq_true rfl, Nat.le_of_ble_eq_true rfl⟩) 0 10 rfl rfl rfl rfl hl.1 rfl (Nat.le_of_ble_eq_true rfl) dX10_walks_1 ⟨Nat.zero_le _, Nat.zero_le _⟩) (fun u_1 H locs hw_1 hP hD hS => ?_)
  obtain ⟨beaten_10_1, rfl⟩ : ∃ z, z = u_1 := ⟨_, rfl⟩
  have hP : va_P D vwCl (wX10 q10 cI cJ cB st_10 kept_10 undoable_10 newest_10 tape_10 taped_10 marks_10 order_10 reach_10 heapOf_10 rows_10 x_10 overs_10 costs_10 ways_10 digits_10 beaten_10_1 walks_10) H := hP.sub (ws' := (wX10 q10 cI cJ cB st_10 kept_10 undoable_10 newest_10 tape_10 taped_10 marks_10 order_10 reach_10 heapOf_10 rows_10 x_10 overs_10 costs_10 ways_10 digits_10 beaten_10_1 walks_10)) [0, 1, 2, 3, 4, 5, 6, 7, 8, 9, 10, 11, 12, 13, 14, 15] rfl
  have hD : va_D A (wX10 q10 cI cJ cB st_10 kept_10 undoable_10 newest_10 tape_10 taped_10 marks_10 order_10 reach_10 heapOf_10 rows_10 x_10 overs_10 costs_10 ways_10 digits_10 beaten_10_1 walks_10) := hD.sub (ws' := (wX10 q10 cI cJ cB st_10 kept_10 undoable_10 newest_10 tape_10 taped_10 marks_10 order_10 reach_10 heapOf_10 rows_10 x_10 overs_10 costs_10 ways_10 digits_10 beaten_10_1 walks_10)) [0, 1, 2, 3, 4, 5, 6, 7, 8, 9, 10, 11, 12, 13, 14, 15] (by decide) rfl
  refine lv_iconst (v := nI 0) hx hb dX10_walks_4 (by decide) ?_
  refine lv_istore_n (lv' := [(1, .int (nI 0)), (0, .ref (q10 0))]) hx hb dX10_walks_5 rfl hl (by decide) rfl (fun ls hl => ?_)
  refine lv_iconst (v := nI 1) hx hb dX10_walks_6 (by decide) ?_
  refine lv_istore_n (lv' := [(2, .int (nI 1)), (1, .int (nI 0)), (0, .ref (q10 0))]) hx hb dX10_walks_7 rfl hl (by decide) rfl (fun ls hl => ?_)
  have hL_8 : ∀ (fu : Nat) (s2 : Nat) (W1 : Nat → Int32) (v : Int32) (hs1 : 1 ≤ s2) (hs2 : s2 ≤ 2 ^ n) (hW : WkOK (fun a => btF ml n a) n W1 s2) (hv : v = if s2 = 2 ^ n then sI (fun p => W1 (1024 * p + (2 ^ n - 1))) n else 0), 2 ^ n - s2 < fu → ∀ (H : Heap) (locs : List Loc), va_P D vwCl (wX10 q10 cI cJ cB st_10 kept_10 undoable_10 newest_10 tape_10 taped_10 marks_10 order_10 reach_10 heapOf_10 rows_10 x_10 overs_10 costs_10 ways_10 digits_10 beaten_10_1 W1) H → va_D A (wX10 q10 cI cJ cB st_10 kept_10 undoable_10 newest_10 tape_10 taped_10 marks_10 order_10 reach_10 heapOf_10 rows_10 x_10 overs_10 costs_10 ways_10 digits_10 beaten_10_1 W1) → va_S A s.heap H locs → ∀ (ls : Array Slot), lv_has ls 6 [(0, .ref (q10 0)), (1, .int v), (2, .int (nI s2))] → W p l e (headSpec wsX10_walks rmX10_walks).room s m args below meth c H locs 0 0 Q (F0 m 8 ls []) := by
    intro fu
    induction fu with
    | zero => intro s2 W1 v hs1 hs2 hW hv hfu; exact absurd hfu (Nat.not_lt_zero _)
    | succ fu ih_8 =>
      intro s2 W1 v hs1 hs2 hW hv hfu H locs hP hD hS ls hl
      refine lv_iload_n hx hb dX10_walks_8 rfl (lv_at hl 2 rfl) ?_
      refine lv_iconst (v := nI 1) hx hb dX10_walks_9 (by decide) ?_
      refine lv_aload_n hx hb dX10_walks_10 rfl (lv_at hl 0 rfl) ?_
      have hs_11 : kSplit (wX10 q10 cI cJ cB st_10 kept_10 undoable_10 newest_10 tape_10 taped_10 marks_10 order_10 reach_10 heapOf_10 rows_10 x_10 overs_10 costs_10 ways_10 digits_10 beaten_10_1 W1) (wX10 q10 cI cJ cB st_10 kept_10 undoable_10 newest_10 tape_10 taped_10 marks_10 order_10 reach_10 heapOf_10 rows_10 x_10 overs_10 costs_10 ways_10 digits_10 beaten_10_1 W1) ([] : va_W) [0, 1, 2, 3, 4, 5, 6, 7, 8, 9, 10, 11, 12, 13, 14, 15] [] := ⟨rfl, rfl, rfl, rfl, rfl, by decide⟩
      refine kc_i hP hD hS hA hs_11 (kV (As := []) (rest := [.int (nI 1), .int (nI s2)]) hx hb hml hown hts hKW hP hD hs_11 (c_X10_n l D cI cJ cB q10 st_10 kept_10 undoable_10 newest_10 tape_10 taped_10 marks_10 order_10 reach_10 heapOf_10 rows_10 x_10 overs_10 costs_10 ways_10 digits_10 beaten_10_1 W1 n ml nx ks rr (by first | assumption | omega) (by first | assumption | omega)) (cwV 0 hts gX10_walks_X10_n rfl rfl rfl (by decide +kernel) ⟨Nat.le_of_ble_eq_true rfl, Nat.le_of_ble_eq_true rfl⟩) 0 10 rfl rfl rfl rfl hl.1 rfl (Nat.le_of_ble_eq_true rfl) dX10_walks_11 ⟨Nat.zero_le _, Nat.zero_le _⟩) (fun r_11 u_11 H locs hw_11 hP hD hS => ?_)
      have er_11 := hw_11
      have er_11 := er_11.symm
      subst er_11
      have hP : va_P D vwCl (wX10 q10 cI cJ cB st_10 kept_10 undoable_10 newest_10 tape_10 taped_10 marks_10 order_10 reach_10 heapOf_10 rows_10 x_10 overs_10 costs_10 ways_10 digits_10 beaten_10_1 W1) H := hP.sub (ws' := (wX10 q10 cI cJ cB st_10 kept_10 undoable_10 newest_10 tape_10 taped_10 marks_10 order_10 reach_10 heapOf_10 rows_10 x_10 overs_10 costs_10 ways_10 digits_10 beaten_10_1 W1)) [0, 1, 2, 3, 4, 5, 6, 7, 8, 9, 10, 11, 12, 13, 14, 15] rfl
      have hD : va_D A (wX10 q10 cI cJ cB st_10 kept_10 undoable_10 newest_10 tape_10 taped_10 marks_10 order_10 reach_10 heapOf_10 rows_10 x_10 overs_10 costs_10 ways_10 digits_10 beaten_10_1 W1) := hD.sub (ws' := (wX10 q10 cI cJ cB st_10 kept_10 undoable_10 newest_10 tape_10 taped_10 marks_10 order_10 reach_10 heapOf_10 rows_10 x_10 overs_10 costs_10 ways_10 digits_10 beaten_10_1 W1)) [0, 1, 2, 3, 4, 5, 6, 7, 8, 9, 10, 11, 12, 13, 14, 15] (by decide) rfl
      refine lv_ishl hx hb dX10_walks_14 ?_
      refine k_top (y := nI (2 ^ n)) (k_shl1 (by omega)) ?_
      refine lv_icmp_ge (tgt := 177) hx hb dX10_walks_15 (by decide) (fun c_15 => ?_) (fun c_15 => ?_)
      · skip
        have c_15 := k_ge (by omega) (by omega) c_15
        obtain rfl : s2 = 2 ^ n := by omega
        refine lv_iload_n hx hb dX10_walks_177 rfl (lv_at hl 1 rfl) ?_
        subst hQ; subst hAe
        exact W.iret (v := v) hx hb hr (fun t ht _ => ⟨⟨v, (beaten_10_1, W1), rfl, ⟨_, hW, by rw [hv, if_pos rfl]⟩, by rw [ht]; exact hP, hD⟩, hS.F ht⟩) hS.2.2 dX10_walks_178
      · skip
        have c_15 := k_ge_n (by omega) (by omega) c_15
        refine lv_iconst (v := nI 0) hx hb dX10_walks_18 (by decide) ?_
        refine lv_istore_n (lv' := [(3, .int (nI 0)), (0, .ref (q10 0)), (1, .int v), (2, .int (nI s2))]) hx hb dX10_walks_19 rfl hl (by decide) rfl (fun ls hl => ?_)
        have hL_20 : ∀ (fu : Nat) (p1 : Nat) (W2 : Nat → Int32) (v2 : Int32) (hp1 : p1 ≤ n) (hW2 : WkOK (fun a => btF ml n a) n W2 s2) (hWp : ∀ x, x < p1 → W2 (1024 * x + s2) = wkV (fun a => btF ml n a) n W2 s2 x) (hv2 : v2 = if s2 = 2 ^ n - 1 then sI (fun p => W2 (1024 * p + (2 ^ n - 1))) p1 else 0), n - p1 < fu → ∀ (H : Heap) (locs : List Loc), va_P D vwCl (wX10 q10 cI cJ cB st_10 kept_10 undoable_10 newest_10 tape_10 taped_10 marks_10 order_10 reach_10 heapOf_10 rows_10 x_10 overs_10 costs_10 ways_10 digits_10 beaten_10_1 W2) H → va_D A (wX10 q10 cI cJ cB st_10 kept_10 undoable_10 newest_10 tape_10 taped_10 marks_10 order_10 reach_10 heapOf_10 rows_10 x_10 overs_10 costs_10 ways_10 digits_10 beaten_10_1 W2) → va_S A s.heap H locs → ∀ (ls : Array Slot), lv_has ls 6 [(0, .ref (q10 0)), (1, .int v2), (2, .int (nI s2)), (3, .int (nI p1))] → W p l e (headSpec wsX10_walks rmX10_walks).room s m args below meth c H locs 0 0 Q (F0 m 20 ls []) := by
          intro fu
          induction fu with
          | zero => intro p1 W2 v2 hp1 hW2 hWp hv2 hfu; exact absurd hfu (Nat.not_lt_zero _)
          | succ fu ih_20 =>
            intro p1 W2 v2 hp1 hW2 hWp hv2 hfu H locs hP hD hS ls hl
            refine lv_iload_n hx hb dX10_walks_20 rfl (lv_at hl 3 rfl) ?_
            refine lv_aload_n hx hb dX10_walks_21 rfl (lv_at hl 0 rfl) ?_
            have hs_22 : kSplit (wX10 q10 cI cJ cB st_10 kept_10 undoable_10 newest_10 tape_10 taped_10 marks_10 order_10 reach_10 heapOf_10 rows_10 x_10 overs_10 costs_10 ways_10 digits_10 beaten_10_1 W2) (wX10 q10 cI cJ cB st_10 kept_10 undoable_10 newest_10 tape_10 taped_10 marks_10 order_10 reach_10 heapOf_10 rows_10 x_10 overs_10 costs_10 ways_10 digits_10 beaten_10_1 W2) ([] : va_W) [0, 1, 2, 3, 4, 5, 6, 7, 8, 9, 10, 11, 12, 13, 14, 15] [] := ⟨rfl, rfl, rfl, rfl, rfl, by decide⟩
            refine kc_i hP hD hS hA hs_22 (kV (As := []) (rest := [.int (nI p1)]) hx hb hml hown hts hKW hP hD hs_22 (c_X10_n l D cI cJ cB q10 st_10 kept_10 undoable_10 newest_10 tape_10 taped_10 marks_10 order_10 reach_10 heapOf_10 rows_10 x_10 overs_10 costs_10 ways_10 digits_10 beaten_10_1 W2 n ml nx ks rr (by first | assumption | omega) (by first | assumption | omega)) (cwV 0 hts gX10_walks_X10_n rfl rfl rfl (by decide +kernel) ⟨Nat.le_of_ble_eq_true rfl, Nat.le_of_ble_eq_true rfl⟩) 0 10 rfl rfl rfl rfl hl.1 rfl (Nat.le_of_ble_eq_true rfl) dX10_walks_22 ⟨Nat.zero_le _, Nat.zero_le _⟩) (fun r_22 u_22 H locs hw_22 hP hD hS => ?_)
            have er_22 := hw_22
            have er_22 := er_22.symm
            subst er_22
            have hP : va_P D vwCl (wX10 q10 cI cJ cB st_10 kept_10 undoable_10 newest_10 tape_10 taped_10 marks_10 order_10 reach_10 heapOf_10 rows_10 x_10 overs_10 costs_10 ways_10 digits_10 beaten_10_1 W2) H := hP.sub (ws' := (wX10 q10 cI cJ cB st_10 kept_10 undoable_10 newest_10 tape_10 taped_10 marks_10 order_10 reach_10 heapOf_10 rows_10 x_10 overs_10 costs_10 ways_10 digits_10 beaten_10_1 W2)) [0, 1, 2, 3, 4, 5, 6, 7, 8, 9, 10, 11, 12, 13, 14, 15] rfl
            have hD : va_D A (wX10 q10 cI cJ cB st_10 kept_10 undoable_10 newest_10 tape_10 taped_10 marks_10 order_10 reach_10 heapOf_10 rows_10 x_10 overs_10 costs_10 ways_10 digits_10 beaten_10_1 W2) := hD.sub (ws' := (wX10 q10 cI cJ cB st_10 kept_10 undoable_10 newest_10 tape_10 taped_10 marks_10 order_10 reach_10 heapOf_10 rows_10 x_10 overs_10 costs_10 ways_10 digits_10 beaten_10_1 W2)) [0, 1, 2, 3, 4, 5, 6, 7, 8, 9, 10, 11, 12, 13, 14, 15] (by decide) rfl
            refine lv_icmp_ge (tgt := 171) hx hb dX10_walks_25 (by decide) (fun c_25 => ?_) (fun c_25 => ?_)
            · skip
              have c_25 := k_ge (by omega) (by omega) c_25
              obtain rfl : n = p1 := by omega
              refine lv_iinc (v := nI (s2 + 1)) (lv' := [(2, .int (nI (s2 + 1))), (0, .ref (q10 0)), (1, .int v2), (3, .int (nI n))]) hx hb dX10_walks_171 hl (k := 2) rfl (nI_add _ _) (by decide) rfl (fun ls hl => ?_)
              refine lv_goto (tgt := 8) hx hb dX10_walks_174 (by decide) ?_
              exact ih_8 _ _ _ (by omega) (by omega) (fun s9 h1 h2 p9 hp9 => by by_cases e9 : s9 = s2; (subst e9; exact hWp p9 (by omega)); (exact hW2 s9 h1 (by omega) p9 hp9)) (by rw [hv2]; by_cases e9 : s2 = 2 ^ n - 1; (subst e9; rw [if_pos rfl, if_pos (by omega)]); (rw [if_neg e9, if_neg (by omega)])) (by omega) _ _ hP hD hS ls (lv_sub hl [1, 2, 0] rfl)
            · skip
              have c_25 := k_ge_n (by omega) (by omega) c_25
              have hp512 := pow_lt_1024 (n := p1) (by omega)
              refine lv_sipush (v := nI 1024) hx hb dX10_walks_28 (by decide) ?_
              refine lv_iload_n hx hb dX10_walks_31 rfl (lv_at hl 3 rfl) ?_
              refine k_imul hx hb dX10_walks_32 ?_
              refine lv_iload_n hx hb dX10_walks_33 rfl (lv_at hl 2 rfl) ?_
              refine k_iadd hx hb dX10_walks_34 ?_
              refine lv_istore (lv' := [(4, .int (nI ((1024 * p1) + s2))), (0, .ref (q10 0)), (1, .int v2), (2, .int (nI s2)), (3, .int (nI p1))]) hx hb dX10_walks_35 hl (by decide) rfl (fun ls hl => ?_)
              refine lv_aload_n hx hb dX10_walks_37 rfl (lv_at hl 1 rfl) ?_
              refine k_get (ci := 10) (v := .ref (q10 15)) (C := RX10) (Tb := TX10) (N := 18) hx hb hts hu_10 hown hKW hP 0 rfl rfl 17 (by decide) hf_53 rfl rfl dX10_walks_38 ?_
              refine lv_iload hx hb dX10_walks_41 (lv_at hl 0 rfl) ?_
              refine lv_iload_n hx hb dX10_walks_43 rfl (lv_at hl 3 rfl) ?_
              refine lv_iconst (v := nI 1) hx hb dX10_walks_44 (by decide) ?_
              refine lv_iload_n hx hb dX10_walks_45 rfl (lv_at hl 4 rfl) ?_
              refine lv_ishl hx hb dX10_walks_46 ?_
              refine k_top (y := nI (2 ^ p1)) (k_shl1 (by omega)) ?_
              refine lv_icmp_ne (tgt := 54) hx hb dX10_walks_47 (by decide) (fun c_47 => ?_) (fun c_47 => ?_)
              · skip
                have c_47 := k_ne (by omega) (by omega) c_47
                refine lv_iconst (v := nI 0) hx hb dX10_walks_54 (by decide) ?_
                refine k_iast (n := 10240) (i := (1024 * p1) + s2) (x := nI 0) (w' := (wX10 q10 cI cJ cB st_10 kept_10 undoable_10 newest_10 tape_10 taped_10 marks_10 order_10 reach_10 heapOf_10 rows_10 x_10 overs_10 costs_10 ways_10 digits_10 beaten_10_1 (upd W2 ((1024 * p1) + s2) (nI 0)))) hx hb hKW hP hD hS 15 0 rfl rfl (by omega) (by omega) dX10_walks_55 rfl (fun H locs hP hD hS => ?_)
                have hJ_143 : ∀ (acc : Int32) (hav9 : acc = wkV (fun a => btF ml n a) n W2 s2 p1), ∀ (H : Heap) (locs : List Loc), va_P D vwCl (wX10 q10 cI cJ cB st_10 kept_10 undoable_10 newest_10 tape_10 taped_10 marks_10 order_10 reach_10 heapOf_10 rows_10 x_10 overs_10 costs_10 ways_10 digits_10 beaten_10_1 (upd W2 (1024 * p1 + s2) acc)) H → va_D A (wX10 q10 cI cJ cB st_10 kept_10 undoable_10 newest_10 tape_10 taped_10 marks_10 order_10 reach_10 heapOf_10 rows_10 x_10 overs_10 costs_10 ways_10 digits_10 beaten_10_1 (upd W2 (1024 * p1 + s2) acc)) → va_S A s.heap H locs → ∀ (ls : Array Slot), lv_has ls 6 [(0, .ref (q10 0)), (1, .int v2), (2, .int (nI s2)), (3, .int (nI p1)), (4, .int (nI ((1024 * p1) + s2)))] → W p l e (headSpec wsX10_walks rmX10_walks).room s m args below meth c H locs 0 0 Q (F0 m 143 ls []) := by
                  intro acc hav9 H locs hP hD hS ls hl
                  refine lv_iload_n hx hb dX10_walks_143 rfl (lv_at hl 2 rfl) ?_
                  refine lv_iconst (v := nI 1) hx hb dX10_walks_144 (by decide) ?_
                  refine lv_aload_n hx hb dX10_walks_145 rfl (lv_at hl 0 rfl) ?_
                  have hs_146 : kSplit (wX10 q10 cI cJ cB st_10 kept_10 undoable_10 newest_10 tape_10 taped_10 marks_10 order_10 reach_10 heapOf_10 rows_10 x_10 overs_10 costs_10 ways_10 digits_10 beaten_10_1 (upd W2 (1024 * p1 + s2) acc)) (wX10 q10 cI cJ cB st_10 kept_10 undoable_10 newest_10 tape_10 taped_10 marks_10 order_10 reach_10 heapOf_10 rows_10 x_10 overs_10 costs_10 ways_10 digits_10 beaten_10_1 (upd W2 (1024 * p1 + s2) acc)) ([] : va_W) [0, 1, 2, 3, 4, 5, 6, 7, 8, 9, 10, 11, 12, 13, 14, 15] [] := ⟨rfl, rfl, rfl, rfl, rfl, by decide⟩
                  refine kc_i hP hD hS hA hs_146 (kV (As := []) (rest := [.int (nI 1), .int (nI s2)]) hx hb hml hown hts hKW hP hD hs_146 (c_X10_n l D cI cJ cB q10 st_10 kept_10 undoable_10 newest_10 tape_10 taped_10 marks_10 order_10 reach_10 heapOf_10 rows_10 x_10 overs_10 costs_10 ways_10 digits_10 beaten_10_1 (upd W2 (1024 * p1 + s2) acc) n ml nx ks rr (by first | assumption | omega) (by first | assumption | omega)) (cwV 0 hts gX10_walks_X10_n rfl rfl rfl (by decide +kernel) ⟨Nat.le_of_ble_eq_true rfl, Nat.le_of_ble_eq_true rfl⟩) 0 10 rfl rfl rfl rfl hl.1 rfl (Nat.le_of_ble_eq_true rfl) dX10_walks_146 ⟨Nat.zero_le _, Nat.zero_le _⟩) (fun r_146 u_146 H locs hw_146 hP hD hS => ?_)
                  have er_146 := hw_146
                  have er_146 := er_146.symm
                  subst er_146
                  have hP : va_P D vwCl (wX10 q10 cI cJ cB st_10 kept_10 undoable_10 newest_10 tape_10 taped_10 marks_10 order_10 reach_10 heapOf_10 rows_10 x_10 overs_10 costs_10 ways_10 digits_10 beaten_10_1 (upd W2 (1024 * p1 + s2) acc)) H := hP.sub (ws' := (wX10 q10 cI cJ cB st_10 kept_10 undoable_10 newest_10 tape_10 taped_10 marks_10 order_10 reach_10 heapOf_10 rows_10 x_10 overs_10 costs_10 ways_10 digits_10 beaten_10_1 (upd W2 (1024 * p1 + s2) acc))) [0, 1, 2, 3, 4, 5, 6, 7, 8, 9, 10, 11, 12, 13, 14, 15] rfl
                  have hD : va_D A (wX10 q10 cI cJ cB st_10 kept_10 undoable_10 newest_10 tape_10 taped_10 marks_10 order_10 reach_10 heapOf_10 rows_10 x_10 overs_10 costs_10 ways_10 digits_10 beaten_10_1 (upd W2 (1024 * p1 + s2) acc)) := hD.sub (ws' := (wX10 q10 cI cJ cB st_10 kept_10 undoable_10 newest_10 tape_10 taped_10 marks_10 order_10 reach_10 heapOf_10 rows_10 x_10 overs_10 costs_10 ways_10 digits_10 beaten_10_1 (upd W2 (1024 * p1 + s2) acc))) [0, 1, 2, 3, 4, 5, 6, 7, 8, 9, 10, 11, 12, 13, 14, 15] (by decide) rfl
                  refine lv_ishl hx hb dX10_walks_149 ?_
                  refine k_top (y := nI (2 ^ n)) (k_shl1 (by omega)) ?_
                  refine lv_iconst (v := nI 1) hx hb dX10_walks_150 (by decide) ?_
                  refine k_isub hx hb (by omega) dX10_walks_151 ?_
                  refine lv_icmp_ne (tgt := 165) hx hb dX10_walks_152 (by decide) (fun c_152 => ?_) (fun c_152 => ?_)
                  · skip
                    have c_152 := k_ne (by omega) (by omega) c_152
                    refine lv_iinc (v := nI (p1 + 1)) (lv' := [(3, .int (nI (p1 + 1))), (0, .ref (q10 0)), (1, .int v2), (2, .int (nI s2)), (4, .int (nI ((1024 * p1) + s2)))]) hx hb dX10_walks_165 hl (k := 3) rfl (nI_add _ _) (by decide) rfl (fun ls hl => ?_)
                    refine lv_goto (tgt := 20) hx hb dX10_walks_168 (by decide) ?_
                    exact ih_20 _ _ _ (by omega) (WkOK_upd (by omega) hW2) (fun x hx9 => by rw [wkV_upd (Nat.le_refl _) (by omega) hs1]; by_cases e9 : x = p1; (subst e9; rw [pk_us, hav9]); (rw [pk_un (by omega)]; exact hWp x (by omega))) (by rw [hv2, if_neg c_152, if_neg c_152]) (by omega) _ _ hP hD hS ls (lv_sub hl [1, 2, 3, 0] rfl)
                  · skip
                    have c_152 := k_ne_n (by omega) (by omega) c_152
                    refine lv_iload_n hx hb dX10_walks_155 rfl (lv_at hl 1 rfl) ?_
                    refine lv_aload_n hx hb dX10_walks_156 rfl (lv_at hl 0 rfl) ?_
                    refine k_get (ci := 10) (v := .ref (q10 15)) (C := RX10) (Tb := TX10) (N := 18) hx hb hts hu_10 hown hKW hP 0 rfl rfl 17 (by decide) hf_53 rfl rfl dX10_walks_157 ?_
                    refine lv_iload hx hb dX10_walks_160 (lv_at hl 4 rfl) ?_
                    refine k_iald (n := 10240) (i := (1024 * p1) + s2) hx hb hKW hP 15 0 rfl rfl (by omega) (by omega) dX10_walks_162 ?_
                    refine k_top (y := wkV (fun a => btF ml n a) n W2 s2 p1) (by rw [pk_us, hav9]) ?_
                    refine lv_iadd hx hb dX10_walks_163 ?_
                    refine lv_istore_n (lv' := [(1, .int (v2 + (wkV (fun a => btF ml n a) n W2 s2 p1))), (0, .ref (q10 0)), (2, .int (nI s2)), (3, .int (nI p1)), (4, .int (nI ((1024 * p1) + s2)))]) hx hb dX10_walks_164 rfl hl (by decide) rfl (fun ls hl => ?_)
                    refine lv_iinc (v := nI (p1 + 1)) (lv' := [(3, .int (nI (p1 + 1))), (1, .int (v2 + (wkV (fun a => btF ml n a) n W2 s2 p1))), (0, .ref (q10 0)), (2, .int (nI s2)), (4, .int (nI ((1024 * p1) + s2)))]) hx hb dX10_walks_165 hl (k := 3) rfl (nI_add _ _) (by decide) rfl (fun ls hl => ?_)
                    refine lv_goto (tgt := 20) hx hb dX10_walks_168 (by decide) ?_
                    exact ih_20 _ _ _ (by omega) (WkOK_upd (by omega) hW2) (fun x hx9 => by rw [wkV_upd (Nat.le_refl _) (by omega) hs1]; by_cases e9 : x = p1; (subst e9; rw [pk_us, hav9]); (rw [pk_un (by omega)]; exact hWp x (by omega))) (by rw [hv2, if_pos c_152, if_pos c_152, ← c_152]; exact wk_last hav9) (by omega) _ _ hP hD hS ls (lv_sub hl [2, 1, 3, 0] rfl)
                refine lv_iconst (v := nI 0) hx hb dX10_walks_56 (by decide) ?_
                refine lv_istore (lv' := [(5, .int (nI 0)), (4, .int (nI ((1024 * p1) + s2))), (0, .ref (q10 0)), (1, .int v2), (2, .int (nI s2)), (3, .int (nI p1))]) hx hb dX10_walks_57 hl (by decide) rfl (fun ls hl => ?_)
                have hL_59 : ∀ (fu : Nat) (q : Nat) (acc : Int32) (hq : q ≤ n) (hacc : acc = if s2.testBit p1 = true then wkS (fun a => btF ml n a) W2 s2 p1 q else (if s2 = 2 ^ p1 then nI 1 else nI 0)), n - q < fu → ∀ (H : Heap) (locs : List Loc), va_P D vwCl (wX10 q10 cI cJ cB st_10 kept_10 undoable_10 newest_10 tape_10 taped_10 marks_10 order_10 reach_10 heapOf_10 rows_10 x_10 overs_10 costs_10 ways_10 digits_10 beaten_10_1 (upd W2 (1024 * p1 + s2) acc)) H → va_D A (wX10 q10 cI cJ cB st_10 kept_10 undoable_10 newest_10 tape_10 taped_10 marks_10 order_10 reach_10 heapOf_10 rows_10 x_10 overs_10 costs_10 ways_10 digits_10 beaten_10_1 (upd W2 (1024 * p1 + s2) acc)) → va_S A s.heap H locs → ∀ (ls : Array Slot), lv_has ls 6 [(0, .ref (q10 0)), (1, .int v2), (2, .int (nI s2)), (3, .int (nI p1)), (4, .int (nI ((1024 * p1) + s2))), (5, .int (nI q))] → W p l e (headSpec wsX10_walks rmX10_walks).room s m args below meth c H locs 0 0 Q (F0 m 59 ls []) := by
                  intro fu
                  induction fu with
                  | zero => intro q acc hq hacc hfu; exact absurd hfu (Nat.not_lt_zero _)
                  | succ fu ih_59 =>
                    intro q acc hq hacc hfu H locs hP hD hS ls hl
                    refine lv_iload hx hb dX10_walks_59 (lv_at hl 5 rfl) ?_
                    refine lv_aload_n hx hb dX10_walks_61 rfl (lv_at hl 0 rfl) ?_
                    have hs_62 : kSplit (wX10 q10 cI cJ cB st_10 kept_10 undoable_10 newest_10 tape_10 taped_10 marks_10 order_10 reach_10 heapOf_10 rows_10 x_10 overs_10 costs_10 ways_10 digits_10 beaten_10_1 (upd W2 (1024 * p1 + s2) acc)) (wX10 q10 cI cJ cB st_10 kept_10 undoable_10 newest_10 tape_10 taped_10 marks_10 order_10 reach_10 heapOf_10 rows_10 x_10 overs_10 costs_10 ways_10 digits_10 beaten_10_1 (upd W2 (1024 * p1 + s2) acc)) ([] : va_W) [0, 1, 2, 3, 4, 5, 6, 7, 8, 9, 10, 11, 12, 13, 14, 15] [] := ⟨rfl, rfl, rfl, rfl, rfl, by decide⟩
                    refine kc_i hP hD hS hA hs_62 (kV (As := []) (rest := [.int (nI q)]) hx hb hml hown hts hKW hP hD hs_62 (c_X10_n l D cI cJ cB q10 st_10 kept_10 undoable_10 newest_10 tape_10 taped_10 marks_10 order_10 reach_10 heapOf_10 rows_10 x_10 overs_10 costs_10 ways_10 digits_10 beaten_10_1 (upd W2 (1024 * p1 + s2) acc) n ml nx ks rr (by first | assumption | omega) (by first | assumption | omega)) (cwV 0 hts gX10_walks_X10_n rfl rfl rfl (by decide +kernel) ⟨Nat.le_of_ble_eq_true rfl, Nat.le_of_ble_eq_true rfl⟩) 0 10 rfl rfl rfl rfl hl.1 rfl (Nat.le_of_ble_eq_true rfl) dX10_walks_62 ⟨Nat.zero_le _, Nat.zero_le _⟩) (fun r_62 u_62 H locs hw_62 hP hD hS => ?_)
                    have er_62 := hw_62
                    have er_62 := er_62.symm
                    subst er_62
                    have hP : va_P D vwCl (wX10 q10 cI cJ cB st_10 kept_10 undoable_10 newest_10 tape_10 taped_10 marks_10 order_10 reach_10 heapOf_10 rows_10 x_10 overs_10 costs_10 ways_10 digits_10 beaten_10_1 (upd W2 (1024 * p1 + s2) acc)) H := hP.sub (ws' := (wX10 q10 cI cJ cB st_10 kept_10 undoable_10 newest_10 tape_10 taped_10 marks_10 order_10 reach_10 heapOf_10 rows_10 x_10 overs_10 costs_10 ways_10 digits_10 beaten_10_1 (upd W2 (1024 * p1 + s2) acc))) [0, 1, 2, 3, 4, 5, 6, 7, 8, 9, 10, 11, 12, 13, 14, 15] rfl
                    have hD : va_D A (wX10 q10 cI cJ cB st_10 kept_10 undoable_10 newest_10 tape_10 taped_10 marks_10 order_10 reach_10 heapOf_10 rows_10 x_10 overs_10 costs_10 ways_10 digits_10 beaten_10_1 (upd W2 (1024 * p1 + s2) acc)) := hD.sub (ws' := (wX10 q10 cI cJ cB st_10 kept_10 undoable_10 newest_10 tape_10 taped_10 marks_10 order_10 reach_10 heapOf_10 rows_10 x_10 overs_10 costs_10 ways_10 digits_10 beaten_10_1 (upd W2 (1024 * p1 + s2) acc))) [0, 1, 2, 3, 4, 5, 6, 7, 8, 9, 10, 11, 12, 13, 14, 15] (by decide) rfl
                    refine lv_icmp_ge (tgt := 143) hx hb dX10_walks_65 (by decide) (fun c_65 => ?_) (fun c_65 => ?_)
                    · skip
                      have c_65 := k_ge (by omega) (by omega) c_65
                      exact hJ_143 _ (by unfold wkV; rw [hacc, show q = n by omega]) _ _ hP hD hS ls (lv_sub hl [0, 1, 2, 3, 4] rfl)
                    · skip
                      have c_65 := k_ge_n (by omega) (by omega) c_65
                      refine lv_iload_n hx hb dX10_walks_68 rfl (lv_at hl 2 rfl) ?_
                      refine lv_iload_n hx hb dX10_walks_69 rfl (lv_at hl 3 rfl) ?_
                      refine lv_ishr hx hb dX10_walks_70 ?_
                      refine k_top (y := nI (s2 / 2 ^ p1)) (k_shr (by omega) (by omega)) ?_
                      refine lv_iconst (v := nI 1) hx hb dX10_walks_71 (by decide) ?_
                      refine lv_iand hx hb dX10_walks_72 ?_
                      refine k_top (y := nI (s2 / 2 ^ p1 % 2)) (k_and1 _ (k_shr_lt (by omega))) ?_
                      refine lv_iconst (v := nI 1) hx hb dX10_walks_73 (by decide) ?_
                      refine lv_icmp_ne (tgt := 143) hx hb dX10_walks_74 (by decide) (fun c_74 => ?_) (fun c_74 => ?_)
                      · skip
                        have c_74 := k_ne (by omega) (by omega) c_74
                        exact hJ_143 _ (by unfold wkV; rw [hacc, if_neg (fun z => c_74 (tb_mod.mp z)), if_neg (fun z => c_74 (tb_mod.mp z))]) _ _ hP hD hS ls (lv_sub hl [0, 1, 2, 3, 4] rfl)
                      · skip
                        have c_74 := k_ne_n (by omega) (by omega) c_74
                        have hpb9 := two_le_of_bit (tb_mod.mpr c_74)
                        have hpp9 := Nat.two_pow_pos p1
                        refine lv_iload hx hb dX10_walks_77 (lv_at hl 5 rfl) ?_
                        refine lv_iload_n hx hb dX10_walks_79 rfl (lv_at hl 3 rfl) ?_
                        refine lv_icmp_eq (tgt := 137) hx hb dX10_walks_80 (by decide) (fun c_80 => ?_) (fun c_80 => ?_)
                        · skip
                          have c_80 := k_eq (by omega) (by omega) c_80
                          refine lv_iinc (v := nI (q + 1)) (lv' := [(5, .int (nI (q + 1))), (0, .ref (q10 0)), (1, .int v2), (2, .int (nI s2)), (3, .int (nI p1)), (4, .int (nI ((1024 * p1) + s2)))]) hx hb dX10_walks_137 hl (k := 5) rfl (nI_add _ _) (by decide) rfl (fun ls hl => ?_)
                          refine lv_goto (tgt := 59) hx hb dX10_walks_140 (by decide) ?_
                          exact ih_59 _ _ (by omega) (by rw [hacc, if_pos (tb_mod.mpr c_74), if_pos (tb_mod.mpr c_74)]; show _ = _ + (if _ then _ else _); rw [if_neg (fun z => z.1 c_80), nI_0, Int32.add_zero]) (by omega) _ _ hP hD hS ls (lv_sub hl [1, 2, 3, 4, 5, 0] rfl)
                        · skip
                          have c_80 := k_eq_n (by omega) (by omega) c_80
                          refine lv_iload_n hx hb dX10_walks_83 rfl (lv_at hl 2 rfl) ?_
                          refine lv_iload hx hb dX10_walks_84 (lv_at hl 5 rfl) ?_
                          refine lv_ishr hx hb dX10_walks_86 ?_
                          refine k_top (y := nI (s2 / 2 ^ q)) (k_shr (by omega) (by omega)) ?_
                          refine lv_iconst (v := nI 1) hx hb dX10_walks_87 (by decide) ?_
                          refine lv_iand hx hb dX10_walks_88 ?_
                          refine k_top (y := nI (s2 / 2 ^ q % 2)) (k_and1 _ (k_shr_lt (by omega))) ?_
                          refine lv_iconst (v := nI 1) hx hb dX10_walks_89 (by decide) ?_
                          refine lv_icmp_ne (tgt := 137) hx hb dX10_walks_90 (by decide) (fun c_90 => ?_) (fun c_90 => ?_)
                          · skip
                            have c_90 := k_ne (by omega) (by omega) c_90
                            refine lv_iinc (v := nI (q + 1)) (lv' := [(5, .int (nI (q + 1))), (0, .ref (q10 0)), (1, .int v2), (2, .int (nI s2)), (3, .int (nI p1)), (4, .int (nI ((1024 * p1) + s2)))]) hx hb dX10_walks_137 hl (k := 5) rfl (nI_add _ _) (by decide) rfl (fun ls hl => ?_)
                            refine lv_goto (tgt := 59) hx hb dX10_walks_140 (by decide) ?_
                            exact ih_59 _ _ (by omega) (by rw [hacc, if_pos (tb_mod.mpr c_74), if_pos (tb_mod.mpr c_74)]; show _ = _ + (if _ then _ else _); rw [if_neg (fun z => c_90 (tb_mod.mp z.2.1)), nI_0, Int32.add_zero]) (by omega) _ _ hP hD hS ls (lv_sub hl [1, 2, 3, 4, 5, 0] rfl)
                          · skip
                            have c_90 := k_ne_n (by omega) (by omega) c_90
                            refine lv_aload_n hx hb dX10_walks_93 rfl (lv_at hl 0 rfl) ?_
                            refine k_get (ci := 10) (v := .ref (q10 14)) (C := RX10) (Tb := TX10) (N := 18) hx hb hts hu_10 hown hKW hP 0 rfl rfl 16 (by decide) hf_50 rfl rfl dX10_walks_94 ?_
                            refine lv_iload hx hb dX10_walks_97 (lv_at hl 5 rfl) ?_
                            refine k_iald (n := 10) (i := q) hx hb hKW hP 14 0 rfl rfl (by omega) (by omega) dX10_walks_99 ?_
                            refine k_top (y := nI (btF ml n q)) (hw_1 q (by omega)) ?_
                            refine lv_iload_n hx hb dX10_walks_100 rfl (lv_at hl 3 rfl) ?_
                            refine lv_ishr hx hb dX10_walks_101 ?_
                            refine k_top (y := nI (btF ml n q / 2 ^ p1)) (k_shr (Nat.lt_trans (bits_lt hn10) (by decide)) (by omega)) ?_
                            refine lv_iconst (v := nI 1) hx hb dX10_walks_102 (by decide) ?_
                            refine lv_iand hx hb dX10_walks_103 ?_
                            refine k_top (y := nI (btF ml n q / 2 ^ p1 % 2)) (k_and1 _ (k_shr_lt (Nat.lt_trans (bits_lt hn10) (by decide)))) ?_
                            refine lv_iconst (v := nI 1) hx hb dX10_walks_104 (by decide) ?_
                            refine lv_icmp_ne (tgt := 137) hx hb dX10_walks_105 (by decide) (fun c_105 => ?_) (fun c_105 => ?_)
                            · skip
                              have c_105 := k_ne (by omega) (by omega) c_105
                              refine lv_iinc (v := nI (q + 1)) (lv' := [(5, .int (nI (q + 1))), (0, .ref (q10 0)), (1, .int v2), (2, .int (nI s2)), (3, .int (nI p1)), (4, .int (nI ((1024 * p1) + s2)))]) hx hb dX10_walks_137 hl (k := 5) rfl (nI_add _ _) (by decide) rfl (fun ls hl => ?_)
                              refine lv_goto (tgt := 59) hx hb dX10_walks_140 (by decide) ?_
                              exact ih_59 _ _ (by omega) (by rw [hacc, if_pos (tb_mod.mpr c_74), if_pos (tb_mod.mpr c_74)]; show _ = _ + (if _ then _ else _); rw [if_neg (fun z => c_105 (tb_mod.mp z.2.2)), nI_0, Int32.add_zero]) (by omega) _ _ hP hD hS ls (lv_sub hl [1, 2, 3, 4, 5, 0] rfl)
                            · skip
                              have c_105 := k_ne_n (by omega) (by omega) c_105
                              refine lv_aload_n hx hb dX10_walks_108 rfl (lv_at hl 0 rfl) ?_
                              refine k_get (ci := 10) (v := .ref (q10 15)) (C := RX10) (Tb := TX10) (N := 18) hx hb hts hu_10 hown hKW hP 0 rfl rfl 17 (by decide) hf_53 rfl rfl dX10_walks_109 ?_
                              refine lv_iload hx hb dX10_walks_112 (lv_at hl 4 rfl) ?_
                              refine lv_dup2_11 hx hb dX10_walks_114 rfl rfl ?_
                              refine k_iald (n := 10240) (i := (1024 * p1) + s2) hx hb hKW hP 15 0 rfl rfl (by omega) (by omega) dX10_walks_115 ?_
                              refine k_top (y := acc) (pk_us) ?_
                              refine lv_aload_n hx hb dX10_walks_116 rfl (lv_at hl 0 rfl) ?_
                              refine k_get (ci := 10) (v := .ref (q10 15)) (C := RX10) (Tb := TX10) (N := 18) hx hb hts hu_10 hown hKW hP 0 rfl rfl 17 (by decide) hf_53 rfl rfl dX10_walks_117 ?_
                              refine lv_sipush (v := nI 1024) hx hb dX10_walks_120 (by decide) ?_
                              refine lv_iload hx hb dX10_walks_123 (lv_at hl 5 rfl) ?_
                              refine k_imul hx hb dX10_walks_125 ?_
                              refine lv_iload_n hx hb dX10_walks_126 rfl (lv_at hl 2 rfl) ?_
                              refine lv_iconst (v := nI 1) hx hb dX10_walks_127 (by decide) ?_
                              refine lv_iload_n hx hb dX10_walks_128 rfl (lv_at hl 3 rfl) ?_
                              refine lv_ishl hx hb dX10_walks_129 ?_
                              refine k_top (y := nI (2 ^ p1)) (k_shl1 (by omega)) ?_
                              refine lv_iconst (v := (-1)) hx hb dX10_walks_130 (by decide) ?_
                              refine lv_ixor hx hb dX10_walks_131 ?_
                              refine lv_iand hx hb dX10_walks_132 ?_
                              refine k_top (y := nI (s2 - 2 ^ p1)) (by rw [k_clr _ _ (by omega) (by omega), if_pos (tb_mod.mpr c_74)]) ?_
                              refine k_iadd hx hb dX10_walks_133 ?_
                              refine k_iald (n := 10240) (i := (1024 * q) + (s2 - 2 ^ p1)) hx hb hKW hP 15 0 rfl rfl (by omega) (by omega) dX10_walks_134 ?_
                              refine k_top (y := W2 (1024 * q + (s2 - 2 ^ p1))) (pk_un (by omega)) ?_
                              refine lv_iadd hx hb dX10_walks_135 ?_
                              refine k_iast (n := 10240) (i := (1024 * p1) + s2) (x := acc + (W2 (1024 * q + (s2 - 2 ^ p1)))) (w' := (wX10 q10 cI cJ cB st_10 kept_10 undoable_10 newest_10 tape_10 taped_10 marks_10 order_10 reach_10 heapOf_10 rows_10 x_10 overs_10 costs_10 ways_10 digits_10 beaten_10_1 (upd (upd W2 (1024 * p1 + s2) acc) ((1024 * p1) + s2) (acc + (W2 (1024 * q + (s2 - 2 ^ p1))))))) hx hb hKW hP hD hS 15 0 rfl rfl (by omega) (by omega) dX10_walks_136 rfl (fun H locs hP hD hS => ?_)
                              refine lv_iinc (v := nI (q + 1)) (lv' := [(5, .int (nI (q + 1))), (0, .ref (q10 0)), (1, .int v2), (2, .int (nI s2)), (3, .int (nI p1)), (4, .int (nI ((1024 * p1) + s2)))]) hx hb dX10_walks_137 hl (k := 5) rfl (nI_add _ _) (by decide) rfl (fun ls hl => ?_)
                              refine lv_goto (tgt := 59) hx hb dX10_walks_140 (by decide) ?_
                              rw [upd_tw] at hP hD
                              exact ih_59 _ _ (by omega) (by rw [hacc, if_pos (tb_mod.mpr c_74), if_pos (tb_mod.mpr c_74)]; show _ = _ + (if _ then _ else _); rw [if_pos ⟨c_80, tb_mod.mpr c_90, tb_mod.mpr c_105⟩]) (by omega) _ _ hP hD hS ls (lv_sub hl [1, 2, 3, 4, 5, 0] rfl)
                exact hL_59 _ 0 _ (Nat.zero_le _) (by rw [if_neg c_47]; split; (exact (if_neg c_47).symm); (rfl)) (Nat.lt_succ_self _) _ _ hP hD hS ls (lv_sub hl [2, 3, 4, 5, 1, 0] rfl)
              · skip
                have c_47 := k_ne_n (by omega) (by omega) c_47
                refine lv_iconst (v := nI 1) hx hb dX10_walks_50 (by decide) ?_
                refine lv_goto (tgt := 55) hx hb dX10_walks_51 (by decide) ?_
                refine k_iast (n := 10240) (i := (1024 * p1) + s2) (x := nI 1) (w' := (wX10 q10 cI cJ cB st_10 kept_10 undoable_10 newest_10 tape_10 taped_10 marks_10 order_10 reach_10 heapOf_10 rows_10 x_10 overs_10 costs_10 ways_10 digits_10 beaten_10_1 (upd W2 ((1024 * p1) + s2) (nI 1)))) hx hb hKW hP hD hS 15 0 rfl rfl (by omega) (by omega) dX10_walks_55 rfl (fun H locs hP hD hS => ?_)
                have hJ_143 : ∀ (acc : Int32) (hav9 : acc = wkV (fun a => btF ml n a) n W2 s2 p1), ∀ (H : Heap) (locs : List Loc), va_P D vwCl (wX10 q10 cI cJ cB st_10 kept_10 undoable_10 newest_10 tape_10 taped_10 marks_10 order_10 reach_10 heapOf_10 rows_10 x_10 overs_10 costs_10 ways_10 digits_10 beaten_10_1 (upd W2 (1024 * p1 + s2) acc)) H → va_D A (wX10 q10 cI cJ cB st_10 kept_10 undoable_10 newest_10 tape_10 taped_10 marks_10 order_10 reach_10 heapOf_10 rows_10 x_10 overs_10 costs_10 ways_10 digits_10 beaten_10_1 (upd W2 (1024 * p1 + s2) acc)) → va_S A s.heap H locs → ∀ (ls : Array Slot), lv_has ls 6 [(0, .ref (q10 0)), (1, .int v2), (2, .int (nI s2)), (3, .int (nI p1)), (4, .int (nI ((1024 * p1) + s2)))] → W p l e (headSpec wsX10_walks rmX10_walks).room s m args below meth c H locs 0 0 Q (F0 m 143 ls []) := by
                  intro acc hav9 H locs hP hD hS ls hl
                  refine lv_iload_n hx hb dX10_walks_143 rfl (lv_at hl 2 rfl) ?_
                  refine lv_iconst (v := nI 1) hx hb dX10_walks_144 (by decide) ?_
                  refine lv_aload_n hx hb dX10_walks_145 rfl (lv_at hl 0 rfl) ?_
                  have hs_146 : kSplit (wX10 q10 cI cJ cB st_10 kept_10 undoable_10 newest_10 tape_10 taped_10 marks_10 order_10 reach_10 heapOf_10 rows_10 x_10 overs_10 costs_10 ways_10 digits_10 beaten_10_1 (upd W2 (1024 * p1 + s2) acc)) (wX10 q10 cI cJ cB st_10 kept_10 undoable_10 newest_10 tape_10 taped_10 marks_10 order_10 reach_10 heapOf_10 rows_10 x_10 overs_10 costs_10 ways_10 digits_10 beaten_10_1 (upd W2 (1024 * p1 + s2) acc)) ([] : va_W) [0, 1, 2, 3, 4, 5, 6, 7, 8, 9, 10, 11, 12, 13, 14, 15] [] := ⟨rfl, rfl, rfl, rfl, rfl, by decide⟩
                  refine kc_i hP hD hS hA hs_146 (kV (As := []) (rest := [.int (nI 1), .int (nI s2)]) hx hb hml hown hts hKW hP hD hs_146 (c_X10_n l D cI cJ cB q10 st_10 kept_10 undoable_10 newest_10 tape_10 taped_10 marks_10 order_10 reach_10 heapOf_10 rows_10 x_10 overs_10 costs_10 ways_10 digits_10 beaten_10_1 (upd W2 (1024 * p1 + s2) acc) n ml nx ks rr (by first | assumption | omega) (by first | assumption | omega)) (cwV 0 hts gX10_walks_X10_n rfl rfl rfl (by decide +kernel) ⟨Nat.le_of_ble_eq_true rfl, Nat.le_of_ble_eq_true rfl⟩) 0 10 rfl rfl rfl rfl hl.1 rfl (Nat.le_of_ble_eq_true rfl) dX10_walks_146 ⟨Nat.zero_le _, Nat.zero_le _⟩) (fun r_146 u_146 H locs hw_146 hP hD hS => ?_)
                  have er_146 := hw_146
                  have er_146 := er_146.symm
                  subst er_146
                  have hP : va_P D vwCl (wX10 q10 cI cJ cB st_10 kept_10 undoable_10 newest_10 tape_10 taped_10 marks_10 order_10 reach_10 heapOf_10 rows_10 x_10 overs_10 costs_10 ways_10 digits_10 beaten_10_1 (upd W2 (1024 * p1 + s2) acc)) H := hP.sub (ws' := (wX10 q10 cI cJ cB st_10 kept_10 undoable_10 newest_10 tape_10 taped_10 marks_10 order_10 reach_10 heapOf_10 rows_10 x_10 overs_10 costs_10 ways_10 digits_10 beaten_10_1 (upd W2 (1024 * p1 + s2) acc))) [0, 1, 2, 3, 4, 5, 6, 7, 8, 9, 10, 11, 12, 13, 14, 15] rfl
                  have hD : va_D A (wX10 q10 cI cJ cB st_10 kept_10 undoable_10 newest_10 tape_10 taped_10 marks_10 order_10 reach_10 heapOf_10 rows_10 x_10 overs_10 costs_10 ways_10 digits_10 beaten_10_1 (upd W2 (1024 * p1 + s2) acc)) := hD.sub (ws' := (wX10 q10 cI cJ cB st_10 kept_10 undoable_10 newest_10 tape_10 taped_10 marks_10 order_10 reach_10 heapOf_10 rows_10 x_10 overs_10 costs_10 ways_10 digits_10 beaten_10_1 (upd W2 (1024 * p1 + s2) acc))) [0, 1, 2, 3, 4, 5, 6, 7, 8, 9, 10, 11, 12, 13, 14, 15] (by decide) rfl
                  refine lv_ishl hx hb dX10_walks_149 ?_
                  refine k_top (y := nI (2 ^ n)) (k_shl1 (by omega)) ?_
                  refine lv_iconst (v := nI 1) hx hb dX10_walks_150 (by decide) ?_
                  refine k_isub hx hb (by omega) dX10_walks_151 ?_
                  refine lv_icmp_ne (tgt := 165) hx hb dX10_walks_152 (by decide) (fun c_152 => ?_) (fun c_152 => ?_)
                  · skip
                    have c_152 := k_ne (by omega) (by omega) c_152
                    refine lv_iinc (v := nI (p1 + 1)) (lv' := [(3, .int (nI (p1 + 1))), (0, .ref (q10 0)), (1, .int v2), (2, .int (nI s2)), (4, .int (nI ((1024 * p1) + s2)))]) hx hb dX10_walks_165 hl (k := 3) rfl (nI_add _ _) (by decide) rfl (fun ls hl => ?_)
                    refine lv_goto (tgt := 20) hx hb dX10_walks_168 (by decide) ?_
                    exact ih_20 _ _ _ (by omega) (WkOK_upd (by omega) hW2) (fun x hx9 => by rw [wkV_upd (Nat.le_refl _) (by omega) hs1]; by_cases e9 : x = p1; (subst e9; rw [pk_us, hav9]); (rw [pk_un (by omega)]; exact hWp x (by omega))) (by rw [hv2, if_neg c_152, if_neg c_152]) (by omega) _ _ hP hD hS ls (lv_sub hl [1, 2, 3, 0] rfl)
                  · skip
                    have c_152 := k_ne_n (by omega) (by omega) c_152
                    refine lv_iload_n hx hb dX10_walks_155 rfl (lv_at hl 1 rfl) ?_
                    refine lv_aload_n hx hb dX10_walks_156 rfl (lv_at hl 0 rfl) ?_
                    refine k_get (ci := 10) (v := .ref (q10 15)) (C := RX10) (Tb := TX10) (N := 18) hx hb hts hu_10 hown hKW hP 0 rfl rfl 17 (by decide) hf_53 rfl rfl dX10_walks_157 ?_
                    refine lv_iload hx hb dX10_walks_160 (lv_at hl 4 rfl) ?_
                    refine k_iald (n := 10240) (i := (1024 * p1) + s2) hx hb hKW hP 15 0 rfl rfl (by omega) (by omega) dX10_walks_162 ?_
                    refine k_top (y := wkV (fun a => btF ml n a) n W2 s2 p1) (by rw [pk_us, hav9]) ?_
                    refine lv_iadd hx hb dX10_walks_163 ?_
                    refine lv_istore_n (lv' := [(1, .int (v2 + (wkV (fun a => btF ml n a) n W2 s2 p1))), (0, .ref (q10 0)), (2, .int (nI s2)), (3, .int (nI p1)), (4, .int (nI ((1024 * p1) + s2)))]) hx hb dX10_walks_164 rfl hl (by decide) rfl (fun ls hl => ?_)
                    refine lv_iinc (v := nI (p1 + 1)) (lv' := [(3, .int (nI (p1 + 1))), (1, .int (v2 + (wkV (fun a => btF ml n a) n W2 s2 p1))), (0, .ref (q10 0)), (2, .int (nI s2)), (4, .int (nI ((1024 * p1) + s2)))]) hx hb dX10_walks_165 hl (k := 3) rfl (nI_add _ _) (by decide) rfl (fun ls hl => ?_)
                    refine lv_goto (tgt := 20) hx hb dX10_walks_168 (by decide) ?_
                    exact ih_20 _ _ _ (by omega) (WkOK_upd (by omega) hW2) (fun x hx9 => by rw [wkV_upd (Nat.le_refl _) (by omega) hs1]; by_cases e9 : x = p1; (subst e9; rw [pk_us, hav9]); (rw [pk_un (by omega)]; exact hWp x (by omega))) (by rw [hv2, if_pos c_152, if_pos c_152, ← c_152]; exact wk_last hav9) (by omega) _ _ hP hD hS ls (lv_sub hl [2, 1, 3, 0] rfl)
                refine lv_iconst (v := nI 0) hx hb dX10_walks_56 (by decide) ?_
                refine lv_istore (lv' := [(5, .int (nI 0)), (4, .int (nI ((1024 * p1) + s2))), (0, .ref (q10 0)), (1, .int v2), (2, .int (nI s2)), (3, .int (nI p1))]) hx hb dX10_walks_57 hl (by decide) rfl (fun ls hl => ?_)
                have hL_59 : ∀ (fu : Nat) (q : Nat) (acc : Int32) (hq : q ≤ n) (hacc : acc = if s2.testBit p1 = true then wkS (fun a => btF ml n a) W2 s2 p1 q else (if s2 = 2 ^ p1 then nI 1 else nI 0)), n - q < fu → ∀ (H : Heap) (locs : List Loc), va_P D vwCl (wX10 q10 cI cJ cB st_10 kept_10 undoable_10 newest_10 tape_10 taped_10 marks_10 order_10 reach_10 heapOf_10 rows_10 x_10 overs_10 costs_10 ways_10 digits_10 beaten_10_1 (upd W2 (1024 * p1 + s2) acc)) H → va_D A (wX10 q10 cI cJ cB st_10 kept_10 undoable_10 newest_10 tape_10 taped_10 marks_10 order_10 reach_10 heapOf_10 rows_10 x_10 overs_10 costs_10 ways_10 digits_10 beaten_10_1 (upd W2 (1024 * p1 + s2) acc)) → va_S A s.heap H locs → ∀ (ls : Array Slot), lv_has ls 6 [(0, .ref (q10 0)), (1, .int v2), (2, .int (nI s2)), (3, .int (nI p1)), (4, .int (nI ((1024 * p1) + s2))), (5, .int (nI q))] → W p l e (headSpec wsX10_walks rmX10_walks).room s m args below meth c H locs 0 0 Q (F0 m 59 ls []) := by
                  intro fu
                  induction fu with
                  | zero => intro q acc hq hacc hfu; exact absurd hfu (Nat.not_lt_zero _)
                  | succ fu ih_59 =>
                    intro q acc hq hacc hfu H locs hP hD hS ls hl
                    refine lv_iload hx hb dX10_walks_59 (lv_at hl 5 rfl) ?_
                    refine lv_aload_n hx hb dX10_walks_61 rfl (lv_at hl 0 rfl) ?_
                    have hs_62 : kSplit (wX10 q10 cI cJ cB st_10 kept_10 undoable_10 newest_10 tape_10 taped_10 marks_10 order_10 reach_10 heapOf_10 rows_10 x_10 overs_10 costs_10 ways_10 digits_10 beaten_10_1 (upd W2 (1024 * p1 + s2) acc)) (wX10 q10 cI cJ cB st_10 kept_10 undoable_10 newest_10 tape_10 taped_10 marks_10 order_10 reach_10 heapOf_10 rows_10 x_10 overs_10 costs_10 ways_10 digits_10 beaten_10_1 (upd W2 (1024 * p1 + s2) acc)) ([] : va_W) [0, 1, 2, 3, 4, 5, 6, 7, 8, 9, 10, 11, 12, 13, 14, 15] [] := ⟨rfl, rfl, rfl, rfl, rfl, by decide⟩
                    refine kc_i hP hD hS hA hs_62 (kV (As := []) (rest := [.int (nI q)]) hx hb hml hown hts hKW hP hD hs_62 (c_X10_n l D cI cJ cB q10 st_10 kept_10 undoable_10 newest_10 tape_10 taped_10 marks_10 order_10 reach_10 heapOf_10 rows_10 x_10 overs_10 costs_10 ways_10 digits_10 beaten_10_1 (upd W2 (1024 * p1 + s2) acc) n ml nx ks rr (by first | assumption | omega) (by first | assumption | omega)) (cwV 0 hts gX10_walks_X10_n rfl rfl rfl (by decide +kernel) ⟨Nat.le_of_ble_eq_true rfl, Nat.le_of_ble_eq_true rfl⟩) 0 10 rfl rfl rfl rfl hl.1 rfl (Nat.le_of_ble_eq_true rfl) dX10_walks_62 ⟨Nat.zero_le _, Nat.zero_le _⟩) (fun r_62 u_62 H locs hw_62 hP hD hS => ?_)
                    have er_62 := hw_62
                    have er_62 := er_62.symm
                    subst er_62
                    have hP : va_P D vwCl (wX10 q10 cI cJ cB st_10 kept_10 undoable_10 newest_10 tape_10 taped_10 marks_10 order_10 reach_10 heapOf_10 rows_10 x_10 overs_10 costs_10 ways_10 digits_10 beaten_10_1 (upd W2 (1024 * p1 + s2) acc)) H := hP.sub (ws' := (wX10 q10 cI cJ cB st_10 kept_10 undoable_10 newest_10 tape_10 taped_10 marks_10 order_10 reach_10 heapOf_10 rows_10 x_10 overs_10 costs_10 ways_10 digits_10 beaten_10_1 (upd W2 (1024 * p1 + s2) acc))) [0, 1, 2, 3, 4, 5, 6, 7, 8, 9, 10, 11, 12, 13, 14, 15] rfl
                    have hD : va_D A (wX10 q10 cI cJ cB st_10 kept_10 undoable_10 newest_10 tape_10 taped_10 marks_10 order_10 reach_10 heapOf_10 rows_10 x_10 overs_10 costs_10 ways_10 digits_10 beaten_10_1 (upd W2 (1024 * p1 + s2) acc)) := hD.sub (ws' := (wX10 q10 cI cJ cB st_10 kept_10 undoable_10 newest_10 tape_10 taped_10 marks_10 order_10 reach_10 heapOf_10 rows_10 x_10 overs_10 costs_10 ways_10 digits_10 beaten_10_1 (upd W2 (1024 * p1 + s2) acc))) [0, 1, 2, 3, 4, 5, 6, 7, 8, 9, 10, 11, 12, 13, 14, 15] (by decide) rfl
                    refine lv_icmp_ge (tgt := 143) hx hb dX10_walks_65 (by decide) (fun c_65 => ?_) (fun c_65 => ?_)
                    · skip
                      have c_65 := k_ge (by omega) (by omega) c_65
                      exact hJ_143 _ (by unfold wkV; rw [hacc, show q = n by omega]) _ _ hP hD hS ls (lv_sub hl [0, 1, 2, 3, 4] rfl)
                    · skip
                      have c_65 := k_ge_n (by omega) (by omega) c_65
                      refine lv_iload_n hx hb dX10_walks_68 rfl (lv_at hl 2 rfl) ?_
                      refine lv_iload_n hx hb dX10_walks_69 rfl (lv_at hl 3 rfl) ?_
                      refine lv_ishr hx hb dX10_walks_70 ?_
                      refine k_top (y := nI (s2 / 2 ^ p1)) (k_shr (by omega) (by omega)) ?_
                      refine lv_iconst (v := nI 1) hx hb dX10_walks_71 (by decide) ?_
                      refine lv_iand hx hb dX10_walks_72 ?_
                      refine k_top (y := nI (s2 / 2 ^ p1 % 2)) (k_and1 _ (k_shr_lt (by omega))) ?_
                      refine lv_iconst (v := nI 1) hx hb dX10_walks_73 (by decide) ?_
                      refine lv_icmp_ne (tgt := 143) hx hb dX10_walks_74 (by decide) (fun c_74 => ?_) (fun c_74 => ?_)
                      · skip
                        have c_74 := k_ne (by omega) (by omega) c_74
                        exact hJ_143 _ (by unfold wkV; rw [hacc, if_neg (fun z => c_74 (tb_mod.mp z)), if_neg (fun z => c_74 (tb_mod.mp z))]) _ _ hP hD hS ls (lv_sub hl [0, 1, 2, 3, 4] rfl)
                      · skip
                        have c_74 := k_ne_n (by omega) (by omega) c_74
                        have hpb9 := two_le_of_bit (tb_mod.mpr c_74)
                        have hpp9 := Nat.two_pow_pos p1
                        refine lv_iload hx hb dX10_walks_77 (lv_at hl 5 rfl) ?_
                        refine lv_iload_n hx hb dX10_walks_79 rfl (lv_at hl 3 rfl) ?_
                        refine lv_icmp_eq (tgt := 137) hx hb dX10_walks_80 (by decide) (fun c_80 => ?_) (fun c_80 => ?_)
                        · skip
                          have c_80 := k_eq (by omega) (by omega) c_80
                          refine lv_iinc (v := nI (q + 1)) (lv' := [(5, .int (nI (q + 1))), (0, .ref (q10 0)), (1, .int v2), (2, .int (nI s2)), (3, .int (nI p1)), (4, .int (nI ((1024 * p1) + s2)))]) hx hb dX10_walks_137 hl (k := 5) rfl (nI_add _ _) (by decide) rfl (fun ls hl => ?_)
                          refine lv_goto (tgt := 59) hx hb dX10_walks_140 (by decide) ?_
                          exact ih_59 _ _ (by omega) (by rw [hacc, if_pos (tb_mod.mpr c_74), if_pos (tb_mod.mpr c_74)]; show _ = _ + (if _ then _ else _); rw [if_neg (fun z => z.1 c_80), nI_0, Int32.add_zero]) (by omega) _ _ hP hD hS ls (lv_sub hl [1, 2, 3, 4, 5, 0] rfl)
                        · skip
                          have c_80 := k_eq_n (by omega) (by omega) c_80
                          refine lv_iload_n hx hb dX10_walks_83 rfl (lv_at hl 2 rfl) ?_
                          refine lv_iload hx hb dX10_walks_84 (lv_at hl 5 rfl) ?_
                          refine lv_ishr hx hb dX10_walks_86 ?_
                          refine k_top (y := nI (s2 / 2 ^ q)) (k_shr (by omega) (by omega)) ?_
                          refine lv_iconst (v := nI 1) hx hb dX10_walks_87 (by decide) ?_
                          refine lv_iand hx hb dX10_walks_88 ?_
                          refine k_top (y := nI (s2 / 2 ^ q % 2)) (k_and1 _ (k_shr_lt (by omega))) ?_
                          refine lv_iconst (v := nI 1) hx hb dX10_walks_89 (by decide) ?_
                          refine lv_icmp_ne (tgt := 137) hx hb dX10_walks_90 (by decide) (fun c_90 => ?_) (fun c_90 => ?_)
                          · skip
                            have c_90 := k_ne (by omega) (by omega) c_90
                            refine lv_iinc (v := nI (q + 1)) (lv' := [(5, .int (nI (q + 1))), (0, .ref (q10 0)), (1, .int v2), (2, .int (nI s2)), (3, .int (nI p1)), (4, .int (nI ((1024 * p1) + s2)))]) hx hb dX10_walks_137 hl (k := 5) rfl (nI_add _ _) (by decide) rfl (fun ls hl => ?_)
                            refine lv_goto (tgt := 59) hx hb dX10_walks_140 (by decide) ?_
                            exact ih_59 _ _ (by omega) (by rw [hacc, if_pos (tb_mod.mpr c_74), if_pos (tb_mod.mpr c_74)]; show _ = _ + (if _ then _ else _); rw [if_neg (fun z => c_90 (tb_mod.mp z.2.1)), nI_0, Int32.add_zero]) (by omega) _ _ hP hD hS ls (lv_sub hl [1, 2, 3, 4, 5, 0] rfl)
                          · skip
                            have c_90 := k_ne_n (by omega) (by omega) c_90
                            refine lv_aload_n hx hb dX10_walks_93 rfl (lv_at hl 0 rfl) ?_
                            refine k_get (ci := 10) (v := .ref (q10 14)) (C := RX10) (Tb := TX10) (N := 18) hx hb hts hu_10 hown hKW hP 0 rfl rfl 16 (by decide) hf_50 rfl rfl dX10_walks_94 ?_
                            refine lv_iload hx hb dX10_walks_97 (lv_at hl 5 rfl) ?_
                            refine k_iald (n := 10) (i := q) hx hb hKW hP 14 0 rfl rfl (by omega) (by omega) dX10_walks_99 ?_
                            refine k_top (y := nI (btF ml n q)) (hw_1 q (by omega)) ?_
                            refine lv_iload_n hx hb dX10_walks_100 rfl (lv_at hl 3 rfl) ?_
                            refine lv_ishr hx hb dX10_walks_101 ?_
                            refine k_top (y := nI (btF ml n q / 2 ^ p1)) (k_shr (Nat.lt_trans (bits_lt hn10) (by decide)) (by omega)) ?_
                            refine lv_iconst (v := nI 1) hx hb dX10_walks_102 (by decide) ?_
                            refine lv_iand hx hb dX10_walks_103 ?_
                            refine k_top (y := nI (btF ml n q / 2 ^ p1 % 2)) (k_and1 _ (k_shr_lt (Nat.lt_trans (bits_lt hn10) (by decide)))) ?_
                            refine lv_iconst (v := nI 1) hx hb dX10_walks_104 (by decide) ?_
                            refine lv_icmp_ne (tgt := 137) hx hb dX10_walks_105 (by decide) (fun c_105 => ?_) (fun c_105 => ?_)
                            · skip
                              have c_105 := k_ne (by omega) (by omega) c_105
                              refine lv_iinc (v := nI (q + 1)) (lv' := [(5, .int (nI (q + 1))), (0, .ref (q10 0)), (1, .int v2), (2, .int (nI s2)), (3, .int (nI p1)), (4, .int (nI ((1024 * p1) + s2)))]) hx hb dX10_walks_137 hl (k := 5) rfl (nI_add _ _) (by decide) rfl (fun ls hl => ?_)
                              refine lv_goto (tgt := 59) hx hb dX10_walks_140 (by decide) ?_
                              exact ih_59 _ _ (by omega) (by rw [hacc, if_pos (tb_mod.mpr c_74), if_pos (tb_mod.mpr c_74)]; show _ = _ + (if _ then _ else _); rw [if_neg (fun z => c_105 (tb_mod.mp z.2.2)), nI_0, Int32.add_zero]) (by omega) _ _ hP hD hS ls (lv_sub hl [1, 2, 3, 4, 5, 0] rfl)
                            · skip
                              have c_105 := k_ne_n (by omega) (by omega) c_105
                              refine lv_aload_n hx hb dX10_walks_108 rfl (lv_at hl 0 rfl) ?_
                              refine k_get (ci := 10) (v := .ref (q10 15)) (C := RX10) (Tb := TX10) (N := 18) hx hb hts hu_10 hown hKW hP 0 rfl rfl 17 (by decide) hf_53 rfl rfl dX10_walks_109 ?_
                              refine lv_iload hx hb dX10_walks_112 (lv_at hl 4 rfl) ?_
                              refine lv_dup2_11 hx hb dX10_walks_114 rfl rfl ?_
                              refine k_iald (n := 10240) (i := (1024 * p1) + s2) hx hb hKW hP 15 0 rfl rfl (by omega) (by omega) dX10_walks_115 ?_
                              refine k_top (y := acc) (pk_us) ?_
                              refine lv_aload_n hx hb dX10_walks_116 rfl (lv_at hl 0 rfl) ?_
                              refine k_get (ci := 10) (v := .ref (q10 15)) (C := RX10) (Tb := TX10) (N := 18) hx hb hts hu_10 hown hKW hP 0 rfl rfl 17 (by decide) hf_53 rfl rfl dX10_walks_117 ?_
                              refine lv_sipush (v := nI 1024) hx hb dX10_walks_120 (by decide) ?_
                              refine lv_iload hx hb dX10_walks_123 (lv_at hl 5 rfl) ?_
                              refine k_imul hx hb dX10_walks_125 ?_
                              refine lv_iload_n hx hb dX10_walks_126 rfl (lv_at hl 2 rfl) ?_
                              refine lv_iconst (v := nI 1) hx hb dX10_walks_127 (by decide) ?_
                              refine lv_iload_n hx hb dX10_walks_128 rfl (lv_at hl 3 rfl) ?_
                              refine lv_ishl hx hb dX10_walks_129 ?_
                              refine k_top (y := nI (2 ^ p1)) (k_shl1 (by omega)) ?_
                              refine lv_iconst (v := (-1)) hx hb dX10_walks_130 (by decide) ?_
                              refine lv_ixor hx hb dX10_walks_131 ?_
                              refine lv_iand hx hb dX10_walks_132 ?_
                              refine k_top (y := nI (s2 - 2 ^ p1)) (by rw [k_clr _ _ (by omega) (by omega), if_pos (tb_mod.mpr c_74)]) ?_
                              refine k_iadd hx hb dX10_walks_133 ?_
                              refine k_iald (n := 10240) (i := (1024 * q) + (s2 - 2 ^ p1)) hx hb hKW hP 15 0 rfl rfl (by omega) (by omega) dX10_walks_134 ?_
                              refine k_top (y := W2 (1024 * q + (s2 - 2 ^ p1))) (pk_un (by omega)) ?_
                              refine lv_iadd hx hb dX10_walks_135 ?_
                              refine k_iast (n := 10240) (i := (1024 * p1) + s2) (x := acc + (W2 (1024 * q + (s2 - 2 ^ p1)))) (w' := (wX10 q10 cI cJ cB st_10 kept_10 undoable_10 newest_10 tape_10 taped_10 marks_10 order_10 reach_10 heapOf_10 rows_10 x_10 overs_10 costs_10 ways_10 digits_10 beaten_10_1 (upd (upd W2 (1024 * p1 + s2) acc) ((1024 * p1) + s2) (acc + (W2 (1024 * q + (s2 - 2 ^ p1))))))) hx hb hKW hP hD hS 15 0 rfl rfl (by omega) (by omega) dX10_walks_136 rfl (fun H locs hP hD hS => ?_)
                              refine lv_iinc (v := nI (q + 1)) (lv' := [(5, .int (nI (q + 1))), (0, .ref (q10 0)), (1, .int v2), (2, .int (nI s2)), (3, .int (nI p1)), (4, .int (nI ((1024 * p1) + s2)))]) hx hb dX10_walks_137 hl (k := 5) rfl (nI_add _ _) (by decide) rfl (fun ls hl => ?_)
                              refine lv_goto (tgt := 59) hx hb dX10_walks_140 (by decide) ?_
                              rw [upd_tw] at hP hD
                              exact ih_59 _ _ (by omega) (by rw [hacc, if_pos (tb_mod.mpr c_74), if_pos (tb_mod.mpr c_74)]; show _ = _ + (if _ then _ else _); rw [if_pos ⟨c_80, tb_mod.mpr c_90, tb_mod.mpr c_105⟩]) (by omega) _ _ hP hD hS ls (lv_sub hl [1, 2, 3, 4, 5, 0] rfl)
                exact hL_59 _ 0 _ (Nat.zero_le _) (by rw [if_pos c_47]; split; (exact (if_pos c_47).symm); (rfl)) (Nat.lt_succ_self _) _ _ hP hD hS ls (lv_sub hl [2, 3, 4, 5, 1, 0] rfl)
        exact hL_20 _ 0 _ _ (Nat.zero_le _) hW (fun x hx9 => absurd hx9 (Nat.not_lt_zero x)) (by rw [hv, if_neg (by omega)]; split <;> rfl) (Nat.lt_succ_self _) _ _ hP hD hS ls (lv_sub hl [1, 2, 3, 0] rfl)
  exact hL_8 _ 1 _ _ (Nat.le_refl _) (by omega) (fun s9 h1 h2 => absurd h1 (by omega)) (by rw [if_neg (by have := Nat.pow_le_pow_right (show 0 < 2 by decide) hn1; omega)]; rfl) (Nat.lt_succ_self _) _ _ hP hD hS ls (lv_sub hl [2, 1, 0] rfl)
