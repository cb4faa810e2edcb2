def rmX10_gather : Room := { frames := 4, cells := 0, slots := 0, locals := 94 }
set_option maxHeartbeats 4000000 in
set_option maxRecDepth 100000 in
theorem c_X10_gather (l : Launch) (D : va_G) (cI cJ cB : ClassId) (q10 : Nat → Nat) (st_10 : Nat → Int32) (kept_10 : Nat → Int32) (undoable_10 : Int32) (newest_10 : Int32) (tape_10 : Nat → Int32) (taped_10 : Int32) (marks_10 : Nat → Int32) (order_10 : Nat → Int32) (reach_10 : Nat → Int32) (heapOf_10 : Nat → Int32) (rows_10 : Nat → Int64) (x_10 : Nat → Int64) (overs_10 : Nat → Int32) (costs_10 : Nat → Int32) (ways_10 : Nat → Int32) (digits_10 : Nat → Int32) (beaten_10 : Nat → Int32) (walks_10 : Nat → Int32) (n : Nat) (ml : List Mt) (nx : List (Nat × Nat)) (ks : List Nat) (rr : Int32 × Int32 × Int32) (hR : RS st_10 n ml nx ks rr) (hV : VS n ml nx ks) : ∀ sz, Met l yX10_gather wsX10_gather rmX10_gather (va_Pc [.ref (q10 0)] (PW D (kT cI cJ cB) sz (wX10 q10 cI cJ cB st_10 kept_10 undoable_10 newest_10 tape_10 taped_10 marks_10 order_10 reach_10 heapOf_10 rows_10 x_10 overs_10 costs_10 ways_10 digits_10 beaten_10 walks_10))) (va_Qv (S := (Nat → Int32) × (Nat → Int32)) (fun uu => match uu with | (marks_10', order_10') => GM rr ml ks n marks_10' ks.length ∧ order_10' = ordF (fun p q => ahd marks_10' p q 0 (ks.length + 1)) order_10 n) (QW D sz (wX10 q10 cI cJ cB st_10 kept_10 undoable_10 newest_10 tape_10 taped_10 marks_10 order_10 reach_10 heapOf_10 rows_10 x_10 overs_10 costs_10 ways_10 digits_10 beaten_10 walks_10) (fun uu => match uu with | (marks_10', order_10') => (wX10 q10 cI cJ cB st_10 kept_10 undoable_10 newest_10 tape_10 taped_10 marks_10' order_10' reach_10 heapOf_10 rows_10 x_10 overs_10 costs_10 ways_10 digits_10 beaten_10 walks_10))) (va_A (wX10 q10 cI cJ cB st_10 kept_10 undoable_10 newest_10 tape_10 taped_10 marks_10 order_10 reach_10 heapOf_10 rows_10 x_10 overs_10 costs_10 ways_10 digits_10 beaten_10 walks_10) sz)) 0 0 (va_A (wX10 q10 cI cJ cB st_10 kept_10 undoable_10 newest_10 tape_10 taped_10 marks_10 order_10 reach_10 heapOf_10 rows_10 x_10 overs_10 costs_10 ways_10 digits_10 beaten_10 walks_10) sz) := by
  intro sz
  refine Met.ofW (cc := cX10_gather) (maxL := 3) (ret := none) (by decide) rfl ?_
  intro p e s m args below meth c s₁ B hml hv
  obtain ⟨hav, hsz, hP, hKW, hD0⟩ := hv
  have hx := B.exec
  have hb := B.bytes
  have hr := B.returns
  have hts := atoms_spec (ws := wsX10_gather) B.pre
  have hown : s.vm.findClass RX10 = some m.cls := findClass_of_methodNamed B.named
  have hlocks := B.notSynchronized
  subst hsz
  have hD := hD0.self (sz := s.heap.size)
  obtain ⟨A, hAe⟩ : ∃ A : Nat → Prop, A = va_A (wX10 q10 cI cJ cB st_10 kept_10 undoable_10 newest_10 tape_10 taped_10 marks_10 order_10 reach_10 heapOf_10 rows_10 x_10 overs_10 costs_10 ways_10 digits_10 beaten_10 walks_10) s.heap.size := ⟨_, rfl⟩
  rw [← hAe] at hD
  have hA : ∀ q : Nat, s.heap.size ≤ q → A q := fun q h => by rw [hAe]; exact Or.inr h
  have hS : va_S A s.heap s.heap [] := va_S.rf
  refine k_gen (fun Q hQ => ?_)
  have hl := lv_entry ([.ref (q10 0)]) (n := 3) (Nat.le_of_ble_eq_true rfl)
  refine k_entry hav (lg_entry_eq ..) ?_
  generalize (lg_sl ([.ref (q10 0)]) ++ List.replicate (3 - (lg_sl ([.ref (q10 0)])).length) Slot.unset).toArray = ls at hl ⊢
  have hl : lv_has ls 3 [(0, .ref (q10 0))] := hl
  have hu_10 : ∀ w ∈ u_ws RX10 TX10 18, w ∈ wsX10_gather := by decide +kernel
  have hf_7 : Cond.fieldLink RX10 7 "MeetingRanksModel" "st" "[I" ∈ wsX10_gather := by decide +kernel
  have hf_19 : Cond.fieldLink RX10 19 "MeetingRanksModel" "marks" "[I" ∈ wsX10_gather := by decide +kernel
  have hf_22 : Cond.fieldLink RX10 22 "MeetingRanksModel" "order" "[I" ∈ wsX10_gather := by decide +kernel
  have hn1 := hV.1
  have hn10 := hV.2.1
  have hm120 := hV.2.2.1
  have hx40 := hV.2.2.2.2.1
  have hk4 := hV.2.2.2.2.2.2.1
  refine lv_iconst (v := nI 0) hx hb dX10_gather_0 (by decide) ?_
  refine lv_istore_n (lv' := [(1, .int (nI 0)), (0, .ref (q10 0))]) hx hb dX10_gather_1 rfl hl (by decide) rfl (fun ls hl => ?_)
  have hL_2 : ∀ (fu : Nat) (p1 : Nat) (f : Nat → Int32) (hp : p1 ≤ n) (hf : ∀ q, q < p1 → f (5 * q) = scF rr ml q 1023), n - p1 < fu → ∀ (H : Heap) (locs : List Loc), va_P D vwCl (wX10 q10 cI cJ cB st_10 kept_10 undoable_10 newest_10 tape_10 taped_10 f order_10 reach_10 heapOf_10 rows_10 x_10 overs_10 costs_10 ways_10 digits_10 beaten_10 walks_10) H → va_D A (wX10 q10 cI cJ cB st_10 kept_10 undoable_10 newest_10 tape_10 taped_10 f order_10 reach_10 heapOf_10 rows_10 x_10 overs_10 costs_10 ways_10 digits_10 beaten_10 walks_10) → va_S A s.heap H locs → ∀ (ls : Array Slot), lv_has ls 3 [(0, .ref (q10 0)), (1, .int (nI p1))] → W p l e (headSpec wsX10_gather rmX10_gather).room s m args below meth c H locs 0 0 Q (F0 m 2 ls []) := by
    intro fu
    induction fu with
    | zero => intro p1 f hp hf hfu; exact absurd hfu (Nat.not_lt_zero _)
    | succ fu ih_2 =>
      intro p1 f hp hf hfu H locs hP hD hS ls hl
      refine lv_iload_n hx hb dX10_gather_2 rfl (lv_at hl 1 rfl) ?_
      refine lv_aload_n hx hb dX10_gather_3 rfl (lv_at hl 0 rfl) ?_
      have hs_4 : kSplit (wX10 q10 cI cJ cB st_10 kept_10 undoable_10 newest_10 tape_10 taped_10 f order_10 reach_10 heapOf_10 rows_10 x_10 overs_10 costs_10 ways_10 digits_10 beaten_10 walks_10) (wX10 q10 cI cJ cB st_10 kept_10 undoable_10 newest_10 tape_10 taped_10 f order_10 reach_10 heapOf_10 rows_10 x_10 overs_10 costs_10 ways_10 digits_10 beaten_10 walks_10) ([] : va_W) [0, 1, 2, 3, 4, 5, 6, 7, 8, 9, 10, 11, 12, 13, 14, 15] [] := ⟨rfl, rfl, rfl, rfl, rfl, by decide⟩
      refine kc_i hP hD hS hA hs_4 (kV (As := []) (rest := [.int (nI p1)]) hx hb hml hown hts hKW hP hD hs_4 (c_X10_n l D cI cJ cB q10 st_10 kept_10 undoable_10 newest_10 tape_10 taped_10 f order_10 reach_10 heapOf_10 rows_10 x_10 overs_10 costs_10 ways_10 digits_10 beaten_10 walks_10 n ml nx ks rr (by first | assumption | omega) (by first | assumption | omega)) (cwV 0 hts gX10_gather_X10_n rfl rfl rfl (by decide +kernel) ⟨Nat.le_of_ble_eq_true rfl, Nat.le_of_ble_eq_true rfl⟩) 0 10 rfl rfl rfl rfl hl.1 rfl (Nat.le_of_ble_eq_true rfl) dX10_gather_4 ⟨Nat.zero_le _, Nat.zero_le _⟩) (fun r_4 u_4 H locs hw_4 hP hD hS => ?_)
      have er_4 := hw_4
      have er_4 := er_4.symm
      subst er_4
      have hP : va_P D vwCl (wX10 q10 cI cJ cB st_10 kept_10 undoable_10 newest_10 tape_10 taped_10 f order_10 reach_10 heapOf_10 rows_10 x_10 overs_10 costs_10 ways_10 digits_10 beaten_10 walks_10) H := hP.sub (ws' := (wX10 q10 cI cJ cB st_10 kept_10 undoable_10 newest_10 tape_10 taped_10 f order_10 reach_10 heapOf_10 rows_10 x_10 overs_10 costs_10 ways_10 digits_10 beaten_10 walks_10)) [0, 1, 2, 3, 4, 5, 6, 7, 8, 9, 10, 11, 12, 13, 14, 15] rfl
      have hD : va_D A (wX10 q10 cI cJ cB st_10 kept_10 undoable_10 newest_10 tape_10 taped_10 f order_10 reach_10 heapOf_10 rows_10 x_10 overs_10 costs_10 ways_10 digits_10 beaten_10 walks_10) := hD.sub (ws' := (wX10 q10 cI cJ cB st_10 kept_10 undoable_10 newest_10 tape_10 taped_10 f order_10 reach_10 heapOf_10 rows_10 x_10 overs_10 costs_10 ways_10 digits_10 beaten_10 walks_10)) [0, 1, 2, 3, 4, 5, 6, 7, 8, 9, 10, 11, 12, 13, 14, 15] (by decide) rfl
      refine lv_icmp_ge (tgt := 29) hx hb dX10_gather_7 (by decide) (fun c_7 => ?_) (fun c_7 => ?_)
      · skip
        have c_7 := k_ge (by omega) (by omega) c_7
        obtain rfl : n = p1 := by omega
        refine lv_iconst (v := nI 1) hx hb dX10_gather_29 (by decide) ?_
        refine lv_istore_n (lv' := [(1, .int (nI 1)), (0, .ref (q10 0))]) hx hb dX10_gather_30 rfl hl (by decide) rfl (fun ls hl => ?_)
        have hL_31 : ∀ (fu : Nat) (j : Nat) (f : Nat → Int32) (hj : 1 ≤ j) (hj2 : j ≤ ks.length + 1) (hg : GM rr ml ks n f (j - 1)), ks.length + 1 - j < fu → ∀ (H : Heap) (locs : List Loc), va_P D vwCl (wX10 q10 cI cJ cB st_10 kept_10 undoable_10 newest_10 tape_10 taped_10 f order_10 reach_10 heapOf_10 rows_10 x_10 overs_10 costs_10 ways_10 digits_10 beaten_10 walks_10) H → va_D A (wX10 q10 cI cJ cB st_10 kept_10 undoable_10 newest_10 tape_10 taped_10 f order_10 reach_10 heapOf_10 rows_10 x_10 overs_10 costs_10 ways_10 digits_10 beaten_10 walks_10) → va_S A s.heap H locs → ∀ (ls : Array Slot), lv_has ls 3 [(0, .ref (q10 0)), (1, .int (nI j))] → W p l e (headSpec wsX10_gather rmX10_gather).room s m args below meth c H locs 0 0 Q (F0 m 31 ls []) := by
          intro fu
          induction fu with
          | zero => intro j f hj hj2 hg hfu; exact absurd hfu (Nat.not_lt_zero _)
          | succ fu ih_31 =>
            intro j f hj hj2 hg hfu H locs hP hD hS ls hl
            refine lv_iload_n hx hb dX10_gather_31 rfl (lv_at hl 1 rfl) ?_
            refine lv_aload_n hx hb dX10_gather_32 rfl (lv_at hl 0 rfl) ?_
            refine k_get (ci := 10) (v := .ref (q10 1)) (C := RX10) (Tb := TX10) (N := 18) hx hb hts hu_10 hown hKW hP 0 rfl rfl 0 (by decide) hf_7 rfl rfl dX10_gather_33 ?_
            refine lv_iconst (v := nI 3) hx hb dX10_gather_36 (by decide) ?_
            refine k_iald (n := 600) (i := 3) hx hb hKW hP 1 0 rfl rfl (by omega) (by omega) dX10_gather_37 ?_
            refine k_top (y := nI ks.length) (hR.2.2.2.1) ?_
            refine lv_icmp_gt (tgt := 95) hx hb dX10_gather_38 (by decide) (fun c_38 => ?_) (fun c_38 => ?_)
            · skip
              have c_38 := k_gt (by omega) (by omega) c_38
              obtain rfl : j = ks.length + 1 := by omega
              refine lv_iconst (v := nI 0) hx hb dX10_gather_95 (by decide) ?_
              refine lv_istore_n (lv' := [(1, .int (nI 0)), (0, .ref (q10 0))]) hx hb dX10_gather_96 rfl hl (by decide) rfl (fun ls hl => ?_)
              have hL_97 : ∀ (fu : Nat) (p1 : Nat) (hp : p1 ≤ n), n - p1 < fu → ∀ (H : Heap) (locs : List Loc), va_P D vwCl (wX10 q10 cI cJ cB st_10 kept_10 undoable_10 newest_10 tape_10 taped_10 f (ordF (fun p q => ahd f p q 0 (ks.length + 1)) order_10 p1) reach_10 heapOf_10 rows_10 x_10 overs_10 costs_10 ways_10 digits_10 beaten_10 walks_10) H → va_D A (wX10 q10 cI cJ cB st_10 kept_10 undoable_10 newest_10 tape_10 taped_10 f (ordF (fun p q => ahd f p q 0 (ks.length + 1)) order_10 p1) reach_10 heapOf_10 rows_10 x_10 overs_10 costs_10 ways_10 digits_10 beaten_10 walks_10) → va_S A s.heap H locs → ∀ (ls : Array Slot), lv_has ls 3 [(0, .ref (q10 0)), (1, .int (nI p1))] → W p l e (headSpec wsX10_gather rmX10_gather).room s m args below meth c H locs 0 0 Q (F0 m 97 ls []) := by
                intro fu
                induction fu with
                | zero => intro p1 hp hfu; exact absurd hfu (Nat.not_lt_zero _)
                | succ fu ih_97 =>
                  intro p1 hp hfu H locs hP hD hS ls hl
                  have hoo9 := ordF_ok (fun p q => ahd f p q 0 (ks.length + 1)) order_10 n p1 hp
                  refine lv_iload_n hx hb dX10_gather_97 rfl (lv_at hl 1 rfl) ?_
                  refine lv_aload_n hx hb dX10_gather_98 rfl (lv_at hl 0 rfl) ?_
                  have hs_99 : kSplit (wX10 q10 cI cJ cB st_10 kept_10 undoable_10 newest_10 tape_10 taped_10 f (ordF (fun p q => ahd f p q 0 (ks.length + 1)) order_10 p1) reach_10 heapOf_10 rows_10 x_10 overs_10 costs_10 ways_10 digits_10 beaten_10 walks_10) (wX10 q10 cI cJ cB st_10 kept_10 undoable_10 newest_10 tape_10 taped_10 f (ordF (fun p q => ahd f p q 0 (ks.length + 1)) order_10 p1) reach_10 heapOf_10 rows_10 x_10 overs_10 costs_10 ways_10 digits_10 beaten_10 walks_10) ([] : va_W) [0, 1, 2, 3, 4, 5, 6, 7, 8, 9, 10, 11, 12, 13, 14, 15] [] := ⟨rfl, rfl, rfl, rfl, rfl, by decide⟩
                  refine kc_i hP hD hS hA hs_99 (kV (As := []) (rest := [.int (nI p1)]) hx hb hml hown hts hKW hP hD hs_99 (c_X10_n l D cI cJ cB q10 st_10 kept_10 undoable_10 newest_10 tape_10 taped_10 f (ordF (fun p q => ahd f p q 0 (ks.length + 1)) order_10 p1) reach_10 heapOf_10 rows_10 x_10 overs_10 costs_10 ways_10 digits_10 beaten_10 walks_10 n ml nx ks rr (by first | assumption | omega) (by first | assumption | omega)) (cwV 0 hts gX10_gather_X10_n rfl rfl rfl (by decide +kernel) ⟨Nat.le_of_ble_eq_true rfl, Nat.le_of_ble_eq_true rfl⟩) 0 10 rfl rfl rfl rfl hl.1 rfl (Nat.le_of_ble_eq_true rfl) dX10_gather_99 ⟨Nat.zero_le _, Nat.zero_le _⟩) (fun r_99 u_99 H locs hw_99 hP hD hS => ?_)
                  have er_99 := hw_99
                  have er_99 := er_99.symm
                  subst er_99
                  have hP : va_P D vwCl (wX10 q10 cI cJ cB st_10 kept_10 undoable_10 newest_10 tape_10 taped_10 f (ordF (fun p q => ahd f p q 0 (ks.length + 1)) order_10 p1) reach_10 heapOf_10 rows_10 x_10 overs_10 costs_10 ways_10 digits_10 beaten_10 walks_10) H := hP.sub (ws' := (wX10 q10 cI cJ cB st_10 kept_10 undoable_10 newest_10 tape_10 taped_10 f (ordF (fun p q => ahd f p q 0 (ks.length + 1)) order_10 p1) reach_10 heapOf_10 rows_10 x_10 overs_10 costs_10 ways_10 digits_10 beaten_10 walks_10)) [0, 1, 2, 3, 4, 5, 6, 7, 8, 9, 10, 11, 12, 13, 14, 15] rfl
                  have hD : va_D A (wX10 q10 cI cJ cB st_10 kept_10 undoable_10 newest_10 tape_10 taped_10 f (ordF (fun p q => ahd f p q 0 (ks.length + 1)) order_10 p1) reach_10 heapOf_10 rows_10 x_10 overs_10 costs_10 ways_10 digits_10 beaten_10 walks_10) := hD.sub (ws' := (wX10 q10 cI cJ cB st_10 kept_10 undoable_10 newest_10 tape_10 taped_10 f (ordF (fun p q => ahd f p q 0 (ks.length + 1)) order_10 p1) reach_10 heapOf_10 rows_10 x_10 overs_10 costs_10 ways_10 digits_10 beaten_10 walks_10)) [0, 1, 2, 3, 4, 5, 6, 7, 8, 9, 10, 11, 12, 13, 14, 15] (by decide) rfl
                  refine lv_icmp_ge (tgt := 160) hx hb dX10_gather_102 (by decide) (fun c_102 => ?_) (fun c_102 => ?_)
                  · skip
                    have c_102 := k_ge (by omega) (by omega) c_102
                    obtain rfl : n = p1 := by omega
                    subst hQ; subst hAe
                    exact W.vret hx hb hr (fun t ht _ => ⟨⟨(f, ordF (fun p q => ahd f p q 0 (ks.length + 1)) order_10 n), rfl, ⟨by rw [show ks.length = ks.length + 1 - 1 from rfl]; exact hg, rfl⟩, by rw [ht]; exact hP, hD⟩, hS.F ht⟩) hS.2.2 dX10_gather_160
                  · skip
                    have c_102 := k_ge_n (by omega) (by omega) c_102
                    refine lv_iload_n hx hb dX10_gather_105 rfl (lv_at hl 1 rfl) ?_
                    refine lv_istore_n (lv' := [(2, .int (nI p1)), (0, .ref (q10 0)), (1, .int (nI p1))]) hx hb dX10_gather_106 rfl hl (by decide) rfl (fun ls hl => ?_)
                    have hL_107 : ∀ (fu : Nat) (a : Nat) (o : Nat → Int32) (ha : a ≤ p1) (hoo : ordOK o a n) (ho : insAt (fun p q => ahd f p q 0 (ks.length + 1)) p1 a o = insAt (fun p q => ahd f p q 0 (ks.length + 1)) p1 p1 (ordF (fun p q => ahd f p q 0 (ks.length + 1)) order_10 p1)), a < fu → ∀ (H : Heap) (locs : List Loc), va_P D vwCl (wX10 q10 cI cJ cB st_10 kept_10 undoable_10 newest_10 tape_10 taped_10 f o reach_10 heapOf_10 rows_10 x_10 overs_10 costs_10 ways_10 digits_10 beaten_10 walks_10) H → va_D A (wX10 q10 cI cJ cB st_10 kept_10 undoable_10 newest_10 tape_10 taped_10 f o reach_10 heapOf_10 rows_10 x_10 overs_10 costs_10 ways_10 digits_10 beaten_10 walks_10) → va_S A s.heap H locs → ∀ (ls : Array Slot), lv_has ls 3 [(0, .ref (q10 0)), (1, .int (nI p1)), (2, .int (nI a))] → W p l e (headSpec wsX10_gather rmX10_gather).room s m args below meth c H locs 0 0 Q (F0 m 107 ls []) := by
                      intro fu
                      induction fu with
                      | zero => intro a o ha hoo ho hfu; exact absurd hfu (Nat.not_lt_zero _)
                      | succ fu ih_107 =>
                        intro a o ha hoo ho hfu H locs hP hD hS ls hl
                        refine lv_iload_n hx hb dX10_gather_107 rfl (lv_at hl 2 rfl) ?_
                        refine lv_if_le (tgt := 147) hx hb dX10_gather_108 (by decide) (fun c_108 => ?_) (fun c_108 => ?_)
                        · skip
                          have c_108 := k0_le (by omega) c_108
                          have ho : upd o a (nI p1) = insAt (fun p q => ahd f p q 0 (ks.length + 1)) p1 p1 (ordF (fun p q => ahd f p q 0 (ks.length + 1)) order_10 p1) := by rw [← ho, c_108]; rfl
                          refine lv_aload_n hx hb dX10_gather_147 rfl (lv_at hl 0 rfl) ?_
                          refine k_get (ci := 10) (v := .ref (q10 5)) (C := RX10) (Tb := TX10) (N := 18) hx hb hts hu_10 hown hKW hP 0 rfl rfl 7 (by decide) hf_22 rfl rfl dX10_gather_148 ?_
                          refine lv_iload_n hx hb dX10_gather_151 rfl (lv_at hl 2 rfl) ?_
                          refine lv_iload_n hx hb dX10_gather_152 rfl (lv_at hl 1 rfl) ?_
                          refine k_iast (n := 10) (i := a) (x := nI p1) (w' := (wX10 q10 cI cJ cB st_10 kept_10 undoable_10 newest_10 tape_10 taped_10 f (upd o a (nI p1)) reach_10 heapOf_10 rows_10 x_10 overs_10 costs_10 ways_10 digits_10 beaten_10 walks_10)) hx hb hKW hP hD hS 5 0 rfl rfl (by omega) (by omega) dX10_gather_153 rfl (fun H locs hP hD hS => ?_)
                          refine lv_iinc (v := nI (p1 + 1)) (lv' := [(1, .int (nI (p1 + 1))), (0, .ref (q10 0)), (2, .int (nI a))]) hx hb dX10_gather_154 hl (k := 1) rfl (nI_add _ _) (by decide) rfl (fun ls hl => ?_)
                          refine lv_goto (tgt := 97) hx hb dX10_gather_157 (by decide) ?_
                          exact ih_97 (p1 + 1) (by omega) (by omega) _ _ (by show va_P D vwCl (wX10 _ _ _ _ _ _ _ _ _ _ _ (insAt _ p1 p1 (ordF _ _ p1)) _ _ _ _ _ _ _ _ _ _) _; rw [← ho]; exact hP) (by show va_D A (wX10 _ _ _ _ _ _ _ _ _ _ _ (insAt _ p1 p1 (ordF _ _ p1)) _ _ _ _ _ _ _ _ _ _); rw [← ho]; exact hD) hS ls (lv_sub hl [1, 0] rfl)
                        · skip
                          have c_108 := k0_le_n (by omega) c_108
                          obtain ⟨j9, hj9, ej9⟩ := hoo (a - 1) (by omega)
                          refine lv_aload_n hx hb dX10_gather_111 rfl (lv_at hl 0 rfl) ?_
                          refine lv_iload_n hx hb dX10_gather_112 rfl (lv_at hl 1 rfl) ?_
                          refine lv_aload_n hx hb dX10_gather_113 rfl (lv_at hl 0 rfl) ?_
                          refine k_get (ci := 10) (v := .ref (q10 5)) (C := RX10) (Tb := TX10) (N := 18) hx hb hts hu_10 hown hKW hP 0 rfl rfl 7 (by decide) hf_22 rfl rfl dX10_gather_114 ?_
                          refine lv_iload_n hx hb dX10_gather_117 rfl (lv_at hl 2 rfl) ?_
                          refine lv_iconst (v := nI 1) hx hb dX10_gather_118 (by decide) ?_
                          refine k_isub hx hb (by omega) dX10_gather_119 ?_
                          refine k_iald (n := 10) (i := a - 1) hx hb hKW hP 5 0 rfl rfl (by omega) (by omega) dX10_gather_120 ?_
                          refine k_top (y := nI j9) (ej9) ?_
                          have hs_121 : kSplit (wX10 q10 cI cJ cB st_10 kept_10 undoable_10 newest_10 tape_10 taped_10 f o reach_10 heapOf_10 rows_10 x_10 overs_10 costs_10 ways_10 digits_10 beaten_10 walks_10) (wX10 q10 cI cJ cB st_10 kept_10 undoable_10 newest_10 tape_10 taped_10 f o reach_10 heapOf_10 rows_10 x_10 overs_10 costs_10 ways_10 digits_10 beaten_10 walks_10) ([] : va_W) [0, 1, 2, 3, 4, 5, 6, 7, 8, 9, 10, 11, 12, 13, 14, 15] [] := ⟨rfl, rfl, rfl, rfl, rfl, by decide⟩
                          refine kc_i hP hD hS hA hs_121 (kV (As := [.int (nI p1), .int (nI j9)]) (rest := []) hx hb hml hown hts hKW hP hD hs_121 (c_X10_isAhead l D cI cJ cB q10 st_10 kept_10 undoable_10 newest_10 tape_10 taped_10 f o reach_10 heapOf_10 rows_10 x_10 overs_10 costs_10 ways_10 digits_10 beaten_10 walks_10 n ml nx ks rr p1 j9 (by first | assumption | omega) (by first | assumption | omega) (by first | assumption | omega) (by first | assumption | omega)) (cwV 2 hts gX10_gather_X10_isAhead rfl rfl rfl (by decide +kernel) ⟨Nat.le_of_ble_eq_true rfl, Nat.le_of_ble_eq_true rfl⟩) 0 10 rfl rfl rfl rfl hl.1 rfl (Nat.le_of_ble_eq_true rfl) dX10_gather_121 ⟨Nat.zero_le _, Nat.zero_le _⟩) (fun r_121 u_121 H locs hw_121 hP hD hS => ?_)
                          have er_121 := hw_121
                          have er_121 := er_121.symm
                          subst er_121
                          have hP : va_P D vwCl (wX10 q10 cI cJ cB st_10 kept_10 undoable_10 newest_10 tape_10 taped_10 f o reach_10 heapOf_10 rows_10 x_10 overs_10 costs_10 ways_10 digits_10 beaten_10 walks_10) H := hP.sub (ws' := (wX10 q10 cI cJ cB st_10 kept_10 undoable_10 newest_10 tape_10 taped_10 f o reach_10 heapOf_10 rows_10 x_10 overs_10 costs_10 ways_10 digits_10 beaten_10 walks_10)) [0, 1, 2, 3, 4, 5, 6, 7, 8, 9, 10, 11, 12, 13, 14, 15] rfl
                          have hD : va_D A (wX10 q10 cI cJ cB st_10 kept_10 undoable_10 newest_10 tape_10 taped_10 f o reach_10 heapOf_10 rows_10 x_10 overs_10 costs_10 ways_10 digits_10 beaten_10 walks_10) := hD.sub (ws' := (wX10 q10 cI cJ cB st_10 kept_10 undoable_10 newest_10 tape_10 taped_10 f o reach_10 heapOf_10 rows_10 x_10 overs_10 costs_10 ways_10 digits_10 beaten_10 walks_10)) [0, 1, 2, 3, 4, 5, 6, 7, 8, 9, 10, 11, 12, 13, 14, 15] (by decide) rfl
                          refine lv_if_eq (tgt := 147) hx hb dX10_gather_124 (by decide) (fun c_124 => ?_) (fun c_124 => ?_)
                          · skip
                            have c_124 := k_b0 c_124
                            have ho := ins_stop ho (by omega) ej9 (by omega) (Bool.eq_false_iff.mpr c_124)
                            refine lv_aload_n hx hb dX10_gather_147 rfl (lv_at hl 0 rfl) ?_
                            refine k_get (ci := 10) (v := .ref (q10 5)) (C := RX10) (Tb := TX10) (N := 18) hx hb hts hu_10 hown hKW hP 0 rfl rfl 7 (by decide) hf_22 rfl rfl dX10_gather_148 ?_
                            refine lv_iload_n hx hb dX10_gather_151 rfl (lv_at hl 2 rfl) ?_
                            refine lv_iload_n hx hb dX10_gather_152 rfl (lv_at hl 1 rfl) ?_
                            refine k_iast (n := 10) (i := a) (x := nI p1) (w' := (wX10 q10 cI cJ cB st_10 kept_10 undoable_10 newest_10 tape_10 taped_10 f (upd o a (nI p1)) reach_10 heapOf_10 rows_10 x_10 overs_10 costs_10 ways_10 digits_10 beaten_10 walks_10)) hx hb hKW hP hD hS 5 0 rfl rfl (by omega) (by omega) dX10_gather_153 rfl (fun H locs hP hD hS => ?_)
                            refine lv_iinc (v := nI (p1 + 1)) (lv' := [(1, .int (nI (p1 + 1))), (0, .ref (q10 0)), (2, .int (nI a))]) hx hb dX10_gather_154 hl (k := 1) rfl (nI_add _ _) (by decide) rfl (fun ls hl => ?_)
                            refine lv_goto (tgt := 97) hx hb dX10_gather_157 (by decide) ?_
                            exact ih_97 (p1 + 1) (by omega) (by omega) _ _ (by show va_P D vwCl (wX10 _ _ _ _ _ _ _ _ _ _ _ (insAt _ p1 p1 (ordF _ _ p1)) _ _ _ _ _ _ _ _ _ _) _; rw [← ho]; exact hP) (by show va_D A (wX10 _ _ _ _ _ _ _ _ _ _ _ (insAt _ p1 p1 (ordF _ _ p1)) _ _ _ _ _ _ _ _ _ _); rw [← ho]; exact hD) hS ls (lv_sub hl [1, 0] rfl)
                          · skip
                            have c_124 := k_b1 c_124
                            refine lv_aload_n hx hb dX10_gather_127 rfl (lv_at hl 0 rfl) ?_
                            refine k_get (ci := 10) (v := .ref (q10 5)) (C := RX10) (Tb := TX10) (N := 18) hx hb hts hu_10 hown hKW hP 0 rfl rfl 7 (by decide) hf_22 rfl rfl dX10_gather_128 ?_
                            refine lv_iload_n hx hb dX10_gather_131 rfl (lv_at hl 2 rfl) ?_
                            refine lv_aload_n hx hb dX10_gather_132 rfl (lv_at hl 0 rfl) ?_
                            refine k_get (ci := 10) (v := .ref (q10 5)) (C := RX10) (Tb := TX10) (N := 18) hx hb hts hu_10 hown hKW hP 0 rfl rfl 7 (by decide) hf_22 rfl rfl dX10_gather_133 ?_
                            refine lv_iload_n hx hb dX10_gather_136 rfl (lv_at hl 2 rfl) ?_
                            refine lv_iconst (v := nI 1) hx hb dX10_gather_137 (by decide) ?_
                            refine k_isub hx hb (by omega) dX10_gather_138 ?_
                            refine k_iald (n := 10) (i := a - 1) hx hb hKW hP 5 0 rfl rfl (by omega) (by omega) dX10_gather_139 ?_
                            refine k_iast (n := 10) (i := a) (x := o (a - 1)) (w' := (wX10 q10 cI cJ cB st_10 kept_10 undoable_10 newest_10 tape_10 taped_10 f (upd o a (o (a - 1))) reach_10 heapOf_10 rows_10 x_10 overs_10 costs_10 ways_10 digits_10 beaten_10 walks_10)) hx hb hKW hP hD hS 5 0 rfl rfl (by omega) (by omega) dX10_gather_140 rfl (fun H locs hP hD hS => ?_)
                            refine lv_iinc (v := nI (a - 1)) (lv' := [(2, .int (nI (a - 1))), (0, .ref (q10 0)), (1, .int (nI p1))]) hx hb dX10_gather_141 hl (k := 2) rfl (by rw [show nI a + Int32.ofInt (-1) = nI ((a - 1) + 1) + (-1) by rw [show a - 1 + 1 = a by omega]; rfl]; exact pk_m1 _) (by decide) rfl (fun ls hl => ?_)
                            refine lv_goto (tgt := 107) hx hb dX10_gather_144 (by decide) ?_
                            exact ih_107 _ _ (by omega) (fun i hi => by rw [pk_un (by omega)]; exact hoo i (by omega)) (ins_step ho (by omega) ej9 (by omega) c_124) (by omega) _ _ hP hD hS ls (lv_sub hl [1, 2, 0] rfl)
                    exact hL_107 _ _ _ (Nat.le_refl _) hoo9 rfl (Nat.lt_succ_self _) _ _ hP hD hS ls (lv_sub hl [1, 2, 0] rfl)
              exact hL_97 _ 0 (Nat.zero_le _) (Nat.lt_succ_self _) _ _ hP hD hS ls (lv_sub hl [1, 0] rfl)
            · skip
              have c_38 := k_gt_n (by omega) (by omega) c_38
              refine lv_iconst (v := nI 0) hx hb dX10_gather_41 (by decide) ?_
              refine lv_istore_n (lv' := [(2, .int (nI 0)), (0, .ref (q10 0)), (1, .int (nI j))]) hx hb dX10_gather_42 rfl hl (by decide) rfl (fun ls hl => ?_)
              have hL_43 : ∀ (fu : Nat) (p1 : Nat) (g : Nat → Int32) (hp : p1 ≤ n) (hg2 : GM rr ml ks n g (j - 1)) (hf2 : ∀ q, q < p1 → g (5 * q + j) = numF rr ml (ks.getD (j - 1) 0) q (alk g n q j)), n - p1 < fu → ∀ (H : Heap) (locs : List Loc), va_P D vwCl (wX10 q10 cI cJ cB st_10 kept_10 undoable_10 newest_10 tape_10 taped_10 g order_10 reach_10 heapOf_10 rows_10 x_10 overs_10 costs_10 ways_10 digits_10 beaten_10 walks_10) H → va_D A (wX10 q10 cI cJ cB st_10 kept_10 undoable_10 newest_10 tape_10 taped_10 g order_10 reach_10 heapOf_10 rows_10 x_10 overs_10 costs_10 ways_10 digits_10 beaten_10 walks_10) → va_S A s.heap H locs → ∀ (ls : Array Slot), lv_has ls 3 [(0, .ref (q10 0)), (1, .int (nI j)), (2, .int (nI p1))] → W p l e (headSpec wsX10_gather rmX10_gather).room s m args below meth c H locs 0 0 Q (F0 m 43 ls []) := by
                intro fu
                induction fu with
                | zero => intro p1 g hp hg2 hf2 hfu; exact absurd hfu (Nat.not_lt_zero _)
                | succ fu ih_43 =>
                  intro p1 g hp hg2 hf2 hfu H locs hP hD hS ls hl
                  refine lv_iload_n hx hb dX10_gather_43 rfl (lv_at hl 2 rfl) ?_
                  refine lv_aload_n hx hb dX10_gather_44 rfl (lv_at hl 0 rfl) ?_
                  have hs_45 : kSplit (wX10 q10 cI cJ cB st_10 kept_10 undoable_10 newest_10 tape_10 taped_10 g order_10 reach_10 heapOf_10 rows_10 x_10 overs_10 costs_10 ways_10 digits_10 beaten_10 walks_10) (wX10 q10 cI cJ cB st_10 kept_10 undoable_10 newest_10 tape_10 taped_10 g order_10 reach_10 heapOf_10 rows_10 x_10 overs_10 costs_10 ways_10 digits_10 beaten_10 walks_10) ([] : va_W) [0, 1, 2, 3, 4, 5, 6, 7, 8, 9, 10, 11, 12, 13, 14, 15] [] := ⟨rfl, rfl, rfl, rfl, rfl, by decide⟩
                  refine kc_i hP hD hS hA hs_45 (kV (As := []) (rest := [.int (nI p1)]) hx hb hml hown hts hKW hP hD hs_45 (c_X10_n l D cI cJ cB q10 st_10 kept_10 undoable_10 newest_10 tape_10 taped_10 g order_10 reach_10 heapOf_10 rows_10 x_10 overs_10 costs_10 ways_10 digits_10 beaten_10 walks_10 n ml nx ks rr (by first | assumption | omega) (by first | assumption | omega)) (cwV 0 hts gX10_gather_X10_n rfl rfl rfl (by decide +kernel) ⟨Nat.le_of_ble_eq_true rfl, Nat.le_of_ble_eq_true rfl⟩) 0 10 rfl rfl rfl rfl hl.1 rfl (Nat.le_of_ble_eq_true rfl) dX10_gather_45 ⟨Nat.zero_le _, Nat.zero_le _⟩) (fun r_45 u_45 H locs hw_45 hP hD hS => ?_)
                  have er_45 := hw_45
                  have er_45 := er_45.symm
                  subst er_45
                  have hP : va_P D vwCl (wX10 q10 cI cJ cB st_10 kept_10 undoable_10 newest_10 tape_10 taped_10 g order_10 reach_10 heapOf_10 rows_10 x_10 overs_10 costs_10 ways_10 digits_10 beaten_10 walks_10) H := hP.sub (ws' := (wX10 q10 cI cJ cB st_10 kept_10 undoable_10 newest_10 tape_10 taped_10 g order_10 reach_10 heapOf_10 rows_10 x_10 overs_10 costs_10 ways_10 digits_10 beaten_10 walks_10)) [0, 1, 2, 3, 4, 5, 6, 7, 8, 9, 10, 11, 12, 13, 14, 15] rfl
                  have hD : va_D A (wX10 q10 cI cJ cB st_10 kept_10 undoable_10 newest_10 tape_10 taped_10 g order_10 reach_10 heapOf_10 rows_10 x_10 overs_10 costs_10 ways_10 digits_10 beaten_10 walks_10) := hD.sub (ws' := (wX10 q10 cI cJ cB st_10 kept_10 undoable_10 newest_10 tape_10 taped_10 g order_10 reach_10 heapOf_10 rows_10 x_10 overs_10 costs_10 ways_10 digits_10 beaten_10 walks_10)) [0, 1, 2, 3, 4, 5, 6, 7, 8, 9, 10, 11, 12, 13, 14, 15] (by decide) rfl
                  refine lv_icmp_ge (tgt := 89) hx hb dX10_gather_48 (by decide) (fun c_48 => ?_) (fun c_48 => ?_)
                  · skip
                    have c_48 := k_ge (by omega) (by omega) c_48
                    obtain rfl : n = p1 := by omega
                    refine lv_iinc (v := nI (j + 1)) (lv' := [(1, .int (nI (j + 1))), (0, .ref (q10 0)), (2, .int (nI n))]) hx hb dX10_gather_89 hl (k := 1) rfl (nI_add _ _) (by decide) rfl (fun ls hl => ?_)
                    refine lv_goto (tgt := 31) hx hb dX10_gather_92 (by decide) ?_
                    exact ih_31 _ _ (by omega) (by omega) (by rw [show j + 1 - 1 = (j - 1) + 1 by omega]; exact hg2.next (fun q hq => by rw [show j - 1 + 1 = j by omega]; exact hf2 q (by omega))) (by omega) _ _ hP hD hS ls (lv_sub hl [1, 0] rfl)
                  · skip
                    have c_48 := k_ge_n (by omega) (by omega) c_48
                    refine lv_aload_n hx hb dX10_gather_51 rfl (lv_at hl 0 rfl) ?_
                    refine k_get (ci := 10) (v := .ref (q10 4)) (C := RX10) (Tb := TX10) (N := 18) hx hb hts hu_10 hown hKW hP 0 rfl rfl 6 (by decide) hf_19 rfl rfl dX10_gather_52 ?_
                    refine lv_iconst (v := nI 5) hx hb dX10_gather_55 (by decide) ?_
                    refine lv_iload_n hx hb dX10_gather_56 rfl (lv_at hl 2 rfl) ?_
                    refine k_imul hx hb dX10_gather_57 ?_
                    refine lv_iload_n hx hb dX10_gather_58 rfl (lv_at hl 1 rfl) ?_
                    refine k_iadd hx hb dX10_gather_59 ?_
                    refine lv_aload_n hx hb dX10_gather_60 rfl (lv_at hl 0 rfl) ?_
                    refine lv_aload_n hx hb dX10_gather_61 rfl (lv_at hl 0 rfl) ?_
                    refine k_get (ci := 10) (v := .ref (q10 1)) (C := RX10) (Tb := TX10) (N := 18) hx hb hts hu_10 hown hKW hP 0 rfl rfl 0 (by decide) hf_7 rfl rfl dX10_gather_62 ?_
                    refine lv_bipush (v := nI 7) hx hb dX10_gather_65 (by decide) ?_
                    refine lv_iload_n hx hb dX10_gather_67 rfl (lv_at hl 1 rfl) ?_
                    refine k_iadd hx hb dX10_gather_68 ?_
                    refine lv_iconst (v := nI 1) hx hb dX10_gather_69 (by decide) ?_
                    refine k_isub hx hb (by omega) dX10_gather_70 ?_
                    refine k_iald (n := 600) (i := (7 + j) - 1) hx hb hKW hP 1 0 rfl rfl (by omega) (by omega) dX10_gather_71 ?_
                    refine k_top (y := nI (ks.getD (j - 1) 0)) (by rw [show 7 + j - 1 = 7 + (j - 1) by omega]; exact hR.2.2.2.2.2.2.2.1 (j - 1) (by omega)) ?_
                    refine lv_iload_n hx hb dX10_gather_72 rfl (lv_at hl 2 rfl) ?_
                    refine lv_aload_n hx hb dX10_gather_73 rfl (lv_at hl 0 rfl) ?_
                    refine lv_iload_n hx hb dX10_gather_74 rfl (lv_at hl 2 rfl) ?_
                    refine lv_iload_n hx hb dX10_gather_75 rfl (lv_at hl 1 rfl) ?_
                    have hs_76 : kSplit (wX10 q10 cI cJ cB st_10 kept_10 undoable_10 newest_10 tape_10 taped_10 g order_10 reach_10 heapOf_10 rows_10 x_10 overs_10 costs_10 ways_10 digits_10 beaten_10 walks_10) (wX10 q10 cI cJ cB st_10 kept_10 undoable_10 newest_10 tape_10 taped_10 g order_10 reach_10 heapOf_10 rows_10 x_10 overs_10 costs_10 ways_10 digits_10 beaten_10 walks_10) ([] : va_W) [0, 1, 2, 3, 4, 5, 6, 7, 8, 9, 10, 11, 12, 13, 14, 15] [] := ⟨rfl, rfl, rfl, rfl, rfl, by decide⟩
                    refine kc_i hP hD hS hA hs_76 (kV (As := [.int (nI p1), .int (nI j)]) (rest := [.int (nI p1), .int (nI (ks.getD (j - 1) 0)), .ref (q10 0), .int (nI ((5 * p1) + j)), .ref (q10 4)]) hx hb hml hown hts hKW hP hD hs_76 (c_X10_alike l D cI cJ cB q10 st_10 kept_10 undoable_10 newest_10 tape_10 taped_10 g order_10 reach_10 heapOf_10 rows_10 x_10 overs_10 costs_10 ways_10 digits_10 beaten_10 walks_10 n ml nx ks rr p1 j (by first | assumption | omega) (by first | assumption | omega) (by first | assumption | omega) (by first | assumption | omega)) (cwV 2 hts gX10_gather_X10_alike rfl rfl rfl (by decide +kernel) ⟨Nat.le_of_ble_eq_true rfl, Nat.le_of_ble_eq_true rfl⟩) 0 10 rfl rfl rfl rfl hl.1 rfl (Nat.le_of_ble_eq_true rfl) dX10_gather_76 ⟨Nat.zero_le _, Nat.zero_le _⟩) (fun r_76 u_76 H locs hw_76 hP hD hS => ?_)
                    have er_76 := hw_76
                    have er_76 := er_76.symm
                    subst er_76
                    have hP : va_P D vwCl (wX10 q10 cI cJ cB st_10 kept_10 undoable_10 newest_10 tape_10 taped_10 g order_10 reach_10 heapOf_10 rows_10 x_10 overs_10 costs_10 ways_10 digits_10 beaten_10 walks_10) H := hP.sub (ws' := (wX10 q10 cI cJ cB st_10 kept_10 undoable_10 newest_10 tape_10 taped_10 g order_10 reach_10 heapOf_10 rows_10 x_10 overs_10 costs_10 ways_10 digits_10 beaten_10 walks_10)) [0, 1, 2, 3, 4, 5, 6, 7, 8, 9, 10, 11, 12, 13, 14, 15] rfl
                    have hD : va_D A (wX10 q10 cI cJ cB st_10 kept_10 undoable_10 newest_10 tape_10 taped_10 g order_10 reach_10 heapOf_10 rows_10 x_10 overs_10 costs_10 ways_10 digits_10 beaten_10 walks_10) := hD.sub (ws' := (wX10 q10 cI cJ cB st_10 kept_10 undoable_10 newest_10 tape_10 taped_10 g order_10 reach_10 heapOf_10 rows_10 x_10 overs_10 costs_10 ways_10 digits_10 beaten_10 walks_10)) [0, 1, 2, 3, 4, 5, 6, 7, 8, 9, 10, 11, 12, 13, 14, 15] (by decide) rfl
                    have hs_79 : kSplit (wX10 q10 cI cJ cB st_10 kept_10 undoable_10 newest_10 tape_10 taped_10 g order_10 reach_10 heapOf_10 rows_10 x_10 overs_10 costs_10 ways_10 digits_10 beaten_10 walks_10) (wX10 q10 cI cJ cB st_10 kept_10 undoable_10 newest_10 tape_10 taped_10 g order_10 reach_10 heapOf_10 rows_10 x_10 overs_10 costs_10 ways_10 digits_10 beaten_10 walks_10) ([] : va_W) [0, 1, 2, 3, 4, 5, 6, 7, 8, 9, 10, 11, 12, 13, 14, 15] [] := ⟨rfl, rfl, rfl, rfl, rfl, by decide⟩
                    refine kc_i hP hD hS hA hs_79 (kV (As := [.int (nI (ks.getD (j - 1) 0)), .int (nI p1), .int (nI (alk g n p1 j))]) (rest := [.int (nI ((5 * p1) + j)), .ref (q10 4)]) hx hb hml hown hts hKW hP hD hs_79 (c_X10_numberOf l D cI cJ cB q10 st_10 kept_10 undoable_10 newest_10 tape_10 taped_10 g order_10 reach_10 heapOf_10 rows_10 x_10 overs_10 costs_10 ways_10 digits_10 beaten_10 walks_10 n ml nx ks rr (ks.getD (j - 1) 0) p1 (alk g n p1 j) (by first | assumption | omega) (by first | assumption | omega) (hV.2.2.2.2.2.2.2 _ (gD_mem (by omega))) (by first | assumption | omega) (Nat.lt_of_lt_of_le (bitsOf_lt _ n) (pow_le_1024 hn10))) (cwV 3 hts gX10_gather_X10_numberOf rfl rfl rfl (by decide +kernel) ⟨Nat.le_of_ble_eq_true rfl, Nat.le_of_ble_eq_true rfl⟩) 0 10 rfl rfl rfl rfl hl.1 rfl (Nat.le_of_ble_eq_true rfl) dX10_gather_79 ⟨Nat.zero_le _, Nat.zero_le _⟩) (fun r_79 u_79 H locs hw_79 hP hD hS => ?_)
                    have er_79 := hw_79
                    have er_79 := er_79.symm
                    subst er_79
                    have hP : va_P D vwCl (wX10 q10 cI cJ cB st_10 kept_10 undoable_10 newest_10 tape_10 taped_10 g order_10 reach_10 heapOf_10 rows_10 x_10 overs_10 costs_10 ways_10 digits_10 beaten_10 walks_10) H := hP.sub (ws' := (wX10 q10 cI cJ cB st_10 kept_10 undoable_10 newest_10 tape_10 taped_10 g order_10 reach_10 heapOf_10 rows_10 x_10 overs_10 costs_10 ways_10 digits_10 beaten_10 walks_10)) [0, 1, 2, 3, 4, 5, 6, 7, 8, 9, 10, 11, 12, 13, 14, 15] rfl
                    have hD : va_D A (wX10 q10 cI cJ cB st_10 kept_10 undoable_10 newest_10 tape_10 taped_10 g order_10 reach_10 heapOf_10 rows_10 x_10 overs_10 costs_10 ways_10 digits_10 beaten_10 walks_10) := hD.sub (ws' := (wX10 q10 cI cJ cB st_10 kept_10 undoable_10 newest_10 tape_10 taped_10 g order_10 reach_10 heapOf_10 rows_10 x_10 overs_10 costs_10 ways_10 digits_10 beaten_10 walks_10)) [0, 1, 2, 3, 4, 5, 6, 7, 8, 9, 10, 11, 12, 13, 14, 15] (by decide) rfl
                    refine k_iast (n := 50) (i := (5 * p1) + j) (x := numF rr ml (ks.getD (j - 1) 0) p1 (alk g n p1 j)) (w' := (wX10 q10 cI cJ cB st_10 kept_10 undoable_10 newest_10 tape_10 taped_10 (upd g ((5 * p1) + j) (numF rr ml (ks.getD (j - 1) 0) p1 (alk g n p1 j))) order_10 reach_10 heapOf_10 rows_10 x_10 overs_10 costs_10 ways_10 digits_10 beaten_10 walks_10)) hx hb hKW hP hD hS 4 0 rfl rfl (by omega) (by omega) dX10_gather_82 rfl (fun H locs hP hD hS => ?_)
                    refine lv_iinc (v := nI (p1 + 1)) (lv' := [(2, .int (nI (p1 + 1))), (0, .ref (q10 0)), (1, .int (nI j))]) hx hb dX10_gather_83 hl (k := 2) rfl (nI_add _ _) (by decide) rfl (fun ls hl => ?_)
                    refine lv_goto (tgt := 43) hx hb dX10_gather_86 (by decide) ?_
                    exact ih_43 _ _ (by omega) (GM_upd hg2 (by omega) (by omega)) (fun q hq => by rw [alk_upd (by omega) (by omega)]; by_cases e9 : q = p1; (subst e9; exact pk_us); (rw [pk_un (by omega)]; exact hf2 q (by omega))) (by omega) _ _ hP hD hS ls (lv_sub hl [1, 2, 0] rfl)
              exact hL_43 _ 0 _ (Nat.zero_le _) hg (fun q hq => absurd hq (Nat.not_lt_zero q)) (Nat.lt_succ_self _) _ _ hP hD hS ls (lv_sub hl [1, 2, 0] rfl)
        exact hL_31 _ 1 _ (Nat.le_refl _) (by omega) (⟨fun q hq => hf q (by omega), fun i hi => absurd hi (by omega)⟩) (Nat.lt_succ_self _) _ _ hP hD hS ls (lv_sub hl [1, 0] rfl)
      · skip
        have c_7 := k_ge_n (by omega) (by omega) c_7
        refine lv_aload_n hx hb dX10_gather_10 rfl (lv_at hl 0 rfl) ?_
        refine k_get (ci := 10) (v := .ref (q10 4)) (C := RX10) (Tb := TX10) (N := 18) hx hb hts hu_10 hown hKW hP 0 rfl rfl 6 (by decide) hf_19 rfl rfl dX10_gather_11 ?_
        refine lv_iconst (v := nI 5) hx hb dX10_gather_14 (by decide) ?_
        refine lv_iload_n hx hb dX10_gather_15 rfl (lv_at hl 1 rfl) ?_
        refine k_imul hx hb dX10_gather_16 ?_
        refine lv_aload_n hx hb dX10_gather_17 rfl (lv_at hl 0 rfl) ?_
        refine lv_iload_n hx hb dX10_gather_18 rfl (lv_at hl 1 rfl) ?_
        have hs_19 : kSplit (wX10 q10 cI cJ cB st_10 kept_10 undoable_10 newest_10 tape_10 taped_10 f order_10 reach_10 heapOf_10 rows_10 x_10 overs_10 costs_10 ways_10 digits_10 beaten_10 walks_10) (wX10 q10 cI cJ cB st_10 kept_10 undoable_10 newest_10 tape_10 taped_10 f order_10 reach_10 heapOf_10 rows_10 x_10 overs_10 costs_10 ways_10 digits_10 beaten_10 walks_10) ([] : va_W) [0, 1, 2, 3, 4, 5, 6, 7, 8, 9, 10, 11, 12, 13, 14, 15] [] := ⟨rfl, rfl, rfl, rfl, rfl, by decide⟩
        refine kc_i hP hD hS hA hs_19 (kV (As := [.int (nI p1)]) (rest := [.int (nI (5 * p1)), .ref (q10 4)]) hx hb hml hown hts hKW hP hD hs_19 (c_X10_scoreOf l D cI cJ cB q10 st_10 kept_10 undoable_10 newest_10 tape_10 taped_10 f order_10 reach_10 heapOf_10 rows_10 x_10 overs_10 costs_10 ways_10 digits_10 beaten_10 walks_10 n ml nx ks rr p1 (by first | assumption | omega) (by first | assumption | omega) (by first | assumption | omega)) (cwV 1 hts gX10_gather_X10_scoreOf rfl rfl rfl (by decide +kernel) ⟨Nat.le_of_ble_eq_true rfl, Nat.le_of_ble_eq_true rfl⟩) 0 10 rfl rfl rfl rfl hl.1 rfl (Nat.le_of_ble_eq_true rfl) dX10_gather_19 ⟨Nat.zero_le _, Nat.zero_le _⟩) (fun r_19 u_19 H locs hw_19 hP hD hS => ?_)
        have er_19 := hw_19
        have er_19 := er_19.symm
        subst er_19
        have hP : va_P D vwCl (wX10 q10 cI cJ cB st_10 kept_10 undoable_10 newest_10 tape_10 taped_10 f order_10 reach_10 heapOf_10 rows_10 x_10 overs_10 costs_10 ways_10 digits_10 beaten_10 walks_10) H := hP.sub (ws' := (wX10 q10 cI cJ cB st_10 kept_10 undoable_10 newest_10 tape_10 taped_10 f order_10 reach_10 heapOf_10 rows_10 x_10 overs_10 costs_10 ways_10 digits_10 beaten_10 walks_10)) [0, 1, 2, 3, 4, 5, 6, 7, 8, 9, 10, 11, 12, 13, 14, 15] rfl
        have hD : va_D A (wX10 q10 cI cJ cB st_10 kept_10 undoable_10 newest_10 tape_10 taped_10 f order_10 reach_10 heapOf_10 rows_10 x_10 overs_10 costs_10 ways_10 digits_10 beaten_10 walks_10) := hD.sub (ws' := (wX10 q10 cI cJ cB st_10 kept_10 undoable_10 newest_10 tape_10 taped_10 f order_10 reach_10 heapOf_10 rows_10 x_10 overs_10 costs_10 ways_10 digits_10 beaten_10 walks_10)) [0, 1, 2, 3, 4, 5, 6, 7, 8, 9, 10, 11, 12, 13, 14, 15] (by decide) rfl
        refine k_iast (n := 50) (i := 5 * p1) (x := scF rr ml p1 1023) (w' := (wX10 q10 cI cJ cB st_10 kept_10 undoable_10 newest_10 tape_10 taped_10 (upd f (5 * p1) (scF rr ml p1 1023)) order_10 reach_10 heapOf_10 rows_10 x_10 overs_10 costs_10 ways_10 digits_10 beaten_10 walks_10)) hx hb hKW hP hD hS 4 0 rfl rfl (by omega) (by omega) dX10_gather_22 rfl (fun H locs hP hD hS => ?_)
        refine lv_iinc (v := nI (p1 + 1)) (lv' := [(1, .int (nI (p1 + 1))), (0, .ref (q10 0))]) hx hb dX10_gather_23 hl (k := 1) rfl (nI_add _ _) (by decide) rfl (fun ls hl => ?_)
        refine lv_goto (tgt := 2) hx hb dX10_gather_26 (by decide) ?_
        exact ih_2 _ _ (by omega) (fun q hq => by by_cases e9 : q = p1; (subst e9; exact pk_us); (rw [pk_un (by omega)]; exact hf q (by omega))) (by omega) _ _ hP hD hS ls (lv_sub hl [1, 0] rfl)
  exact hL_2 _ 0 _ (Nat.zero_le _) (fun q hq => absurd hq (Nat.not_lt_zero q)) (Nat.lt_succ_self _) _ _ hP hD hS ls (lv_sub hl [1, 0] rfl)
def rmX10_number : Room := { frames := 5, cells := 0, slots := 0, locals := 116 }
set_option maxHeartbeats 4000000 in
set_option maxRecDepth 100000 in
theorem c_X10_number (l : Launch) (D : va_G) (cI cJ cB : ClassId) (q10 : Nat → Nat) (st_10 : Nat → Int32) (kept_10 : Nat → Int32) (undoable_10 : Int32) (newest_10 : Int32) (tape_10 : Nat → Int32) (taped_10 : Int32) (marks_10 : Nat → Int32) (order_10 : Nat → Int32) (reach_10 : Nat → Int32) (heapOf_10 : Nat → Int32) (rows_10 : Nat → Int64) (x_10 : Nat → Int64) (overs_10 : Nat → Int32) (costs_10 : Nat → Int32) (ways_10 : Nat → Int32) (digits_10 : Nat → Int32) (beaten_10 : Nat → Int32) (walks_10 : Nat → Int32) (n : Nat) (ml : List Mt) (nx : List (Nat × Nat)) (ks : List Nat) (rr : Int32 × Int32 × Int32) (kd : Int32) (x : Int32) (hR : RS st_10 n ml nx ks rr) (hV : VS n ml nx ks) : ∀ sz, Met l yX10_number wsX10_number rmX10_number (va_Pc [.ref (q10 0), .int kd, .int x] (PW D (kT cI cJ cB) sz (wX10 q10 cI cJ cB st_10 kept_10 undoable_10 newest_10 tape_10 taped_10 marks_10 order_10 reach_10 heapOf_10 rows_10 x_10 overs_10 costs_10 ways_10 digits_10 beaten_10 walks_10))) (va_Qi (S := (Nat → Int32) × (Nat → Int32)) (fun r uu => match uu with | (marks_10', order_10') => r = if kIn x n ∧ kIn kd 6 then numF rr ml kd.toInt.toNat x.toInt.toNat (sc1 rr ml n x.toInt.toNat) else 0) (QW D sz (wX10 q10 cI cJ cB st_10 kept_10 undoable_10 newest_10 tape_10 taped_10 marks_10 order_10 reach_10 heapOf_10 rows_10 x_10 overs_10 costs_10 ways_10 digits_10 beaten_10 walks_10) (fun uu => match uu with | (marks_10', order_10') => (wX10 q10 cI cJ cB st_10 kept_10 undoable_10 newest_10 tape_10 taped_10 marks_10' order_10' reach_10 heapOf_10 rows_10 x_10 overs_10 costs_10 ways_10 digits_10 beaten_10 walks_10))) (va_A (wX10 q10 cI cJ cB st_10 kept_10 undoable_10 newest_10 tape_10 taped_10 marks_10 order_10 reach_10 heapOf_10 rows_10 x_10 overs_10 costs_10 ways_10 digits_10 beaten_10 walks_10) sz)) 0 0 (va_A (wX10 q10 cI cJ cB st_10 kept_10 undoable_10 newest_10 tape_10 taped_10 marks_10 order_10 reach_10 heapOf_10 rows_10 x_10 overs_10 costs_10 ways_10 digits_10 beaten_10 walks_10) sz) := by
  intro sz
  refine Met.ofW (cc := cX10_number) (maxL := 3) (ret := (some .int)) (by decide) rfl ?_
  intro p e s m args below meth c s₁ B hml hv
  obtain ⟨hav, hsz, hP, hKW, hD0⟩ := hv
  have hx := B.exec
  have hb := B.bytes
  have hr := B.returns
  have hts := atoms_spec (ws := wsX10_number) B.pre
  have hown : s.vm.findClass RX10 = some m.cls := findClass_of_methodNamed B.named
  have hlocks := B.notSynchronized
  subst hsz
  have hD := hD0.self (sz := s.heap.size)
  obtain ⟨A, hAe⟩ : ∃ A : Nat → Prop, A = va_A (wX10 q10 cI cJ cB st_10 kept_10 undoable_10 newest_10 tape_10 taped_10 marks_10 order_10 reach_10 heapOf_10 rows_10 x_10 overs_10 costs_10 ways_10 digits_10 beaten_10 walks_10) s.heap.size := ⟨_, rfl⟩
  rw [← hAe] at hD
  have hA : ∀ q : Nat, s.heap.size ≤ q → A q := fun q h => by rw [hAe]; exact Or.inr h
  have hS : va_S A s.heap s.heap [] := va_S.rf
  refine k_gen (fun Q hQ => ?_)
  have hl := lv_entry ([.ref (q10 0), .int kd, .int x]) (n := 3) (Nat.le_of_ble_eq_true rfl)
  refine k_entry hav (lg_entry_eq ..) ?_
  generalize (lg_sl ([.ref (q10 0), .int kd, .int x]) ++ List.replicate (3 - (lg_sl ([.ref (q10 0), .int kd, .int x])).length) Slot.unset).toArray = ls at hl ⊢
  have hl : lv_has ls 3 [(0, .ref (q10 0)), (1, .int kd), (2, .int x)] := hl
  have hn1 := hV.1
  have hn10 := hV.2.1
  have hm120 := hV.2.2.1
  have hx40 := hV.2.2.2.2.1
  have hk4 := hV.2.2.2.2.2.2.1
  refine lv_aload_n hx hb dX10_number_0 rfl (lv_at hl 0 rfl) ?_
  refine lv_iload_n hx hb dX10_number_1 rfl (lv_at hl 2 rfl) ?_
  have hs_2 : kSplit (wX10 q10 cI cJ cB st_10 kept_10 undoable_10 newest_10 tape_10 taped_10 marks_10 order_10 reach_10 heapOf_10 rows_10 x_10 overs_10 costs_10 ways_10 digits_10 beaten_10 walks_10) (wX10 q10 cI cJ cB st_10 kept_10 undoable_10 newest_10 tape_10 taped_10 marks_10 order_10 reach_10 heapOf_10 rows_10 x_10 overs_10 costs_10 ways_10 digits_10 beaten_10 walks_10) ([] : va_W) [0, 1, 2, 3, 4, 5, 6, 7, 8, 9, 10, 11, 12, 13, 14, 15] [] := ⟨rfl, rfl, rfl, rfl, rfl, by decide⟩
  refine kc_i hP hD hS hA hs_2 (kV (As := [.int x]) (rest := []) hx hb hml hown hts hKW hP hD hs_2 (c_X10_isPlayer l D cI cJ cB q10 st_10 kept_10 undoable_10 newest_10 tape_10 taped_10 marks_10 order_10 reach_10 heapOf_10 rows_10 x_10 overs_10 costs_10 ways_10 digits_10 beaten_10 walks_10 n ml nx ks rr x (by first | assumption | omega) (by first | assumption | omega)) (cwV 1 hts gX10_number_X10_isPlayer rfl rfl rfl (by decide +kernel) ⟨Nat.le_of_ble_eq_true rfl, Nat.le_of_ble_eq_true rfl⟩) 0 10 rfl rfl rfl rfl hl.1 rfl (Nat.le_of_ble_eq_true rfl) dX10_number_2 ⟨Nat.zero_le _, Nat.zero_le _⟩) (fun r_2 u_2 H locs hw_2 hP hD hS => ?_)
  have er_2 := hw_2
  have er_2 := er_2.symm
  subst er_2
  have hP : va_P D vwCl (wX10 q10 cI cJ cB st_10 kept_10 undoable_10 newest_10 tape_10 taped_10 marks_10 order_10 reach_10 heapOf_10 rows_10 x_10 overs_10 costs_10 ways_10 digits_10 beaten_10 walks_10) H := hP.sub (ws' := (wX10 q10 cI cJ cB st_10 kept_10 undoable_10 newest_10 tape_10 taped_10 marks_10 order_10 reach_10 heapOf_10 rows_10 x_10 overs_10 costs_10 ways_10 digits_10 beaten_10 walks_10)) [0, 1, 2, 3, 4, 5, 6, 7, 8, 9, 10, 11, 12, 13, 14, 15] rfl
  have hD : va_D A (wX10 q10 cI cJ cB st_10 kept_10 undoable_10 newest_10 tape_10 taped_10 marks_10 order_10 reach_10 heapOf_10 rows_10 x_10 overs_10 costs_10 ways_10 digits_10 beaten_10 walks_10) := hD.sub (ws' := (wX10 q10 cI cJ cB st_10 kept_10 undoable_10 newest_10 tape_10 taped_10 marks_10 order_10 reach_10 heapOf_10 rows_10 x_10 overs_10 costs_10 ways_10 digits_10 beaten_10 walks_10)) [0, 1, 2, 3, 4, 5, 6, 7, 8, 9, 10, 11, 12, 13, 14, 15] (by decide) rfl
  refine lv_if_eq (tgt := 17) hx hb dX10_number_5 (by decide) (fun c_5 => ?_) (fun c_5 => ?_)
  · skip
    have c_5 := k_b0 c_5
    refine lv_iconst (v := nI 0) hx hb dX10_number_17 (by decide) ?_
    subst hQ; subst hAe
    exact W.iret (v := nI 0) hx hb hr (fun t ht _ => ⟨⟨nI 0, (marks_10, order_10), rfl, (if_neg (fun z => by first | exact c_5 z.1 | exact kIn_lo c_9 z.2 | exact kIn_nle (m := 5) (by decide) c_14 z.2)).symm, by rw [ht]; exact hP, hD⟩, hS.F ht⟩) hS.2.2 dX10_number_18
  · skip
    have c_5 := k_b1 c_5
    refine lv_iload_n hx hb dX10_number_8 rfl (lv_at hl 1 rfl) ?_
    refine lv_if_lt (tgt := 17) hx hb dX10_number_9 (by decide) (fun c_9 => ?_) (fun c_9 => ?_)
    · skip
      refine lv_iconst (v := nI 0) hx hb dX10_number_17 (by decide) ?_
      subst hQ; subst hAe
      exact W.iret (v := nI 0) hx hb hr (fun t ht _ => ⟨⟨nI 0, (marks_10, order_10), rfl, (if_neg (fun z => by first | exact c_5 z.1 | exact kIn_lo c_9 z.2 | exact kIn_nle (m := 5) (by decide) c_14 z.2)).symm, by rw [ht]; exact hP, hD⟩, hS.F ht⟩) hS.2.2 dX10_number_18
    · skip
      refine lv_iload_n hx hb dX10_number_12 rfl (lv_at hl 1 rfl) ?_
      refine lv_iconst (v := nI 5) hx hb dX10_number_13 (by decide) ?_
      refine lv_icmp_le (tgt := 19) hx hb dX10_number_14 (by decide) (fun c_14 => ?_) (fun c_14 => ?_)
      · skip
        obtain ⟨kd, hkd2, rfl⟩ := kIn_nat (kIn_le' (m := 5) (by decide) c_9 c_14)
        obtain ⟨x, hx2, rfl⟩ := kIn_nat c_5
        refine lv_aload_n hx hb dX10_number_19 rfl (lv_at hl 0 rfl) ?_
        have hs_20 : kSplit (wX10 q10 cI cJ cB st_10 kept_10 undoable_10 newest_10 tape_10 taped_10 marks_10 order_10 reach_10 heapOf_10 rows_10 x_10 overs_10 costs_10 ways_10 digits_10 beaten_10 walks_10) (wX10 q10 cI cJ cB st_10 kept_10 undoable_10 newest_10 tape_10 taped_10 marks_10 order_10 reach_10 heapOf_10 rows_10 x_10 overs_10 costs_10 ways_10 digits_10 beaten_10 walks_10) ([] : va_W) [0, 1, 2, 3, 4, 5, 6, 7, 8, 9, 10, 11, 12, 13, 14, 15] [] := ⟨rfl, rfl, rfl, rfl, rfl, by decide⟩
        refine kc_v hP hD hS hA hs_20 (kV (As := []) (rest := []) hx hb hml hown hts hKW hP hD hs_20 (c_X10_gather l D cI cJ cB q10 st_10 kept_10 undoable_10 newest_10 tape_10 taped_10 marks_10 order_10 reach_10 heapOf_10 rows_10 x_10 overs_10 costs_10 ways_10 digits_10 beaten_10 walks_10 n ml nx ks rr (by first | assumption | omega) (by first | assumption | omega)) (cwV 0 hts gX10_number_X10_gather rfl rfl rfl (by decide +kernel) ⟨Nat.le_of_ble_eq_true rfl, Nat.le_of_ble_eq_true rfl⟩) 0 10 rfl rfl rfl rfl hl.1 rfl (Nat.le_of_ble_eq_true rfl) dX10_number_20 ⟨Nat.zero_le _, Nat.zero_le _⟩) (fun u_20 H locs hw_20 hP hD hS => ?_)
        obtain ⟨marks_10_20, order_10_20⟩ := u_20
        have hP : va_P D vwCl (wX10 q10 cI cJ cB st_10 kept_10 undoable_10 newest_10 tape_10 taped_10 marks_10_20 order_10_20 reach_10 heapOf_10 rows_10 x_10 overs_10 costs_10 ways_10 digits_10 beaten_10 walks_10) H := hP.sub (ws' := (wX10 q10 cI cJ cB st_10 kept_10 undoable_10 newest_10 tape_10 taped_10 marks_10_20 order_10_20 reach_10 heapOf_10 rows_10 x_10 overs_10 costs_10 ways_10 digits_10 beaten_10 walks_10)) [0, 1, 2, 3, 4, 5, 6, 7, 8, 9, 10, 11, 12, 13, 14, 15] rfl
        have hD : va_D A (wX10 q10 cI cJ cB st_10 kept_10 undoable_10 newest_10 tape_10 taped_10 marks_10_20 order_10_20 reach_10 heapOf_10 rows_10 x_10 overs_10 costs_10 ways_10 digits_10 beaten_10 walks_10) := hD.sub (ws' := (wX10 q10 cI cJ cB st_10 kept_10 undoable_10 newest_10 tape_10 taped_10 marks_10_20 order_10_20 reach_10 heapOf_10 rows_10 x_10 overs_10 costs_10 ways_10 digits_10 beaten_10 walks_10)) [0, 1, 2, 3, 4, 5, 6, 7, 8, 9, 10, 11, 12, 13, 14, 15] (by decide) rfl
        refine lv_aload_n hx hb dX10_number_23 rfl (lv_at hl 0 rfl) ?_
        refine lv_iload_n hx hb dX10_number_24 rfl (lv_at hl 1 rfl) ?_
        refine lv_iload_n hx hb dX10_number_25 rfl (lv_at hl 2 rfl) ?_
        refine lv_aload_n hx hb dX10_number_26 rfl (lv_at hl 0 rfl) ?_
        refine lv_iload_n hx hb dX10_number_27 rfl (lv_at hl 2 rfl) ?_
        refine lv_iconst (v := nI 1) hx hb dX10_number_28 (by decide) ?_
        have hs_29 : kSplit (wX10 q10 cI cJ cB st_10 kept_10 undoable_10 newest_10 tape_10 taped_10 marks_10_20 order_10_20 reach_10 heapOf_10 rows_10 x_10 overs_10 costs_10 ways_10 digits_10 beaten_10 walks_10) (wX10 q10 cI cJ cB st_10 kept_10 undoable_10 newest_10 tape_10 taped_10 marks_10_20 order_10_20 reach_10 heapOf_10 rows_10 x_10 overs_10 costs_10 ways_10 digits_10 beaten_10 walks_10) ([] : va_W) [0, 1, 2, 3, 4, 5, 6, 7, 8, 9, 10, 11, 12, 13, 14, 15] [] := ⟨rfl, rfl, rfl, rfl, rfl, by decide⟩
        refine kc_i hP hD hS hA hs_29 (kV (As := [.int (nI x), .int (nI 1)]) (rest := [.int (nI x), .int (nI kd), .ref (q10 0)]) hx hb hml hown hts hKW hP hD hs_29 (c_X10_alike l D cI cJ cB q10 st_10 kept_10 undoable_10 newest_10 tape_10 taped_10 marks_10_20 order_10_20 reach_10 heapOf_10 rows_10 x_10 overs_10 costs_10 ways_10 digits_10 beaten_10 walks_10 n ml nx ks rr x 1 (by first | assumption | omega) (by first | assumption | omega) (by first | assumption | omega) (by first | assumption | omega)) (cwV 2 hts gX10_number_X10_alike rfl rfl rfl (by decide +kernel) ⟨Nat.le_of_ble_eq_true rfl, Nat.le_of_ble_eq_true rfl⟩) 0 10 rfl rfl rfl rfl hl.1 rfl (Nat.le_of_ble_eq_true rfl) dX10_number_29 ⟨Nat.zero_le _, Nat.zero_le _⟩) (fun r_29 u_29 H locs hw_29 hP hD hS => ?_)
        have er_29 := hw_29
        have er_29 := er_29.symm
        subst er_29
        have hP : va_P D vwCl (wX10 q10 cI cJ cB st_10 kept_10 undoable_10 newest_10 tape_10 taped_10 marks_10_20 order_10_20 reach_10 heapOf_10 rows_10 x_10 overs_10 costs_10 ways_10 digits_10 beaten_10 walks_10) H := hP.sub (ws' := (wX10 q10 cI cJ cB st_10 kept_10 undoable_10 newest_10 tape_10 taped_10 marks_10_20 order_10_20 reach_10 heapOf_10 rows_10 x_10 overs_10 costs_10 ways_10 digits_10 beaten_10 walks_10)) [0, 1, 2, 3, 4, 5, 6, 7, 8, 9, 10, 11, 12, 13, 14, 15] rfl
        have hD : va_D A (wX10 q10 cI cJ cB st_10 kept_10 undoable_10 newest_10 tape_10 taped_10 marks_10_20 order_10_20 reach_10 heapOf_10 rows_10 x_10 overs_10 costs_10 ways_10 digits_10 beaten_10 walks_10) := hD.sub (ws' := (wX10 q10 cI cJ cB st_10 kept_10 undoable_10 newest_10 tape_10 taped_10 marks_10_20 order_10_20 reach_10 heapOf_10 rows_10 x_10 overs_10 costs_10 ways_10 digits_10 beaten_10 walks_10)) [0, 1, 2, 3, 4, 5, 6, 7, 8, 9, 10, 11, 12, 13, 14, 15] (by decide) rfl
        have ea9 := alk1 hw_20.1 hx2
        have es9 : sc1 rr ml n x < 1024 := Nat.lt_of_lt_of_le (bitsOf_lt _ n) (by exact Nat.pow_le_pow_right (by decide) hn10)
        refine k_top (y := nI (sc1 rr ml n x)) (by rw [ea9]) ?_
        have hs_32 : kSplit (wX10 q10 cI cJ cB st_10 kept_10 undoable_10 newest_10 tape_10 taped_10 marks_10_20 order_10_20 reach_10 heapOf_10 rows_10 x_10 overs_10 costs_10 ways_10 digits_10 beaten_10 walks_10) (wX10 q10 cI cJ cB st_10 kept_10 undoable_10 newest_10 tape_10 taped_10 marks_10_20 order_10_20 reach_10 heapOf_10 rows_10 x_10 overs_10 costs_10 ways_10 digits_10 beaten_10 walks_10) ([] : va_W) [0, 1, 2, 3, 4, 5, 6, 7, 8, 9, 10, 11, 12, 13, 14, 15] [] := ⟨rfl, rfl, rfl, rfl, rfl, by decide⟩
        refine kc_i hP hD hS hA hs_32 (kV (As := [.int (nI kd), .int (nI x), .int (nI (sc1 rr ml n x))]) (rest := []) hx hb hml hown hts hKW hP hD hs_32 (c_X10_numberOf l D cI cJ cB q10 st_10 kept_10 undoable_10 newest_10 tape_10 taped_10 marks_10_20 order_10_20 reach_10 heapOf_10 rows_10 x_10 overs_10 costs_10 ways_10 digits_10 beaten_10 walks_10 n ml nx ks rr kd x (sc1 rr ml n x) (by first | assumption | omega) (by first | assumption | omega) (by first | assumption | omega) (by first | assumption | omega) (by first | assumption | omega)) (cwV 3 hts gX10_number_X10_numberOf rfl rfl rfl (by decide +kernel) ⟨Nat.le_of_ble_eq_true rfl, Nat.le_of_ble_eq_true rfl⟩) 0 10 rfl rfl rfl rfl hl.1 rfl (Nat.le_of_ble_eq_true rfl) dX10_number_32 ⟨Nat.zero_le _, Nat.zero_le _⟩) (fun r_32 u_32 H locs hw_32 hP hD hS => ?_)
        have er_32 := hw_32
        have er_32 := er_32.symm
        subst er_32
        have hP : va_P D vwCl (wX10 q10 cI cJ cB st_10 kept_10 undoable_10 newest_10 tape_10 taped_10 marks_10_20 order_10_20 reach_10 heapOf_10 rows_10 x_10 overs_10 costs_10 ways_10 digits_10 beaten_10 walks_10) H := hP.sub (ws' := (wX10 q10 cI cJ cB st_10 kept_10 undoable_10 newest_10 tape_10 taped_10 marks_10_20 order_10_20 reach_10 heapOf_10 rows_10 x_10 overs_10 costs_10 ways_10 digits_10 beaten_10 walks_10)) [0, 1, 2, 3, 4, 5, 6, 7, 8, 9, 10, 11, 12, 13, 14, 15] rfl
        have hD : va_D A (wX10 q10 cI cJ cB st_10 kept_10 undoable_10 newest_10 tape_10 taped_10 marks_10_20 order_10_20 reach_10 heapOf_10 rows_10 x_10 overs_10 costs_10 ways_10 digits_10 beaten_10 walks_10) := hD.sub (ws' := (wX10 q10 cI cJ cB st_10 kept_10 undoable_10 newest_10 tape_10 taped_10 marks_10_20 order_10_20 reach_10 heapOf_10 rows_10 x_10 overs_10 costs_10 ways_10 digits_10 beaten_10 walks_10)) [0, 1, 2, 3, 4, 5, 6, 7, 8, 9, 10, 11, 12, 13, 14, 15] (by decide) rfl
        subst hQ; subst hAe
        exact W.iret (v := numF rr ml kd x (sc1 rr ml n x)) hx hb hr (fun t ht _ => ⟨⟨numF rr ml kd x (sc1 rr ml n x), (marks_10_20, order_10_20), rfl, by rw [if_pos ⟨(kIn_nI (by omega)).mpr hx2, (kIn_nI (by omega)).mpr hkd2⟩, k_tt (by omega), k_tt (by omega)], by rw [ht]; exact hP, hD⟩, hS.F ht⟩) hS.2.2 dX10_number_35
      · skip
        refine lv_iconst (v := nI 0) hx hb dX10_number_17 (by decide) ?_
        subst hQ; subst hAe
        exact W.iret (v := nI 0) hx hb hr (fun t ht _ => ⟨⟨nI 0, (marks_10, order_10), rfl, (if_neg (fun z => by first | exact c_5 z.1 | exact kIn_lo c_9 z.2 | exact kIn_nle (m := 5) (by decide) c_14 z.2)).symm, by rw [ht]; exact hP, hD⟩, hS.F ht⟩) hS.2.2 dX10_number_18
def rmX10_table : Room := { frames := 5, cells := 0, slots := 0, locals := 116 }
set_option maxHeartbeats 4000000 in
set_option maxRecDepth 100000 in
theorem c_X10_table (l : Launch) (D : va_G) (cI cJ cB : ClassId) (q10 : Nat → Nat) (st_10 : Nat → Int32) (kept_10 : Nat → Int32) (undoable_10 : Int32) (newest_10 : Int32) (tape_10 : Nat → Int32) (taped_10 : Int32) (marks_10 : Nat → Int32) (order_10 : Nat → Int32) (reach_10 : Nat → Int32) (heapOf_10 : Nat → Int32) (rows_10 : Nat → Int64) (x_10 : Nat → Int64) (overs_10 : Nat → Int32) (costs_10 : Nat → Int32) (ways_10 : Nat → Int32) (digits_10 : Nat → Int32) (beaten_10 : Nat → Int32) (walks_10 : Nat → Int32) (n : Nat) (ml : List Mt) (nx : List (Nat × Nat)) (ks : List Nat) (rr : Int32 × Int32 × Int32) (k : Int32) (hR : RS st_10 n ml nx ks rr) (hV : VS n ml nx ks) : ∀ sz, Met l yX10_table wsX10_table rmX10_table (va_Pc [.ref (q10 0), .int k] (PW D (kT cI cJ cB) sz (wX10 q10 cI cJ cB st_10 kept_10 undoable_10 newest_10 tape_10 taped_10 marks_10 order_10 reach_10 heapOf_10 rows_10 x_10 overs_10 costs_10 ways_10 digits_10 beaten_10 walks_10))) (va_Qi (S := (Nat → Int32) × (Nat → Int32)) (fun r uu => match uu with | (marks_10', order_10') => ∃ (mk : Nat → Int32) (o0 : Nat → Int32), GM rr ml ks n mk ks.length ∧ r = if kIn k n then ordF (fun p q => ahd mk p q 0 (ks.length + 1)) o0 n k.toInt.toNat else -1) (QW D sz (wX10 q10 cI cJ cB st_10 kept_10 undoable_10 newest_10 tape_10 taped_10 marks_10 order_10 reach_10 heapOf_10 rows_10 x_10 overs_10 costs_10 ways_10 digits_10 beaten_10 walks_10) (fun uu => match uu with | (marks_10', order_10') => (wX10 q10 cI cJ cB st_10 kept_10 undoable_10 newest_10 tape_10 taped_10 marks_10' order_10' reach_10 heapOf_10 rows_10 x_10 overs_10 costs_10 ways_10 digits_10 beaten_10 walks_10))) (va_A (wX10 q10 cI cJ cB st_10 kept_10 undoable_10 newest_10 tape_10 taped_10 marks_10 order_10 reach_10 heapOf_10 rows_10 x_10 overs_10 costs_10 ways_10 digits_10 beaten_10 walks_10) sz)) 0 0 (va_A (wX10 q10 cI cJ cB st_10 kept_10 undoable_10 newest_10 tape_10 taped_10 marks_10 order_10 reach_10 heapOf_10 rows_10 x_10 overs_10 costs_10 ways_10 digits_10 beaten_10 walks_10) sz) := by
  intro sz
  refine Met.ofW (cc := cX10_table) (maxL := 2) (ret := (some .int)) (by decide) rfl ?_
  intro p e s m args below meth c s₁ B hml hv
  obtain ⟨hav, hsz, hP, hKW, hD0⟩ := hv
  have hx := B.exec
  have hb := B.bytes
  have hr := B.returns
  have hts := atoms_spec (ws := wsX10_table) B.pre
  have hown : s.vm.findClass RX10 = some m.cls := findClass_of_methodNamed B.named
  have hlocks := B.notSynchronized
  subst hsz
  have hD := hD0.self (sz := s.heap.size)
  obtain ⟨A, hAe⟩ : ∃ A : Nat → Prop, A = va_A (wX10 q10 cI cJ cB st_10 kept_10 undoable_10 newest_10 tape_10 taped_10 marks_10 order_10 reach_10 heapOf_10 rows_10 x_10 overs_10 costs_10 ways_10 digits_10 beaten_10 walks_10) s.heap.size := ⟨_, rfl⟩
  rw [← hAe] at hD
  have hA : ∀ q : Nat, s.heap.size ≤ q → A q := fun q h => by rw [hAe]; exact Or.inr h
  have hS : va_S A s.heap s.heap [] := va_S.rf
  refine k_gen (fun Q hQ => ?_)
  have hl := lv_entry ([.ref (q10 0), .int k]) (n := 2) (Nat.le_of_ble_eq_true rfl)
  refine k_entry hav (lg_entry_eq ..) ?_
  generalize (lg_sl ([.ref (q10 0), .int k]) ++ List.replicate (2 - (lg_sl ([.ref (q10 0), .int k])).length) Slot.unset).toArray = ls at hl ⊢
  have hl : lv_has ls 2 [(0, .ref (q10 0)), (1, .int k)] := hl
  have hu_10 : ∀ w ∈ u_ws RX10 TX10 18, w ∈ wsX10_table := by decide +kernel
  have hf_22 : Cond.fieldLink RX10 22 "MeetingRanksModel" "order" "[I" ∈ wsX10_table := by decide +kernel
  have hn1 := hV.1
  have hn10 := hV.2.1
  have hm120 := hV.2.2.1
  have hx40 := hV.2.2.2.2.1
  have hk4 := hV.2.2.2.2.2.2.1
  refine lv_aload_n hx hb dX10_table_0 rfl (lv_at hl 0 rfl) ?_
  have hs_1 : kSplit (wX10 q10 cI cJ cB st_10 kept_10 undoable_10 newest_10 tape_10 taped_10 marks_10 order_10 reach_10 heapOf_10 rows_10 x_10 overs_10 costs_10 ways_10 digits_10 beaten_10 walks_10) (wX10 q10 cI cJ cB st_10 kept_10 undoable_10 newest_10 tape_10 taped_10 marks_10 order_10 reach_10 heapOf_10 rows_10 x_10 overs_10 costs_10 ways_10 digits_10 beaten_10 walks_10) ([] : va_W) [0, 1, 2, 3, 4, 5, 6, 7, 8, 9, 10, 11, 12, 13, 14, 15] [] := ⟨rfl, rfl, rfl, rfl, rfl, by decide⟩
  refine kc_v hP hD hS hA hs_1 (kV (As := []) (rest := []) hx hb hml hown hts hKW hP hD hs_1 (c_X10_gather l D cI cJ cB q10 st_10 kept_10 undoable_10 newest_10 tape_10 taped_10 marks_10 order_10 reach_10 heapOf_10 rows_10 x_10 overs_10 costs_10 ways_10 digits_10 beaten_10 walks_10 n ml nx ks rr (by first | assumption | omega) (by first | assumption | omega)) (cwV 0 hts gX10_table_X10_gather rfl rfl rfl (by decide +kernel) ⟨Nat.le_of_ble_eq_true rfl, Nat.le_of_ble_eq_true rfl⟩) 0 10 rfl rfl rfl rfl hl.1 rfl (Nat.le_of_ble_eq_true rfl) dX10_table_1 ⟨Nat.zero_le _, Nat.zero_le _⟩) (fun u_1 H locs hw_1 hP hD hS => ?_)
  obtain ⟨marks_10_1, order_10_1⟩ := u_1
  have hP : va_P D vwCl (wX10 q10 cI cJ cB st_10 kept_10 undoable_10 newest_10 tape_10 taped_10 marks_10_1 order_10_1 reach_10 heapOf_10 rows_10 x_10 overs_10 costs_10 ways_10 digits_10 beaten_10 walks_10) H := hP.sub (ws' := (wX10 q10 cI cJ cB st_10 kept_10 undoable_10 newest_10 tape_10 taped_10 marks_10_1 order_10_1 reach_10 heapOf_10 rows_10 x_10 overs_10 costs_10 ways_10 digits_10 beaten_10 walks_10)) [0, 1, 2, 3, 4, 5, 6, 7, 8, 9, 10, 11, 12, 13, 14, 15] rfl
  have hD : va_D A (wX10 q10 cI cJ cB st_10 kept_10 undoable_10 newest_10 tape_10 taped_10 marks_10_1 order_10_1 reach_10 heapOf_10 rows_10 x_10 overs_10 costs_10 ways_10 digits_10 beaten_10 walks_10) := hD.sub (ws' := (wX10 q10 cI cJ cB st_10 kept_10 undoable_10 newest_10 tape_10 taped_10 marks_10_1 order_10_1 reach_10 heapOf_10 rows_10 x_10 overs_10 costs_10 ways_10 digits_10 beaten_10 walks_10)) [0, 1, 2, 3, 4, 5, 6, 7, 8, 9, 10, 11, 12, 13, 14, 15] (by decide) rfl
  refine lv_iload_n hx hb dX10_table_4 rfl (lv_at hl 1 rfl) ?_
  refine lv_if_lt (tgt := 25) hx hb dX10_table_5 (by decide) (fun c_5 => ?_) (fun c_5 => ?_)
  · skip
    refine lv_iconst (v := (-1)) hx hb dX10_table_25 (by decide) ?_
    subst hQ; subst hAe
    exact W.iret (v := (-1)) hx hb hr (fun t ht _ => ⟨⟨(-1), (marks_10_1, order_10_1), rfl, ⟨_, order_10, hw_1.1, (if_neg (kIn_lo c_5)).symm⟩, by rw [ht]; exact hP, hD⟩, hS.F ht⟩) hS.2.2 dX10_table_26
  · skip
    refine lv_iload_n hx hb dX10_table_8 rfl (lv_at hl 1 rfl) ?_
    refine lv_aload_n hx hb dX10_table_9 rfl (lv_at hl 0 rfl) ?_
    have hs_10 : kSplit (wX10 q10 cI cJ cB st_10 kept_10 undoable_10 newest_10 tape_10 taped_10 marks_10_1 order_10_1 reach_10 heapOf_10 rows_10 x_10 overs_10 costs_10 ways_10 digits_10 beaten_10 walks_10) (wX10 q10 cI cJ cB st_10 kept_10 undoable_10 newest_10 tape_10 taped_10 marks_10_1 order_10_1 reach_10 heapOf_10 rows_10 x_10 overs_10 costs_10 ways_10 digits_10 beaten_10 walks_10) ([] : va_W) [0, 1, 2, 3, 4, 5, 6, 7, 8, 9, 10, 11, 12, 13, 14, 15] [] := ⟨rfl, rfl, rfl, rfl, rfl, by decide⟩
    refine kc_i hP hD hS hA hs_10 (kV (As := []) (rest := [.int k]) hx hb hml hown hts hKW hP hD hs_10 (c_X10_n l D cI cJ cB q10 st_10 kept_10 undoable_10 newest_10 tape_10 taped_10 marks_10_1 order_10_1 reach_10 heapOf_10 rows_10 x_10 overs_10 costs_10 ways_10 digits_10 beaten_10 walks_10 n ml nx ks rr (by first | assumption | omega) (by first | assumption | omega)) (cwV 0 hts gX10_table_X10_n rfl rfl rfl (by decide +kernel) ⟨Nat.le_of_ble_eq_true rfl, Nat.le_of_ble_eq_true rfl⟩) 0 10 rfl rfl rfl rfl hl.1 rfl (Nat.le_of_ble_eq_true rfl) dX10_table_10 ⟨Nat.zero_le _, Nat.zero_le _⟩) (fun r_10 u_10 H locs hw_10 hP hD hS => ?_)
    have er_10 := hw_10
    have er_10 := er_10.symm
    subst er_10
    have hP : va_P D vwCl (wX10 q10 cI cJ cB st_10 kept_10 undoable_10 newest_10 tape_10 taped_10 marks_10_1 order_10_1 reach_10 heapOf_10 rows_10 x_10 overs_10 costs_10 ways_10 digits_10 beaten_10 walks_10) H := hP.sub (ws' := (wX10 q10 cI cJ cB st_10 kept_10 undoable_10 newest_10 tape_10 taped_10 marks_10_1 order_10_1 reach_10 heapOf_10 rows_10 x_10 overs_10 costs_10 ways_10 digits_10 beaten_10 walks_10)) [0, 1, 2, 3, 4, 5, 6, 7, 8, 9, 10, 11, 12, 13, 14, 15] rfl
    have hD : va_D A (wX10 q10 cI cJ cB st_10 kept_10 undoable_10 newest_10 tape_10 taped_10 marks_10_1 order_10_1 reach_10 heapOf_10 rows_10 x_10 overs_10 costs_10 ways_10 digits_10 beaten_10 walks_10) := hD.sub (ws' := (wX10 q10 cI cJ cB st_10 kept_10 undoable_10 newest_10 tape_10 taped_10 marks_10_1 order_10_1 reach_10 heapOf_10 rows_10 x_10 overs_10 costs_10 ways_10 digits_10 beaten_10 walks_10)) [0, 1, 2, 3, 4, 5, 6, 7, 8, 9, 10, 11, 12, 13, 14, 15] (by decide) rfl
    refine lv_icmp_ge (tgt := 25) hx hb dX10_table_13 (by decide) (fun c_13 => ?_) (fun c_13 => ?_)
    · skip
      refine lv_iconst (v := (-1)) hx hb dX10_table_25 (by decide) ?_
      subst hQ; subst hAe
      exact W.iret (v := (-1)) hx hb hr (fun t ht _ => ⟨⟨(-1), (marks_10_1, order_10_1), rfl, ⟨_, order_10, hw_1.1, (if_neg (kIn_hi (by omega) c_13)).symm⟩, by rw [ht]; exact hP, hD⟩, hS.F ht⟩) hS.2.2 dX10_table_26
    · skip
      obtain ⟨k, hk2, rfl⟩ := kIn_nat (kIn_of (by omega) c_5 c_13)
      refine lv_aload_n hx hb dX10_table_16 rfl (lv_at hl 0 rfl) ?_
      refine k_get (ci := 10) (v := .ref (q10 5)) (C := RX10) (Tb := TX10) (N := 18) hx hb hts hu_10 hown hKW hP 0 rfl rfl 7 (by decide) hf_22 rfl rfl dX10_table_17 ?_
      refine lv_iload_n hx hb dX10_table_20 rfl (lv_at hl 1 rfl) ?_
      refine k_iald (n := 10) (i := k) hx hb hKW hP 5 0 rfl rfl (by omega) (by omega) dX10_table_21 ?_
      refine lv_goto (tgt := 26) hx hb dX10_table_22 (by decide) ?_
      subst hQ; subst hAe
      exact W.iret (v := order_10_1 k) hx hb hr (fun t ht _ => ⟨⟨order_10_1 k, (marks_10_1, order_10_1), rfl, ⟨_, _, hw_1.1, by rw [if_pos ((kIn_nI (by omega)).mpr hk2), k_tt (by omega), hw_1.2]⟩, by rw [ht]; exact hP, hD⟩, hS.F ht⟩) hS.2.2 dX10_table_26
def rmX10_tied : Room := { frames := 5, cells := 0, slots := 0, locals := 116 }
set_option maxHeartbeats 4000000 in
set_option maxRecDepth 100000 in
theorem c_X10_tied (l : Launch) (D : va_G) (cI cJ cB : ClassId) (q10 : Nat → Nat) (st_10 : Nat → Int32) (kept_10 : Nat → Int32) (undoable_10 : Int32) (newest_10 : Int32) (tape_10 : Nat → Int32) (taped_10 : Int32) (marks_10 : Nat → Int32) (order_10 : Nat → Int32) (reach_10 : Nat → Int32) (heapOf_10 : Nat → Int32) (rows_10 : Nat → Int64) (x_10 : Nat → Int64) (overs_10 : Nat → Int32) (costs_10 : Nat → Int32) (ways_10 : Nat → Int32) (digits_10 : Nat → Int32) (beaten_10 : Nat → Int32) (walks_10 : Nat → Int32) (n : Nat) (ml : List Mt) (nx : List (Nat × Nat)) (ks : List Nat) (rr : Int32 × Int32 × Int32) (k : Int32) (hR : RS st_10 n ml nx ks rr) (hV : VS n ml nx ks) : ∀ sz, Met l yX10_tied wsX10_tied rmX10_tied (va_Pc [.ref (q10 0), .int k] (PW D (kT cI cJ cB) sz (wX10 q10 cI cJ cB st_10 kept_10 undoable_10 newest_10 tape_10 taped_10 marks_10 order_10 reach_10 heapOf_10 rows_10 x_10 overs_10 costs_10 ways_10 digits_10 beaten_10 walks_10))) (va_Qi (S := (Nat → Int32) × (Nat → Int32)) (fun r uu => match uu with | (marks_10', order_10') => ∃ (mk : Nat → Int32) (o0 : Nat → Int32), GM rr ml ks n mk ks.length ∧ r = if kIn k (n - 1) ∧ ahd mk (ordF (fun p q => ahd mk p q 0 (ks.length + 1)) o0 n k.toInt.toNat).toInt.toNat (ordF (fun p q => ahd mk p q 0 (ks.length + 1)) o0 n (k.toInt.toNat + 1)).toInt.toNat 0 (ks.length + 1) = false then 1 else 0) (QW D sz (wX10 q10 cI cJ cB st_10 kept_10 undoable_10 newest_10 tape_10 taped_10 marks_10 order_10 reach_10 heapOf_10 rows_10 x_10 overs_10 costs_10 ways_10 digits_10 beaten_10 walks_10) (fun uu => match uu with | (marks_10', order_10') => (wX10 q10 cI cJ cB st_10 kept_10 undoable_10 newest_10 tape_10 taped_10 marks_10' order_10' reach_10 heapOf_10 rows_10 x_10 overs_10 costs_10 ways_10 digits_10 beaten_10 walks_10))) (va_A (wX10 q10 cI cJ cB st_10 kept_10 undoable_10 newest_10 tape_10 taped_10 marks_10 order_10 reach_10 heapOf_10 rows_10 x_10 overs_10 costs_10 ways_10 digits_10 beaten_10 walks_10) sz)) 0 0 (va_A (wX10 q10 cI cJ cB st_10 kept_10 undoable_10 newest_10 tape_10 taped_10 marks_10 order_10 reach_10 heapOf_10 rows_10 x_10 overs_10 costs_10 ways_10 digits_10 beaten_10 walks_10) sz) := by
  intro sz
  refine Met.ofW (cc := cX10_tied) (maxL := 2) (ret := (some .boolean)) (by decide) rfl ?_
  intro p e s m args below meth c s₁ B hml hv
  obtain ⟨hav, hsz, hP, hKW, hD0⟩ := hv
  have hx := B.exec
  have hb := B.bytes
  have hr := B.returns
  have hts := atoms_spec (ws := wsX10_tied) B.pre
  have hown : s.vm.findClass RX10 = some m.cls := findClass_of_methodNamed B.named
  have hlocks := B.notSynchronized
  subst hsz
  have hD := hD0.self (sz := s.heap.size)
  obtain ⟨A, hAe⟩ : ∃ A : Nat → Prop, A = va_A (wX10 q10 cI cJ cB st_10 kept_10 undoable_10 newest_10 tape_10 taped_10 marks_10 order_10 reach_10 heapOf_10 rows_10 x_10 overs_10 costs_10 ways_10 digits_10 beaten_10 walks_10) s.heap.size := ⟨_, rfl⟩
  rw [← hAe] at hD
  have hA : ∀ q : Nat, s.heap.size ≤ q → A q := fun q h => by rw [hAe]; exact Or.inr h
  have hS : va_S A s.heap s.heap [] := va_S.rf
  refine k_gen (fun Q hQ => ?_)
  have hl := lv_entry ([.ref (q10 0), .int k]) (n := 2) (Nat.le_of_ble_eq_true rfl)
  refine k_entry hav (lg_entry_eq ..) ?_
  generalize (lg_sl ([.ref (q10 0), .int k]) ++ List.replicate (2 - (lg_sl ([.ref (q10 0), .int k])).length) Slot.unset).toArray = ls at hl ⊢
  have hl : lv_has ls 2 [(0, .ref (q10 0)), (1, .int k)] := hl
  have hu_10 : ∀ w ∈ u_ws RX10 TX10 18, w ∈ wsX10_tied := by decide +kernel
  have hf_22 : Cond.fieldLink RX10 22 "MeetingRanksModel" "order" "[I" ∈ wsX10_tied := by decide +kernel
  have hn1 := hV.1
  have hn10 := hV.2.1
  have hm120 := hV.2.2.1
  have hx40 := hV.2.2.2.2.1
  have hk4 := hV.2.2.2.2.2.2.1
  refine lv_aload_n hx hb dX10_tied_0 rfl (lv_at hl 0 rfl) ?_
  have hs_1 : kSplit (wX10 q10 cI cJ cB st_10 kept_10 undoable_10 newest_10 tape_10 taped_10 marks_10 order_10 reach_10 heapOf_10 rows_10 x_10 overs_10 costs_10 ways_10 digits_10 beaten_10 walks_10) (wX10 q10 cI cJ cB st_10 kept_10 undoable_10 newest_10 tape_10 taped_10 marks_10 order_10 reach_10 heapOf_10 rows_10 x_10 overs_10 costs_10 ways_10 digits_10 beaten_10 walks_10) ([] : va_W) [0, 1, 2, 3, 4, 5, 6, 7, 8, 9, 10, 11, 12, 13, 14, 15] [] := ⟨rfl, rfl, rfl, rfl, rfl, by decide⟩
  refine kc_v hP hD hS hA hs_1 (kV (As := []) (rest := []) hx hb hml hown hts hKW hP hD hs_1 (c_X10_gather l D cI cJ cB q10 st_10 kept_10 undoable_10 newest_10 tape_10 taped_10 marks_10 order_10 reach_10 heapOf_10 rows_10 x_10 overs_10 costs_10 ways_10 digits_10 beaten_10 walks_10 n ml nx ks rr (by first | assumption | omega) (by first | assumption | omega)) (cwV 0 hts gX10_tied_X10_gather rfl rfl rfl (by decide +kernel) ⟨Nat.le_of_ble_eq_true rfl, Nat.le_of_ble_eq_true rfl⟩) 0 10 rfl rfl rfl rfl hl.1 rfl (Nat.le_of_ble_eq_true rfl) dX10_tied_1 ⟨Nat.zero_le _, Nat.zero_le _⟩) (fun u_1 H locs hw_1 hP hD hS => ?_)
  obtain ⟨marks_10_1, order_10_1⟩ := u_1
  have hP : va_P D vwCl (wX10 q10 cI cJ cB st_10 kept_10 undoable_10 newest_10 tape_10 taped_10 marks_10_1 order_10_1 reach_10 heapOf_10 rows_10 x_10 overs_10 costs_10 ways_10 digits_10 beaten_10 walks_10) H := hP.sub (ws' := (wX10 q10 cI cJ cB st_10 kept_10 undoable_10 newest_10 tape_10 taped_10 marks_10_1 order_10_1 reach_10 heapOf_10 rows_10 x_10 overs_10 costs_10 ways_10 digits_10 beaten_10 walks_10)) [0, 1, 2, 3, 4, 5, 6, 7, 8, 9, 10, 11, 12, 13, 14, 15] rfl
  have hD : va_D A (wX10 q10 cI cJ cB st_10 kept_10 undoable_10 newest_10 tape_10 taped_10 marks_10_1 order_10_1 reach_10 heapOf_10 rows_10 x_10 overs_10 costs_10 ways_10 digits_10 beaten_10 walks_10) := hD.sub (ws' := (wX10 q10 cI cJ cB st_10 kept_10 undoable_10 newest_10 tape_10 taped_10 marks_10_1 order_10_1 reach_10 heapOf_10 rows_10 x_10 overs_10 costs_10 ways_10 digits_10 beaten_10 walks_10)) [0, 1, 2, 3, 4, 5, 6, 7, 8, 9, 10, 11, 12, 13, 14, 15] (by decide) rfl
  refine lv_iload_n hx hb dX10_tied_4 rfl (lv_at hl 1 rfl) ?_
  refine lv_if_lt (tgt := 43) hx hb dX10_tied_5 (by decide) (fun c_5 => ?_) (fun c_5 => ?_)
  · skip
    refine lv_iconst (v := nI 0) hx hb dX10_tied_43 (by decide) ?_
    subst hQ; subst hAe
    exact W.zret (v := nI 0) (ty := .boolean) hx hb hr (by decide) (fun t ht _ => ⟨⟨nI 0, (marks_10_1, order_10_1), rfl, ⟨_, order_10, hw_1.1, (if_neg (fun z => kIn_lo c_5 z.1)).symm⟩, by rw [ht]; exact hP, hD⟩, hS.F ht⟩) hS.2.2 dX10_tied_44
  · skip
    refine lv_iload_n hx hb dX10_tied_8 rfl (lv_at hl 1 rfl) ?_
    refine lv_aload_n hx hb dX10_tied_9 rfl (lv_at hl 0 rfl) ?_
    have hs_10 : kSplit (wX10 q10 cI cJ cB st_10 kept_10 undoable_10 newest_10 tape_10 taped_10 marks_10_1 order_10_1 reach_10 heapOf_10 rows_10 x_10 overs_10 costs_10 ways_10 digits_10 beaten_10 walks_10) (wX10 q10 cI cJ cB st_10 kept_10 undoable_10 newest_10 tape_10 taped_10 marks_10_1 order_10_1 reach_10 heapOf_10 rows_10 x_10 overs_10 costs_10 ways_10 digits_10 beaten_10 walks_10) ([] : va_W) [0, 1, 2, 3, 4, 5, 6, 7, 8, 9, 10, 11, 12, 13, 14, 15] [] := ⟨rfl, rfl, rfl, rfl, rfl, by decide⟩
    refine kc_i hP hD hS hA hs_10 (kV (As := []) (rest := [.int k]) hx hb hml hown hts hKW hP hD hs_10 (c_X10_n l D cI cJ cB q10 st_10 kept_10 undoable_10 newest_10 tape_10 taped_10 marks_10_1 order_10_1 reach_10 heapOf_10 rows_10 x_10 overs_10 costs_10 ways_10 digits_10 beaten_10 walks_10 n ml nx ks rr (by first | assumption | omega) (by first | assumption | omega)) (cwV 0 hts gX10_tied_X10_n rfl rfl rfl (by decide +kernel) ⟨Nat.le_of_ble_eq_true rfl, Nat.le_of_ble_eq_true rfl⟩) 0 10 rfl rfl rfl rfl hl.1 rfl (Nat.le_of_ble_eq_true rfl) dX10_tied_10 ⟨Nat.zero_le _, Nat.zero_le _⟩) (fun r_10 u_10 H locs hw_10 hP hD hS => ?_)
    have er_10 := hw_10
    have er_10 := er_10.symm
    subst er_10
    have hP : va_P D vwCl (wX10 q10 cI cJ cB st_10 kept_10 undoable_10 newest_10 tape_10 taped_10 marks_10_1 order_10_1 reach_10 heapOf_10 rows_10 x_10 overs_10 costs_10 ways_10 digits_10 beaten_10 walks_10) H := hP.sub (ws' := (wX10 q10 cI cJ cB st_10 kept_10 undoable_10 newest_10 tape_10 taped_10 marks_10_1 order_10_1 reach_10 heapOf_10 rows_10 x_10 overs_10 costs_10 ways_10 digits_10 beaten_10 walks_10)) [0, 1, 2, 3, 4, 5, 6, 7, 8, 9, 10, 11, 12, 13, 14, 15] rfl
    have hD : va_D A (wX10 q10 cI cJ cB st_10 kept_10 undoable_10 newest_10 tape_10 taped_10 marks_10_1 order_10_1 reach_10 heapOf_10 rows_10 x_10 overs_10 costs_10 ways_10 digits_10 beaten_10 walks_10) := hD.sub (ws' := (wX10 q10 cI cJ cB st_10 kept_10 undoable_10 newest_10 tape_10 taped_10 marks_10_1 order_10_1 reach_10 heapOf_10 rows_10 x_10 overs_10 costs_10 ways_10 digits_10 beaten_10 walks_10)) [0, 1, 2, 3, 4, 5, 6, 7, 8, 9, 10, 11, 12, 13, 14, 15] (by decide) rfl
    refine lv_iconst (v := nI 1) hx hb dX10_tied_13 (by decide) ?_
    refine k_isub hx hb (by omega) dX10_tied_14 ?_
    refine lv_icmp_ge (tgt := 43) hx hb dX10_tied_15 (by decide) (fun c_15 => ?_) (fun c_15 => ?_)
    · skip
      refine lv_iconst (v := nI 0) hx hb dX10_tied_43 (by decide) ?_
      subst hQ; subst hAe
      exact W.zret (v := nI 0) (ty := .boolean) hx hb hr (by decide) (fun t ht _ => ⟨⟨nI 0, (marks_10_1, order_10_1), rfl, ⟨_, order_10, hw_1.1, (if_neg (fun z => kIn_hi (by omega) c_15 z.1)).symm⟩, by rw [ht]; exact hP, hD⟩, hS.F ht⟩) hS.2.2 dX10_tied_44
    · skip
      obtain ⟨k, hk2, rfl⟩ := kIn_nat (kIn_of (by omega) c_5 c_15)
      obtain ⟨j1, hj1, e1⟩ := ordF_ok (fun p q => ahd marks_10_1 p q 0 (ks.length + 1)) order_10 n n (Nat.le_refl _) k (by omega)
      obtain ⟨j2, hj2, e2⟩ := ordF_ok (fun p q => ahd marks_10_1 p q 0 (ks.length + 1)) order_10 n n (Nat.le_refl _) (k + 1) (by omega)
      rw [← hw_1.2] at e1 e2
      refine lv_aload_n hx hb dX10_tied_18 rfl (lv_at hl 0 rfl) ?_
      refine lv_aload_n hx hb dX10_tied_19 rfl (lv_at hl 0 rfl) ?_
      refine k_get (ci := 10) (v := .ref (q10 5)) (C := RX10) (Tb := TX10) (N := 18) hx hb hts hu_10 hown hKW hP 0 rfl rfl 7 (by decide) hf_22 rfl rfl dX10_tied_20 ?_
      refine lv_iload_n hx hb dX10_tied_23 rfl (lv_at hl 1 rfl) ?_
      refine k_iald (n := 10) (i := k) hx hb hKW hP 5 0 rfl rfl (by omega) (by omega) dX10_tied_24 ?_
      refine k_top (y := nI j1) (e1) ?_
      refine lv_aload_n hx hb dX10_tied_25 rfl (lv_at hl 0 rfl) ?_
      refine k_get (ci := 10) (v := .ref (q10 5)) (C := RX10) (Tb := TX10) (N := 18) hx hb hts hu_10 hown hKW hP 0 rfl rfl 7 (by decide) hf_22 rfl rfl dX10_tied_26 ?_
      refine lv_iload_n hx hb dX10_tied_29 rfl (lv_at hl 1 rfl) ?_
      refine lv_iconst (v := nI 1) hx hb dX10_tied_30 (by decide) ?_
      refine k_iadd hx hb dX10_tied_31 ?_
      refine k_iald (n := 10) (i := k + 1) hx hb hKW hP 5 0 rfl rfl (by omega) (by omega) dX10_tied_32 ?_
      refine k_top (y := nI j2) (e2) ?_
      have hs_33 : kSplit (wX10 q10 cI cJ cB st_10 kept_10 undoable_10 newest_10 tape_10 taped_10 marks_10_1 order_10_1 reach_10 heapOf_10 rows_10 x_10 overs_10 costs_10 ways_10 digits_10 beaten_10 walks_10) (wX10 q10 cI cJ cB st_10 kept_10 undoable_10 newest_10 tape_10 taped_10 marks_10_1 order_10_1 reach_10 heapOf_10 rows_10 x_10 overs_10 costs_10 ways_10 digits_10 beaten_10 walks_10) ([] : va_W) [0, 1, 2, 3, 4, 5, 6, 7, 8, 9, 10, 11, 12, 13, 14, 15] [] := ⟨rfl, rfl, rfl, rfl, rfl, by decide⟩
      refine kc_i hP hD hS hA hs_33 (kV (As := [.int (nI j1), .int (nI j2)]) (rest := []) hx hb hml hown hts hKW hP hD hs_33 (c_X10_isAhead l D cI cJ cB q10 st_10 kept_10 undoable_10 newest_10 tape_10 taped_10 marks_10_1 order_10_1 reach_10 heapOf_10 rows_10 x_10 overs_10 costs_10 ways_10 digits_10 beaten_10 walks_10 n ml nx ks rr j1 j2 (by first | assumption | omega) (by first | assumption | omega) (by first | assumption | omega) (by first | assumption | omega)) (cwV 2 hts gX10_tied_X10_isAhead rfl rfl rfl (by decide +kernel) ⟨Nat.le_of_ble_eq_true rfl, Nat.le_of_ble_eq_true rfl⟩) 0 10 rfl rfl rfl rfl hl.1 rfl (Nat.le_of_ble_eq_true rfl) dX10_tied_33 ⟨Nat.zero_le _, Nat.zero_le _⟩) (fun r_33 u_33 H locs hw_33 hP hD hS => ?_)
      have er_33 := hw_33
      have er_33 := er_33.symm
      subst er_33
      have hP : va_P D vwCl (wX10 q10 cI cJ cB st_10 kept_10 undoable_10 newest_10 tape_10 taped_10 marks_10_1 order_10_1 reach_10 heapOf_10 rows_10 x_10 overs_10 costs_10 ways_10 digits_10 beaten_10 walks_10) H := hP.sub (ws' := (wX10 q10 cI cJ cB st_10 kept_10 undoable_10 newest_10 tape_10 taped_10 marks_10_1 order_10_1 reach_10 heapOf_10 rows_10 x_10 overs_10 costs_10 ways_10 digits_10 beaten_10 walks_10)) [0, 1, 2, 3, 4, 5, 6, 7, 8, 9, 10, 11, 12, 13, 14, 15] rfl
      have hD : va_D A (wX10 q10 cI cJ cB st_10 kept_10 undoable_10 newest_10 tape_10 taped_10 marks_10_1 order_10_1 reach_10 heapOf_10 rows_10 x_10 overs_10 costs_10 ways_10 digits_10 beaten_10 walks_10) := hD.sub (ws' := (wX10 q10 cI cJ cB st_10 kept_10 undoable_10 newest_10 tape_10 taped_10 marks_10_1 order_10_1 reach_10 heapOf_10 rows_10 x_10 overs_10 costs_10 ways_10 digits_10 beaten_10 walks_10)) [0, 1, 2, 3, 4, 5, 6, 7, 8, 9, 10, 11, 12, 13, 14, 15] (by decide) rfl
      refine lv_if_ne (tgt := 43) hx hb dX10_tied_36 (by decide) (fun c_36 => ?_) (fun c_36 => ?_)
      · skip
        have c_36 := k_b1 c_36
        refine lv_iconst (v := nI 0) hx hb dX10_tied_43 (by decide) ?_
        subst hQ; subst hAe
        exact W.zret (v := nI 0) (ty := .boolean) hx hb hr (by decide) (fun t ht _ => ⟨⟨nI 0, (marks_10_1, order_10_1), rfl, ⟨_, order_10, hw_1.1, by rw [← hw_1.2, k_tt (by omega), e1, e2, k_tt (by omega), k_tt (by omega)]; exact (if_neg (fun z => by rw [z.2] at c_36; exact Bool.false_ne_true c_36)).symm⟩, by rw [ht]; exact hP, hD⟩, hS.F ht⟩) hS.2.2 dX10_tied_44
      · skip
        have c_36 := k_b0 c_36
        refine lv_iconst (v := nI 1) hx hb dX10_tied_39 (by decide) ?_
        refine lv_goto (tgt := 44) hx hb dX10_tied_40 (by decide) ?_
        subst hQ; subst hAe
        exact W.zret (v := nI 1) (ty := .boolean) hx hb hr (by decide) (fun t ht _ => ⟨⟨nI 1, (marks_10_1, order_10_1), rfl, ⟨_, order_10, hw_1.1, by rw [← hw_1.2, k_tt (by omega), e1, e2, k_tt (by omega), k_tt (by omega)]; exact (if_pos ⟨(kIn_nI (by omega)).mpr hk2, Bool.eq_false_iff.mpr c_36⟩).symm⟩, by rw [ht]; exact hP, hD⟩, hS.F ht⟩) hS.2.2 dX10_tied_44
