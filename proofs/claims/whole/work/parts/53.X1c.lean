def rmX1_leastUnbeaten : Room := { frames := 1, cells := 0, slots := 0, locals := 21 }
set_option maxHeartbeats 4000000 in
set_option maxRecDepth 100000 in
theorem c_X1_leastUnbeaten (l : Launch) (D : va_G) (cI cJ cB : ClassId) (q1 : Nat → Nat) (beaten_1 : Nat → Int32) (unused_1 : Nat → Int32) (ways_1 : Nat → Int32) (lw_1 : Nat) (ml : List Mt) (p1 : Nat) (n : Nat) (hB : ∀ a, a < n → beaten_1 a = nI (btF ml n a)) (hn10 : n ≤ 10) (hp1 : p1 < n) : ∀ sz, Met l yX1_leastUnbeaten wsX1_leastUnbeaten rmX1_leastUnbeaten (va_Pc [.ref (q1 0), .int (nI p1), .int (nI n)] (PW D (kT cI cJ cB) sz (wX1 q1 cI cJ cB beaten_1 unused_1 ways_1 lw_1))) (va_Qi (S := Unit) (fun r _ => r = nI (luR (nbF ml n) n (2 ^ p1) n)) (QW D sz (wX1 q1 cI cJ cB beaten_1 unused_1 ways_1 lw_1) (fun _ => (wX1 q1 cI cJ cB beaten_1 unused_1 ways_1 lw_1))) (va_A (wX1 q1 cI cJ cB beaten_1 unused_1 ways_1 lw_1) sz)) 0 0 (va_A (wX1 q1 cI cJ cB beaten_1 unused_1 ways_1 lw_1) sz) := by
  intro sz
  refine Met.ofW (cc := cX1_leastUnbeaten) (maxL := 6) (ret := (some .int)) (by decide) rfl ?_
  intro p e s m args below meth c s₁ B hml hv
  obtain ⟨hav, hsz, hP, hKW, hD0⟩ := hv
  have hx := B.exec
  have hb := B.bytes
  have hr := B.returns
  have hts := atoms_spec (ws := wsX1_leastUnbeaten) B.pre
  have hown : s.vm.findClass RX1 = some m.cls := findClass_of_methodNamed B.named
  have hlocks := B.notSynchronized
  subst hsz
  have hD := hD0.self (sz := s.heap.size)
  obtain ⟨A, hAe⟩ : ∃ A : Nat → Prop, A = va_A (wX1 q1 cI cJ cB beaten_1 unused_1 ways_1 lw_1) s.heap.size := ⟨_, rfl⟩
  rw [← hAe] at hD
  have hA : ∀ q : Nat, s.heap.size ≤ q → A q := fun q h => by rw [hAe]; exact Or.inr h
  have hS : va_S A s.heap s.heap [] := va_S.rf
  refine k_gen (fun Q hQ => ?_)
  have hl := lv_entry ([.ref (q1 0), .int (nI p1), .int (nI n)]) (n := 6) (Nat.le_of_ble_eq_true rfl)
  refine k_entry hav (lg_entry_eq ..) ?_
  generalize (lg_sl ([.ref (q1 0), .int (nI p1), .int (nI n)]) ++ List.replicate (6 - (lg_sl ([.ref (q1 0), .int (nI p1), .int (nI n)])).length) Slot.unset).toArray = ls at hl ⊢
  have hl : lv_has ls 6 [(0, .ref (q1 0)), (1, .int (nI p1)), (2, .int (nI n))] := hl
  have hu_1 : ∀ w ∈ u_ws RX1 TX1 3, w ∈ wsX1_leastUnbeaten := by decide +kernel
  have hf_9 : Cond.fieldLink RX1 9 "MeetingRanks$Beating" "beaten" "[I" ∈ wsX1_leastUnbeaten := by decide +kernel
  have h2n := pow_le_1024 hn10
  have h2p := Nat.two_pow_pos n
  have hnb9 : ∀ a, nbF ml n a < 1024 := fun a => bits_lt (Nat.le_refl 10)
  refine lv_iconst (v := nI 1) hx hb dX1_leastUnbeaten_0 (by decide) ?_
  refine lv_iload_n hx hb dX1_leastUnbeaten_1 rfl (lv_at hl 1 rfl) ?_
  refine lv_ishl hx hb dX1_leastUnbeaten_2 ?_
  refine k_top (y := nI (2 ^ p1)) (k_shl1 (by omega)) ?_
  refine lv_istore_n (lv' := [(3, .int (nI (2 ^ p1))), (0, .ref (q1 0)), (1, .int (nI p1)), (2, .int (nI n))]) hx hb dX1_leastUnbeaten_3 rfl hl (by decide) rfl (fun ls hl => ?_)
  refine lv_iconst (v := nI 0) hx hb dX1_leastUnbeaten_4 (by decide) ?_
  refine lv_istore (lv' := [(4, .int (nI 0)), (3, .int (nI (2 ^ p1))), (0, .ref (q1 0)), (1, .int (nI p1)), (2, .int (nI n))]) hx hb dX1_leastUnbeaten_5 hl (by decide) rfl (fun ls hl => ?_)
  have hL_7 : ∀ (fu : Nat) (j : Nat) (hj : j ≤ n), n - j < fu → ∀ (H : Heap) (locs : List Loc), va_P D vwCl (wX1 q1 cI cJ cB beaten_1 unused_1 ways_1 lw_1) H → va_D A (wX1 q1 cI cJ cB beaten_1 unused_1 ways_1 lw_1) → va_S A s.heap H locs → ∀ (ls : Array Slot), lv_has ls 6 [(0, .ref (q1 0)), (1, .int (nI p1)), (2, .int (nI n)), (3, .int (nI (luR (nbF ml n) n (2 ^ p1) j))), (4, .int (nI j))] → W p l e (headSpec wsX1_leastUnbeaten rmX1_leastUnbeaten).room s m args below meth c H locs 0 0 Q (F0 m 7 ls []) := by
    intro fu
    induction fu with
    | zero => intro j hj hfu; exact absurd hfu (Nat.not_lt_zero _)
    | succ fu ih_7 =>
      intro j hj hfu H locs hP hD hS ls hl
      have hjr9 := luR_lt (n := n) (p2_1024 (a := p1) (by omega)) hnb9 j
      refine lv_iload hx hb dX1_leastUnbeaten_7 (lv_at hl 4 rfl) ?_
      refine lv_iload_n hx hb dX1_leastUnbeaten_9 rfl (lv_at hl 2 rfl) ?_
      refine lv_icmp_ge (tgt := 60) hx hb dX1_leastUnbeaten_10 (by decide) (fun c_10 => ?_) (fun c_10 => ?_)
      · skip
        have c_10 := k_ge (by omega) (by omega) c_10
        obtain rfl : n = j := by omega
        refine lv_iload_n hx hb dX1_leastUnbeaten_60 rfl (lv_at hl 3 rfl) ?_
        subst hQ; subst hAe
        exact W.iret (v := nI (luR (nbF ml n) n (2 ^ p1) n)) hx hb hr (fun tt9 ht9 _ => ⟨⟨nI (luR (nbF ml n) n (2 ^ p1) n), (), rfl, rfl, by rw [ht9]; exact hP, hD⟩, hS.F ht9⟩) hS.2.2 dX1_leastUnbeaten_61
      · skip
        have c_10 := k_ge_n (by omega) (by omega) c_10
        refine lv_iconst (v := nI 0) hx hb dX1_leastUnbeaten_13 (by decide) ?_
        refine lv_istore (lv' := [(5, .int (nI 0)), (0, .ref (q1 0)), (1, .int (nI p1)), (2, .int (nI n)), (3, .int (nI (luR (nbF ml n) n (2 ^ p1) j))), (4, .int (nI j))]) hx hb dX1_leastUnbeaten_14 hl (by decide) rfl (fun ls hl => ?_)
        have hL_16 : ∀ (fu : Nat) (a : Nat) (ha : a ≤ n), n - a < fu → ∀ (H : Heap) (locs : List Loc), va_P D vwCl (wX1 q1 cI cJ cB beaten_1 unused_1 ways_1 lw_1) H → va_D A (wX1 q1 cI cJ cB beaten_1 unused_1 ways_1 lw_1) → va_S A s.heap H locs → ∀ (ls : Array Slot), lv_has ls 6 [(0, .ref (q1 0)), (1, .int (nI p1)), (2, .int (nI n)), (3, .int (nI (jc1 (nbF ml n) (luR (nbF ml n) n (2 ^ p1) j) a))), (4, .int (nI j)), (5, .int (nI a))] → W p l e (headSpec wsX1_leastUnbeaten rmX1_leastUnbeaten).room s m args below meth c H locs 0 0 Q (F0 m 16 ls []) := by
          intro fu
          induction fu with
          | zero => intro a ha hfu; exact absurd hfu (Nat.not_lt_zero _)
          | succ fu ih_16 =>
            intro a ha hfu H locs hP hD hS ls hl
            have hjl9 := jc1_lt hjr9 hnb9 a
            refine lv_iload hx hb dX1_leastUnbeaten_16 (lv_at hl 5 rfl) ?_
            refine lv_iload_n hx hb dX1_leastUnbeaten_18 rfl (lv_at hl 2 rfl) ?_
            refine lv_icmp_ge (tgt := 54) hx hb dX1_leastUnbeaten_19 (by decide) (fun c_19 => ?_) (fun c_19 => ?_)
            · skip
              have c_19 := k_ge (by omega) (by omega) c_19
              obtain rfl : n = a := by omega
              refine lv_iinc (v := nI (j + 1)) (lv' := [(4, .int (nI (j + 1))), (0, .ref (q1 0)), (1, .int (nI p1)), (2, .int (nI n)), (3, .int (nI (jc1 (nbF ml n) (luR (nbF ml n) n (2 ^ p1) j) n))), (5, .int (nI n))]) hx hb dX1_leastUnbeaten_54 hl (k := 4) rfl (nI_add _ _) (by decide) rfl (fun ls hl => ?_)
              refine lv_goto (tgt := 7) hx hb dX1_leastUnbeaten_57 (by decide) ?_
              exact ih_7 (j + 1) (by omega) (by omega) _ _ hP hD hS ls (lv_sub hl [1, 2, 3, 4, 0] rfl)
            · skip
              have c_19 := k_ge_n (by omega) (by omega) c_19
              refine lv_iload_n hx hb dX1_leastUnbeaten_22 rfl (lv_at hl 3 rfl) ?_
              refine lv_iload hx hb dX1_leastUnbeaten_23 (lv_at hl 5 rfl) ?_
              have hs_25 : kSplit (wX1 q1 cI cJ cB beaten_1 unused_1 ways_1 lw_1) ([] : va_W) (wX1 q1 cI cJ cB beaten_1 unused_1 ways_1 lw_1) [] [0, 1, 2, 3] := ⟨rfl, rfl, rfl, rfl, rfl, by decide⟩
              refine kc_i hP hD hS hA hs_25 (kSN (n := 2) (As := [.int (nI (jc1 (nbF ml n) (luR (nbF ml n) n (2 ^ p1) j) a)), .int (nI a)]) (rest := []) (host := "MeetingRanks") hx hb hml hown hts hKW hP hD hs_25 (c_X9_isIn l D cI cJ cB (jc1 (nbF ml n) (luR (nbF ml n) n (2 ^ p1) j) a) a (by first | assumption | omega) (by first | assumption | omega)) gX1_leastUnbeaten_X9_isIn_n65 rfl rfl rfl (by decide +kernel) (by decide +kernel) (by decide +kernel) (by decide +kernel) ⟨Nat.le_of_ble_eq_true rfl, Nat.le_of_ble_eq_true rfl⟩ rfl hl.1 rfl (Nat.le_of_ble_eq_true rfl) dX1_leastUnbeaten_25 ⟨Nat.zero_le _, Nat.zero_le _⟩) (fun r_25 u_25 H locs hw_25 hP hD hS => ?_)
              have er_25 := hw_25
              have er_25 := er_25.symm
              subst er_25
              have hP : va_P D vwCl (wX1 q1 cI cJ cB beaten_1 unused_1 ways_1 lw_1) H := hP.sub (ws' := (wX1 q1 cI cJ cB beaten_1 unused_1 ways_1 lw_1)) [0, 1, 2, 3] rfl
              have hD : va_D A (wX1 q1 cI cJ cB beaten_1 unused_1 ways_1 lw_1) := hD.sub (ws' := (wX1 q1 cI cJ cB beaten_1 unused_1 ways_1 lw_1)) [0, 1, 2, 3] (by decide) rfl
              refine lv_if_eq (tgt := 48) hx hb dX1_leastUnbeaten_28 (by decide) (fun c_28 => ?_) (fun c_28 => ?_)
              · skip
                have c_28 := k_b0 c_28
                refine lv_iinc (v := nI (a + 1)) (lv' := [(5, .int (nI (a + 1))), (0, .ref (q1 0)), (1, .int (nI p1)), (2, .int (nI n)), (3, .int (nI (jc1 (nbF ml n) (luR (nbF ml n) n (2 ^ p1) j) a))), (4, .int (nI j))]) hx hb dX1_leastUnbeaten_48 hl (k := 5) rfl (nI_add _ _) (by decide) rfl (fun ls hl => ?_)
                refine lv_goto (tgt := 16) hx hb dX1_leastUnbeaten_51 (by decide) ?_
                rw [jc1_n c_28] at hl
                exact ih_16 (a + 1) (by omega) (by omega) _ _ hP hD hS ls (lv_sub hl [1, 2, 3, 4, 5, 0] rfl)
              · skip
                have c_28 := k_b1 c_28
                refine lv_iload_n hx hb dX1_leastUnbeaten_31 rfl (lv_at hl 3 rfl) ?_
                refine lv_iload_n hx hb dX1_leastUnbeaten_32 rfl (lv_at hl 2 rfl) ?_
                have hs_33 : kSplit (wX1 q1 cI cJ cB beaten_1 unused_1 ways_1 lw_1) ([] : va_W) (wX1 q1 cI cJ cB beaten_1 unused_1 ways_1 lw_1) [] [0, 1, 2, 3] := ⟨rfl, rfl, rfl, rfl, rfl, by decide⟩
                refine kc_i hP hD hS hA hs_33 (kSN (n := 1) (As := [.int (nI n)]) (rest := [.int (nI (jc1 (nbF ml n) (luR (nbF ml n) n (2 ^ p1) j) a))]) (host := "MeetingRanks") hx hb hml hown hts hKW hP hD hs_33 (c_X9_everyone l D cI cJ cB n (by first | assumption | omega)) gX1_leastUnbeaten_X9_everyone_n35 rfl rfl rfl (by decide +kernel) (by decide +kernel) (by decide +kernel) (by decide +kernel) ⟨Nat.le_of_ble_eq_true rfl, Nat.le_of_ble_eq_true rfl⟩ rfl hl.1 rfl (Nat.le_of_ble_eq_true rfl) dX1_leastUnbeaten_33 ⟨Nat.zero_le _, Nat.zero_le _⟩) (fun r_33 u_33 H locs hw_33 hP hD hS => ?_)
                have er_33 := hw_33
                have er_33 := er_33.symm
                subst er_33
                have hP : va_P D vwCl (wX1 q1 cI cJ cB beaten_1 unused_1 ways_1 lw_1) H := hP.sub (ws' := (wX1 q1 cI cJ cB beaten_1 unused_1 ways_1 lw_1)) [0, 1, 2, 3] rfl
                have hD : va_D A (wX1 q1 cI cJ cB beaten_1 unused_1 ways_1 lw_1) := hD.sub (ws' := (wX1 q1 cI cJ cB beaten_1 unused_1 ways_1 lw_1)) [0, 1, 2, 3] (by decide) rfl
                refine lv_aload_n hx hb dX1_leastUnbeaten_36 rfl (lv_at hl 0 rfl) ?_
                refine k_get (ci := 1) (v := .ref (q1 1)) (C := RX1) (Tb := TX1) (N := 3) hx hb hts hu_1 hown hKW hP 0 rfl rfl 0 (by decide) hf_9 rfl rfl dX1_leastUnbeaten_37 ?_
                refine lv_iload hx hb dX1_leastUnbeaten_40 (lv_at hl 5 rfl) ?_
                refine k_iald (n := 10) (i := a) hx hb hKW hP 1 0 rfl rfl (by omega) (by omega) dX1_leastUnbeaten_42 ?_
                refine k_top (y := nI (btF ml n a)) (hB a (by omega)) ?_
                refine lv_iconst (v := (-1)) hx hb dX1_leastUnbeaten_43 (by decide) ?_
                refine lv_ixor hx hb dX1_leastUnbeaten_44 ?_
                refine lv_iand hx hb dX1_leastUnbeaten_45 ?_
                refine k_top (y := nI (nbF ml n a)) (k_andn (by omega)) ?_
                refine lv_ior hx hb dX1_leastUnbeaten_46 ?_
                refine k_top (y := nI (jc1 (nbF ml n) (luR (nbF ml n) n (2 ^ p1) j) a ||| nbF ml n a)) (k_or _ _) ?_
                refine lv_istore_n (lv' := [(3, .int (nI (jc1 (nbF ml n) (luR (nbF ml n) n (2 ^ p1) j) a ||| nbF ml n a))), (0, .ref (q1 0)), (1, .int (nI p1)), (2, .int (nI n)), (4, .int (nI j)), (5, .int (nI a))]) hx hb dX1_leastUnbeaten_47 rfl hl (by decide) rfl (fun ls hl => ?_)
                refine lv_iinc (v := nI (a + 1)) (lv' := [(5, .int (nI (a + 1))), (3, .int (nI (jc1 (nbF ml n) (luR (nbF ml n) n (2 ^ p1) j) a ||| nbF ml n a))), (0, .ref (q1 0)), (1, .int (nI p1)), (2, .int (nI n)), (4, .int (nI j))]) hx hb dX1_leastUnbeaten_48 hl (k := 5) rfl (nI_add _ _) (by decide) rfl (fun ls hl => ?_)
                refine lv_goto (tgt := 16) hx hb dX1_leastUnbeaten_51 (by decide) ?_
                rw [jc1_y c_28] at hl
                exact ih_16 (a + 1) (by omega) (by omega) _ _ hP hD hS ls (lv_sub hl [2, 3, 4, 1, 5, 0] rfl)
        exact hL_16 _ 0 (Nat.zero_le _) (Nat.lt_succ_self _) _ _ hP hD hS ls (lv_sub hl [1, 2, 3, 4, 5, 0] rfl)
  exact hL_7 _ 0 (Nat.zero_le _) (Nat.lt_succ_self _) _ _ hP hD hS ls (lv_sub hl [2, 3, 4, 1, 0] rfl)
def rmX1_leastCore : Room := { frames := 2, cells := 0, slots := 0, locals := 46 }
set_option maxHeartbeats 4000000 in
set_option maxRecDepth 100000 in
theorem c_X1_leastCore (l : Launch) (D : va_G) (cI cJ cB : ClassId) (q1 : Nat → Nat) (q4 : Nat → Nat) (beaten_1 : Nat → Int32) (unused_1 : Nat → Int32) (ways_1 : Nat → Int32) (lw_1 : Nat) (parts_4 : Nat → Int32) (wins_4 : Nat → Int32) (draws_4 : Nat → Int32) (points_4 : Nat → Int32) (count_4 : Int32) (changes_4 : Int32) (ml : List Mt) (n : Nat) (hM : MR parts_4 wins_4 draws_4 points_4 ml) (hm120 : ml.length ≤ 120) (hn10 : n ≤ 10) : ∀ sz, Met l yX1_leastCore wsX1_leastCore rmX1_leastCore (va_Pc [.ref (q1 0), .ref (q4 0), .int (nI n)] (PW D (kT cI cJ cB) sz (wX1 q1 cI cJ cB beaten_1 unused_1 ways_1 lw_1 ++ wX4 q4 cI cJ cB parts_4 wins_4 draws_4 points_4 count_4 changes_4))) (va_Qi (S := (Nat → Int32)) (fun r beaten_1' => r = nI (ccF (fun p => luR (nbF ml n) n (2 ^ p) n) (2 ^ n - 1) n)) (QW D sz (wX1 q1 cI cJ cB beaten_1 unused_1 ways_1 lw_1 ++ wX4 q4 cI cJ cB parts_4 wins_4 draws_4 points_4 count_4 changes_4) (fun beaten_1' => (wX1 q1 cI cJ cB beaten_1' unused_1 ways_1 lw_1 ++ wX4 q4 cI cJ cB parts_4 wins_4 draws_4 points_4 count_4 changes_4))) (va_A (wX1 q1 cI cJ cB beaten_1 unused_1 ways_1 lw_1 ++ wX4 q4 cI cJ cB parts_4 wins_4 draws_4 points_4 count_4 changes_4) sz)) 0 0 (va_A (wX1 q1 cI cJ cB beaten_1 unused_1 ways_1 lw_1 ++ wX4 q4 cI cJ cB parts_4 wins_4 draws_4 points_4 count_4 changes_4) sz) := by
  intro sz
  refine Met.ofW (cc := cX1_leastCore) (maxL := 6) (ret := (some .int)) (by decide) rfl ?_
  intro p e s m args below meth c s₁ B hml hv
  obtain ⟨hav, hsz, hP, hKW, hD0⟩ := hv
  have hx := B.exec
  have hb := B.bytes
  have hr := B.returns
  have hts := atoms_spec (ws := wsX1_leastCore) B.pre
  have hown : s.vm.findClass RX1 = some m.cls := findClass_of_methodNamed B.named
  have hlocks := B.notSynchronized
  subst hsz
  have hD := hD0.self (sz := s.heap.size)
  obtain ⟨A, hAe⟩ : ∃ A : Nat → Prop, A = va_A (wX1 q1 cI cJ cB beaten_1 unused_1 ways_1 lw_1 ++ wX4 q4 cI cJ cB parts_4 wins_4 draws_4 points_4 count_4 changes_4) s.heap.size := ⟨_, rfl⟩
  rw [← hAe] at hD
  have hA : ∀ q : Nat, s.heap.size ≤ q → A q := fun q h => by rw [hAe]; exact Or.inr h
  have hS : va_S A s.heap s.heap [] := va_S.rf
  refine k_gen (fun Q hQ => ?_)
  have hl := lv_entry ([.ref (q1 0), .ref (q4 0), .int (nI n)]) (n := 6) (Nat.le_of_ble_eq_true rfl)
  refine k_entry hav (lg_entry_eq ..) ?_
  generalize (lg_sl ([.ref (q1 0), .ref (q4 0), .int (nI n)]) ++ List.replicate (6 - (lg_sl ([.ref (q1 0), .ref (q4 0), .int (nI n)])).length) Slot.unset).toArray = ls at hl ⊢
  have hl : lv_has ls 6 [(0, .ref (q1 0)), (1, .ref (q4 0)), (2, .int (nI n))] := hl
  have h2n := pow_le_1024 hn10
  have h2p := Nat.two_pow_pos n
  have hnb9 : ∀ a, nbF ml n a < 1024 := fun a => bits_lt (Nat.le_refl 10)
  have hlu9 : ∀ p, p < 10 → luR (nbF ml n) n (2 ^ p) n < 1024 := fun p hp => luR_lt (p2_1024 hp) hnb9 n
  refine lv_aload_n hx hb dX1_leastCore_0 rfl (lv_at hl 0 rfl) ?_
  refine lv_aload_n hx hb dX1_leastCore_1 rfl (lv_at hl 1 rfl) ?_
  refine lv_iload_n hx hb dX1_leastCore_2 rfl (lv_at hl 2 rfl) ?_
  have hs_3 : kSplit (wX1 q1 cI cJ cB beaten_1 unused_1 ways_1 lw_1 ++ wX4 q4 cI cJ cB parts_4 wins_4 draws_4 points_4 count_4 changes_4) (wX1 q1 cI cJ cB beaten_1 unused_1 ways_1 lw_1 ++ wX4 q4 cI cJ cB parts_4 wins_4 draws_4 points_4 count_4 changes_4) ([] : va_W) [0, 1, 2, 3, 4, 5, 6, 7, 8] [] := ⟨rfl, rfl, rfl, rfl, rfl, by decide⟩
  refine kc_v hP hD hS hA hs_3 (kV (As := [.ref (q4 0), .int (nI n)]) (rest := []) hx hb hml hown hts hKW hP hD hs_3 (c_X1_fillBeaten l D cI cJ cB q1 q4 beaten_1 unused_1 ways_1 lw_1 parts_4 wins_4 draws_4 points_4 count_4 changes_4 ml n (by first | assumption | omega) (by first | assumption | omega) (by first | assumption | omega)) (cwV 2 hts gX1_leastCore_X1_fillBeaten rfl rfl rfl (by decide +kernel) ⟨Nat.le_of_ble_eq_true rfl, Nat.le_of_ble_eq_true rfl⟩) 0 1 rfl rfl rfl rfl hl.1 rfl (Nat.le_of_ble_eq_true rfl) dX1_leastCore_3 ⟨Nat.zero_le _, Nat.zero_le _⟩) (fun u_3 H locs hw_3 hP hD hS => ?_)
  obtain ⟨beaten_1_3, rfl⟩ : ∃ z, z = u_3 := ⟨_, rfl⟩
  have hP : va_P D vwCl (wX1 q1 cI cJ cB beaten_1_3 unused_1 ways_1 lw_1 ++ wX4 q4 cI cJ cB parts_4 wins_4 draws_4 points_4 count_4 changes_4) H := hP.sub (ws' := (wX1 q1 cI cJ cB beaten_1_3 unused_1 ways_1 lw_1 ++ wX4 q4 cI cJ cB parts_4 wins_4 draws_4 points_4 count_4 changes_4)) [0, 1, 2, 3, 4, 5, 6, 7, 8] rfl
  have hD : va_D A (wX1 q1 cI cJ cB beaten_1_3 unused_1 ways_1 lw_1 ++ wX4 q4 cI cJ cB parts_4 wins_4 draws_4 points_4 count_4 changes_4) := hD.sub (ws' := (wX1 q1 cI cJ cB beaten_1_3 unused_1 ways_1 lw_1 ++ wX4 q4 cI cJ cB parts_4 wins_4 draws_4 points_4 count_4 changes_4)) [0, 1, 2, 3, 4, 5, 6, 7, 8] (by decide) rfl
  refine lv_iload_n hx hb dX1_leastCore_6 rfl (lv_at hl 2 rfl) ?_
  have hs_7 : kSplit (wX1 q1 cI cJ cB beaten_1_3 unused_1 ways_1 lw_1 ++ wX4 q4 cI cJ cB parts_4 wins_4 draws_4 points_4 count_4 changes_4) ([] : va_W) (wX1 q1 cI cJ cB beaten_1_3 unused_1 ways_1 lw_1 ++ wX4 q4 cI cJ cB parts_4 wins_4 draws_4 points_4 count_4 changes_4) [] [0, 1, 2, 3, 4, 5, 6, 7, 8] := ⟨rfl, rfl, rfl, rfl, rfl, by decide⟩
  refine kc_i hP hD hS hA hs_7 (kSN (n := 1) (As := [.int (nI n)]) (rest := []) (host := "MeetingRanks") hx hb hml hown hts hKW hP hD hs_7 (c_X9_everyone l D cI cJ cB n (by first | assumption | omega)) gX1_leastCore_X9_everyone_n35 rfl rfl rfl (by decide +kernel) (by decide +kernel) (by decide +kernel) (by decide +kernel) ⟨Nat.le_of_ble_eq_true rfl, Nat.le_of_ble_eq_true rfl⟩ rfl hl.1 rfl (Nat.le_of_ble_eq_true rfl) dX1_leastCore_7 ⟨Nat.zero_le _, Nat.zero_le _⟩) (fun r_7 u_7 H locs hw_7 hP hD hS => ?_)
  have er_7 := hw_7
  have er_7 := er_7.symm
  subst er_7
  have hP : va_P D vwCl (wX1 q1 cI cJ cB beaten_1_3 unused_1 ways_1 lw_1 ++ wX4 q4 cI cJ cB parts_4 wins_4 draws_4 points_4 count_4 changes_4) H := hP.sub (ws' := (wX1 q1 cI cJ cB beaten_1_3 unused_1 ways_1 lw_1 ++ wX4 q4 cI cJ cB parts_4 wins_4 draws_4 points_4 count_4 changes_4)) [0, 1, 2, 3, 4, 5, 6, 7, 8] rfl
  have hD : va_D A (wX1 q1 cI cJ cB beaten_1_3 unused_1 ways_1 lw_1 ++ wX4 q4 cI cJ cB parts_4 wins_4 draws_4 points_4 count_4 changes_4) := hD.sub (ws' := (wX1 q1 cI cJ cB beaten_1_3 unused_1 ways_1 lw_1 ++ wX4 q4 cI cJ cB parts_4 wins_4 draws_4 points_4 count_4 changes_4)) [0, 1, 2, 3, 4, 5, 6, 7, 8] (by decide) rfl
  refine lv_istore_n (lv' := [(3, .int (nI (2 ^ n - 1))), (0, .ref (q1 0)), (1, .ref (q4 0)), (2, .int (nI n))]) hx hb dX1_leastCore_10 rfl hl (by decide) rfl (fun ls hl => ?_)
  refine lv_iconst (v := nI 0) hx hb dX1_leastCore_11 (by decide) ?_
  refine lv_istore (lv' := [(4, .int (nI 0)), (3, .int (nI (2 ^ n - 1))), (0, .ref (q1 0)), (1, .ref (q4 0)), (2, .int (nI n))]) hx hb dX1_leastCore_12 hl (by decide) rfl (fun ls hl => ?_)
  have hL_14 : ∀ (fu : Nat) (p1 : Nat) (hp1 : p1 ≤ n), n - p1 < fu → ∀ (H : Heap) (locs : List Loc), va_P D vwCl (wX1 q1 cI cJ cB beaten_1_3 unused_1 ways_1 lw_1 ++ wX4 q4 cI cJ cB parts_4 wins_4 draws_4 points_4 count_4 changes_4) H → va_D A (wX1 q1 cI cJ cB beaten_1_3 unused_1 ways_1 lw_1 ++ wX4 q4 cI cJ cB parts_4 wins_4 draws_4 points_4 count_4 changes_4) → va_S A s.heap H locs → ∀ (ls : Array Slot), lv_has ls 6 [(0, .ref (q1 0)), (1, .ref (q4 0)), (2, .int (nI n)), (3, .int (nI (ccF (fun p => luR (nbF ml n) n (2 ^ p) n) (2 ^ n - 1) p1))), (4, .int (nI p1))] → W p l e (headSpec wsX1_leastCore rmX1_leastCore).room s m args below meth c H locs 0 0 Q (F0 m 14 ls []) := by
    intro fu
    induction fu with
    | zero => intro p1 hp1 hfu; exact absurd hfu (Nat.not_lt_zero _)
    | succ fu ih_14 =>
      intro p1 hp1 hfu H locs hP hD hS ls hl
      have hcc9 := ccF_lt (lu := (fun p => luR (nbF ml n) n (2 ^ p) n)) (all := 2 ^ n - 1) (by omega) hlu9 p1 (by omega)
      refine lv_iload hx hb dX1_leastCore_14 (lv_at hl 4 rfl) ?_
      refine lv_iload_n hx hb dX1_leastCore_16 rfl (lv_at hl 2 rfl) ?_
      refine lv_icmp_ge (tgt := 50) hx hb dX1_leastCore_17 (by decide) (fun c_17 => ?_) (fun c_17 => ?_)
      · skip
        have c_17 := k_ge (by omega) (by omega) c_17
        obtain rfl : n = p1 := by omega
        refine lv_iload_n hx hb dX1_leastCore_50 rfl (lv_at hl 3 rfl) ?_
        subst hQ; subst hAe
        exact W.iret (v := nI (ccF (fun p => luR (nbF ml n) n (2 ^ p) n) (2 ^ n - 1) n)) hx hb hr (fun tt9 ht9 _ => ⟨⟨nI (ccF (fun p => luR (nbF ml n) n (2 ^ p) n) (2 ^ n - 1) n), (beaten_1_3), rfl, rfl, by rw [ht9]; exact hP, hD⟩, hS.F ht9⟩) hS.2.2 dX1_leastCore_51
      · skip
        have c_17 := k_ge_n (by omega) (by omega) c_17
        refine lv_aload_n hx hb dX1_leastCore_20 rfl (lv_at hl 0 rfl) ?_
        refine lv_iload hx hb dX1_leastCore_21 (lv_at hl 4 rfl) ?_
        refine lv_iload_n hx hb dX1_leastCore_23 rfl (lv_at hl 2 rfl) ?_
        have hs_24 : kSplit (wX1 q1 cI cJ cB beaten_1_3 unused_1 ways_1 lw_1 ++ wX4 q4 cI cJ cB parts_4 wins_4 draws_4 points_4 count_4 changes_4) (wX1 q1 cI cJ cB beaten_1_3 unused_1 ways_1 lw_1) (wX4 q4 cI cJ cB parts_4 wins_4 draws_4 points_4 count_4 changes_4) [0, 1, 2, 3] [4, 5, 6, 7, 8] := ⟨rfl, rfl, rfl, rfl, rfl, by decide⟩
        refine kc_i hP hD hS hA hs_24 (kV (As := [.int (nI p1), .int (nI n)]) (rest := []) hx hb hml hown hts hKW hP hD hs_24 (c_X1_leastUnbeaten l D cI cJ cB q1 beaten_1_3 unused_1 ways_1 lw_1 ml p1 n hw_3 (by first | assumption | omega) (by first | assumption | omega)) (cwV 2 hts gX1_leastCore_X1_leastUnbeaten rfl rfl rfl (by decide +kernel) ⟨Nat.le_of_ble_eq_true rfl, Nat.le_of_ble_eq_true rfl⟩) 0 1 rfl rfl rfl rfl hl.1 rfl (Nat.le_of_ble_eq_true rfl) dX1_leastCore_24 ⟨Nat.zero_le _, Nat.zero_le _⟩) (fun r_24 u_24 H locs hw_24 hP hD hS => ?_)
        have er_24 := hw_24
        have er_24 := er_24.symm
        subst er_24
        have hP : va_P D vwCl (wX1 q1 cI cJ cB beaten_1_3 unused_1 ways_1 lw_1 ++ wX4 q4 cI cJ cB parts_4 wins_4 draws_4 points_4 count_4 changes_4) H := hP.sub (ws' := (wX1 q1 cI cJ cB beaten_1_3 unused_1 ways_1 lw_1 ++ wX4 q4 cI cJ cB parts_4 wins_4 draws_4 points_4 count_4 changes_4)) [5, 6, 7, 8, 0, 1, 2, 3, 4] rfl
        have hD : va_D A (wX1 q1 cI cJ cB beaten_1_3 unused_1 ways_1 lw_1 ++ wX4 q4 cI cJ cB parts_4 wins_4 draws_4 points_4 count_4 changes_4) := hD.sub (ws' := (wX1 q1 cI cJ cB beaten_1_3 unused_1 ways_1 lw_1 ++ wX4 q4 cI cJ cB parts_4 wins_4 draws_4 points_4 count_4 changes_4)) [5, 6, 7, 8, 0, 1, 2, 3, 4] (by decide) rfl
        refine lv_istore (lv' := [(5, .int (nI (luR (nbF ml n) n (2 ^ p1) n))), (0, .ref (q1 0)), (1, .ref (q4 0)), (2, .int (nI n)), (3, .int (nI (ccF (fun p => luR (nbF ml n) n (2 ^ p) n) (2 ^ n - 1) p1))), (4, .int (nI p1))]) hx hb dX1_leastCore_27 hl (by decide) rfl (fun ls hl => ?_)
        refine lv_iload hx hb dX1_leastCore_29 (lv_at hl 0 rfl) ?_
        have hs_31 : kSplit (wX1 q1 cI cJ cB beaten_1_3 unused_1 ways_1 lw_1 ++ wX4 q4 cI cJ cB parts_4 wins_4 draws_4 points_4 count_4 changes_4) ([] : va_W) (wX1 q1 cI cJ cB beaten_1_3 unused_1 ways_1 lw_1 ++ wX4 q4 cI cJ cB parts_4 wins_4 draws_4 points_4 count_4 changes_4) [] [0, 1, 2, 3, 4, 5, 6, 7, 8] := ⟨rfl, rfl, rfl, rfl, rfl, by decide⟩
        refine kc_i hP hD hS hA hs_31 (kS (As := [.int (nI (luR (nbF ml n) n (2 ^ p1) n))]) (rest := []) hx hb hml hown hts hKW hP hD hs_31 (c_J6_bitCount_0f7a4 l D cI cJ cB (luR (nbF ml n) n (2 ^ p1) n) (hlu9 p1 (by omega))) (va_cwS 1 hts gX1_leastCore_J6_bitCount_0f7a4 rfl rfl rfl (by decide +kernel) ⟨Nat.le_of_ble_eq_true rfl, Nat.le_of_ble_eq_true rfl⟩) rfl hl.1 rfl (Nat.le_of_ble_eq_true rfl) dX1_leastCore_31 ⟨Nat.zero_le _, Nat.zero_le _⟩) (fun r_31 u_31 H locs hw_31 hP hD hS => ?_)
        have er_31 := hw_31
        have er_31 := er_31.symm
        subst er_31
        have hP : va_P D vwCl (wX1 q1 cI cJ cB beaten_1_3 unused_1 ways_1 lw_1 ++ wX4 q4 cI cJ cB parts_4 wins_4 draws_4 points_4 count_4 changes_4) H := hP.sub (ws' := (wX1 q1 cI cJ cB beaten_1_3 unused_1 ways_1 lw_1 ++ wX4 q4 cI cJ cB parts_4 wins_4 draws_4 points_4 count_4 changes_4)) [0, 1, 2, 3, 4, 5, 6, 7, 8] rfl
        have hD : va_D A (wX1 q1 cI cJ cB beaten_1_3 unused_1 ways_1 lw_1 ++ wX4 q4 cI cJ cB parts_4 wins_4 draws_4 points_4 count_4 changes_4) := hD.sub (ws' := (wX1 q1 cI cJ cB beaten_1_3 unused_1 ways_1 lw_1 ++ wX4 q4 cI cJ cB parts_4 wins_4 draws_4 points_4 count_4 changes_4)) [0, 1, 2, 3, 4, 5, 6, 7, 8] (by decide) rfl
        have hpc8 := pcF_le (luR (nbF ml n) n (2 ^ p1) n) 10
        refine lv_iload_n hx hb dX1_leastCore_34 rfl (lv_at hl 4 rfl) ?_
        have hs_35 : kSplit (wX1 q1 cI cJ cB beaten_1_3 unused_1 ways_1 lw_1 ++ wX4 q4 cI cJ cB parts_4 wins_4 draws_4 points_4 count_4 changes_4) ([] : va_W) (wX1 q1 cI cJ cB beaten_1_3 unused_1 ways_1 lw_1 ++ wX4 q4 cI cJ cB parts_4 wins_4 draws_4 points_4 count_4 changes_4) [] [0, 1, 2, 3, 4, 5, 6, 7, 8] := ⟨rfl, rfl, rfl, rfl, rfl, by decide⟩
        refine kc_i hP hD hS hA hs_35 (kS (As := [.int (nI (ccF (fun p => luR (nbF ml n) n (2 ^ p) n) (2 ^ n - 1) p1))]) (rest := [.int (nI (pcF (luR (nbF ml n) n (2 ^ p1) n) 10))]) hx hb hml hown hts hKW hP hD hs_35 (c_J6_bitCount_0f7a4 l D cI cJ cB (ccF (fun p => luR (nbF ml n) n (2 ^ p) n) (2 ^ n - 1) p1) hcc9) (va_cwS 1 hts gX1_leastCore_J6_bitCount_0f7a4 rfl rfl rfl (by decide +kernel) ⟨Nat.le_of_ble_eq_true rfl, Nat.le_of_ble_eq_true rfl⟩) rfl hl.1 rfl (Nat.le_of_ble_eq_true rfl) dX1_leastCore_35 ⟨Nat.zero_le _, Nat.zero_le _⟩) (fun r_35 u_35 H locs hw_35 hP hD hS => ?_)
        have er_35 := hw_35
        have er_35 := er_35.symm
        subst er_35
        have hP : va_P D vwCl (wX1 q1 cI cJ cB beaten_1_3 unused_1 ways_1 lw_1 ++ wX4 q4 cI cJ cB parts_4 wins_4 draws_4 points_4 count_4 changes_4) H := hP.sub (ws' := (wX1 q1 cI cJ cB beaten_1_3 unused_1 ways_1 lw_1 ++ wX4 q4 cI cJ cB parts_4 wins_4 draws_4 points_4 count_4 changes_4)) [0, 1, 2, 3, 4, 5, 6, 7, 8] rfl
        have hD : va_D A (wX1 q1 cI cJ cB beaten_1_3 unused_1 ways_1 lw_1 ++ wX4 q4 cI cJ cB parts_4 wins_4 draws_4 points_4 count_4 changes_4) := hD.sub (ws' := (wX1 q1 cI cJ cB beaten_1_3 unused_1 ways_1 lw_1 ++ wX4 q4 cI cJ cB parts_4 wins_4 draws_4 points_4 count_4 changes_4)) [0, 1, 2, 3, 4, 5, 6, 7, 8] (by decide) rfl
        have hpc9 := pcF_le (ccF (fun p => luR (nbF ml n) n (2 ^ p) n) (2 ^ n - 1) p1) 10
        refine lv_icmp_ge (tgt := 44) hx hb dX1_leastCore_38 (by decide) (fun c_38 => ?_) (fun c_38 => ?_)
        · skip
          have c_38 := k_ge (by omega) (by omega) c_38
          refine lv_iinc (v := nI (p1 + 1)) (lv' := [(4, .int (nI (p1 + 1))), (5, .int (nI (luR (nbF ml n) n (2 ^ p1) n))), (0, .ref (q1 0)), (1, .ref (q4 0)), (2, .int (nI n)), (3, .int (nI (ccF (fun p => luR (nbF ml n) n (2 ^ p) n) (2 ^ n - 1) p1)))]) hx hb dX1_leastCore_44 hl (k := 5) rfl (nI_add _ _) (by decide) rfl (fun ls hl => ?_)
          refine lv_goto (tgt := 14) hx hb dX1_leastCore_47 (by decide) ?_
          rw [ccF_n (lu := (fun p => luR (nbF ml n) n (2 ^ p) n)) (by omega)] at hl
          exact ih_14 (p1 + 1) (by omega) (by omega) _ _ hP hD hS ls (lv_sub hl [2, 3, 4, 5, 0] rfl)
        · skip
          have c_38 := k_ge_n (by omega) (by omega) c_38
          refine lv_iload hx hb dX1_leastCore_41 (lv_at hl 0 rfl) ?_
          refine lv_istore_n (lv' := [(3, .int (nI (luR (nbF ml n) n (2 ^ p1) n))), (5, .int (nI (luR (nbF ml n) n (2 ^ p1) n))), (0, .ref (q1 0)), (1, .ref (q4 0)), (2, .int (nI n)), (4, .int (nI p1))]) hx hb dX1_leastCore_43 rfl hl (by decide) rfl (fun ls hl => ?_)
          refine lv_iinc (v := nI (p1 + 1)) (lv' := [(4, .int (nI (p1 + 1))), (3, .int (nI (luR (nbF ml n) n (2 ^ p1) n))), (5, .int (nI (luR (nbF ml n) n (2 ^ p1) n))), (0, .ref (q1 0)), (1, .ref (q4 0)), (2, .int (nI n))]) hx hb dX1_leastCore_44 hl (k := 5) rfl (nI_add _ _) (by decide) rfl (fun ls hl => ?_)
          refine lv_goto (tgt := 14) hx hb dX1_leastCore_47 (by decide) ?_
          have hcy9 : luR (nbF ml n) n (2 ^ p1) n = ccF (fun p => luR (nbF ml n) n (2 ^ p) n) (2 ^ n - 1) (p1 + 1) := ccF_y (lu := (fun p => luR (nbF ml n) n (2 ^ p) n)) (all := 2 ^ n - 1) (p := p1) c_38
          rw [hcy9] at hl
          exact ih_14 (p1 + 1) (by omega) (by omega) _ _ hP hD hS ls (lv_sub hl [3, 4, 5, 1, 0] rfl)
  exact hL_14 _ 0 (Nat.zero_le _) (Nat.lt_succ_self _) _ _ hP hD hS ls (lv_sub hl [2, 3, 4, 1, 0] rfl)
def rmX1_goOn : Room := { frames := 1, cells := 0, slots := 0, locals := 21 }
set_option maxHeartbeats 4000000 in
set_option maxRecDepth 100000 in
theorem c_X1_goOn (l : Launch) (D : va_G) (cI cJ cB : ClassId) (q1 : Nat → Nat) (beaten_1 : Nat → Int32) (unused_1 : Nat → Int32) (ways_1 : Nat → Int32) (ml : List Mt) (n : Nat) (S : Nat) (la : Nat) (hB : ∀ a, a < n → beaten_1 a = nI (btF ml n a)) (hn10 : n ≤ 10) (hS10 : S < 2 ^ n) (hla : la < n) : ∀ sz, Met l yX1_goOn wsX1_goOn rmX1_goOn (va_Pc [.ref (q1 0), .int (nI n), .int (nI S), .int (nI la)] (PW D (kT cI cJ cB) sz (wX1 q1 cI cJ cB beaten_1 unused_1 ways_1 10240))) (va_Qv (S := (Nat → Int32)) (fun ways_1' => ways_1' = gnF (fun a => btF ml n a) n S la ways_1) (QW D sz (wX1 q1 cI cJ cB beaten_1 unused_1 ways_1 10240) (fun ways_1' => (wX1 q1 cI cJ cB beaten_1 unused_1 ways_1' 10240))) (va_A (wX1 q1 cI cJ cB beaten_1 unused_1 ways_1 10240) sz)) 0 0 (va_A (wX1 q1 cI cJ cB beaten_1 unused_1 ways_1 10240) sz) := by
  intro sz
  refine Met.ofW (cc := cX1_goOn) (maxL := 7) (ret := none) (by decide) rfl ?_
  intro p e s m args below meth c s₁ B hml hv
  obtain ⟨hav, hsz, hP, hKW, hD0⟩ := hv
  have hx := B.exec
  have hb := B.bytes
  have hr := B.returns
  have hts := atoms_spec (ws := wsX1_goOn) B.pre
  have hown : s.vm.findClass RX1 = some m.cls := findClass_of_methodNamed B.named
  have hlocks := B.notSynchronized
  subst hsz
  have hD := hD0.self (sz := s.heap.size)
  obtain ⟨A, hAe⟩ : ∃ A : Nat → Prop, A = va_A (wX1 q1 cI cJ cB beaten_1 unused_1 ways_1 10240) s.heap.size := ⟨_, rfl⟩
  rw [← hAe] at hD
  have hA : ∀ q : Nat, s.heap.size ≤ q → A q := fun q h => by rw [hAe]; exact Or.inr h
  have hS : va_S A s.heap s.heap [] := va_S.rf
  refine k_gen (fun Q hQ => ?_)
  have hl := lv_entry ([.ref (q1 0), .int (nI n), .int (nI S), .int (nI la)]) (n := 7) (Nat.le_of_ble_eq_true rfl)
  refine k_entry hav (lg_entry_eq ..) ?_
  generalize (lg_sl ([.ref (q1 0), .int (nI n), .int (nI S), .int (nI la)]) ++ List.replicate (7 - (lg_sl ([.ref (q1 0), .int (nI n), .int (nI S), .int (nI la)])).length) Slot.unset).toArray = ls at hl ⊢
  have hl : lv_has ls 7 [(0, .ref (q1 0)), (1, .int (nI n)), (2, .int (nI S)), (3, .int (nI la))] := hl
  have hu_1 : ∀ w ∈ u_ws RX1 TX1 3, w ∈ wsX1_goOn := by decide +kernel
  have hf_9 : Cond.fieldLink RX1 9 "MeetingRanks$Beating" "beaten" "[I" ∈ wsX1_goOn := by decide +kernel
  have hf_18 : Cond.fieldLink RX1 18 "MeetingRanks$Beating" "ways" "[I" ∈ wsX1_goOn := by decide +kernel
  have h2n := pow_le_1024 hn10
  have h2p := Nat.two_pow_pos n
  have hop9 : anF (btF ml n la) S < 1024 := bits_lt (Nat.le_refl 10)
  refine lv_aload_n hx hb dX1_goOn_0 rfl (lv_at hl 0 rfl) ?_
  refine k_get (ci := 1) (v := .ref (q1 3)) (C := RX1) (Tb := TX1) (N := 3) hx hb hts hu_1 hown hKW hP 0 rfl rfl 2 (by decide) hf_18 rfl rfl dX1_goOn_1 ?_
  refine lv_iload_n hx hb dX1_goOn_4 rfl (lv_at hl 2 rfl) ?_
  refine lv_bipush (v := nI 10) hx hb dX1_goOn_5 (by decide) ?_
  refine k_imul hx hb dX1_goOn_7 ?_
  refine lv_iload_n hx hb dX1_goOn_8 rfl (lv_at hl 3 rfl) ?_
  refine k_iadd hx hb dX1_goOn_9 ?_
  refine k_iald (n := 10240) (i := (S * 10) + la) hx hb hKW hP 3 0 rfl rfl (by omega) (by omega) dX1_goOn_10 ?_
  refine lv_istore (lv' := [(4, .int (ways_1 ((S * 10) + la))), (0, .ref (q1 0)), (1, .int (nI n)), (2, .int (nI S)), (3, .int (nI la))]) hx hb dX1_goOn_11 hl (by decide) rfl (fun ls hl => ?_)
  refine lv_aload_n hx hb dX1_goOn_13 rfl (lv_at hl 1 rfl) ?_
  refine k_get (ci := 1) (v := .ref (q1 1)) (C := RX1) (Tb := TX1) (N := 3) hx hb hts hu_1 hown hKW hP 0 rfl rfl 0 (by decide) hf_9 rfl rfl dX1_goOn_14 ?_
  refine lv_iload_n hx hb dX1_goOn_17 rfl (lv_at hl 4 rfl) ?_
  refine k_iald (n := 10) (i := la) hx hb hKW hP 1 0 rfl rfl (by omega) (by omega) dX1_goOn_18 ?_
  refine k_top (y := nI (btF ml n la)) (hB la hla) ?_
  refine lv_iload_n hx hb dX1_goOn_19 rfl (lv_at hl 3 rfl) ?_
  refine lv_iconst (v := (-1)) hx hb dX1_goOn_20 (by decide) ?_
  refine lv_ixor hx hb dX1_goOn_21 ?_
  refine lv_iand hx hb dX1_goOn_22 ?_
  refine k_top (y := nI (anF (btF ml n la) S)) (k_andn (bits_lt hn10)) ?_
  refine lv_istore (lv' := [(5, .int (nI (anF (btF ml n la) S))), (4, .int (ways_1 ((S * 10) + la))), (0, .ref (q1 0)), (1, .int (nI n)), (2, .int (nI S)), (3, .int (nI la))]) hx hb dX1_goOn_23 hl (by decide) rfl (fun ls hl => ?_)
  refine lv_iload hx hb dX1_goOn_25 (lv_at hl 1 rfl) ?_
  refine lv_if_eq (tgt := 35) hx hb dX1_goOn_27 (by decide) (fun c_27 => ?_) (fun c_27 => ?_)
  · skip
    subst hQ; subst hAe
    exact W.vret hx hb hr (fun tt9 ht9 _ => ⟨⟨(ways_1), rfl, by unfold gnF; rw [if_pos (Or.inl c_27)], by rw [ht9]; exact hP, hD⟩, hS.F ht9⟩) hS.2.2 dX1_goOn_35
  · skip
    refine lv_iload hx hb dX1_goOn_30 (lv_at hl 0 rfl) ?_
    refine lv_if_ne (tgt := 36) hx hb dX1_goOn_32 (by decide) (fun c_32 => ?_) (fun c_32 => ?_)
    · skip
      have c_32 := k0_ne (by omega) c_32
      refine lv_iconst (v := nI 0) hx hb dX1_goOn_36 (by decide) ?_
      refine lv_istore (lv' := [(6, .int (nI 0)), (5, .int (nI (anF (btF ml n la) S))), (4, .int (ways_1 ((S * 10) + la))), (0, .ref (q1 0)), (1, .int (nI n)), (2, .int (nI S)), (3, .int (nI la))]) hx hb dX1_goOn_37 hl (by decide) rfl (fun ls hl => ?_)
      have hL_39 : ∀ (fu : Nat) (k : Nat) (hk : k ≤ n), n - k < fu → ∀ (H : Heap) (locs : List Loc), va_P D vwCl (wX1 q1 cI cJ cB beaten_1 unused_1 (gnS (anF (btF ml n la) S) S (ways_1 (S * 10 + la)) ways_1 k) 10240) H → va_D A (wX1 q1 cI cJ cB beaten_1 unused_1 (gnS (anF (btF ml n la) S) S (ways_1 (S * 10 + la)) ways_1 k) 10240) → va_S A s.heap H locs → ∀ (ls : Array Slot), lv_has ls 7 [(0, .ref (q1 0)), (1, .int (nI n)), (2, .int (nI S)), (3, .int (nI la)), (4, .int (ways_1 ((S * 10) + la))), (5, .int (nI (anF (btF ml n la) S))), (6, .int (nI k))] → W p l e (headSpec wsX1_goOn rmX1_goOn).room s m args below meth c H locs 0 0 Q (F0 m 39 ls []) := by
        intro fu
        induction fu with
        | zero => intro k hk hfu; exact absurd hfu (Nat.not_lt_zero _)
        | succ fu ih_39 =>
          intro k hk hfu H locs hP hD hS ls hl
          refine lv_iload hx hb dX1_goOn_39 (lv_at hl 6 rfl) ?_
          refine lv_iload_n hx hb dX1_goOn_41 rfl (lv_at hl 1 rfl) ?_
          refine lv_icmp_ge (tgt := 83) hx hb dX1_goOn_42 (by decide) (fun c_42 => ?_) (fun c_42 => ?_)
          · skip
            have c_42 := k_ge (by omega) (by omega) c_42
            obtain rfl : n = k := by omega
            subst hQ; subst hAe
            exact W.vret hx hb hr (fun tt9 ht9 _ => ⟨⟨(gnS (anF (btF ml n la) S) S (ways_1 (S * 10 + la)) ways_1 n), rfl, by unfold gnF; rw [if_neg (fun z => z.elim c_27 c_32)], by rw [ht9]; exact hP, hD⟩, hS.F ht9⟩) hS.2.2 dX1_goOn_83
          · skip
            have c_42 := k_ge_n (by omega) (by omega) c_42
            have hor9 : S ||| 2 ^ k < 1024 := or_1024 (by omega) (p2_1024 (by omega))
            refine lv_iload hx hb dX1_goOn_45 (lv_at hl 5 rfl) ?_
            refine lv_iload hx hb dX1_goOn_47 (lv_at hl 6 rfl) ?_
            have hs_49 : kSplit (wX1 q1 cI cJ cB beaten_1 unused_1 (gnS (anF (btF ml n la) S) S (ways_1 (S * 10 + la)) ways_1 k) 10240) ([] : va_W) (wX1 q1 cI cJ cB beaten_1 unused_1 (gnS (anF (btF ml n la) S) S (ways_1 (S * 10 + la)) ways_1 k) 10240) [] [0, 1, 2, 3] := ⟨rfl, rfl, rfl, rfl, rfl, by decide⟩
            refine kc_i hP hD hS hA hs_49 (kSN (n := 2) (As := [.int (nI (anF (btF ml n la) S)), .int (nI k)]) (rest := []) (host := "MeetingRanks") hx hb hml hown hts hKW hP hD hs_49 (c_X9_isIn l D cI cJ cB (anF (btF ml n la) S) k (by first | assumption | omega) (by first | assumption | omega)) gX1_goOn_X9_isIn_n65 rfl rfl rfl (by decide +kernel) (by decide +kernel) (by decide +kernel) (by decide +kernel) ⟨Nat.le_of_ble_eq_true rfl, Nat.le_of_ble_eq_true rfl⟩ rfl hl.1 rfl (Nat.le_of_ble_eq_true rfl) dX1_goOn_49 ⟨Nat.zero_le _, Nat.zero_le _⟩) (fun r_49 u_49 H locs hw_49 hP hD hS => ?_)
            have er_49 := hw_49
            have er_49 := er_49.symm
            subst er_49
            have hP : va_P D vwCl (wX1 q1 cI cJ cB beaten_1 unused_1 (gnS (anF (btF ml n la) S) S (ways_1 (S * 10 + la)) ways_1 k) 10240) H := hP.sub (ws' := (wX1 q1 cI cJ cB beaten_1 unused_1 (gnS (anF (btF ml n la) S) S (ways_1 (S * 10 + la)) ways_1 k) 10240)) [0, 1, 2, 3] rfl
            have hD : va_D A (wX1 q1 cI cJ cB beaten_1 unused_1 (gnS (anF (btF ml n la) S) S (ways_1 (S * 10 + la)) ways_1 k) 10240) := hD.sub (ws' := (wX1 q1 cI cJ cB beaten_1 unused_1 (gnS (anF (btF ml n la) S) S (ways_1 (S * 10 + la)) ways_1 k) 10240)) [0, 1, 2, 3] (by decide) rfl
            refine lv_if_eq (tgt := 77) hx hb dX1_goOn_52 (by decide) (fun c_52 => ?_) (fun c_52 => ?_)
            · skip
              have c_52 := k_b0 c_52
              refine lv_iinc (v := nI (k + 1)) (lv' := [(6, .int (nI (k + 1))), (0, .ref (q1 0)), (1, .int (nI n)), (2, .int (nI S)), (3, .int (nI la)), (4, .int (ways_1 ((S * 10) + la))), (5, .int (nI (anF (btF ml n la) S)))]) hx hb dX1_goOn_77 hl (k := 6) rfl (nI_add _ _) (by decide) rfl (fun ls hl => ?_)
              refine lv_goto (tgt := 39) hx hb dX1_goOn_80 (by decide) ?_
              rw [gnS_n c_52] at hP hD
              exact ih_39 (k + 1) (by omega) (by omega) _ _ hP hD hS ls (lv_sub hl [1, 2, 3, 4, 5, 6, 0] rfl)
            · skip
              have c_52 := k_b1 c_52
              refine lv_aload_n hx hb dX1_goOn_55 rfl (lv_at hl 0 rfl) ?_
              refine k_get (ci := 1) (v := .ref (q1 3)) (C := RX1) (Tb := TX1) (N := 3) hx hb hts hu_1 hown hKW hP 0 rfl rfl 2 (by decide) hf_18 rfl rfl dX1_goOn_56 ?_
              refine lv_iload_n hx hb dX1_goOn_59 rfl (lv_at hl 2 rfl) ?_
              refine lv_iconst (v := nI 1) hx hb dX1_goOn_60 (by decide) ?_
              refine lv_iload hx hb dX1_goOn_61 (lv_at hl 6 rfl) ?_
              refine lv_ishl hx hb dX1_goOn_63 ?_
              refine k_top (y := nI (2 ^ k)) (k_shl1 (by omega)) ?_
              refine lv_ior hx hb dX1_goOn_64 ?_
              refine k_top (y := nI (S ||| 2 ^ k)) (k_or _ _) ?_
              refine lv_bipush (v := nI 10) hx hb dX1_goOn_65 (by decide) ?_
              refine k_imul hx hb dX1_goOn_67 ?_
              refine lv_iload hx hb dX1_goOn_68 (lv_at hl 6 rfl) ?_
              refine k_iadd hx hb dX1_goOn_70 ?_
              refine lv_dup2_11 hx hb dX1_goOn_71 rfl rfl ?_
              refine k_iald (n := 10240) (i := ((S ||| 2 ^ k) * 10) + k) hx hb hKW hP 3 0 rfl rfl (by omega) (by omega) dX1_goOn_72 ?_
              refine lv_iload hx hb dX1_goOn_73 (lv_at hl 4 rfl) ?_
              refine lv_iadd hx hb dX1_goOn_75 ?_
              refine k_iast (n := 10240) (i := ((S ||| 2 ^ k) * 10) + k) (x := ((gnS (anF (btF ml n la) S) S (ways_1 (S * 10 + la)) ways_1 k) (((S ||| 2 ^ k) * 10) + k)) + (ways_1 ((S * 10) + la))) (w' := (wX1 q1 cI cJ cB beaten_1 unused_1 (upd (gnS (anF (btF ml n la) S) S (ways_1 (S * 10 + la)) ways_1 k) (((S ||| 2 ^ k) * 10) + k) (((gnS (anF (btF ml n la) S) S (ways_1 (S * 10 + la)) ways_1 k) (((S ||| 2 ^ k) * 10) + k)) + (ways_1 ((S * 10) + la)))) 10240)) hx hb hKW hP hD hS 3 0 rfl rfl (by omega) (by omega) dX1_goOn_76 rfl (fun H locs hP hD hS => ?_)
              refine lv_iinc (v := nI (k + 1)) (lv' := [(6, .int (nI (k + 1))), (0, .ref (q1 0)), (1, .int (nI n)), (2, .int (nI S)), (3, .int (nI la)), (4, .int (ways_1 ((S * 10) + la))), (5, .int (nI (anF (btF ml n la) S)))]) hx hb dX1_goOn_77 hl (k := 6) rfl (nI_add _ _) (by decide) rfl (fun ls hl => ?_)
              refine lv_goto (tgt := 39) hx hb dX1_goOn_80 (by decide) ?_
              rw [gnS_y c_52] at hP hD
              exact ih_39 (k + 1) (by omega) (by omega) _ _ hP hD hS ls (lv_sub hl [1, 2, 3, 4, 5, 6, 0] rfl)
      exact hL_39 _ 0 (Nat.zero_le _) (Nat.lt_succ_self _) _ _ hP hD hS ls (lv_sub hl [3, 4, 5, 6, 2, 1, 0] rfl)
    · skip
      have c_32 := k0_ne_n (by omega) c_32
      subst hQ; subst hAe
      exact W.vret hx hb hr (fun tt9 ht9 _ => ⟨⟨(ways_1), rfl, by unfold gnF; rw [if_pos (Or.inr c_32)], by rw [ht9]; exact hP, hD⟩, hS.F ht9⟩) hS.2.2 dX1_goOn_35
