def rmX4_foesOf : Room := { frames := 2, cells := 0, slots := 0, locals := 44 }
set_option maxHeartbeats 4000000 in
set_option maxRecDepth 100000 in
theorem c_X4_foesOf (l : Launch) (D : va_G) (cI cJ cB : ClassId) (q4 : Nat → Nat) (parts_4 : Nat → Int32) (wins_4 : Nat → Int32) (draws_4 : Nat → Int32) (points_4 : Nat → Int32) (count_4 : Int32) (changes_4 : Int32) (ml : List Mt) (a : Nat) (n : Nat) (hM : MR parts_4 wins_4 draws_4 points_4 ml) (hm120 : ml.length ≤ 120) (hn10 : n ≤ 10) (ha : a < 10) : ∀ sz, Met l yX4_foesOf wsX4_foesOf rmX4_foesOf (va_Pc [.ref (q4 0), .int (nI a), .int (nI n)] (PW D (kT cI cJ cB) sz (wX4 q4 cI cJ cB parts_4 wins_4 draws_4 points_4 count_4 changes_4))) (va_Qi (S := Unit) (fun r _ => r = nI (foB ml n a)) (QW D sz (wX4 q4 cI cJ cB parts_4 wins_4 draws_4 points_4 count_4 changes_4) (fun _ => (wX4 q4 cI cJ cB parts_4 wins_4 draws_4 points_4 count_4 changes_4))) (va_A (wX4 q4 cI cJ cB parts_4 wins_4 draws_4 points_4 count_4 changes_4) sz)) 0 0 (va_A (wX4 q4 cI cJ cB parts_4 wins_4 draws_4 points_4 count_4 changes_4) sz) := by
  intro sz
  refine Met.ofW (cc := cX4_foesOf) (maxL := 5) (ret := (some .int)) (by decide) rfl ?_
  intro p e s m args below meth c s₁ B hml hv
  obtain ⟨hav, hsz, hP, hKW, hD0⟩ := hv
  have hx := B.exec
  have hb := B.bytes
  have hr := B.returns
  have hts := atoms_spec (ws := wsX4_foesOf) B.pre
  have hown : s.vm.findClass RX4 = some m.cls := findClass_of_methodNamed B.named
  have hlocks := B.notSynchronized
  subst hsz
  have hD := hD0.self (sz := s.heap.size)
  obtain ⟨A, hAe⟩ : ∃ A : Nat → Prop, A = va_A (wX4 q4 cI cJ cB parts_4 wins_4 draws_4 points_4 count_4 changes_4) s.heap.size := ⟨_, rfl⟩
  rw [← hAe] at hD
  have hA : ∀ q : Nat, s.heap.size ≤ q → A q := fun q h => by rw [hAe]; exact Or.inr h
  have hS : va_S A s.heap s.heap [] := va_S.rf
  refine k_gen (fun Q hQ => ?_)
  have hl := lv_entry ([.ref (q4 0), .int (nI a), .int (nI n)]) (n := 5) (Nat.le_of_ble_eq_true rfl)
  refine k_entry hav (lg_entry_eq ..) ?_
  generalize (lg_sl ([.ref (q4 0), .int (nI a), .int (nI n)]) ++ List.replicate (5 - (lg_sl ([.ref (q4 0), .int (nI a), .int (nI n)])).length) Slot.unset).toArray = ls at hl ⊢
  have hl : lv_has ls 5 [(0, .ref (q4 0)), (1, .int (nI a)), (2, .int (nI n))] := hl
  refine lv_iconst (v := nI 0) hx hb dX4_foesOf_0 (by decide) ?_
  refine lv_istore_n (lv' := [(3, .int (nI 0)), (0, .ref (q4 0)), (1, .int (nI a)), (2, .int (nI n))]) hx hb dX4_foesOf_1 rfl hl (by decide) rfl (fun ls hl => ?_)
  refine lv_iconst (v := nI 0) hx hb dX4_foesOf_2 (by decide) ?_
  refine lv_istore (lv' := [(4, .int (nI 0)), (3, .int (nI 0)), (0, .ref (q4 0)), (1, .int (nI a)), (2, .int (nI n))]) hx hb dX4_foesOf_3 hl (by decide) rfl (fun ls hl => ?_)
  have hL_5 : ∀ (fu : Nat) (b : Nat) (hb2 : b ≤ n), n - b < fu → ∀ (H : Heap) (locs : List Loc), va_P D vwCl (wX4 q4 cI cJ cB parts_4 wins_4 draws_4 points_4 count_4 changes_4) H → va_D A (wX4 q4 cI cJ cB parts_4 wins_4 draws_4 points_4 count_4 changes_4) → va_S A s.heap H locs → ∀ (ls : Array Slot), lv_has ls 5 [(0, .ref (q4 0)), (1, .int (nI a)), (2, .int (nI n)), (3, .int (nI (bitsOf (fun b => decide (0 < ov ml a b + dr ml a b + ov ml b a)) b))), (4, .int (nI b))] → W p l e (headSpec wsX4_foesOf rmX4_foesOf).room s m args below meth c H locs 0 0 Q (F0 m 5 ls []) := by
    intro fu
    induction fu with
    | zero => intro b hb2 hfu; exact absurd hfu (Nat.not_lt_zero _)
    | succ fu ih_5 =>
      intro b hb2 hfu H locs hP hD hS ls hl
      have hov1 := ov_le ml a b
      have hov2 := dr_le ml a b
      have hov3 := ov_le ml b a
      refine lv_iload hx hb dX4_foesOf_5 (lv_at hl 4 rfl) ?_
      refine lv_iload_n hx hb dX4_foesOf_7 rfl (lv_at hl 2 rfl) ?_
      refine lv_icmp_ge (tgt := 34) hx hb dX4_foesOf_8 (by decide) (fun c_8 => ?_) (fun c_8 => ?_)
      · skip
        have c_8 := k_ge (by omega) (by omega) c_8
        obtain rfl : n = b := by omega
        refine lv_iload_n hx hb dX4_foesOf_34 rfl (lv_at hl 3 rfl) ?_
        subst hQ; subst hAe
        exact W.iret (v := nI (bitsOf (fun n => decide (0 < ov ml a n + dr ml a n + ov ml n a)) n)) hx hb hr (fun tt9 ht9 _ => ⟨⟨nI (bitsOf (fun n => decide (0 < ov ml a n + dr ml a n + ov ml n a)) n), (), rfl, rfl, by rw [ht9]; exact hP, hD⟩, hS.F ht9⟩) hS.2.2 dX4_foesOf_35
      · skip
        have c_8 := k_ge_n (by omega) (by omega) c_8
        refine lv_aload_n hx hb dX4_foesOf_11 rfl (lv_at hl 0 rfl) ?_
        refine lv_iload_n hx hb dX4_foesOf_12 rfl (lv_at hl 1 rfl) ?_
        refine lv_iload hx hb dX4_foesOf_13 (lv_at hl 4 rfl) ?_
        have hs_15 : kSplit (wX4 q4 cI cJ cB parts_4 wins_4 draws_4 points_4 count_4 changes_4) (wX4 q4 cI cJ cB parts_4 wins_4 draws_4 points_4 count_4 changes_4) ([] : va_W) [0, 1, 2, 3, 4] [] := ⟨rfl, rfl, rfl, rfl, rfl, by decide⟩
        refine kc_i hP hD hS hA hs_15 (kV (As := [.int (nI a), .int (nI b)]) (rest := []) hx hb hml hown hts hKW hP hD hs_15 (c_X4_times l D cI cJ cB q4 parts_4 wins_4 draws_4 points_4 count_4 changes_4 a b (by first | assumption | omega) (by first | assumption | omega)) (cwV 2 hts gX4_foesOf_X4_times rfl rfl rfl (by decide +kernel) ⟨Nat.le_of_ble_eq_true rfl, Nat.le_of_ble_eq_true rfl⟩) 0 4 rfl rfl rfl rfl hl.1 rfl (Nat.le_of_ble_eq_true rfl) dX4_foesOf_15 ⟨Nat.zero_le _, Nat.zero_le _⟩) (fun r_15 u_15 H locs hw_15 hP hD hS => ?_)
        have er_15 := hw_15
        have er_15 := er_15.symm
        subst er_15
        have hP : va_P D vwCl (wX4 q4 cI cJ cB parts_4 wins_4 draws_4 points_4 count_4 changes_4) H := hP.sub (ws' := (wX4 q4 cI cJ cB parts_4 wins_4 draws_4 points_4 count_4 changes_4)) [0, 1, 2, 3, 4] rfl
        have hD : va_D A (wX4 q4 cI cJ cB parts_4 wins_4 draws_4 points_4 count_4 changes_4) := hD.sub (ws' := (wX4 q4 cI cJ cB parts_4 wins_4 draws_4 points_4 count_4 changes_4)) [0, 1, 2, 3, 4] (by decide) rfl
        refine k_top (y := nI (ov ml a b + dr ml a b + ov ml b a)) (by rw [(hM.2 a b (by omega) (by omega)).1, (hM.2 a b (by omega) (by omega)).2.1, (hM.2 b a (by omega) (by omega)).1, nI_add, nI_add]) ?_
        refine lv_if_le (tgt := 28) hx hb dX4_foesOf_18 (by decide) (fun c_18 => ?_) (fun c_18 => ?_)
        · skip
          have c_18 := k0_le (by omega) c_18
          refine lv_iinc (v := nI (b + 1)) (lv' := [(4, .int (nI (b + 1))), (0, .ref (q4 0)), (1, .int (nI a)), (2, .int (nI n)), (3, .int (nI (bitsOf (fun b => decide (0 < ov ml a b + dr ml a b + ov ml b a)) b)))]) hx hb dX4_foesOf_28 hl (k := 4) rfl (nI_add _ _) (by decide) rfl (fun ls hl => ?_)
          refine lv_goto (tgt := 5) hx hb dX4_foesOf_31 (by decide) ?_
          rw [bits_n (P := fun b => decide (0 < ov ml a b + dr ml a b + ov ml b a)) (k := b) (by rw [decide_eq_true_eq]; omega)] at hl
          exact ih_5 (b + 1) (by omega) (by omega) _ _ hP hD hS ls (lv_sub hl [1, 2, 3, 4, 0] rfl)
        · skip
          have c_18 := k0_le_n (by omega) c_18
          refine lv_iload_n hx hb dX4_foesOf_21 rfl (lv_at hl 3 rfl) ?_
          refine lv_iconst (v := nI 1) hx hb dX4_foesOf_22 (by decide) ?_
          refine lv_iload hx hb dX4_foesOf_23 (lv_at hl 4 rfl) ?_
          refine lv_ishl hx hb dX4_foesOf_25 ?_
          refine k_top (y := nI (2 ^ b)) (k_shl1 (by omega)) ?_
          refine lv_ior hx hb dX4_foesOf_26 ?_
          refine k_top (y := nI (bitsOf (fun b => decide (0 < ov ml a b + dr ml a b + ov ml b a)) b ||| 2 ^ b)) (k_or _ _) ?_
          refine lv_istore_n (lv' := [(3, .int (nI (bitsOf (fun b => decide (0 < ov ml a b + dr ml a b + ov ml b a)) b ||| 2 ^ b))), (0, .ref (q4 0)), (1, .int (nI a)), (2, .int (nI n)), (4, .int (nI b))]) hx hb dX4_foesOf_27 rfl hl (by decide) rfl (fun ls hl => ?_)
          refine lv_iinc (v := nI (b + 1)) (lv' := [(4, .int (nI (b + 1))), (3, .int (nI (bitsOf (fun b => decide (0 < ov ml a b + dr ml a b + ov ml b a)) b ||| 2 ^ b))), (0, .ref (q4 0)), (1, .int (nI a)), (2, .int (nI n))]) hx hb dX4_foesOf_28 hl (k := 4) rfl (nI_add _ _) (by decide) rfl (fun ls hl => ?_)
          refine lv_goto (tgt := 5) hx hb dX4_foesOf_31 (by decide) ?_
          rw [bits_y (P := fun b => decide (0 < ov ml a b + dr ml a b + ov ml b a)) (k := b) (decide_eq_true c_18)] at hl
          exact ih_5 (b + 1) (by omega) (by omega) _ _ hP hD hS ls (lv_sub hl [2, 3, 4, 1, 0] rfl)
  exact hL_5 _ 0 (Nat.zero_le _) (Nat.lt_succ_self _) _ _ hP hD hS ls (lv_sub hl [2, 3, 4, 1, 0] rfl)
def rmX4_joinAll : Room := { frames := 3, cells := 0, slots := 0, locals := 68 }
set_option maxHeartbeats 4000000 in
set_option maxRecDepth 100000 in
theorem c_X4_joinAll (l : Launch) (D : va_G) (cI cJ cB : ClassId) (q4 : Nat → Nat) (parts_4 : Nat → Int32) (wins_4 : Nat → Int32) (draws_4 : Nat → Int32) (points_4 : Nat → Int32) (count_4 : Int32) (changes_4 : Int32) (ml : List Mt) (n : Nat) (hM : MR parts_4 wins_4 draws_4 points_4 ml) (hm120 : ml.length ≤ 120) (hn10 : n ≤ 10) : ∀ sz, Met l yX4_joinAll wsX4_joinAll rmX4_joinAll (va_Pc [.ref (q4 0), .int (nI n)] (PW D (kT cI cJ cB) sz (wX4 q4 cI cJ cB parts_4 wins_4 draws_4 points_4 count_4 changes_4))) (va_Qi (S := Unit) (fun r _ => r = if jcR (foB ml n) n n = 2 ^ n - 1 then 1 else 0) (QW D sz (wX4 q4 cI cJ cB parts_4 wins_4 draws_4 points_4 count_4 changes_4) (fun _ => (wX4 q4 cI cJ cB parts_4 wins_4 draws_4 points_4 count_4 changes_4))) (va_A (wX4 q4 cI cJ cB parts_4 wins_4 draws_4 points_4 count_4 changes_4) sz)) 0 0 (va_A (wX4 q4 cI cJ cB parts_4 wins_4 draws_4 points_4 count_4 changes_4) sz) := by
  intro sz
  refine Met.ofW (cc := cX4_joinAll) (maxL := 5) (ret := (some .boolean)) (by decide) rfl ?_
  intro p e s m args below meth c s₁ B hml hv
  obtain ⟨hav, hsz, hP, hKW, hD0⟩ := hv
  have hx := B.exec
  have hb := B.bytes
  have hr := B.returns
  have hts := atoms_spec (ws := wsX4_joinAll) B.pre
  have hown : s.vm.findClass RX4 = some m.cls := findClass_of_methodNamed B.named
  have hlocks := B.notSynchronized
  subst hsz
  have hD := hD0.self (sz := s.heap.size)
  obtain ⟨A, hAe⟩ : ∃ A : Nat → Prop, A = va_A (wX4 q4 cI cJ cB parts_4 wins_4 draws_4 points_4 count_4 changes_4) s.heap.size := ⟨_, rfl⟩
  rw [← hAe] at hD
  have hA : ∀ q : Nat, s.heap.size ≤ q → A q := fun q h => by rw [hAe]; exact Or.inr h
  have hS : va_S A s.heap s.heap [] := va_S.rf
  refine k_gen (fun Q hQ => ?_)
  have hl := lv_entry ([.ref (q4 0), .int (nI n)]) (n := 5) (Nat.le_of_ble_eq_true rfl)
  refine k_entry hav (lg_entry_eq ..) ?_
  generalize (lg_sl ([.ref (q4 0), .int (nI n)]) ++ List.replicate (5 - (lg_sl ([.ref (q4 0), .int (nI n)])).length) Slot.unset).toArray = ls at hl ⊢
  have hl : lv_has ls 5 [(0, .ref (q4 0)), (1, .int (nI n))] := hl
  have h2n := pow_le_1024 hn10
  have h2p := Nat.two_pow_pos n
  have hfo9 : ∀ a, foB ml n a < 1024 := fun a => bits_lt hn10
  refine lv_iconst (v := nI 1) hx hb dX4_joinAll_0 (by decide) ?_
  refine lv_istore_n (lv' := [(2, .int (nI 1)), (0, .ref (q4 0)), (1, .int (nI n))]) hx hb dX4_joinAll_1 rfl hl (by decide) rfl (fun ls hl => ?_)
  refine lv_iconst (v := nI 0) hx hb dX4_joinAll_2 (by decide) ?_
  refine lv_istore_n (lv' := [(3, .int (nI 0)), (2, .int (nI 1)), (0, .ref (q4 0)), (1, .int (nI n))]) hx hb dX4_joinAll_3 rfl hl (by decide) rfl (fun ls hl => ?_)
  have hL_4 : ∀ (fu : Nat) (j : Nat) (hj : j ≤ n), n - j < fu → ∀ (H : Heap) (locs : List Loc), va_P D vwCl (wX4 q4 cI cJ cB parts_4 wins_4 draws_4 points_4 count_4 changes_4) H → va_D A (wX4 q4 cI cJ cB parts_4 wins_4 draws_4 points_4 count_4 changes_4) → va_S A s.heap H locs → ∀ (ls : Array Slot), lv_has ls 5 [(0, .ref (q4 0)), (1, .int (nI n)), (2, .int (nI (jcR (foB ml n) n j))), (3, .int (nI j))] → W p l e (headSpec wsX4_joinAll rmX4_joinAll).room s m args below meth c H locs 0 0 Q (F0 m 4 ls []) := by
    intro fu
    induction fu with
    | zero => intro j hj hfu; exact absurd hfu (Nat.not_lt_zero _)
    | succ fu ih_4 =>
      intro j hj hfu H locs hP hD hS ls hl
      have hjr9 := jcR_lt (n := n) hfo9 j
      refine lv_iload_n hx hb dX4_joinAll_4 rfl (lv_at hl 3 rfl) ?_
      refine lv_iload_n hx hb dX4_joinAll_5 rfl (lv_at hl 1 rfl) ?_
      refine lv_icmp_ge (tgt := 49) hx hb dX4_joinAll_6 (by decide) (fun c_6 => ?_) (fun c_6 => ?_)
      · skip
        have c_6 := k_ge (by omega) (by omega) c_6
        obtain rfl : n = j := by omega
        refine lv_iload_n hx hb dX4_joinAll_49 rfl (lv_at hl 2 rfl) ?_
        refine lv_iload_n hx hb dX4_joinAll_50 rfl (lv_at hl 1 rfl) ?_
        have hs_51 : kSplit (wX4 q4 cI cJ cB parts_4 wins_4 draws_4 points_4 count_4 changes_4) ([] : va_W) (wX4 q4 cI cJ cB parts_4 wins_4 draws_4 points_4 count_4 changes_4) [] [0, 1, 2, 3, 4] := ⟨rfl, rfl, rfl, rfl, rfl, by decide⟩
        refine kc_i hP hD hS hA hs_51 (kSN (n := 1) (As := [.int (nI n)]) (rest := [.int (nI (jcR (foB ml n) n n))]) (host := "MeetingRanks") hx hb hml hown hts hKW hP hD hs_51 (c_X9_everyone l D cI cJ cB n (by first | assumption | omega)) gX4_joinAll_X9_everyone_n65 rfl rfl rfl (by decide +kernel) (by decide +kernel) (by decide +kernel) (by decide +kernel) ⟨Nat.le_of_ble_eq_true rfl, Nat.le_of_ble_eq_true rfl⟩ rfl hl.1 rfl (Nat.le_of_ble_eq_true rfl) dX4_joinAll_51 ⟨Nat.zero_le _, Nat.zero_le _⟩) (fun r_51 u_51 H locs hw_51 hP hD hS => ?_)
        have er_51 := hw_51
        have er_51 := er_51.symm
        subst er_51
        have hP : va_P D vwCl (wX4 q4 cI cJ cB parts_4 wins_4 draws_4 points_4 count_4 changes_4) H := hP.sub (ws' := (wX4 q4 cI cJ cB parts_4 wins_4 draws_4 points_4 count_4 changes_4)) [0, 1, 2, 3, 4] rfl
        have hD : va_D A (wX4 q4 cI cJ cB parts_4 wins_4 draws_4 points_4 count_4 changes_4) := hD.sub (ws' := (wX4 q4 cI cJ cB parts_4 wins_4 draws_4 points_4 count_4 changes_4)) [0, 1, 2, 3, 4] (by decide) rfl
        refine lv_icmp_ne (tgt := 61) hx hb dX4_joinAll_54 (by decide) (fun c_54 => ?_) (fun c_54 => ?_)
        · skip
          have c_54 := k_ne (by omega) (by omega) c_54
          refine lv_iconst (v := nI 0) hx hb dX4_joinAll_61 (by decide) ?_
          subst hQ; subst hAe
          exact W.zret (v := nI 0) (ty := .boolean) hx hb hr (by decide) (fun tt9 ht9 _ => ⟨⟨nI 0, (), rfl, k_if0 c_54, by rw [ht9]; exact hP, hD⟩, hS.F ht9⟩) hS.2.2 dX4_joinAll_62
        · skip
          have c_54 := k_ne_n (by omega) (by omega) c_54
          refine lv_iconst (v := nI 1) hx hb dX4_joinAll_57 (by decide) ?_
          refine lv_goto (tgt := 62) hx hb dX4_joinAll_58 (by decide) ?_
          subst hQ; subst hAe
          exact W.zret (v := nI 1) (ty := .boolean) hx hb hr (by decide) (fun tt9 ht9 _ => ⟨⟨nI 1, (), rfl, k_if1 c_54, by rw [ht9]; exact hP, hD⟩, hS.F ht9⟩) hS.2.2 dX4_joinAll_62
      · skip
        have c_6 := k_ge_n (by omega) (by omega) c_6
        refine lv_iconst (v := nI 0) hx hb dX4_joinAll_9 (by decide) ?_
        refine lv_istore (lv' := [(4, .int (nI 0)), (0, .ref (q4 0)), (1, .int (nI n)), (2, .int (nI (jcR (foB ml n) n j))), (3, .int (nI j))]) hx hb dX4_joinAll_10 hl (by decide) rfl (fun ls hl => ?_)
        have hL_12 : ∀ (fu : Nat) (a : Nat) (ha : a ≤ n), n - a < fu → ∀ (H : Heap) (locs : List Loc), va_P D vwCl (wX4 q4 cI cJ cB parts_4 wins_4 draws_4 points_4 count_4 changes_4) H → va_D A (wX4 q4 cI cJ cB parts_4 wins_4 draws_4 points_4 count_4 changes_4) → va_S A s.heap H locs → ∀ (ls : Array Slot), lv_has ls 5 [(0, .ref (q4 0)), (1, .int (nI n)), (2, .int (nI (jc1 (foB ml n) (jcR (foB ml n) n j) a))), (3, .int (nI j)), (4, .int (nI a))] → W p l e (headSpec wsX4_joinAll rmX4_joinAll).room s m args below meth c H locs 0 0 Q (F0 m 12 ls []) := by
          intro fu
          induction fu with
          | zero => intro a ha hfu; exact absurd hfu (Nat.not_lt_zero _)
          | succ fu ih_12 =>
            intro a ha hfu H locs hP hD hS ls hl
            have hjl9 := jc1_lt hjr9 hfo9 a
            refine lv_iload hx hb dX4_joinAll_12 (lv_at hl 4 rfl) ?_
            refine lv_iload_n hx hb dX4_joinAll_14 rfl (lv_at hl 1 rfl) ?_
            refine lv_icmp_ge (tgt := 43) hx hb dX4_joinAll_15 (by decide) (fun c_15 => ?_) (fun c_15 => ?_)
            · skip
              have c_15 := k_ge (by omega) (by omega) c_15
              obtain rfl : n = a := by omega
              refine lv_iinc (v := nI (j + 1)) (lv' := [(3, .int (nI (j + 1))), (0, .ref (q4 0)), (1, .int (nI n)), (2, .int (nI (jc1 (foB ml n) (jcR (foB ml n) n j) n))), (4, .int (nI n))]) hx hb dX4_joinAll_43 hl (k := 3) rfl (nI_add _ _) (by decide) rfl (fun ls hl => ?_)
              refine lv_goto (tgt := 4) hx hb dX4_joinAll_46 (by decide) ?_
              exact ih_4 (j + 1) (by omega) (by omega) _ _ hP hD hS ls (lv_sub hl [1, 2, 3, 0] rfl)
            · skip
              have c_15 := k_ge_n (by omega) (by omega) c_15
              refine lv_iload_n hx hb dX4_joinAll_18 rfl (lv_at hl 2 rfl) ?_
              refine lv_iload hx hb dX4_joinAll_19 (lv_at hl 4 rfl) ?_
              have hs_21 : kSplit (wX4 q4 cI cJ cB parts_4 wins_4 draws_4 points_4 count_4 changes_4) ([] : va_W) (wX4 q4 cI cJ cB parts_4 wins_4 draws_4 points_4 count_4 changes_4) [] [0, 1, 2, 3, 4] := ⟨rfl, rfl, rfl, rfl, rfl, by decide⟩
              refine kc_i hP hD hS hA hs_21 (kSN (n := 2) (As := [.int (nI (jc1 (foB ml n) (jcR (foB ml n) n j) a)), .int (nI a)]) (rest := []) (host := "MeetingRanks") hx hb hml hown hts hKW hP hD hs_21 (c_X9_isIn l D cI cJ cB (jc1 (foB ml n) (jcR (foB ml n) n j) a) a (by first | assumption | omega) (by first | assumption | omega)) gX4_joinAll_X9_isIn_n58 rfl rfl rfl (by decide +kernel) (by decide +kernel) (by decide +kernel) (by decide +kernel) ⟨Nat.le_of_ble_eq_true rfl, Nat.le_of_ble_eq_true rfl⟩ rfl hl.1 rfl (Nat.le_of_ble_eq_true rfl) dX4_joinAll_21 ⟨Nat.zero_le _, Nat.zero_le _⟩) (fun r_21 u_21 H locs hw_21 hP hD hS => ?_)
              have er_21 := hw_21
              have er_21 := er_21.symm
              subst er_21
              have hP : va_P D vwCl (wX4 q4 cI cJ cB parts_4 wins_4 draws_4 points_4 count_4 changes_4) H := hP.sub (ws' := (wX4 q4 cI cJ cB parts_4 wins_4 draws_4 points_4 count_4 changes_4)) [0, 1, 2, 3, 4] rfl
              have hD : va_D A (wX4 q4 cI cJ cB parts_4 wins_4 draws_4 points_4 count_4 changes_4) := hD.sub (ws' := (wX4 q4 cI cJ cB parts_4 wins_4 draws_4 points_4 count_4 changes_4)) [0, 1, 2, 3, 4] (by decide) rfl
              refine lv_if_eq (tgt := 37) hx hb dX4_joinAll_24 (by decide) (fun c_24 => ?_) (fun c_24 => ?_)
              · skip
                have c_24 := k_b0 c_24
                refine lv_iinc (v := nI (a + 1)) (lv' := [(4, .int (nI (a + 1))), (0, .ref (q4 0)), (1, .int (nI n)), (2, .int (nI (jc1 (foB ml n) (jcR (foB ml n) n j) a))), (3, .int (nI j))]) hx hb dX4_joinAll_37 hl (k := 4) rfl (nI_add _ _) (by decide) rfl (fun ls hl => ?_)
                refine lv_goto (tgt := 12) hx hb dX4_joinAll_40 (by decide) ?_
                rw [jc1_n c_24] at hl
                exact ih_12 (a + 1) (by omega) (by omega) _ _ hP hD hS ls (lv_sub hl [1, 2, 3, 4, 0] rfl)
              · skip
                have c_24 := k_b1 c_24
                refine lv_iload_n hx hb dX4_joinAll_27 rfl (lv_at hl 2 rfl) ?_
                refine lv_aload_n hx hb dX4_joinAll_28 rfl (lv_at hl 0 rfl) ?_
                refine lv_iload hx hb dX4_joinAll_29 (lv_at hl 4 rfl) ?_
                refine lv_iload_n hx hb dX4_joinAll_31 rfl (lv_at hl 1 rfl) ?_
                have hs_32 : kSplit (wX4 q4 cI cJ cB parts_4 wins_4 draws_4 points_4 count_4 changes_4) (wX4 q4 cI cJ cB parts_4 wins_4 draws_4 points_4 count_4 changes_4) ([] : va_W) [0, 1, 2, 3, 4] [] := ⟨rfl, rfl, rfl, rfl, rfl, by decide⟩
                refine kc_i hP hD hS hA hs_32 (kV (As := [.int (nI a), .int (nI n)]) (rest := [.int (nI (jc1 (foB ml n) (jcR (foB ml n) n j) a))]) hx hb hml hown hts hKW hP hD hs_32 (c_X4_foesOf l D cI cJ cB q4 parts_4 wins_4 draws_4 points_4 count_4 changes_4 ml a n (by first | assumption | omega) (by first | assumption | omega) (by first | assumption | omega) (by first | assumption | omega)) (cwV 2 hts gX4_joinAll_X4_foesOf rfl rfl rfl (by decide +kernel) ⟨Nat.le_of_ble_eq_true rfl, Nat.le_of_ble_eq_true rfl⟩) 0 4 rfl rfl rfl rfl hl.1 rfl (Nat.le_of_ble_eq_true rfl) dX4_joinAll_32 ⟨Nat.zero_le _, Nat.zero_le _⟩) (fun r_32 u_32 H locs hw_32 hP hD hS => ?_)
                have er_32 := hw_32
                have er_32 := er_32.symm
                subst er_32
                have hP : va_P D vwCl (wX4 q4 cI cJ cB parts_4 wins_4 draws_4 points_4 count_4 changes_4) H := hP.sub (ws' := (wX4 q4 cI cJ cB parts_4 wins_4 draws_4 points_4 count_4 changes_4)) [0, 1, 2, 3, 4] rfl
                have hD : va_D A (wX4 q4 cI cJ cB parts_4 wins_4 draws_4 points_4 count_4 changes_4) := hD.sub (ws' := (wX4 q4 cI cJ cB parts_4 wins_4 draws_4 points_4 count_4 changes_4)) [0, 1, 2, 3, 4] (by decide) rfl
                refine lv_ior hx hb dX4_joinAll_35 ?_
                refine k_top (y := nI (jc1 (foB ml n) (jcR (foB ml n) n j) a ||| foB ml n a)) (k_or _ _) ?_
                refine lv_istore_n (lv' := [(2, .int (nI (jc1 (foB ml n) (jcR (foB ml n) n j) a ||| foB ml n a))), (0, .ref (q4 0)), (1, .int (nI n)), (3, .int (nI j)), (4, .int (nI a))]) hx hb dX4_joinAll_36 rfl hl (by decide) rfl (fun ls hl => ?_)
                refine lv_iinc (v := nI (a + 1)) (lv' := [(4, .int (nI (a + 1))), (2, .int (nI (jc1 (foB ml n) (jcR (foB ml n) n j) a ||| foB ml n a))), (0, .ref (q4 0)), (1, .int (nI n)), (3, .int (nI j))]) hx hb dX4_joinAll_37 hl (k := 4) rfl (nI_add _ _) (by decide) rfl (fun ls hl => ?_)
                refine lv_goto (tgt := 12) hx hb dX4_joinAll_40 (by decide) ?_
                rw [jc1_y c_24] at hl
                exact ih_12 (a + 1) (by omega) (by omega) _ _ hP hD hS ls (lv_sub hl [2, 3, 1, 4, 0] rfl)
        exact hL_12 _ 0 (Nat.zero_le _) (Nat.lt_succ_self _) _ _ hP hD hS ls (lv_sub hl [1, 2, 3, 4, 0] rfl)
  exact hL_4 _ 0 (Nat.zero_le _) (Nat.lt_succ_self _) _ _ hP hD hS ls (lv_sub hl [2, 3, 1, 0] rfl)
def rmX4_removeLast : Room := { frames := 2, cells := 0, slots := 0, locals := 82 }
set_option maxHeartbeats 4000000 in
set_option maxRecDepth 100000 in
theorem c_X4_removeLast (l : Launch) (D : va_G) (cI cJ cB : ClassId) (q4 : Nat → Nat) (parts_4 : Nat → Int32) (wins_4 : Nat → Int32) (draws_4 : Nat → Int32) (points_4 : Nat → Int32) (changes_4 : Int32) (ml : List Mt) (m2 : Nat) (hM : MR parts_4 wins_4 draws_4 points_4 ml) (hL : okL 10 ml) (hm2 : m2 ≤ ml.length) : ∀ sz, Met l yX4_removeLast wsX4_removeLast rmX4_removeLast (va_Pc [.ref (q4 0), .int (nI m2)] (PW D (kT cI cJ cB) sz (wX4 q4 cI cJ cB parts_4 wins_4 draws_4 points_4 (nI ml.length) changes_4))) (va_Qv (S := (Nat → Int32) × (Nat → Int32) × (Nat → Int32) × (Nat → Int32) × Int32 × Int32) (fun uu => match uu with | (parts_4', wins_4', draws_4', points_4', count_4', changes_4') => count_4' = nI (ml.length - m2) ∧ changes_4' = changes_4 + nI m2 ∧ MR parts_4' wins_4' draws_4' points_4' (ml.take (ml.length - m2))) (QW D sz (wX4 q4 cI cJ cB parts_4 wins_4 draws_4 points_4 (nI ml.length) changes_4) (fun uu => match uu with | (parts_4', wins_4', draws_4', points_4', count_4', changes_4') => (wX4 q4 cI cJ cB parts_4' wins_4' draws_4' points_4' count_4' changes_4'))) (va_A (wX4 q4 cI cJ cB parts_4 wins_4 draws_4 points_4 (nI ml.length) changes_4) sz)) 0 0 (va_A (wX4 q4 cI cJ cB parts_4 wins_4 draws_4 points_4 (nI ml.length) changes_4) sz) := by
  intro sz
  refine Met.ofW (cc := cX4_removeLast) (maxL := 3) (ret := none) (by decide) rfl ?_
  intro p e s m args below meth c s₁ B hml hv
  obtain ⟨hav, hsz, hP, hKW, hD0⟩ := hv
  have hx := B.exec
  have hb := B.bytes
  have hr := B.returns
  have hts := atoms_spec (ws := wsX4_removeLast) B.pre
  have hown : s.vm.findClass RX4 = some m.cls := findClass_of_methodNamed B.named
  have hlocks := B.notSynchronized
  subst hsz
  have hD := hD0.self (sz := s.heap.size)
  obtain ⟨A, hAe⟩ : ∃ A : Nat → Prop, A = va_A (wX4 q4 cI cJ cB parts_4 wins_4 draws_4 points_4 (nI ml.length) changes_4) s.heap.size := ⟨_, rfl⟩
  rw [← hAe] at hD
  have hA : ∀ q : Nat, s.heap.size ≤ q → A q := fun q h => by rw [hAe]; exact Or.inr h
  have hS : va_S A s.heap s.heap [] := va_S.rf
  refine k_gen (fun Q hQ => ?_)
  have hl := lv_entry ([.ref (q4 0), .int (nI m2)]) (n := 3) (Nat.le_of_ble_eq_true rfl)
  refine k_entry hav (lg_entry_eq ..) ?_
  generalize (lg_sl ([.ref (q4 0), .int (nI m2)]) ++ List.replicate (3 - (lg_sl ([.ref (q4 0), .int (nI m2)])).length) Slot.unset).toArray = ls at hl ⊢
  have hl : lv_has ls 3 [(0, .ref (q4 0)), (1, .int (nI m2))] := hl
  have hu_4 : ∀ w ∈ u_ws RX4 TX4 6, w ∈ wsX4_removeLast := by decide +kernel
  have hf_24 : Cond.fieldLink RX4 24 "MeetingRanks$Meetings" "count" "I" ∈ wsX4_removeLast := by decide +kernel
  have hL1 := hL.2.1
  refine lv_iconst (v := nI 0) hx hb dX4_removeLast_0 (by decide) ?_
  refine lv_istore_n (lv' := [(2, .int (nI 0)), (0, .ref (q4 0)), (1, .int (nI m2))]) hx hb dX4_removeLast_1 rfl hl (by decide) rfl (fun ls hl => ?_)
  have hL_2 : ∀ (fu : Nat) (i : Nat) (mli : List Mt) (pa : Nat → Int32) (wa : Nat → Int32) (da : Nat → Int32) (ta : Nat → Int32) (cc2 : Int32) (hi : i ≤ m2) (hmli : mli = ml.take (ml.length - i)) (hMi : MR pa wa da ta mli) (hcc : cc2 = changes_4 + nI i), m2 - i < fu → ∀ (H : Heap) (locs : List Loc), va_P D vwCl (wX4 q4 cI cJ cB pa wa da ta (nI mli.length) cc2) H → va_D A (wX4 q4 cI cJ cB pa wa da ta (nI mli.length) cc2) → va_S A s.heap H locs → ∀ (ls : Array Slot), lv_has ls 3 [(0, .ref (q4 0)), (1, .int (nI m2)), (2, .int (nI i))] → W p l e (headSpec wsX4_removeLast rmX4_removeLast).room s m args below meth c H locs 0 0 Q (F0 m 2 ls []) := by
    intro fu
    induction fu with
    | zero => intro i mli pa wa da ta cc2 hi hmli hMi hcc hfu; exact absurd hfu (Nat.not_lt_zero _)
    | succ fu ih_2 =>
      intro i mli pa wa da ta cc2 hi hmli hMi hcc hfu H locs hP hD hS ls hl
      have hlen9 : mli.length = ml.length - i := by rw [hmli, List.length_take]; omega
      refine lv_iload_n hx hb dX4_removeLast_2 rfl (lv_at hl 2 rfl) ?_
      refine lv_iload_n hx hb dX4_removeLast_3 rfl (lv_at hl 1 rfl) ?_
      refine lv_icmp_ge (tgt := 23) hx hb dX4_removeLast_4 (by decide) (fun c_4 => ?_) (fun c_4 => ?_)
      · skip
        have c_4 := k_ge (by omega) (by omega) c_4
        obtain rfl : i = m2 := by omega
        subst hQ; subst hAe
        exact W.vret hx hb hr (fun tt9 ht9 _ => ⟨⟨(pa, wa, da, ta, nI mli.length, cc2), rfl, ⟨by rw [hlen9], hcc, by rw [← hmli]; exact hMi⟩, by rw [ht9]; exact hP, hD⟩, hS.F ht9⟩) hS.2.2 dX4_removeLast_23
      · skip
        have c_4 := k_ge_n (by omega) (by omega) c_4
        refine lv_aload_n hx hb dX4_removeLast_7 rfl (lv_at hl 0 rfl) ?_
        refine lv_aload_n hx hb dX4_removeLast_8 rfl (lv_at hl 0 rfl) ?_
        refine k_get (ci := 4) (v := .int (nI mli.length)) (C := RX4) (Tb := TX4) (N := 6) hx hb hts hu_4 hown hKW hP 0 rfl rfl 4 (by decide) hf_24 rfl rfl dX4_removeLast_9 ?_
        refine lv_iconst (v := nI 1) hx hb dX4_removeLast_12 (by decide) ?_
        refine k_isub hx hb (by omega) dX4_removeLast_13 ?_
        have hs_14 : kSplit (wX4 q4 cI cJ cB pa wa da ta (nI mli.length) cc2) (wX4 q4 cI cJ cB pa wa da ta (nI mli.length) cc2) ([] : va_W) [0, 1, 2, 3, 4] [] := ⟨rfl, rfl, rfl, rfl, rfl, by decide⟩
        refine kc_v hP hD hS hA hs_14 (kV (As := [.int (nI (mli.length - 1))]) (rest := []) hx hb hml hown hts hKW hP hD hs_14 (c_X4_remove l D cI cJ cB q4 pa wa da ta cc2 mli (mli.length - 1) hMi (by rw [hmli]; exact okL_take hL) (by omega)) (cwV 1 hts gX4_removeLast_X4_remove rfl rfl rfl (by decide +kernel) ⟨Nat.le_of_ble_eq_true rfl, Nat.le_of_ble_eq_true rfl⟩) 0 4 rfl rfl rfl rfl hl.1 rfl (Nat.le_of_ble_eq_true rfl) dX4_removeLast_14 ⟨Nat.zero_le _, Nat.zero_le _⟩) (fun u_14 H locs hw_14 hP hD hS => ?_)
        obtain ⟨pb, wb, db, tb⟩ := u_14
        have hP : va_P D vwCl (wX4 q4 cI cJ cB pb wb db tb (nI (mli.length - 1)) (cc2 + nI 1)) H := hP.sub (ws' := (wX4 q4 cI cJ cB pb wb db tb (nI (mli.length - 1)) (cc2 + nI 1))) [0, 1, 2, 3, 4] rfl
        have hD : va_D A (wX4 q4 cI cJ cB pb wb db tb (nI (mli.length - 1)) (cc2 + nI 1)) := hD.sub (ws' := (wX4 q4 cI cJ cB pb wb db tb (nI (mli.length - 1)) (cc2 + nI 1))) [0, 1, 2, 3, 4] (by decide) rfl
        refine lv_iinc (v := nI (i + 1)) (lv' := [(2, .int (nI (i + 1))), (0, .ref (q4 0)), (1, .int (nI m2))]) hx hb dX4_removeLast_17 hl (k := 2) rfl (nI_add _ _) (by decide) rfl (fun ls hl => ?_)
        refine lv_goto (tgt := 2) hx hb dX4_removeLast_20 (by decide) ?_
        exact ih_2 (i + 1) (mli.eraseIdx (mli.length - 1)) pb wb db tb (cc2 + nI 1) (by omega) (by rw [hlen9, hmli, show ml.length - i = ml.length - (i + 1) + 1 by omega]; exact era_last (by omega)) hw_14 (by rw [hcc]; exact ch_step _ _) (by omega) _ _ (by rw [List.length_eraseIdx_of_lt (by omega)]; exact hP) (by rw [List.length_eraseIdx_of_lt (by omega)]; exact hD) hS ls (lv_sub hl [1, 2, 0] rfl)
  exact hL_2 _ 0 ml _ _ _ _ _ (Nat.zero_le _) (by rw [Nat.sub_zero, List.take_length]) hM (by rw [nI_0, Int32.add_zero]) (Nat.lt_succ_self _) _ _ hP hD hS ls (lv_sub hl [1, 2, 0] rfl)
