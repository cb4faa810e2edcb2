def rmX5_costAhead : Room := { frames := 1, cells := 0, slots := 0, locals := 22 }
set_option maxHeartbeats 4000000 in
set_option maxRecDepth 100000 in
theorem c_X5_costAhead (l : Launch) (D : va_G) (cI cJ cB : ClassId) (q5 : Nat → Nat) (q4 : Nat → Nat) (least_5 : Nat → Int32) (many_5 : Nat → Int32) (seenChanges_5 : Int32) (seenPlayers_5 : Int32) (parts_4 : Nat → Int32) (wins_4 : Nat → Int32) (draws_4 : Nat → Int32) (points_4 : Nat → Int32) (count_4 : Int32) (changes_4 : Int32) (ml : List Mt) (n : Nat) (p1 : Nat) (B2 : Nat) (hM : MR parts_4 wins_4 draws_4 points_4 ml) (hn10 : n ≤ 10) (hp1 : p1 < 10) (hB2 : B2 < 2 ^ 31) : ∀ sz, Met l yX5_costAhead wsX5_costAhead rmX5_costAhead (va_Pc [.ref (q5 0), .ref (q4 0), .int (nI n), .int (nI p1), .int (nI B2)] (PW D (kT cI cJ cB) sz (wX5 q5 cI cJ cB least_5 many_5 seenChanges_5 seenPlayers_5 ++ wX4 q4 cI cJ cB parts_4 wins_4 draws_4 points_4 count_4 changes_4))) (va_Qi (S := Unit) (fun r _ => r = caI ml n p1 B2) (QW D sz (wX5 q5 cI cJ cB least_5 many_5 seenChanges_5 seenPlayers_5 ++ wX4 q4 cI cJ cB parts_4 wins_4 draws_4 points_4 count_4 changes_4) (fun _ => (wX5 q5 cI cJ cB least_5 many_5 seenChanges_5 seenPlayers_5 ++ wX4 q4 cI cJ cB parts_4 wins_4 draws_4 points_4 count_4 changes_4))) (va_A (wX5 q5 cI cJ cB least_5 many_5 seenChanges_5 seenPlayers_5 ++ wX4 q4 cI cJ cB parts_4 wins_4 draws_4 points_4 count_4 changes_4) sz)) 0 0 (va_A (wX5 q5 cI cJ cB least_5 many_5 seenChanges_5 seenPlayers_5 ++ wX4 q4 cI cJ cB parts_4 wins_4 draws_4 points_4 count_4 changes_4) sz) := by
  intro sz
  refine Met.ofW (cc := cX5_costAhead) (maxL := 7) (ret := (some .int)) (by decide) rfl ?_
  intro p e s m args below meth c s₁ B hml hv
  obtain ⟨hav, hsz, hP, hKW, hD0⟩ := hv
  have hx := B.exec
  have hb := B.bytes
  have hr := B.returns
  have hts := atoms_spec (ws := wsX5_costAhead) B.pre
  have hown : s.vm.findClass RX5 = some m.cls := findClass_of_methodNamed B.named
  have hlocks := B.notSynchronized
  subst hsz
  have hD := hD0.self (sz := s.heap.size)
  obtain ⟨A, hAe⟩ : ∃ A : Nat → Prop, A = va_A (wX5 q5 cI cJ cB least_5 many_5 seenChanges_5 seenPlayers_5 ++ wX4 q4 cI cJ cB parts_4 wins_4 draws_4 points_4 count_4 changes_4) s.heap.size := ⟨_, rfl⟩
  rw [← hAe] at hD
  have hA : ∀ q : Nat, s.heap.size ≤ q → A q := fun q h => by rw [hAe]; exact Or.inr h
  have hS : va_S A s.heap s.heap [] := va_S.rf
  refine k_gen (fun Q hQ => ?_)
  have hl := lv_entry ([.ref (q5 0), .ref (q4 0), .int (nI n), .int (nI p1), .int (nI B2)]) (n := 7) (Nat.le_of_ble_eq_true rfl)
  refine k_entry hav (lg_entry_eq ..) ?_
  generalize (lg_sl ([.ref (q5 0), .ref (q4 0), .int (nI n), .int (nI p1), .int (nI B2)]) ++ List.replicate (7 - (lg_sl ([.ref (q5 0), .ref (q4 0), .int (nI n), .int (nI p1), .int (nI B2)])).length) Slot.unset).toArray = ls at hl ⊢
  have hl : lv_has ls 7 [(0, .ref (q5 0)), (1, .ref (q4 0)), (2, .int (nI n)), (3, .int (nI p1)), (4, .int (nI B2))] := hl
  refine lv_iconst (v := nI 0) hx hb dX5_costAhead_0 (by decide) ?_
  refine lv_istore (lv' := [(5, .int (nI 0)), (0, .ref (q5 0)), (1, .ref (q4 0)), (2, .int (nI n)), (3, .int (nI p1)), (4, .int (nI B2))]) hx hb dX5_costAhead_1 hl (by decide) rfl (fun ls hl => ?_)
  refine lv_iconst (v := nI 0) hx hb dX5_costAhead_3 (by decide) ?_
  refine lv_istore (lv' := [(6, .int (nI 0)), (5, .int (nI 0)), (0, .ref (q5 0)), (1, .ref (q4 0)), (2, .int (nI n)), (3, .int (nI p1)), (4, .int (nI B2))]) hx hb dX5_costAhead_4 hl (by decide) rfl (fun ls hl => ?_)
  have hL_6 : ∀ (fu : Nat) (o : Nat) (v : Int32) (ho : o ≤ n) (hv : v = sI (fun o => if B2.testBit o = true then nI (ov ml o p1) else 0) o), n - o < fu → ∀ (H : Heap) (locs : List Loc), va_P D vwCl (wX5 q5 cI cJ cB least_5 many_5 seenChanges_5 seenPlayers_5 ++ wX4 q4 cI cJ cB parts_4 wins_4 draws_4 points_4 count_4 changes_4) H → va_D A (wX5 q5 cI cJ cB least_5 many_5 seenChanges_5 seenPlayers_5 ++ wX4 q4 cI cJ cB parts_4 wins_4 draws_4 points_4 count_4 changes_4) → va_S A s.heap H locs → ∀ (ls : Array Slot), lv_has ls 7 [(0, .ref (q5 0)), (1, .ref (q4 0)), (2, .int (nI n)), (3, .int (nI p1)), (4, .int (nI B2)), (5, .int v), (6, .int (nI o))] → W p l e (headSpec wsX5_costAhead rmX5_costAhead).room s m args below meth c H locs 0 0 Q (F0 m 6 ls []) := by
    intro fu
    induction fu with
    | zero => intro o v ho hv hfu; exact absurd hfu (Nat.not_lt_zero _)
    | succ fu ih_6 =>
      intro o v ho hv hfu H locs hP hD hS ls hl
      refine lv_iload hx hb dX5_costAhead_6 (lv_at hl 6 rfl) ?_
      refine lv_iload_n hx hb dX5_costAhead_8 rfl (lv_at hl 2 rfl) ?_
      refine lv_icmp_ge (tgt := 40) hx hb dX5_costAhead_9 (by decide) (fun c_9 => ?_) (fun c_9 => ?_)
      · skip
        have c_9 := k_ge (by omega) (by omega) c_9
        obtain rfl : n = o := by omega
        refine lv_iload hx hb dX5_costAhead_40 (lv_at hl 5 rfl) ?_
        subst hQ; subst hAe
        exact W.iret (v := v) hx hb hr (fun tt9 ht9 _ => ⟨⟨v, (), rfl, hv, by rw [ht9]; exact hP, hD⟩, hS.F ht9⟩) hS.2.2 dX5_costAhead_42
      · skip
        have c_9 := k_ge_n (by omega) (by omega) c_9
        refine lv_iload hx hb dX5_costAhead_12 (lv_at hl 4 rfl) ?_
        refine lv_iload hx hb dX5_costAhead_14 (lv_at hl 6 rfl) ?_
        have hs_16 : kSplit (wX5 q5 cI cJ cB least_5 many_5 seenChanges_5 seenPlayers_5 ++ wX4 q4 cI cJ cB parts_4 wins_4 draws_4 points_4 count_4 changes_4) ([] : va_W) (wX5 q5 cI cJ cB least_5 many_5 seenChanges_5 seenPlayers_5 ++ wX4 q4 cI cJ cB parts_4 wins_4 draws_4 points_4 count_4 changes_4) [] [0, 1, 2, 3, 4, 5, 6, 7] := ⟨rfl, rfl, rfl, rfl, rfl, by decide⟩
        refine kc_i hP hD hS hA hs_16 (kSN (n := 2) (As := [.int (nI B2), .int (nI o)]) (rest := []) (host := "MeetingRanks") hx hb hml hown hts hKW hP hD hs_16 (c_X9_isIn l D cI cJ cB B2 o (by first | assumption | omega) (by first | assumption | omega)) gX5_costAhead_X9_isIn_n45 rfl rfl rfl (by decide +kernel) (by decide +kernel) (by decide +kernel) (by decide +kernel) ⟨Nat.le_of_ble_eq_true rfl, Nat.le_of_ble_eq_true rfl⟩ rfl hl.1 rfl (Nat.le_of_ble_eq_true rfl) dX5_costAhead_16 ⟨Nat.zero_le _, Nat.zero_le _⟩) (fun r_16 u_16 H locs hw_16 hP hD hS => ?_)
        have er_16 := hw_16
        have er_16 := er_16.symm
        subst er_16
        have hP : va_P D vwCl (wX5 q5 cI cJ cB least_5 many_5 seenChanges_5 seenPlayers_5 ++ wX4 q4 cI cJ cB parts_4 wins_4 draws_4 points_4 count_4 changes_4) H := hP.sub (ws' := (wX5 q5 cI cJ cB least_5 many_5 seenChanges_5 seenPlayers_5 ++ wX4 q4 cI cJ cB parts_4 wins_4 draws_4 points_4 count_4 changes_4)) [0, 1, 2, 3, 4, 5, 6, 7] rfl
        have hD : va_D A (wX5 q5 cI cJ cB least_5 many_5 seenChanges_5 seenPlayers_5 ++ wX4 q4 cI cJ cB parts_4 wins_4 draws_4 points_4 count_4 changes_4) := hD.sub (ws' := (wX5 q5 cI cJ cB least_5 many_5 seenChanges_5 seenPlayers_5 ++ wX4 q4 cI cJ cB parts_4 wins_4 draws_4 points_4 count_4 changes_4)) [0, 1, 2, 3, 4, 5, 6, 7] (by decide) rfl
        refine lv_if_eq (tgt := 34) hx hb dX5_costAhead_19 (by decide) (fun c_19 => ?_) (fun c_19 => ?_)
        · skip
          have c_19 := k_b0 c_19
          refine lv_iinc (v := nI (o + 1)) (lv' := [(6, .int (nI (o + 1))), (0, .ref (q5 0)), (1, .ref (q4 0)), (2, .int (nI n)), (3, .int (nI p1)), (4, .int (nI B2)), (5, .int v)]) hx hb dX5_costAhead_34 hl (k := 6) rfl (nI_add _ _) (by decide) rfl (fun ls hl => ?_)
          refine lv_goto (tgt := 6) hx hb dX5_costAhead_37 (by decide) ?_
          exact ih_6 _ _ (by omega) (by rw [hv]; show _ = _ + (if _ then _ else _); rw [if_neg c_19, Int32.add_zero]) (by omega) _ _ hP hD hS ls (lv_sub hl [1, 2, 3, 4, 5, 6, 0] rfl)
        · skip
          have c_19 := k_b1 c_19
          refine lv_iload hx hb dX5_costAhead_22 (lv_at hl 5 rfl) ?_
          refine lv_aload_n hx hb dX5_costAhead_24 rfl (lv_at hl 1 rfl) ?_
          refine lv_iload hx hb dX5_costAhead_25 (lv_at hl 6 rfl) ?_
          refine lv_iload_n hx hb dX5_costAhead_27 rfl (lv_at hl 3 rfl) ?_
          have hs_28 : kSplit (wX5 q5 cI cJ cB least_5 many_5 seenChanges_5 seenPlayers_5 ++ wX4 q4 cI cJ cB parts_4 wins_4 draws_4 points_4 count_4 changes_4) (wX4 q4 cI cJ cB parts_4 wins_4 draws_4 points_4 count_4 changes_4) (wX5 q5 cI cJ cB least_5 many_5 seenChanges_5 seenPlayers_5) [3, 4, 5, 6, 7] [0, 1, 2] := ⟨rfl, rfl, rfl, rfl, rfl, by decide⟩
          refine kc_i hP hD hS hA hs_28 (kV (As := [.int (nI o), .int (nI p1)]) (rest := [.int v]) hx hb hml hown hts hKW hP hD hs_28 (c_X4_wins l D cI cJ cB q4 parts_4 wins_4 draws_4 points_4 count_4 changes_4 o p1 (by first | assumption | omega) (by first | assumption | omega)) (cwV 2 hts gX5_costAhead_X4_wins rfl rfl rfl (by decide +kernel) ⟨Nat.le_of_ble_eq_true rfl, Nat.le_of_ble_eq_true rfl⟩) 0 4 rfl rfl rfl rfl hl.1 rfl (Nat.le_of_ble_eq_true rfl) dX5_costAhead_28 ⟨Nat.zero_le _, Nat.zero_le _⟩) (fun r_28 u_28 H locs hw_28 hP hD hS => ?_)
          have er_28 := hw_28
          have er_28 := er_28.symm
          subst er_28
          have hP : va_P D vwCl (wX5 q5 cI cJ cB least_5 many_5 seenChanges_5 seenPlayers_5 ++ wX4 q4 cI cJ cB parts_4 wins_4 draws_4 points_4 count_4 changes_4) H := hP.sub (ws' := (wX5 q5 cI cJ cB least_5 many_5 seenChanges_5 seenPlayers_5 ++ wX4 q4 cI cJ cB parts_4 wins_4 draws_4 points_4 count_4 changes_4)) [0, 1, 2, 3, 4, 5, 6, 7] rfl
          have hD : va_D A (wX5 q5 cI cJ cB least_5 many_5 seenChanges_5 seenPlayers_5 ++ wX4 q4 cI cJ cB parts_4 wins_4 draws_4 points_4 count_4 changes_4) := hD.sub (ws' := (wX5 q5 cI cJ cB least_5 many_5 seenChanges_5 seenPlayers_5 ++ wX4 q4 cI cJ cB parts_4 wins_4 draws_4 points_4 count_4 changes_4)) [0, 1, 2, 3, 4, 5, 6, 7] (by decide) rfl
          refine k_top (y := nI (ov ml o p1)) ((hM.2 o p1 (by omega) (by omega)).1) ?_
          refine lv_iadd hx hb dX5_costAhead_31 ?_
          refine lv_istore (lv' := [(5, .int (v + (nI (ov ml o p1)))), (0, .ref (q5 0)), (1, .ref (q4 0)), (2, .int (nI n)), (3, .int (nI p1)), (4, .int (nI B2)), (6, .int (nI o))]) hx hb dX5_costAhead_32 hl (by decide) rfl (fun ls hl => ?_)
          refine lv_iinc (v := nI (o + 1)) (lv' := [(6, .int (nI (o + 1))), (5, .int (v + (nI (ov ml o p1)))), (0, .ref (q5 0)), (1, .ref (q4 0)), (2, .int (nI n)), (3, .int (nI p1)), (4, .int (nI B2))]) hx hb dX5_costAhead_34 hl (k := 6) rfl (nI_add _ _) (by decide) rfl (fun ls hl => ?_)
          refine lv_goto (tgt := 6) hx hb dX5_costAhead_37 (by decide) ?_
          exact ih_6 _ _ (by omega) (by rw [hv]; show _ = _ + (if _ then _ else _); rw [if_pos c_19]) (by omega) _ _ hP hD hS ls (lv_sub hl [2, 3, 4, 5, 6, 1, 0] rfl)
  exact hL_6 _ 0 0 (Nat.zero_le _) rfl (Nat.lt_succ_self _) _ _ hP hD hS ls (lv_sub hl [2, 3, 4, 5, 6, 1, 0] rfl)
def rmX5_settle : Room := { frames := 2, cells := 0, slots := 0, locals := 48 }
set_option maxHeartbeats 4000000 in
set_option maxRecDepth 100000 in
theorem c_X5_settle (l : Launch) (D : va_G) (cI cJ cB : ClassId) (q5 : Nat → Nat) (q4 : Nat → Nat) (least_5 : Nat → Int32) (many_5 : Nat → Int32) (seenChanges_5 : Int32) (seenPlayers_5 : Int32) (parts_4 : Nat → Int32) (wins_4 : Nat → Int32) (draws_4 : Nat → Int32) (points_4 : Nat → Int32) (count_4 : Int32) (changes_4 : Int32) (ml : List Mt) (n : Nat) (S : Nat) (hM : MR parts_4 wins_4 draws_4 points_4 ml) (hn10 : n ≤ 10) (hS2 : S < 1024) : ∀ sz, Met l yX5_settle wsX5_settle rmX5_settle (va_Pc [.ref (q5 0), .ref (q4 0), .int (nI n), .int (nI S)] (PW D (kT cI cJ cB) sz (wX5 q5 cI cJ cB least_5 many_5 seenChanges_5 seenPlayers_5 ++ wX4 q4 cI cJ cB parts_4 wins_4 draws_4 points_4 count_4 changes_4))) (va_Qv (S := (Nat → Int32) × (Nat → Int32)) (fun uu => match uu with | (least_5', many_5') => least_5' = upd least_5 S (rwS ml n least_5 many_5 S).1 ∧ many_5' = upd many_5 S (rwS ml n least_5 many_5 S).2) (QW D sz (wX5 q5 cI cJ cB least_5 many_5 seenChanges_5 seenPlayers_5 ++ wX4 q4 cI cJ cB parts_4 wins_4 draws_4 points_4 count_4 changes_4) (fun uu => match uu with | (least_5', many_5') => (wX5 q5 cI cJ cB least_5' many_5' seenChanges_5 seenPlayers_5 ++ wX4 q4 cI cJ cB parts_4 wins_4 draws_4 points_4 count_4 changes_4))) (va_A (wX5 q5 cI cJ cB least_5 many_5 seenChanges_5 seenPlayers_5 ++ wX4 q4 cI cJ cB parts_4 wins_4 draws_4 points_4 count_4 changes_4) sz)) 0 0 (va_A (wX5 q5 cI cJ cB least_5 many_5 seenChanges_5 seenPlayers_5 ++ wX4 q4 cI cJ cB parts_4 wins_4 draws_4 points_4 count_4 changes_4) sz) := by
  intro sz
  refine Met.ofW (cc := cX5_settle) (maxL := 9) (ret := none) (by decide) rfl ?_
  intro p e s m args below meth c s₁ B hml hv
  obtain ⟨hav, hsz, hP, hKW, hD0⟩ := hv
  have hx := B.exec
  have hb := B.bytes
  have hr := B.returns
  have hts := atoms_spec (ws := wsX5_settle) B.pre
  have hown : s.vm.findClass RX5 = some m.cls := findClass_of_methodNamed B.named
  have hlocks := B.notSynchronized
  subst hsz
  have hD := hD0.self (sz := s.heap.size)
  obtain ⟨A, hAe⟩ : ∃ A : Nat → Prop, A = va_A (wX5 q5 cI cJ cB least_5 many_5 seenChanges_5 seenPlayers_5 ++ wX4 q4 cI cJ cB parts_4 wins_4 draws_4 points_4 count_4 changes_4) s.heap.size := ⟨_, rfl⟩
  rw [← hAe] at hD
  have hA : ∀ q : Nat, s.heap.size ≤ q → A q := fun q h => by rw [hAe]; exact Or.inr h
  have hS : va_S A s.heap s.heap [] := va_S.rf
  refine k_gen (fun Q hQ => ?_)
  have hl := lv_entry ([.ref (q5 0), .ref (q4 0), .int (nI n), .int (nI S)]) (n := 9) (Nat.le_of_ble_eq_true rfl)
  refine k_entry hav (lg_entry_eq ..) ?_
  generalize (lg_sl ([.ref (q5 0), .ref (q4 0), .int (nI n), .int (nI S)]) ++ List.replicate (9 - (lg_sl ([.ref (q5 0), .ref (q4 0), .int (nI n), .int (nI S)])).length) Slot.unset).toArray = ls at hl ⊢
  have hl : lv_has ls 9 [(0, .ref (q5 0)), (1, .ref (q4 0)), (2, .int (nI n)), (3, .int (nI S))] := hl
  have hu_5 : ∀ w ∈ u_ws RX5 TX5 4, w ∈ wsX5_settle := by decide +kernel
  have hf_9 : Cond.fieldLink RX5 9 "MeetingRanks$RowSearch" "least" "[I" ∈ wsX5_settle := by decide +kernel
  have hf_15 : Cond.fieldLink RX5 15 "MeetingRanks$RowSearch" "many" "[I" ∈ wsX5_settle := by decide +kernel
  refine lv_bipush (v := nI 121) hx hb dX5_settle_0 (by decide) ?_
  refine lv_istore (lv' := [(4, .int (nI 121)), (0, .ref (q5 0)), (1, .ref (q4 0)), (2, .int (nI n)), (3, .int (nI S))]) hx hb dX5_settle_2 hl (by decide) rfl (fun ls hl => ?_)
  refine lv_iconst (v := nI 0) hx hb dX5_settle_4 (by decide) ?_
  refine lv_istore (lv' := [(5, .int (nI 0)), (4, .int (nI 121)), (0, .ref (q5 0)), (1, .ref (q4 0)), (2, .int (nI n)), (3, .int (nI S))]) hx hb dX5_settle_5 hl (by decide) rfl (fun ls hl => ?_)
  refine lv_iconst (v := nI 0) hx hb dX5_settle_7 (by decide) ?_
  refine lv_istore (lv' := [(6, .int (nI 0)), (5, .int (nI 0)), (4, .int (nI 121)), (0, .ref (q5 0)), (1, .ref (q4 0)), (2, .int (nI n)), (3, .int (nI S))]) hx hb dX5_settle_8 hl (by decide) rfl (fun ls hl => ?_)
  have hL_10 : ∀ (fu : Nat) (k : Nat) (lo : Int32) (wy : Int32) (hk : k ≤ n) (hv : (lo, wy) = mnB (fun k => S.testBit k) (fun k => least_5 (S - 2 ^ k) + caI ml n k (S - 2 ^ k)) (fun k => many_5 (S - 2 ^ k)) k), n - k < fu → ∀ (H : Heap) (locs : List Loc), va_P D vwCl (wX5 q5 cI cJ cB least_5 many_5 seenChanges_5 seenPlayers_5 ++ wX4 q4 cI cJ cB parts_4 wins_4 draws_4 points_4 count_4 changes_4) H → va_D A (wX5 q5 cI cJ cB least_5 many_5 seenChanges_5 seenPlayers_5 ++ wX4 q4 cI cJ cB parts_4 wins_4 draws_4 points_4 count_4 changes_4) → va_S A s.heap H locs → ∀ (ls : Array Slot), lv_has ls 9 [(0, .ref (q5 0)), (1, .ref (q4 0)), (2, .int (nI n)), (3, .int (nI S)), (4, .int lo), (5, .int wy), (6, .int (nI k))] → W p l e (headSpec wsX5_settle rmX5_settle).room s m args below meth c H locs 0 0 Q (F0 m 10 ls []) := by
    intro fu
    induction fu with
    | zero => intro k lo wy hk hv hfu; exact absurd hfu (Nat.not_lt_zero _)
    | succ fu ih_10 =>
      intro k lo wy hk hv hfu H locs hP hD hS ls hl
      have hpk := Nat.two_pow_pos k
      refine lv_iload hx hb dX5_settle_10 (lv_at hl 6 rfl) ?_
      refine lv_iload_n hx hb dX5_settle_12 rfl (lv_at hl 2 rfl) ?_
      refine lv_icmp_ge (tgt := 94) hx hb dX5_settle_13 (by decide) (fun c_13 => ?_) (fun c_13 => ?_)
      · skip
        have c_13 := k_ge (by omega) (by omega) c_13
        obtain rfl : n = k := by omega
        refine lv_aload_n hx hb dX5_settle_94 rfl (lv_at hl 0 rfl) ?_
        refine k_get (ci := 5) (v := .ref (q5 1)) (C := RX5) (Tb := TX5) (N := 4) hx hb hts hu_5 hown hKW hP 0 rfl rfl 0 (by decide) hf_9 rfl rfl dX5_settle_95 ?_
        refine lv_iload_n hx hb dX5_settle_98 rfl (lv_at hl 3 rfl) ?_
        refine lv_iload hx hb dX5_settle_99 (lv_at hl 4 rfl) ?_
        refine k_iast (n := 1024) (i := S) (x := lo) (w' := (wX5 q5 cI cJ cB (upd least_5 S lo) many_5 seenChanges_5 seenPlayers_5 ++ wX4 q4 cI cJ cB parts_4 wins_4 draws_4 points_4 count_4 changes_4)) hx hb hKW hP hD hS 1 0 rfl rfl (by omega) (by omega) dX5_settle_101 rfl (fun H locs hP hD hS => ?_)
        refine lv_aload_n hx hb dX5_settle_102 rfl (lv_at hl 0 rfl) ?_
        refine k_get (ci := 5) (v := .ref (q5 2)) (C := RX5) (Tb := TX5) (N := 4) hx hb hts hu_5 hown hKW hP 0 rfl rfl 1 (by decide) hf_15 rfl rfl dX5_settle_103 ?_
        refine lv_iload_n hx hb dX5_settle_106 rfl (lv_at hl 3 rfl) ?_
        refine lv_iload hx hb dX5_settle_107 (lv_at hl 5 rfl) ?_
        refine k_iast (n := 1024) (i := S) (x := wy) (w' := (wX5 q5 cI cJ cB (upd least_5 S lo) (upd many_5 S wy) seenChanges_5 seenPlayers_5 ++ wX4 q4 cI cJ cB parts_4 wins_4 draws_4 points_4 count_4 changes_4)) hx hb hKW hP hD hS 2 0 rfl rfl (by omega) (by omega) dX5_settle_109 rfl (fun H locs hP hD hS => ?_)
        subst hQ; subst hAe
        exact W.vret hx hb hr (fun tt9 ht9 _ => ⟨⟨(upd least_5 S lo, upd many_5 S wy), rfl, ⟨by rw [show lo = (lo, wy).1 from rfl, hv], by rw [show wy = (lo, wy).2 from rfl, hv]⟩, by rw [ht9]; exact hP, hD⟩, hS.F ht9⟩) hS.2.2 dX5_settle_110
      · skip
        have c_13 := k_ge_n (by omega) (by omega) c_13
        have hJ_88 : ∀ (lo3 : Int32) (wy3 : Int32) (hv3 : (lo3, wy3) = mnB (fun k => S.testBit k) (fun k => least_5 (S - 2 ^ k) + caI ml n k (S - 2 ^ k)) (fun k => many_5 (S - 2 ^ k)) (k + 1)), ∀ (H : Heap) (locs : List Loc), va_P D vwCl (wX5 q5 cI cJ cB least_5 many_5 seenChanges_5 seenPlayers_5 ++ wX4 q4 cI cJ cB parts_4 wins_4 draws_4 points_4 count_4 changes_4) H → va_D A (wX5 q5 cI cJ cB least_5 many_5 seenChanges_5 seenPlayers_5 ++ wX4 q4 cI cJ cB parts_4 wins_4 draws_4 points_4 count_4 changes_4) → va_S A s.heap H locs → ∀ (ls : Array Slot), lv_has ls 9 [(0, .ref (q5 0)), (1, .ref (q4 0)), (2, .int (nI n)), (3, .int (nI S)), (4, .int lo3), (5, .int wy3), (6, .int (nI k))] → W p l e (headSpec wsX5_settle rmX5_settle).room s m args below meth c H locs 0 0 Q (F0 m 88 ls []) := by
          intro lo3 wy3 hv3 H locs hP hD hS ls hl
          refine lv_iinc (v := nI (k + 1)) (lv' := [(6, .int (nI (k + 1))), (0, .ref (q5 0)), (1, .ref (q4 0)), (2, .int (nI n)), (3, .int (nI S)), (4, .int lo3), (5, .int wy3)]) hx hb dX5_settle_88 hl (k := 6) rfl (nI_add _ _) (by decide) rfl (fun ls hl => ?_)
          refine lv_goto (tgt := 10) hx hb dX5_settle_91 (by decide) ?_
          exact ih_10 _ _ _ (by omega) hv3 (by omega) _ _ hP hD hS ls (lv_sub hl [1, 2, 3, 4, 5, 6, 0] rfl)
        refine lv_iload_n hx hb dX5_settle_16 rfl (lv_at hl 3 rfl) ?_
        refine lv_iload hx hb dX5_settle_17 (lv_at hl 6 rfl) ?_
        have hs_19 : kSplit (wX5 q5 cI cJ cB least_5 many_5 seenChanges_5 seenPlayers_5 ++ wX4 q4 cI cJ cB parts_4 wins_4 draws_4 points_4 count_4 changes_4) ([] : va_W) (wX5 q5 cI cJ cB least_5 many_5 seenChanges_5 seenPlayers_5 ++ wX4 q4 cI cJ cB parts_4 wins_4 draws_4 points_4 count_4 changes_4) [] [0, 1, 2, 3, 4, 5, 6, 7] := ⟨rfl, rfl, rfl, rfl, rfl, by decide⟩
        refine kc_i hP hD hS hA hs_19 (kSN (n := 2) (As := [.int (nI S), .int (nI k)]) (rest := []) (host := "MeetingRanks") hx hb hml hown hts hKW hP hD hs_19 (c_X9_isIn l D cI cJ cB S k (by first | assumption | omega) (by first | assumption | omega)) gX5_settle_X9_isIn_n45 rfl rfl rfl (by decide +kernel) (by decide +kernel) (by decide +kernel) (by decide +kernel) ⟨Nat.le_of_ble_eq_true rfl, Nat.le_of_ble_eq_true rfl⟩ rfl hl.1 rfl (Nat.le_of_ble_eq_true rfl) dX5_settle_19 ⟨Nat.zero_le _, Nat.zero_le _⟩) (fun r_19 u_19 H locs hw_19 hP hD hS => ?_)
        have er_19 := hw_19
        have er_19 := er_19.symm
        subst er_19
        have hP : va_P D vwCl (wX5 q5 cI cJ cB least_5 many_5 seenChanges_5 seenPlayers_5 ++ wX4 q4 cI cJ cB parts_4 wins_4 draws_4 points_4 count_4 changes_4) H := hP.sub (ws' := (wX5 q5 cI cJ cB least_5 many_5 seenChanges_5 seenPlayers_5 ++ wX4 q4 cI cJ cB parts_4 wins_4 draws_4 points_4 count_4 changes_4)) [0, 1, 2, 3, 4, 5, 6, 7] rfl
        have hD : va_D A (wX5 q5 cI cJ cB least_5 many_5 seenChanges_5 seenPlayers_5 ++ wX4 q4 cI cJ cB parts_4 wins_4 draws_4 points_4 count_4 changes_4) := hD.sub (ws' := (wX5 q5 cI cJ cB least_5 many_5 seenChanges_5 seenPlayers_5 ++ wX4 q4 cI cJ cB parts_4 wins_4 draws_4 points_4 count_4 changes_4)) [0, 1, 2, 3, 4, 5, 6, 7] (by decide) rfl
        refine lv_if_eq (tgt := 88) hx hb dX5_settle_22 (by decide) (fun c_22 => ?_) (fun c_22 => ?_)
        · skip
          have c_22 := k_b0 c_22
          exact hJ_88 _ _ (by rw [hv]; show _ = (if _ then _ else _); rw [if_neg c_22]) _ _ hP hD hS ls (lv_sub hl [0, 1, 2, 3, 4, 5, 6] rfl)
        · skip
          have c_22 := k_b1 c_22
          refine lv_iload_n hx hb dX5_settle_25 rfl (lv_at hl 3 rfl) ?_
          refine lv_iconst (v := nI 1) hx hb dX5_settle_26 (by decide) ?_
          refine lv_iload hx hb dX5_settle_27 (lv_at hl 6 rfl) ?_
          refine lv_ishl hx hb dX5_settle_29 ?_
          refine k_top (y := nI (2 ^ k)) (k_shl1 (by omega)) ?_
          refine lv_iconst (v := (-1)) hx hb dX5_settle_30 (by decide) ?_
          refine lv_ixor hx hb dX5_settle_31 ?_
          refine lv_iand hx hb dX5_settle_32 ?_
          refine k_top (y := nI (S - 2 ^ k)) (by rw [k_clr _ _ (by omega) (by omega), if_pos c_22]) ?_
          refine lv_istore (lv' := [(7, .int (nI (S - 2 ^ k))), (0, .ref (q5 0)), (1, .ref (q4 0)), (2, .int (nI n)), (3, .int (nI S)), (4, .int lo), (5, .int wy), (6, .int (nI k))]) hx hb dX5_settle_33 hl (by decide) rfl (fun ls hl => ?_)
          refine lv_aload_n hx hb dX5_settle_35 rfl (lv_at hl 1 rfl) ?_
          refine k_get (ci := 5) (v := .ref (q5 1)) (C := RX5) (Tb := TX5) (N := 4) hx hb hts hu_5 hown hKW hP 0 rfl rfl 0 (by decide) hf_9 rfl rfl dX5_settle_36 ?_
          refine lv_iload hx hb dX5_settle_39 (lv_at hl 0 rfl) ?_
          refine k_iald (n := 1024) (i := S - 2 ^ k) hx hb hKW hP 1 0 rfl rfl (by omega) (by omega) dX5_settle_41 ?_
          refine lv_aload_n hx hb dX5_settle_42 rfl (lv_at hl 1 rfl) ?_
          refine lv_aload_n hx hb dX5_settle_43 rfl (lv_at hl 2 rfl) ?_
          refine lv_iload_n hx hb dX5_settle_44 rfl (lv_at hl 3 rfl) ?_
          refine lv_iload hx hb dX5_settle_45 (lv_at hl 7 rfl) ?_
          refine lv_iload hx hb dX5_settle_47 (lv_at hl 0 rfl) ?_
          have hs_49 : kSplit (wX5 q5 cI cJ cB least_5 many_5 seenChanges_5 seenPlayers_5 ++ wX4 q4 cI cJ cB parts_4 wins_4 draws_4 points_4 count_4 changes_4) (wX5 q5 cI cJ cB least_5 many_5 seenChanges_5 seenPlayers_5 ++ wX4 q4 cI cJ cB parts_4 wins_4 draws_4 points_4 count_4 changes_4) ([] : va_W) [0, 1, 2, 3, 4, 5, 6, 7] [] := ⟨rfl, rfl, rfl, rfl, rfl, by decide⟩
          refine kc_i hP hD hS hA hs_49 (kV (As := [.ref (q4 0), .int (nI n), .int (nI k), .int (nI (S - 2 ^ k))]) (rest := [.int (least_5 (S - 2 ^ k))]) hx hb hml hown hts hKW hP hD hs_49 (c_X5_costAhead l D cI cJ cB q5 q4 least_5 many_5 seenChanges_5 seenPlayers_5 parts_4 wins_4 draws_4 points_4 count_4 changes_4 ml n k (S - 2 ^ k) (by first | assumption | omega) (by first | assumption | omega) (by first | assumption | omega) (by first | assumption | omega)) (cwV 4 hts gX5_settle_X5_costAhead rfl rfl rfl (by decide +kernel) ⟨Nat.le_of_ble_eq_true rfl, Nat.le_of_ble_eq_true rfl⟩) 0 5 rfl rfl rfl rfl hl.1 rfl (Nat.le_of_ble_eq_true rfl) dX5_settle_49 ⟨Nat.zero_le _, Nat.zero_le _⟩) (fun r_49 u_49 H locs hw_49 hP hD hS => ?_)
          have er_49 := hw_49
          have er_49 := er_49.symm
          subst er_49
          have hP : va_P D vwCl (wX5 q5 cI cJ cB least_5 many_5 seenChanges_5 seenPlayers_5 ++ wX4 q4 cI cJ cB parts_4 wins_4 draws_4 points_4 count_4 changes_4) H := hP.sub (ws' := (wX5 q5 cI cJ cB least_5 many_5 seenChanges_5 seenPlayers_5 ++ wX4 q4 cI cJ cB parts_4 wins_4 draws_4 points_4 count_4 changes_4)) [0, 1, 2, 3, 4, 5, 6, 7] rfl
          have hD : va_D A (wX5 q5 cI cJ cB least_5 many_5 seenChanges_5 seenPlayers_5 ++ wX4 q4 cI cJ cB parts_4 wins_4 draws_4 points_4 count_4 changes_4) := hD.sub (ws' := (wX5 q5 cI cJ cB least_5 many_5 seenChanges_5 seenPlayers_5 ++ wX4 q4 cI cJ cB parts_4 wins_4 draws_4 points_4 count_4 changes_4)) [0, 1, 2, 3, 4, 5, 6, 7] (by decide) rfl
          refine lv_iadd hx hb dX5_settle_52 ?_
          refine lv_istore (lv' := [(8, .int ((least_5 (S - 2 ^ k)) + (caI ml n k (S - 2 ^ k)))), (7, .int (nI (S - 2 ^ k))), (0, .ref (q5 0)), (1, .ref (q4 0)), (2, .int (nI n)), (3, .int (nI S)), (4, .int lo), (5, .int wy), (6, .int (nI k))]) hx hb dX5_settle_53 hl (by decide) rfl (fun ls hl => ?_)
          have hJ_69 : ∀ (lo2 : Int32) (wy2 : Int32) (hv2 : (lo2, wy2) = if least_5 (S - 2 ^ k) + caI ml n k (S - 2 ^ k) < lo then (least_5 (S - 2 ^ k) + caI ml n k (S - 2 ^ k), nI 0) else (lo, wy)), ∀ (H : Heap) (locs : List Loc), va_P D vwCl (wX5 q5 cI cJ cB least_5 many_5 seenChanges_5 seenPlayers_5 ++ wX4 q4 cI cJ cB parts_4 wins_4 draws_4 points_4 count_4 changes_4) H → va_D A (wX5 q5 cI cJ cB least_5 many_5 seenChanges_5 seenPlayers_5 ++ wX4 q4 cI cJ cB parts_4 wins_4 draws_4 points_4 count_4 changes_4) → va_S A s.heap H locs → ∀ (ls : Array Slot), lv_has ls 9 [(0, .ref (q5 0)), (1, .ref (q4 0)), (2, .int (nI n)), (3, .int (nI S)), (4, .int lo2), (5, .int wy2), (6, .int (nI k)), (7, .int (nI (S - 2 ^ k))), (8, .int ((least_5 (S - 2 ^ k)) + (caI ml n k (S - 2 ^ k))))] → W p l e (headSpec wsX5_settle rmX5_settle).room s m args below meth c H locs 0 0 Q (F0 m 69 ls []) := by
            intro lo2 wy2 hv2 H locs hP hD hS ls hl
            refine lv_iload hx hb dX5_settle_69 (lv_at hl 8 rfl) ?_
            refine lv_iload hx hb dX5_settle_71 (lv_at hl 4 rfl) ?_
            refine lv_icmp_ne (tgt := 88) hx hb dX5_settle_73 (by decide) (fun c_73 => ?_) (fun c_73 => ?_)
            · skip
              exact hJ_88 _ _ (by show _ = (if _ then _ else _); rw [if_pos c_22, ← hv]; exact mn_ne hv2 c_73) _ _ hP hD hS ls (lv_sub hl [0, 1, 2, 3, 4, 5, 6] rfl)
            · skip
              refine lv_iload hx hb dX5_settle_76 (lv_at hl 5 rfl) ?_
              refine lv_aload_n hx hb dX5_settle_78 rfl (lv_at hl 0 rfl) ?_
              refine k_get (ci := 5) (v := .ref (q5 2)) (C := RX5) (Tb := TX5) (N := 4) hx hb hts hu_5 hown hKW hP 0 rfl rfl 1 (by decide) hf_15 rfl rfl dX5_settle_79 ?_
              refine lv_iload hx hb dX5_settle_82 (lv_at hl 7 rfl) ?_
              refine k_iald (n := 1024) (i := S - 2 ^ k) hx hb hKW hP 2 0 rfl rfl (by omega) (by omega) dX5_settle_84 ?_
              refine lv_iadd hx hb dX5_settle_85 ?_
              refine lv_istore (lv' := [(5, .int (wy2 + (many_5 (S - 2 ^ k)))), (0, .ref (q5 0)), (1, .ref (q4 0)), (2, .int (nI n)), (3, .int (nI S)), (4, .int lo2), (6, .int (nI k)), (7, .int (nI (S - 2 ^ k))), (8, .int ((least_5 (S - 2 ^ k)) + (caI ml n k (S - 2 ^ k))))]) hx hb dX5_settle_86 hl (by decide) rfl (fun ls hl => ?_)
              exact hJ_88 _ _ (by show _ = (if _ then _ else _); rw [if_pos c_22, ← hv]; exact mn_eq hv2 c_73) _ _ hP hD hS ls (lv_sub hl [1, 2, 3, 4, 5, 0, 6] rfl)
          refine lv_iload hx hb dX5_settle_55 (lv_at hl 0 rfl) ?_
          refine lv_iload hx hb dX5_settle_57 (lv_at hl 6 rfl) ?_
          refine lv_icmp_ge (tgt := 69) hx hb dX5_settle_59 (by decide) (fun c_59 => ?_) (fun c_59 => ?_)
          · skip
            exact hJ_69 _ _ (by rw [if_neg (k_nlt c_59)]) _ _ hP hD hS ls (lv_sub hl [2, 3, 4, 5, 6, 7, 8, 1, 0] rfl)
          · skip
            refine lv_iload hx hb dX5_settle_62 (lv_at hl 0 rfl) ?_
            refine lv_istore (lv' := [(4, .int ((least_5 (S - 2 ^ k)) + (caI ml n k (S - 2 ^ k)))), (8, .int ((least_5 (S - 2 ^ k)) + (caI ml n k (S - 2 ^ k)))), (7, .int (nI (S - 2 ^ k))), (0, .ref (q5 0)), (1, .ref (q4 0)), (2, .int (nI n)), (3, .int (nI S)), (5, .int wy), (6, .int (nI k))]) hx hb dX5_settle_64 hl (by decide) rfl (fun ls hl => ?_)
            refine lv_iconst (v := nI 0) hx hb dX5_settle_66 (by decide) ?_
            refine lv_istore (lv' := [(5, .int (nI 0)), (4, .int ((least_5 (S - 2 ^ k)) + (caI ml n k (S - 2 ^ k)))), (8, .int ((least_5 (S - 2 ^ k)) + (caI ml n k (S - 2 ^ k)))), (7, .int (nI (S - 2 ^ k))), (0, .ref (q5 0)), (1, .ref (q4 0)), (2, .int (nI n)), (3, .int (nI S)), (6, .int (nI k))]) hx hb dX5_settle_67 hl (by decide) rfl (fun ls hl => ?_)
            exact hJ_69 _ _ (by rw [if_pos (k_nle c_59)]) _ _ hP hD hS ls (lv_sub hl [4, 5, 6, 7, 1, 0, 8, 3, 2] rfl)
  exact hL_10 _ 0 _ _ (Nat.zero_le _) rfl (Nat.lt_succ_self _) _ _ hP hD hS ls (lv_sub hl [3, 4, 5, 6, 2, 1, 0] rfl)
def rmX5_search : Room := { frames := 3, cells := 0, slots := 0, locals := 76 }
set_option maxHeartbeats 4000000 in
set_option maxRecDepth 100000 in
theorem c_X5_search (l : Launch) (D : va_G) (cI cJ cB : ClassId) (q5 : Nat → Nat) (q4 : Nat → Nat) (least_5 : Nat → Int32) (many_5 : Nat → Int32) (seenChanges_5 : Int32) (seenPlayers_5 : Int32) (parts_4 : Nat → Int32) (wins_4 : Nat → Int32) (draws_4 : Nat → Int32) (points_4 : Nat → Int32) (count_4 : Int32) (changes_4 : Int32) (ml : List Mt) (n : Nat) (hM : MR parts_4 wins_4 draws_4 points_4 ml) (hn1 : 1 ≤ n) (hn10 : n ≤ 10) (hcache : seenChanges_5 = changes_4 → seenPlayers_5 = nI n → RowOK ml n least_5 many_5 (2 ^ n)) : ∀ sz, Met l yX5_search wsX5_search rmX5_search (va_Pc [.ref (q5 0), .ref (q4 0), .int (nI n)] (PW D (kT cI cJ cB) sz (wX5 q5 cI cJ cB least_5 many_5 seenChanges_5 seenPlayers_5 ++ wX4 q4 cI cJ cB parts_4 wins_4 draws_4 points_4 count_4 changes_4))) (va_Qv (S := (Nat → Int32) × (Nat → Int32) × Int32 × Int32) (fun uu => match uu with | (least_5', many_5', seenChanges_5', seenPlayers_5') => seenChanges_5' = changes_4 ∧ seenPlayers_5' = nI n ∧ RowOK ml n least_5' many_5' (2 ^ n)) (QW D sz (wX5 q5 cI cJ cB least_5 many_5 seenChanges_5 seenPlayers_5 ++ wX4 q4 cI cJ cB parts_4 wins_4 draws_4 points_4 count_4 changes_4) (fun uu => match uu with | (least_5', many_5', seenChanges_5', seenPlayers_5') => (wX5 q5 cI cJ cB least_5' many_5' seenChanges_5' seenPlayers_5' ++ wX4 q4 cI cJ cB parts_4 wins_4 draws_4 points_4 count_4 changes_4))) (va_A (wX5 q5 cI cJ cB least_5 many_5 seenChanges_5 seenPlayers_5 ++ wX4 q4 cI cJ cB parts_4 wins_4 draws_4 points_4 count_4 changes_4) sz)) 0 0 (va_A (wX5 q5 cI cJ cB least_5 many_5 seenChanges_5 seenPlayers_5 ++ wX4 q4 cI cJ cB parts_4 wins_4 draws_4 points_4 count_4 changes_4) sz) := by
  intro sz
  refine Met.ofW (cc := cX5_search) (maxL := 4) (ret := none) (by decide) rfl ?_
  intro p e s m args below meth c s₁ B hml hv
  obtain ⟨hav, hsz, hP, hKW, hD0⟩ := hv
  have hx := B.exec
  have hb := B.bytes
  have hr := B.returns
  have hts := atoms_spec (ws := wsX5_search) B.pre
  have hown : s.vm.findClass RX5 = some m.cls := findClass_of_methodNamed B.named
  have hlocks := B.notSynchronized
  subst hsz
  have hD := hD0.self (sz := s.heap.size)
  obtain ⟨A, hAe⟩ : ∃ A : Nat → Prop, A = va_A (wX5 q5 cI cJ cB least_5 many_5 seenChanges_5 seenPlayers_5 ++ wX4 q4 cI cJ cB parts_4 wins_4 draws_4 points_4 count_4 changes_4) s.heap.size := ⟨_, rfl⟩
  rw [← hAe] at hD
  have hA : ∀ q : Nat, s.heap.size ≤ q → A q := fun q h => by rw [hAe]; exact Or.inr h
  have hS : va_S A s.heap s.heap [] := va_S.rf
  refine k_gen (fun Q hQ => ?_)
  have hl := lv_entry ([.ref (q5 0), .ref (q4 0), .int (nI n)]) (n := 4) (Nat.le_of_ble_eq_true rfl)
  refine k_entry hav (lg_entry_eq ..) ?_
  generalize (lg_sl ([.ref (q5 0), .ref (q4 0), .int (nI n)]) ++ List.replicate (4 - (lg_sl ([.ref (q5 0), .ref (q4 0), .int (nI n)])).length) Slot.unset).toArray = ls at hl ⊢
  have hl : lv_has ls 4 [(0, .ref (q5 0)), (1, .ref (q4 0)), (2, .int (nI n))] := hl
  have hu_5 : ∀ w ∈ u_ws RX5 TX5 4, w ∈ wsX5_search := by decide +kernel
  have hf_9 : Cond.fieldLink RX5 9 "MeetingRanks$RowSearch" "least" "[I" ∈ wsX5_search := by decide +kernel
  have hf_15 : Cond.fieldLink RX5 15 "MeetingRanks$RowSearch" "many" "[I" ∈ wsX5_search := by decide +kernel
  have hf_18 : Cond.fieldLink RX5 18 "MeetingRanks$RowSearch" "seenChanges" "I" ∈ wsX5_search := by decide +kernel
  have hf_22 : Cond.fieldLink RX5 22 "MeetingRanks$RowSearch" "seenPlayers" "I" ∈ wsX5_search := by decide +kernel
  have h2n := pow_le_1024 hn10
  have h2p := Nat.two_pow_pos n
  refine lv_aload_n hx hb dX5_search_0 rfl (lv_at hl 0 rfl) ?_
  refine k_get (ci := 5) (v := .int seenChanges_5) (C := RX5) (Tb := TX5) (N := 4) hx hb hts hu_5 hown hKW hP 0 rfl rfl 2 (by decide) hf_18 rfl rfl dX5_search_1 ?_
  refine lv_aload_n hx hb dX5_search_4 rfl (lv_at hl 1 rfl) ?_
  have hs_5 : kSplit (wX5 q5 cI cJ cB least_5 many_5 seenChanges_5 seenPlayers_5 ++ wX4 q4 cI cJ cB parts_4 wins_4 draws_4 points_4 count_4 changes_4) (wX4 q4 cI cJ cB parts_4 wins_4 draws_4 points_4 count_4 changes_4) (wX5 q5 cI cJ cB least_5 many_5 seenChanges_5 seenPlayers_5) [3, 4, 5, 6, 7] [0, 1, 2] := ⟨rfl, rfl, rfl, rfl, rfl, by decide⟩
  refine kc_i hP hD hS hA hs_5 (kV (As := []) (rest := [.int seenChanges_5]) hx hb hml hown hts hKW hP hD hs_5 (c_X4_changes l D cI cJ cB q4 parts_4 wins_4 draws_4 points_4 count_4 changes_4) (cwV 0 hts gX5_search_X4_changes rfl rfl rfl (by decide +kernel) ⟨Nat.le_of_ble_eq_true rfl, Nat.le_of_ble_eq_true rfl⟩) 0 4 rfl rfl rfl rfl hl.1 rfl (Nat.le_of_ble_eq_true rfl) dX5_search_5 ⟨Nat.zero_le _, Nat.zero_le _⟩) (fun r_5 u_5 H locs hw_5 hP hD hS => ?_)
  have er_5 := hw_5
  have er_5 := er_5.symm
  subst er_5
  have hP : va_P D vwCl (wX5 q5 cI cJ cB least_5 many_5 seenChanges_5 seenPlayers_5 ++ wX4 q4 cI cJ cB parts_4 wins_4 draws_4 points_4 count_4 changes_4) H := hP.sub (ws' := (wX5 q5 cI cJ cB least_5 many_5 seenChanges_5 seenPlayers_5 ++ wX4 q4 cI cJ cB parts_4 wins_4 draws_4 points_4 count_4 changes_4)) [0, 1, 2, 3, 4, 5, 6, 7] rfl
  have hD : va_D A (wX5 q5 cI cJ cB least_5 many_5 seenChanges_5 seenPlayers_5 ++ wX4 q4 cI cJ cB parts_4 wins_4 draws_4 points_4 count_4 changes_4) := hD.sub (ws' := (wX5 q5 cI cJ cB least_5 many_5 seenChanges_5 seenPlayers_5 ++ wX4 q4 cI cJ cB parts_4 wins_4 draws_4 points_4 count_4 changes_4)) [0, 1, 2, 3, 4, 5, 6, 7] (by decide) rfl
  refine lv_icmp_ne (tgt := 20) hx hb dX5_search_8 (by decide) (fun c_8 => ?_) (fun c_8 => ?_)
  · skip
    refine lv_aload_n hx hb dX5_search_20 rfl (lv_at hl 0 rfl) ?_
    refine k_get (ci := 5) (v := .ref (q5 1)) (C := RX5) (Tb := TX5) (N := 4) hx hb hts hu_5 hown hKW hP 0 rfl rfl 0 (by decide) hf_9 rfl rfl dX5_search_21 ?_
    refine lv_iconst (v := nI 0) hx hb dX5_search_24 (by decide) ?_
    refine lv_iconst (v := nI 0) hx hb dX5_search_25 (by decide) ?_
    refine k_iast (n := 1024) (i := 0) (x := nI 0) (w' := (wX5 q5 cI cJ cB (upd least_5 0 (nI 0)) many_5 seenChanges_5 seenPlayers_5 ++ wX4 q4 cI cJ cB parts_4 wins_4 draws_4 points_4 count_4 changes_4)) hx hb hKW hP hD hS 1 0 rfl rfl (by omega) (by omega) dX5_search_26 rfl (fun H locs hP hD hS => ?_)
    refine lv_aload_n hx hb dX5_search_27 rfl (lv_at hl 0 rfl) ?_
    refine k_get (ci := 5) (v := .ref (q5 2)) (C := RX5) (Tb := TX5) (N := 4) hx hb hts hu_5 hown hKW hP 0 rfl rfl 1 (by decide) hf_15 rfl rfl dX5_search_28 ?_
    refine lv_iconst (v := nI 0) hx hb dX5_search_31 (by decide) ?_
    refine lv_iconst (v := nI 1) hx hb dX5_search_32 (by decide) ?_
    refine k_iast (n := 1024) (i := 0) (x := nI 1) (w' := (wX5 q5 cI cJ cB (upd least_5 0 (nI 0)) (upd many_5 0 (nI 1)) seenChanges_5 seenPlayers_5 ++ wX4 q4 cI cJ cB parts_4 wins_4 draws_4 points_4 count_4 changes_4)) hx hb hKW hP hD hS 2 0 rfl rfl (by omega) (by omega) dX5_search_33 rfl (fun H locs hP hD hS => ?_)
    refine lv_iconst (v := nI 1) hx hb dX5_search_34 (by decide) ?_
    refine lv_istore_n (lv' := [(3, .int (nI 1)), (0, .ref (q5 0)), (1, .ref (q4 0)), (2, .int (nI n))]) hx hb dX5_search_35 rfl hl (by decide) rfl (fun ls hl => ?_)
    have hL_36 : ∀ (fu : Nat) (S : Nat) (f : Nat → Int32) (g : Nat → Int32) (hS1 : 1 ≤ S) (hS2 : S ≤ 2 ^ n) (hg : RowOK ml n f g S), 2 ^ n - S < fu → ∀ (H : Heap) (locs : List Loc), va_P D vwCl (wX5 q5 cI cJ cB f g seenChanges_5 seenPlayers_5 ++ wX4 q4 cI cJ cB parts_4 wins_4 draws_4 points_4 count_4 changes_4) H → va_D A (wX5 q5 cI cJ cB f g seenChanges_5 seenPlayers_5 ++ wX4 q4 cI cJ cB parts_4 wins_4 draws_4 points_4 count_4 changes_4) → va_S A s.heap H locs → ∀ (ls : Array Slot), lv_has ls 4 [(0, .ref (q5 0)), (1, .ref (q4 0)), (2, .int (nI n)), (3, .int (nI S))] → W p l e (headSpec wsX5_search rmX5_search).room s m args below meth c H locs 0 0 Q (F0 m 36 ls []) := by
      intro fu
      induction fu with
      | zero => intro S f g hS1 hS2 hg hfu; exact absurd hfu (Nat.not_lt_zero _)
      | succ fu ih_36 =>
        intro S f g hS1 hS2 hg hfu H locs hP hD hS ls hl
        refine lv_iload_n hx hb dX5_search_36 rfl (lv_at hl 3 rfl) ?_
        refine lv_iload_n hx hb dX5_search_37 rfl (lv_at hl 2 rfl) ?_
        have hs_38 : kSplit (wX5 q5 cI cJ cB f g seenChanges_5 seenPlayers_5 ++ wX4 q4 cI cJ cB parts_4 wins_4 draws_4 points_4 count_4 changes_4) ([] : va_W) (wX5 q5 cI cJ cB f g seenChanges_5 seenPlayers_5 ++ wX4 q4 cI cJ cB parts_4 wins_4 draws_4 points_4 count_4 changes_4) [] [0, 1, 2, 3, 4, 5, 6, 7] := ⟨rfl, rfl, rfl, rfl, rfl, by decide⟩
        refine kc_i hP hD hS hA hs_38 (kSN (n := 1) (As := [.int (nI n)]) (rest := [.int (nI S)]) (host := "MeetingRanks") hx hb hml hown hts hKW hP hD hs_38 (c_X9_everyone l D cI cJ cB n (by first | assumption | omega)) gX5_search_X9_everyone_n25 rfl rfl rfl (by decide +kernel) (by decide +kernel) (by decide +kernel) (by decide +kernel) ⟨Nat.le_of_ble_eq_true rfl, Nat.le_of_ble_eq_true rfl⟩ rfl hl.1 rfl (Nat.le_of_ble_eq_true rfl) dX5_search_38 ⟨Nat.zero_le _, Nat.zero_le _⟩) (fun r_38 u_38 H locs hw_38 hP hD hS => ?_)
        have er_38 := hw_38
        have er_38 := er_38.symm
        subst er_38
        have hP : va_P D vwCl (wX5 q5 cI cJ cB f g seenChanges_5 seenPlayers_5 ++ wX4 q4 cI cJ cB parts_4 wins_4 draws_4 points_4 count_4 changes_4) H := hP.sub (ws' := (wX5 q5 cI cJ cB f g seenChanges_5 seenPlayers_5 ++ wX4 q4 cI cJ cB parts_4 wins_4 draws_4 points_4 count_4 changes_4)) [0, 1, 2, 3, 4, 5, 6, 7] rfl
        have hD : va_D A (wX5 q5 cI cJ cB f g seenChanges_5 seenPlayers_5 ++ wX4 q4 cI cJ cB parts_4 wins_4 draws_4 points_4 count_4 changes_4) := hD.sub (ws' := (wX5 q5 cI cJ cB f g seenChanges_5 seenPlayers_5 ++ wX4 q4 cI cJ cB parts_4 wins_4 draws_4 points_4 count_4 changes_4)) [0, 1, 2, 3, 4, 5, 6, 7] (by decide) rfl
        refine lv_icmp_gt (tgt := 57) hx hb dX5_search_41 (by decide) (fun c_41 => ?_) (fun c_41 => ?_)
        · skip
          have c_41 := k_gt (by omega) (by omega) c_41
          obtain rfl : S = 2 ^ n := by omega
          refine lv_aload_n hx hb dX5_search_57 rfl (lv_at hl 0 rfl) ?_
          refine lv_aload_n hx hb dX5_search_58 rfl (lv_at hl 1 rfl) ?_
          have hs_59 : kSplit (wX5 q5 cI cJ cB f g seenChanges_5 seenPlayers_5 ++ wX4 q4 cI cJ cB parts_4 wins_4 draws_4 points_4 count_4 changes_4) (wX4 q4 cI cJ cB parts_4 wins_4 draws_4 points_4 count_4 changes_4) (wX5 q5 cI cJ cB f g seenChanges_5 seenPlayers_5) [3, 4, 5, 6, 7] [0, 1, 2] := ⟨rfl, rfl, rfl, rfl, rfl, by decide⟩
          refine kc_i hP hD hS hA hs_59 (kV (As := []) (rest := [.ref (q5 0)]) hx hb hml hown hts hKW hP hD hs_59 (c_X4_changes l D cI cJ cB q4 parts_4 wins_4 draws_4 points_4 count_4 changes_4) (cwV 0 hts gX5_search_X4_changes rfl rfl rfl (by decide +kernel) ⟨Nat.le_of_ble_eq_true rfl, Nat.le_of_ble_eq_true rfl⟩) 0 4 rfl rfl rfl rfl hl.1 rfl (Nat.le_of_ble_eq_true rfl) dX5_search_59 ⟨Nat.zero_le _, Nat.zero_le _⟩) (fun r_59 u_59 H locs hw_59 hP hD hS => ?_)
          have er_59 := hw_59
          have er_59 := er_59.symm
          subst er_59
          have hP : va_P D vwCl (wX5 q5 cI cJ cB f g seenChanges_5 seenPlayers_5 ++ wX4 q4 cI cJ cB parts_4 wins_4 draws_4 points_4 count_4 changes_4) H := hP.sub (ws' := (wX5 q5 cI cJ cB f g seenChanges_5 seenPlayers_5 ++ wX4 q4 cI cJ cB parts_4 wins_4 draws_4 points_4 count_4 changes_4)) [0, 1, 2, 3, 4, 5, 6, 7] rfl
          have hD : va_D A (wX5 q5 cI cJ cB f g seenChanges_5 seenPlayers_5 ++ wX4 q4 cI cJ cB parts_4 wins_4 draws_4 points_4 count_4 changes_4) := hD.sub (ws' := (wX5 q5 cI cJ cB f g seenChanges_5 seenPlayers_5 ++ wX4 q4 cI cJ cB parts_4 wins_4 draws_4 points_4 count_4 changes_4)) [0, 1, 2, 3, 4, 5, 6, 7] (by decide) rfl
          refine k_put (ci := 5) (ty := .int) (v := .int changes_4) (C := RX5) (Tb := TX5) (N := 4) (w' := (wX5 q5 cI cJ cB f g changes_4 seenPlayers_5 ++ wX4 q4 cI cJ cB parts_4 wins_4 draws_4 points_4 count_4 changes_4)) hx hb hts hu_5 tyX5 tyX5_ok nmX5 hown hKW hP hD hS 0 rfl rfl 2 (by decide) hf_18 rfl rfl (by decide +kernel) rfl rfl (Nat.le_of_ble_eq_true rfl) dX5_search_62 rfl (fun H locs hP hD hS => ?_)
          refine lv_aload_n hx hb dX5_search_65 rfl (lv_at hl 0 rfl) ?_
          refine lv_iload_n hx hb dX5_search_66 rfl (lv_at hl 2 rfl) ?_
          refine k_put (ci := 5) (ty := .int) (v := .int (nI n)) (C := RX5) (Tb := TX5) (N := 4) (w' := (wX5 q5 cI cJ cB f g changes_4 (nI n) ++ wX4 q4 cI cJ cB parts_4 wins_4 draws_4 points_4 count_4 changes_4)) hx hb hts hu_5 tyX5 tyX5_ok nmX5 hown hKW hP hD hS 0 rfl rfl 3 (by decide) hf_22 rfl rfl (by decide +kernel) rfl rfl (Nat.le_of_ble_eq_true rfl) dX5_search_67 rfl (fun H locs hP hD hS => ?_)
          subst hQ; subst hAe
          exact W.vret hx hb hr (fun tt9 ht9 _ => ⟨⟨(f, g, changes_4, nI n), rfl, ⟨rfl, rfl, hg⟩, by rw [ht9]; exact hP, hD⟩, hS.F ht9⟩) hS.2.2 dX5_search_70
        · skip
          have c_41 := k_gt_n (by omega) (by omega) c_41
          refine lv_aload_n hx hb dX5_search_44 rfl (lv_at hl 0 rfl) ?_
          refine lv_aload_n hx hb dX5_search_45 rfl (lv_at hl 1 rfl) ?_
          refine lv_iload_n hx hb dX5_search_46 rfl (lv_at hl 2 rfl) ?_
          refine lv_iload_n hx hb dX5_search_47 rfl (lv_at hl 3 rfl) ?_
          have hs_48 : kSplit (wX5 q5 cI cJ cB f g seenChanges_5 seenPlayers_5 ++ wX4 q4 cI cJ cB parts_4 wins_4 draws_4 points_4 count_4 changes_4) (wX5 q5 cI cJ cB f g seenChanges_5 seenPlayers_5 ++ wX4 q4 cI cJ cB parts_4 wins_4 draws_4 points_4 count_4 changes_4) ([] : va_W) [0, 1, 2, 3, 4, 5, 6, 7] [] := ⟨rfl, rfl, rfl, rfl, rfl, by decide⟩
          refine kc_v hP hD hS hA hs_48 (kV (As := [.ref (q4 0), .int (nI n), .int (nI S)]) (rest := []) hx hb hml hown hts hKW hP hD hs_48 (c_X5_settle l D cI cJ cB q5 q4 f g seenChanges_5 seenPlayers_5 parts_4 wins_4 draws_4 points_4 count_4 changes_4 ml n S (by first | assumption | omega) (by first | assumption | omega) (by first | assumption | omega)) (cwV 3 hts gX5_search_X5_settle rfl rfl rfl (by decide +kernel) ⟨Nat.le_of_ble_eq_true rfl, Nat.le_of_ble_eq_true rfl⟩) 0 5 rfl rfl rfl rfl hl.1 rfl (Nat.le_of_ble_eq_true rfl) dX5_search_48 ⟨Nat.zero_le _, Nat.zero_le _⟩) (fun u_48 H locs hw_48 hP hD hS => ?_)
          obtain ⟨least_5_48, many_5_48⟩ := u_48
          obtain ⟨e_least_5_48, e_many_5_48⟩ := hw_48
          have e_least_5_48 := e_least_5_48.symm
          subst e_least_5_48
          have e_many_5_48 := e_many_5_48.symm
          subst e_many_5_48
          have hP : va_P D vwCl (wX5 q5 cI cJ cB (upd f S (rwS ml n f g S).1) (upd g S (rwS ml n f g S).2) seenChanges_5 seenPlayers_5 ++ wX4 q4 cI cJ cB parts_4 wins_4 draws_4 points_4 count_4 changes_4) H := hP.sub (ws' := (wX5 q5 cI cJ cB (upd f S (rwS ml n f g S).1) (upd g S (rwS ml n f g S).2) seenChanges_5 seenPlayers_5 ++ wX4 q4 cI cJ cB parts_4 wins_4 draws_4 points_4 count_4 changes_4)) [0, 1, 2, 3, 4, 5, 6, 7] rfl
          have hD : va_D A (wX5 q5 cI cJ cB (upd f S (rwS ml n f g S).1) (upd g S (rwS ml n f g S).2) seenChanges_5 seenPlayers_5 ++ wX4 q4 cI cJ cB parts_4 wins_4 draws_4 points_4 count_4 changes_4) := hD.sub (ws' := (wX5 q5 cI cJ cB (upd f S (rwS ml n f g S).1) (upd g S (rwS ml n f g S).2) seenChanges_5 seenPlayers_5 ++ wX4 q4 cI cJ cB parts_4 wins_4 draws_4 points_4 count_4 changes_4)) [0, 1, 2, 3, 4, 5, 6, 7] (by decide) rfl
          refine lv_iinc (v := nI (S + 1)) (lv' := [(3, .int (nI (S + 1))), (0, .ref (q5 0)), (1, .ref (q4 0)), (2, .int (nI n))]) hx hb dX5_search_51 hl (k := 3) rfl (nI_add _ _) (by decide) rfl (fun ls hl => ?_)
          refine lv_goto (tgt := 36) hx hb dX5_search_54 (by decide) ?_
          exact ih_36 _ _ _ (by omega) (by omega) (RowOK_next (by omega) hg) (by omega) _ _ hP hD hS ls (lv_sub hl [1, 2, 3, 0] rfl)
    exact hL_36 _ 1 _ _ (Nat.le_refl _) (by omega) (⟨pk_us, pk_us, fun T h1 h2 => absurd h1 (by omega)⟩) (Nat.lt_succ_self _) _ _ hP hD hS ls (lv_sub hl [1, 2, 3, 0] rfl)
  · skip
    refine lv_aload_n hx hb dX5_search_11 rfl (lv_at hl 0 rfl) ?_
    refine k_get (ci := 5) (v := .int seenPlayers_5) (C := RX5) (Tb := TX5) (N := 4) hx hb hts hu_5 hown hKW hP 0 rfl rfl 3 (by decide) hf_22 rfl rfl dX5_search_12 ?_
    refine lv_iload_n hx hb dX5_search_15 rfl (lv_at hl 2 rfl) ?_
    refine lv_icmp_ne (tgt := 20) hx hb dX5_search_16 (by decide) (fun c_16 => ?_) (fun c_16 => ?_)
    · skip
      refine lv_aload_n hx hb dX5_search_20 rfl (lv_at hl 0 rfl) ?_
      refine k_get (ci := 5) (v := .ref (q5 1)) (C := RX5) (Tb := TX5) (N := 4) hx hb hts hu_5 hown hKW hP 0 rfl rfl 0 (by decide) hf_9 rfl rfl dX5_search_21 ?_
      refine lv_iconst (v := nI 0) hx hb dX5_search_24 (by decide) ?_
      refine lv_iconst (v := nI 0) hx hb dX5_search_25 (by decide) ?_
      refine k_iast (n := 1024) (i := 0) (x := nI 0) (w' := (wX5 q5 cI cJ cB (upd least_5 0 (nI 0)) many_5 seenChanges_5 seenPlayers_5 ++ wX4 q4 cI cJ cB parts_4 wins_4 draws_4 points_4 count_4 changes_4)) hx hb hKW hP hD hS 1 0 rfl rfl (by omega) (by omega) dX5_search_26 rfl (fun H locs hP hD hS => ?_)
      refine lv_aload_n hx hb dX5_search_27 rfl (lv_at hl 0 rfl) ?_
      refine k_get (ci := 5) (v := .ref (q5 2)) (C := RX5) (Tb := TX5) (N := 4) hx hb hts hu_5 hown hKW hP 0 rfl rfl 1 (by decide) hf_15 rfl rfl dX5_search_28 ?_
      refine lv_iconst (v := nI 0) hx hb dX5_search_31 (by decide) ?_
      refine lv_iconst (v := nI 1) hx hb dX5_search_32 (by decide) ?_
      refine k_iast (n := 1024) (i := 0) (x := nI 1) (w' := (wX5 q5 cI cJ cB (upd least_5 0 (nI 0)) (upd many_5 0 (nI 1)) seenChanges_5 seenPlayers_5 ++ wX4 q4 cI cJ cB parts_4 wins_4 draws_4 points_4 count_4 changes_4)) hx hb hKW hP hD hS 2 0 rfl rfl (by omega) (by omega) dX5_search_33 rfl (fun H locs hP hD hS => ?_)
      refine lv_iconst (v := nI 1) hx hb dX5_search_34 (by decide) ?_
      refine lv_istore_n (lv' := [(3, .int (nI 1)), (0, .ref (q5 0)), (1, .ref (q4 0)), (2, .int (nI n))]) hx hb dX5_search_35 rfl hl (by decide) rfl (fun ls hl => ?_)
      have hL_36 : ∀ (fu : Nat) (S : Nat) (f : Nat → Int32) (g : Nat → Int32) (hS1 : 1 ≤ S) (hS2 : S ≤ 2 ^ n) (hg : RowOK ml n f g S), 2 ^ n - S < fu → ∀ (H : Heap) (locs : List Loc), va_P D vwCl (wX5 q5 cI cJ cB f g seenChanges_5 seenPlayers_5 ++ wX4 q4 cI cJ cB parts_4 wins_4 draws_4 points_4 count_4 changes_4) H → va_D A (wX5 q5 cI cJ cB f g seenChanges_5 seenPlayers_5 ++ wX4 q4 cI cJ cB parts_4 wins_4 draws_4 points_4 count_4 changes_4) → va_S A s.heap H locs → ∀ (ls : Array Slot), lv_has ls 4 [(0, .ref (q5 0)), (1, .ref (q4 0)), (2, .int (nI n)), (3, .int (nI S))] → W p l e (headSpec wsX5_search rmX5_search).room s m args below meth c H locs 0 0 Q (F0 m 36 ls []) := by
        intro fu
        induction fu with
        | zero => intro S f g hS1 hS2 hg hfu; exact absurd hfu (Nat.not_lt_zero _)
        | succ fu ih_36 =>
          intro S f g hS1 hS2 hg hfu H locs hP hD hS ls hl
          refine lv_iload_n hx hb dX5_search_36 rfl (lv_at hl 3 rfl) ?_
          refine lv_iload_n hx hb dX5_search_37 rfl (lv_at hl 2 rfl) ?_
          have hs_38 : kSplit (wX5 q5 cI cJ cB f g seenChanges_5 seenPlayers_5 ++ wX4 q4 cI cJ cB parts_4 wins_4 draws_4 points_4 count_4 changes_4) ([] : va_W) (wX5 q5 cI cJ cB f g seenChanges_5 seenPlayers_5 ++ wX4 q4 cI cJ cB parts_4 wins_4 draws_4 points_4 count_4 changes_4) [] [0, 1, 2, 3, 4, 5, 6, 7] := ⟨rfl, rfl, rfl, rfl, rfl, by decide⟩
          refine kc_i hP hD hS hA hs_38 (kSN (n := 1) (As := [.int (nI n)]) (rest := [.int (nI S)]) (host := "MeetingRanks") hx hb hml hown hts hKW hP hD hs_38 (c_X9_everyone l D cI cJ cB n (by first | assumption | omega)) gX5_search_X9_everyone_n25 rfl rfl rfl (by decide +kernel) (by decide +kernel) (by decide +kernel) (by decide +kernel) ⟨Nat.le_of_ble_eq_true rfl, Nat.le_of_ble_eq_true rfl⟩ rfl hl.1 rfl (Nat.le_of_ble_eq_true rfl) dX5_search_38 ⟨Nat.zero_le _, Nat.zero_le _⟩) (fun r_38 u_38 H locs hw_38 hP hD hS => ?_)
          have er_38 := hw_38
          have er_38 := er_38.symm
          subst er_38
          have hP : va_P D vwCl (wX5 q5 cI cJ cB f g seenChanges_5 seenPlayers_5 ++ wX4 q4 cI cJ cB parts_4 wins_4 draws_4 points_4 count_4 changes_4) H := hP.sub (ws' := (wX5 q5 cI cJ cB f g seenChanges_5 seenPlayers_5 ++ wX4 q4 cI cJ cB parts_4 wins_4 draws_4 points_4 count_4 changes_4)) [0, 1, 2, 3, 4, 5, 6, 7] rfl
          have hD : va_D A (wX5 q5 cI cJ cB f g seenChanges_5 seenPlayers_5 ++ wX4 q4 cI cJ cB parts_4 wins_4 draws_4 points_4 count_4 changes_4) := hD.sub (ws' := (wX5 q5 cI cJ cB f g seenChanges_5 seenPlayers_5 ++ wX4 q4 cI cJ cB parts_4 wins_4 draws_4 points_4 count_4 changes_4)) [0, 1, 2, 3, 4, 5, 6, 7] (by decide) rfl
          refine lv_icmp_gt (tgt := 57) hx hb dX5_search_41 (by decide) (fun c_41 => ?_) (fun c_41 => ?_)
          · skip
            have c_41 := k_gt (by omega) (by omega) c_41
            obtain rfl : S = 2 ^ n := by omega
            refine lv_aload_n hx hb dX5_search_57 rfl (lv_at hl 0 rfl) ?_
            refine lv_aload_n hx hb dX5_search_58 rfl (lv_at hl 1 rfl) ?_
            have hs_59 : kSplit (wX5 q5 cI cJ cB f g seenChanges_5 seenPlayers_5 ++ wX4 q4 cI cJ cB parts_4 wins_4 draws_4 points_4 count_4 changes_4) (wX4 q4 cI cJ cB parts_4 wins_4 draws_4 points_4 count_4 changes_4) (wX5 q5 cI cJ cB f g seenChanges_5 seenPlayers_5) [3, 4, 5, 6, 7] [0, 1, 2] := ⟨rfl, rfl, rfl, rfl, rfl, by decide⟩
            refine kc_i hP hD hS hA hs_59 (kV (As := []) (rest := [.ref (q5 0)]) hx hb hml hown hts hKW hP hD hs_59 (c_X4_changes l D cI cJ cB q4 parts_4 wins_4 draws_4 points_4 count_4 changes_4) (cwV 0 hts gX5_search_X4_changes rfl rfl rfl (by decide +kernel) ⟨Nat.le_of_ble_eq_true rfl, Nat.le_of_ble_eq_true rfl⟩) 0 4 rfl rfl rfl rfl hl.1 rfl (Nat.le_of_ble_eq_true rfl) dX5_search_59 ⟨Nat.zero_le _, Nat.zero_le _⟩) (fun r_59 u_59 H locs hw_59 hP hD hS => ?_)
            have er_59 := hw_59
            have er_59 := er_59.symm
            subst er_59
            have hP : va_P D vwCl (wX5 q5 cI cJ cB f g seenChanges_5 seenPlayers_5 ++ wX4 q4 cI cJ cB parts_4 wins_4 draws_4 points_4 count_4 changes_4) H := hP.sub (ws' := (wX5 q5 cI cJ cB f g seenChanges_5 seenPlayers_5 ++ wX4 q4 cI cJ cB parts_4 wins_4 draws_4 points_4 count_4 changes_4)) [0, 1, 2, 3, 4, 5, 6, 7] rfl
            have hD : va_D A (wX5 q5 cI cJ cB f g seenChanges_5 seenPlayers_5 ++ wX4 q4 cI cJ cB parts_4 wins_4 draws_4 points_4 count_4 changes_4) := hD.sub (ws' := (wX5 q5 cI cJ cB f g seenChanges_5 seenPlayers_5 ++ wX4 q4 cI cJ cB parts_4 wins_4 draws_4 points_4 count_4 changes_4)) [0, 1, 2, 3, 4, 5, 6, 7] (by decide) rfl
            refine k_put (ci := 5) (ty := .int) (v := .int changes_4) (C := RX5) (Tb := TX5) (N := 4) (w' := (wX5 q5 cI cJ cB f g changes_4 seenPlayers_5 ++ wX4 q4 cI cJ cB parts_4 wins_4 draws_4 points_4 count_4 changes_4)) hx hb hts hu_5 tyX5 tyX5_ok nmX5 hown hKW hP hD hS 0 rfl rfl 2 (by decide) hf_18 rfl rfl (by decide +kernel) rfl rfl (Nat.le_of_ble_eq_true rfl) dX5_search_62 rfl (fun H locs hP hD hS => ?_)
            refine lv_aload_n hx hb dX5_search_65 rfl (lv_at hl 0 rfl) ?_
            refine lv_iload_n hx hb dX5_search_66 rfl (lv_at hl 2 rfl) ?_
            refine k_put (ci := 5) (ty := .int) (v := .int (nI n)) (C := RX5) (Tb := TX5) (N := 4) (w' := (wX5 q5 cI cJ cB f g changes_4 (nI n) ++ wX4 q4 cI cJ cB parts_4 wins_4 draws_4 points_4 count_4 changes_4)) hx hb hts hu_5 tyX5 tyX5_ok nmX5 hown hKW hP hD hS 0 rfl rfl 3 (by decide) hf_22 rfl rfl (by decide +kernel) rfl rfl (Nat.le_of_ble_eq_true rfl) dX5_search_67 rfl (fun H locs hP hD hS => ?_)
            subst hQ; subst hAe
            exact W.vret hx hb hr (fun tt9 ht9 _ => ⟨⟨(f, g, changes_4, nI n), rfl, ⟨rfl, rfl, hg⟩, by rw [ht9]; exact hP, hD⟩, hS.F ht9⟩) hS.2.2 dX5_search_70
          · skip
            have c_41 := k_gt_n (by omega) (by omega) c_41
            refine lv_aload_n hx hb dX5_search_44 rfl (lv_at hl 0 rfl) ?_
            refine lv_aload_n hx hb dX5_search_45 rfl (lv_at hl 1 rfl) ?_
            refine lv_iload_n hx hb dX5_search_46 rfl (lv_at hl 2 rfl) ?_
            refine lv_iload_n hx hb dX5_search_47 rfl (lv_at hl 3 rfl) ?_
            have hs_48 : kSplit (wX5 q5 cI cJ cB f g seenChanges_5 seenPlayers_5 ++ wX4 q4 cI cJ cB parts_4 wins_4 draws_4 points_4 count_4 changes_4) (wX5 q5 cI cJ cB f g seenChanges_5 seenPlayers_5 ++ wX4 q4 cI cJ cB parts_4 wins_4 draws_4 points_4 count_4 changes_4) ([] : va_W) [0, 1, 2, 3, 4, 5, 6, 7] [] := ⟨rfl, rfl, rfl, rfl, rfl, by decide⟩
            refine kc_v hP hD hS hA hs_48 (kV (As := [.ref (q4 0), .int (nI n), .int (nI S)]) (rest := []) hx hb hml hown hts hKW hP hD hs_48 (c_X5_settle l D cI cJ cB q5 q4 f g seenChanges_5 seenPlayers_5 parts_4 wins_4 draws_4 points_4 count_4 changes_4 ml n S (by first | assumption | omega) (by first | assumption | omega) (by first | assumption | omega)) (cwV 3 hts gX5_search_X5_settle rfl rfl rfl (by decide +kernel) ⟨Nat.le_of_ble_eq_true rfl, Nat.le_of_ble_eq_true rfl⟩) 0 5 rfl rfl rfl rfl hl.1 rfl (Nat.le_of_ble_eq_true rfl) dX5_search_48 ⟨Nat.zero_le _, Nat.zero_le _⟩) (fun u_48 H locs hw_48 hP hD hS => ?_)
            obtain ⟨least_5_48, many_5_48⟩ := u_48
            obtain ⟨e_least_5_48, e_many_5_48⟩ := hw_48
            have e_least_5_48 := e_least_5_48.symm
            subst e_least_5_48
            have e_many_5_48 := e_many_5_48.symm
            subst e_many_5_48
            have hP : va_P D vwCl (wX5 q5 cI cJ cB (upd f S (rwS ml n f g S).1) (upd g S (rwS ml n f g S).2) seenChanges_5 seenPlayers_5 ++ wX4 q4 cI cJ cB parts_4 wins_4 draws_4 points_4 count_4 changes_4) H := hP.sub (ws' := (wX5 q5 cI cJ cB (upd f S (rwS ml n f g S).1) (upd g S (rwS ml n f g S).2) seenChanges_5 seenPlayers_5 ++ wX4 q4 cI cJ cB parts_4 wins_4 draws_4 points_4 count_4 changes_4)) [0, 1, 2, 3, 4, 5, 6, 7] rfl
            have hD : va_D A (wX5 q5 cI cJ cB (upd f S (rwS ml n f g S).1) (upd g S (rwS ml n f g S).2) seenChanges_5 seenPlayers_5 ++ wX4 q4 cI cJ cB parts_4 wins_4 draws_4 points_4 count_4 changes_4) := hD.sub (ws' := (wX5 q5 cI cJ cB (upd f S (rwS ml n f g S).1) (upd g S (rwS ml n f g S).2) seenChanges_5 seenPlayers_5 ++ wX4 q4 cI cJ cB parts_4 wins_4 draws_4 points_4 count_4 changes_4)) [0, 1, 2, 3, 4, 5, 6, 7] (by decide) rfl
            refine lv_iinc (v := nI (S + 1)) (lv' := [(3, .int (nI (S + 1))), (0, .ref (q5 0)), (1, .ref (q4 0)), (2, .int (nI n))]) hx hb dX5_search_51 hl (k := 3) rfl (nI_add _ _) (by decide) rfl (fun ls hl => ?_)
            refine lv_goto (tgt := 36) hx hb dX5_search_54 (by decide) ?_
            exact ih_36 _ _ _ (by omega) (by omega) (RowOK_next (by omega) hg) (by omega) _ _ hP hD hS ls (lv_sub hl [1, 2, 3, 0] rfl)
      exact hL_36 _ 1 _ _ (Nat.le_refl _) (by omega) (⟨pk_us, pk_us, fun T h1 h2 => absurd h1 (by omega)⟩) (Nat.lt_succ_self _) _ _ hP hD hS ls (lv_sub hl [1, 2, 3, 0] rfl)
    · skip
      subst hQ; subst hAe
      exact W.vret hx hb hr (fun tt9 ht9 _ => ⟨⟨(least_5, many_5, seenChanges_5, seenPlayers_5), rfl, ⟨c_8, c_16, hcache c_8 c_16⟩, by rw [ht9]; exact hP, hD⟩, hS.F ht9⟩) hS.2.2 dX5_search_19
def rmX5_leastCost : Room := { frames := 1, cells := 0, slots := 0, locals := 20 }
set_option maxHeartbeats 4000000 in
set_option maxRecDepth 100000 in
theorem c_X5_leastCost (l : Launch) (D : va_G) (cI cJ cB : ClassId) (q5 : Nat → Nat) (least_5 : Nat → Int32) (many_5 : Nat → Int32) (seenChanges_5 : Int32) (seenPlayers_5 : Int32) (n : Nat) (hn10 : n ≤ 10) : ∀ sz, Met l yX5_leastCost wsX5_leastCost rmX5_leastCost (va_Pc [.ref (q5 0), .int (nI n)] (PW D (kT cI cJ cB) sz (wX5 q5 cI cJ cB least_5 many_5 seenChanges_5 seenPlayers_5))) (va_Qi (S := Unit) (fun r _ => r = least_5 (2 ^ n - 1)) (QW D sz (wX5 q5 cI cJ cB least_5 many_5 seenChanges_5 seenPlayers_5) (fun _ => (wX5 q5 cI cJ cB least_5 many_5 seenChanges_5 seenPlayers_5))) (va_A (wX5 q5 cI cJ cB least_5 many_5 seenChanges_5 seenPlayers_5) sz)) 0 0 (va_A (wX5 q5 cI cJ cB least_5 many_5 seenChanges_5 seenPlayers_5) sz) := by
  intro sz
  refine Met.ofW (cc := cX5_leastCost) (maxL := 2) (ret := (some .int)) (by decide) rfl ?_
  intro p e s m args below meth c s₁ B hml hv
  obtain ⟨hav, hsz, hP, hKW, hD0⟩ := hv
  have hx := B.exec
  have hb := B.bytes
  have hr := B.returns
  have hts := atoms_spec (ws := wsX5_leastCost) B.pre
  have hown : s.vm.findClass RX5 = some m.cls := findClass_of_methodNamed B.named
  have hlocks := B.notSynchronized
  subst hsz
  have hD := hD0.self (sz := s.heap.size)
  obtain ⟨A, hAe⟩ : ∃ A : Nat → Prop, A = va_A (wX5 q5 cI cJ cB least_5 many_5 seenChanges_5 seenPlayers_5) s.heap.size := ⟨_, rfl⟩
  rw [← hAe] at hD
  have hA : ∀ q : Nat, s.heap.size ≤ q → A q := fun q h => by rw [hAe]; exact Or.inr h
  have hS : va_S A s.heap s.heap [] := va_S.rf
  refine k_gen (fun Q hQ => ?_)
  have hl := lv_entry ([.ref (q5 0), .int (nI n)]) (n := 2) (Nat.le_of_ble_eq_true rfl)
  refine k_entry hav (lg_entry_eq ..) ?_
  generalize (lg_sl ([.ref (q5 0), .int (nI n)]) ++ List.replicate (2 - (lg_sl ([.ref (q5 0), .int (nI n)])).length) Slot.unset).toArray = ls at hl ⊢
  have hl : lv_has ls 2 [(0, .ref (q5 0)), (1, .int (nI n))] := hl
  have hu_5 : ∀ w ∈ u_ws RX5 TX5 4, w ∈ wsX5_leastCost := by decide +kernel
  have hf_9 : Cond.fieldLink RX5 9 "MeetingRanks$RowSearch" "least" "[I" ∈ wsX5_leastCost := by decide +kernel
  have h2n := pow_le_1024 hn10
  have h2p := Nat.two_pow_pos n
  refine lv_aload_n hx hb dX5_leastCost_0 rfl (lv_at hl 0 rfl) ?_
  refine k_get (ci := 5) (v := .ref (q5 1)) (C := RX5) (Tb := TX5) (N := 4) hx hb hts hu_5 hown hKW hP 0 rfl rfl 0 (by decide) hf_9 rfl rfl dX5_leastCost_1 ?_
  refine lv_iload_n hx hb dX5_leastCost_4 rfl (lv_at hl 1 rfl) ?_
  have hs_5 : kSplit (wX5 q5 cI cJ cB least_5 many_5 seenChanges_5 seenPlayers_5) ([] : va_W) (wX5 q5 cI cJ cB least_5 many_5 seenChanges_5 seenPlayers_5) [] [0, 1, 2] := ⟨rfl, rfl, rfl, rfl, rfl, by decide⟩
  refine kc_i hP hD hS hA hs_5 (kSN (n := 1) (As := [.int (nI n)]) (rest := [.ref (q5 1)]) (host := "MeetingRanks") hx hb hml hown hts hKW hP hD hs_5 (c_X9_everyone l D cI cJ cB n (by first | assumption | omega)) gX5_leastCost_X9_everyone_n25 rfl rfl rfl (by decide +kernel) (by decide +kernel) (by decide +kernel) (by decide +kernel) ⟨Nat.le_of_ble_eq_true rfl, Nat.le_of_ble_eq_true rfl⟩ rfl hl.1 rfl (Nat.le_of_ble_eq_true rfl) dX5_leastCost_5 ⟨Nat.zero_le _, Nat.zero_le _⟩) (fun r_5 u_5 H locs hw_5 hP hD hS => ?_)
  have er_5 := hw_5
  have er_5 := er_5.symm
  subst er_5
  have hP : va_P D vwCl (wX5 q5 cI cJ cB least_5 many_5 seenChanges_5 seenPlayers_5) H := hP.sub (ws' := (wX5 q5 cI cJ cB least_5 many_5 seenChanges_5 seenPlayers_5)) [0, 1, 2] rfl
  have hD : va_D A (wX5 q5 cI cJ cB least_5 many_5 seenChanges_5 seenPlayers_5) := hD.sub (ws' := (wX5 q5 cI cJ cB least_5 many_5 seenChanges_5 seenPlayers_5)) [0, 1, 2] (by decide) rfl
  refine k_iald (n := 1024) (i := 2 ^ n - 1) hx hb hKW hP 1 0 rfl rfl (by omega) (by omega) dX5_leastCost_8 ?_
  subst hQ; subst hAe
  exact W.iret (v := least_5 (2 ^ n - 1)) hx hb hr (fun tt9 ht9 _ => ⟨⟨least_5 (2 ^ n - 1), (), rfl, rfl, by rw [ht9]; exact hP, hD⟩, hS.F ht9⟩) hS.2.2 dX5_leastCost_9
def rmX5_howMany : Room := { frames := 1, cells := 0, slots := 0, locals := 20 }
set_option maxHeartbeats 4000000 in
set_option maxRecDepth 100000 in
theorem c_X5_howMany (l : Launch) (D : va_G) (cI cJ cB : ClassId) (q5 : Nat → Nat) (least_5 : Nat → Int32) (many_5 : Nat → Int32) (seenChanges_5 : Int32) (seenPlayers_5 : Int32) (n : Nat) (hn10 : n ≤ 10) : ∀ sz, Met l yX5_howMany wsX5_howMany rmX5_howMany (va_Pc [.ref (q5 0), .int (nI n)] (PW D (kT cI cJ cB) sz (wX5 q5 cI cJ cB least_5 many_5 seenChanges_5 seenPlayers_5))) (va_Qi (S := Unit) (fun r _ => r = many_5 (2 ^ n - 1)) (QW D sz (wX5 q5 cI cJ cB least_5 many_5 seenChanges_5 seenPlayers_5) (fun _ => (wX5 q5 cI cJ cB least_5 many_5 seenChanges_5 seenPlayers_5))) (va_A (wX5 q5 cI cJ cB least_5 many_5 seenChanges_5 seenPlayers_5) sz)) 0 0 (va_A (wX5 q5 cI cJ cB least_5 many_5 seenChanges_5 seenPlayers_5) sz) := by
  intro sz
  refine Met.ofW (cc := cX5_howMany) (maxL := 2) (ret := (some .int)) (by decide) rfl ?_
  intro p e s m args below meth c s₁ B hml hv
  obtain ⟨hav, hsz, hP, hKW, hD0⟩ := hv
  have hx := B.exec
  have hb := B.bytes
  have hr := B.returns
  have hts := atoms_spec (ws := wsX5_howMany) B.pre
  have hown : s.vm.findClass RX5 = some m.cls := findClass_of_methodNamed B.named
  have hlocks := B.notSynchronized
  subst hsz
  have hD := hD0.self (sz := s.heap.size)
  obtain ⟨A, hAe⟩ : ∃ A : Nat → Prop, A = va_A (wX5 q5 cI cJ cB least_5 many_5 seenChanges_5 seenPlayers_5) s.heap.size := ⟨_, rfl⟩
  rw [← hAe] at hD
  have hA : ∀ q : Nat, s.heap.size ≤ q → A q := fun q h => by rw [hAe]; exact Or.inr h
  have hS : va_S A s.heap s.heap [] := va_S.rf
  refine k_gen (fun Q hQ => ?_)
  have hl := lv_entry ([.ref (q5 0), .int (nI n)]) (n := 2) (Nat.le_of_ble_eq_true rfl)
  refine k_entry hav (lg_entry_eq ..) ?_
  generalize (lg_sl ([.ref (q5 0), .int (nI n)]) ++ List.replicate (2 - (lg_sl ([.ref (q5 0), .int (nI n)])).length) Slot.unset).toArray = ls at hl ⊢
  have hl : lv_has ls 2 [(0, .ref (q5 0)), (1, .int (nI n))] := hl
  have hu_5 : ∀ w ∈ u_ws RX5 TX5 4, w ∈ wsX5_howMany := by decide +kernel
  have hf_15 : Cond.fieldLink RX5 15 "MeetingRanks$RowSearch" "many" "[I" ∈ wsX5_howMany := by decide +kernel
  have h2n := pow_le_1024 hn10
  have h2p := Nat.two_pow_pos n
  refine lv_aload_n hx hb dX5_howMany_0 rfl (lv_at hl 0 rfl) ?_
  refine k_get (ci := 5) (v := .ref (q5 2)) (C := RX5) (Tb := TX5) (N := 4) hx hb hts hu_5 hown hKW hP 0 rfl rfl 1 (by decide) hf_15 rfl rfl dX5_howMany_1 ?_
  refine lv_iload_n hx hb dX5_howMany_4 rfl (lv_at hl 1 rfl) ?_
  have hs_5 : kSplit (wX5 q5 cI cJ cB least_5 many_5 seenChanges_5 seenPlayers_5) ([] : va_W) (wX5 q5 cI cJ cB least_5 many_5 seenChanges_5 seenPlayers_5) [] [0, 1, 2] := ⟨rfl, rfl, rfl, rfl, rfl, by decide⟩
  refine kc_i hP hD hS hA hs_5 (kSN (n := 1) (As := [.int (nI n)]) (rest := [.ref (q5 2)]) (host := "MeetingRanks") hx hb hml hown hts hKW hP hD hs_5 (c_X9_everyone l D cI cJ cB n (by first | assumption | omega)) gX5_howMany_X9_everyone_n25 rfl rfl rfl (by decide +kernel) (by decide +kernel) (by decide +kernel) (by decide +kernel) ⟨Nat.le_of_ble_eq_true rfl, Nat.le_of_ble_eq_true rfl⟩ rfl hl.1 rfl (Nat.le_of_ble_eq_true rfl) dX5_howMany_5 ⟨Nat.zero_le _, Nat.zero_le _⟩) (fun r_5 u_5 H locs hw_5 hP hD hS => ?_)
  have er_5 := hw_5
  have er_5 := er_5.symm
  subst er_5
  have hP : va_P D vwCl (wX5 q5 cI cJ cB least_5 many_5 seenChanges_5 seenPlayers_5) H := hP.sub (ws' := (wX5 q5 cI cJ cB least_5 many_5 seenChanges_5 seenPlayers_5)) [0, 1, 2] rfl
  have hD : va_D A (wX5 q5 cI cJ cB least_5 many_5 seenChanges_5 seenPlayers_5) := hD.sub (ws' := (wX5 q5 cI cJ cB least_5 many_5 seenChanges_5 seenPlayers_5)) [0, 1, 2] (by decide) rfl
  refine k_iald (n := 1024) (i := 2 ^ n - 1) hx hb hKW hP 2 0 rfl rfl (by omega) (by omega) dX5_howMany_8 ?_
  subst hQ; subst hAe
  exact W.iret (v := many_5 (2 ^ n - 1)) hx hb hr (fun tt9 ht9 _ => ⟨⟨many_5 (2 ^ n - 1), (), rfl, rfl, by rw [ht9]; exact hP, hD⟩, hS.F ht9⟩) hS.2.2 dX5_howMany_9
def rmX5_leastHead : Room := { frames := 2, cells := 0, slots := 0, locals := 48 }
set_option maxHeartbeats 4000000 in
set_option maxRecDepth 100000 in
theorem c_X5_leastHead (l : Launch) (D : va_G) (cI cJ cB : ClassId) (q5 : Nat → Nat) (q4 : Nat → Nat) (least_5 : Nat → Int32) (many_5 : Nat → Int32) (seenChanges_5 : Int32) (seenPlayers_5 : Int32) (parts_4 : Nat → Int32) (wins_4 : Nat → Int32) (draws_4 : Nat → Int32) (points_4 : Nat → Int32) (count_4 : Int32) (changes_4 : Int32) (ml : List Mt) (n : Nat) (S : Nat) (hM : MR parts_4 wins_4 draws_4 points_4 ml) (hn10 : n ≤ 10) (hS2 : S < 1024) : ∀ sz, Met l yX5_leastHead wsX5_leastHead rmX5_leastHead (va_Pc [.ref (q5 0), .ref (q4 0), .int (nI n), .int (nI S)] (PW D (kT cI cJ cB) sz (wX5 q5 cI cJ cB least_5 many_5 seenChanges_5 seenPlayers_5 ++ wX4 q4 cI cJ cB parts_4 wins_4 draws_4 points_4 count_4 changes_4))) (va_Qi (S := Unit) (fun r _ => r = nI (hdF ml n least_5 S)) (QW D sz (wX5 q5 cI cJ cB least_5 many_5 seenChanges_5 seenPlayers_5 ++ wX4 q4 cI cJ cB parts_4 wins_4 draws_4 points_4 count_4 changes_4) (fun _ => (wX5 q5 cI cJ cB least_5 many_5 seenChanges_5 seenPlayers_5 ++ wX4 q4 cI cJ cB parts_4 wins_4 draws_4 points_4 count_4 changes_4))) (va_A (wX5 q5 cI cJ cB least_5 many_5 seenChanges_5 seenPlayers_5 ++ wX4 q4 cI cJ cB parts_4 wins_4 draws_4 points_4 count_4 changes_4) sz)) 0 0 (va_A (wX5 q5 cI cJ cB least_5 many_5 seenChanges_5 seenPlayers_5 ++ wX4 q4 cI cJ cB parts_4 wins_4 draws_4 points_4 count_4 changes_4) sz) := by
  intro sz
  refine Met.ofW (cc := cX5_leastHead) (maxL := 6) (ret := (some .int)) (by decide) rfl ?_
  intro p e s m args below meth c s₁ B hml hv
  obtain ⟨hav, hsz, hP, hKW, hD0⟩ := hv
  have hx := B.exec
  have hb := B.bytes
  have hr := B.returns
  have hts := atoms_spec (ws := wsX5_leastHead) B.pre
  have hown : s.vm.findClass RX5 = some m.cls := findClass_of_methodNamed B.named
  have hlocks := B.notSynchronized
  subst hsz
  have hD := hD0.self (sz := s.heap.size)
  obtain ⟨A, hAe⟩ : ∃ A : Nat → Prop, A = va_A (wX5 q5 cI cJ cB least_5 many_5 seenChanges_5 seenPlayers_5 ++ wX4 q4 cI cJ cB parts_4 wins_4 draws_4 points_4 count_4 changes_4) s.heap.size := ⟨_, rfl⟩
  rw [← hAe] at hD
  have hA : ∀ q : Nat, s.heap.size ≤ q → A q := fun q h => by rw [hAe]; exact Or.inr h
  have hS : va_S A s.heap s.heap [] := va_S.rf
  refine k_gen (fun Q hQ => ?_)
  have hl := lv_entry ([.ref (q5 0), .ref (q4 0), .int (nI n), .int (nI S)]) (n := 6) (Nat.le_of_ble_eq_true rfl)
  refine k_entry hav (lg_entry_eq ..) ?_
  generalize (lg_sl ([.ref (q5 0), .ref (q4 0), .int (nI n), .int (nI S)]) ++ List.replicate (6 - (lg_sl ([.ref (q5 0), .ref (q4 0), .int (nI n), .int (nI S)])).length) Slot.unset).toArray = ls at hl ⊢
  have hl : lv_has ls 6 [(0, .ref (q5 0)), (1, .ref (q4 0)), (2, .int (nI n)), (3, .int (nI S))] := hl
  have hu_5 : ∀ w ∈ u_ws RX5 TX5 4, w ∈ wsX5_leastHead := by decide +kernel
  have hf_9 : Cond.fieldLink RX5 9 "MeetingRanks$RowSearch" "least" "[I" ∈ wsX5_leastHead := by decide +kernel
  refine lv_iconst (v := nI 0) hx hb dX5_leastHead_0 (by decide) ?_
  refine lv_istore (lv' := [(4, .int (nI 0)), (0, .ref (q5 0)), (1, .ref (q4 0)), (2, .int (nI n)), (3, .int (nI S))]) hx hb dX5_leastHead_1 hl (by decide) rfl (fun ls hl => ?_)
  have hL_3 : ∀ (fu : Nat) (h : Nat) (hh : h ≤ n) (hv : srch (fun h => S.testBit h && decide (least_5 (S - 2 ^ h) + caI ml n h (S - 2 ^ h) = least_5 S)) 0 n = srch (fun h => S.testBit h && decide (least_5 (S - 2 ^ h) + caI ml n h (S - 2 ^ h) = least_5 S)) h (n - h)), n - h < fu → ∀ (H : Heap) (locs : List Loc), va_P D vwCl (wX5 q5 cI cJ cB least_5 many_5 seenChanges_5 seenPlayers_5 ++ wX4 q4 cI cJ cB parts_4 wins_4 draws_4 points_4 count_4 changes_4) H → va_D A (wX5 q5 cI cJ cB least_5 many_5 seenChanges_5 seenPlayers_5 ++ wX4 q4 cI cJ cB parts_4 wins_4 draws_4 points_4 count_4 changes_4) → va_S A s.heap H locs → ∀ (ls : Array Slot), lv_has ls 6 [(0, .ref (q5 0)), (1, .ref (q4 0)), (2, .int (nI n)), (3, .int (nI S)), (4, .int (nI h))] → W p l e (headSpec wsX5_leastHead rmX5_leastHead).room s m args below meth c H locs 0 0 Q (F0 m 3 ls []) := by
    intro fu
    induction fu with
    | zero => intro h hh hv hfu; exact absurd hfu (Nat.not_lt_zero _)
    | succ fu ih_3 =>
      intro h hh hv hfu H locs hP hD hS ls hl
      have hpk := Nat.two_pow_pos h
      have hcl9 : (if S.testBit h = true then S - 2 ^ h else S) ≤ S := clr_le S h
      refine lv_iload hx hb dX5_leastHead_3 (lv_at hl 4 rfl) ?_
      refine lv_iload_n hx hb dX5_leastHead_5 rfl (lv_at hl 2 rfl) ?_
      refine lv_icmp_ge (tgt := 61) hx hb dX5_leastHead_6 (by decide) (fun c_6 => ?_) (fun c_6 => ?_)
      · skip
        have c_6 := k_ge (by omega) (by omega) c_6
        refine lv_iconst (v := nI 0) hx hb dX5_leastHead_61 (by decide) ?_
        subst hQ; subst hAe
        exact W.iret (v := nI 0) hx hb hr (fun tt9 ht9 _ => ⟨⟨nI 0, (), rfl, by unfold hdF; rw [hv, show n - h = 0 by omega]; rfl, by rw [ht9]; exact hP, hD⟩, hS.F ht9⟩) hS.2.2 dX5_leastHead_62
      · skip
        have c_6 := k_ge_n (by omega) (by omega) c_6
        refine lv_iload_n hx hb dX5_leastHead_9 rfl (lv_at hl 3 rfl) ?_
        refine lv_iconst (v := nI 1) hx hb dX5_leastHead_10 (by decide) ?_
        refine lv_iload hx hb dX5_leastHead_11 (lv_at hl 4 rfl) ?_
        refine lv_ishl hx hb dX5_leastHead_13 ?_
        refine k_top (y := nI (2 ^ h)) (k_shl1 (by omega)) ?_
        refine lv_iconst (v := (-1)) hx hb dX5_leastHead_14 (by decide) ?_
        refine lv_ixor hx hb dX5_leastHead_15 ?_
        refine lv_iand hx hb dX5_leastHead_16 ?_
        refine k_top (y := nI (if S.testBit h = true then S - 2 ^ h else S)) (k_clr _ _ (by omega) (by omega)) ?_
        refine lv_istore (lv' := [(5, .int (nI (if S.testBit h = true then S - 2 ^ h else S))), (0, .ref (q5 0)), (1, .ref (q4 0)), (2, .int (nI n)), (3, .int (nI S)), (4, .int (nI h))]) hx hb dX5_leastHead_17 hl (by decide) rfl (fun ls hl => ?_)
        refine lv_iload hx hb dX5_leastHead_19 (lv_at hl 0 rfl) ?_
        refine lv_iload_n hx hb dX5_leastHead_21 rfl (lv_at hl 4 rfl) ?_
        refine lv_icmp_eq (tgt := 55) hx hb dX5_leastHead_22 (by decide) (fun c_22 => ?_) (fun c_22 => ?_)
        · skip
          have c_22 := k_eq (by omega) (by omega) c_22
          have hb9 : ¬ (S.testBit h && decide (least_5 (S - 2 ^ h) + caI ml n h (S - 2 ^ h) = least_5 S)) = true := fun z => by rw [Bool.and_eq_true] at z; rw [if_pos z.1] at c_22; have := Nat.two_pow_pos h; have := two_le_of_bit z.1; omega
          refine lv_iinc (v := nI (h + 1)) (lv' := [(4, .int (nI (h + 1))), (5, .int (nI (if S.testBit h = true then S - 2 ^ h else S))), (0, .ref (q5 0)), (1, .ref (q4 0)), (2, .int (nI n)), (3, .int (nI S))]) hx hb dX5_leastHead_55 hl (k := 5) rfl (nI_add _ _) (by decide) rfl (fun ls hl => ?_)
          refine lv_goto (tgt := 3) hx hb dX5_leastHead_58 (by decide) ?_
          exact ih_3 _ (by omega) (by rw [hv, show n - h = (n - (h + 1)) + 1 by omega]; exact srch_no hb9) (by omega) _ _ hP hD hS ls (lv_sub hl [2, 3, 4, 5, 0] rfl)
        · skip
          have c_22 := k_eq_n (by omega) (by omega) c_22
          have hb8 : S.testBit h = true := (Bool.eq_false_or_eq_true _).elim id (fun z => absurd (by rw [z]; rfl) c_22)
          rw [if_pos hb8] at hl
          refine lv_aload_n hx hb dX5_leastHead_25 rfl (lv_at hl 1 rfl) ?_
          refine k_get (ci := 5) (v := .ref (q5 1)) (C := RX5) (Tb := TX5) (N := 4) hx hb hts hu_5 hown hKW hP 0 rfl rfl 0 (by decide) hf_9 rfl rfl dX5_leastHead_26 ?_
          refine lv_iload hx hb dX5_leastHead_29 (lv_at hl 0 rfl) ?_
          refine k_iald (n := 1024) (i := S - 2 ^ h) hx hb hKW hP 1 0 rfl rfl (by omega) (by omega) dX5_leastHead_31 ?_
          refine lv_aload_n hx hb dX5_leastHead_32 rfl (lv_at hl 1 rfl) ?_
          refine lv_aload_n hx hb dX5_leastHead_33 rfl (lv_at hl 2 rfl) ?_
          refine lv_iload_n hx hb dX5_leastHead_34 rfl (lv_at hl 3 rfl) ?_
          refine lv_iload hx hb dX5_leastHead_35 (lv_at hl 5 rfl) ?_
          refine lv_iload hx hb dX5_leastHead_37 (lv_at hl 0 rfl) ?_
          have hs_39 : kSplit (wX5 q5 cI cJ cB least_5 many_5 seenChanges_5 seenPlayers_5 ++ wX4 q4 cI cJ cB parts_4 wins_4 draws_4 points_4 count_4 changes_4) (wX5 q5 cI cJ cB least_5 many_5 seenChanges_5 seenPlayers_5 ++ wX4 q4 cI cJ cB parts_4 wins_4 draws_4 points_4 count_4 changes_4) ([] : va_W) [0, 1, 2, 3, 4, 5, 6, 7] [] := ⟨rfl, rfl, rfl, rfl, rfl, by decide⟩
          refine kc_i hP hD hS hA hs_39 (kV (As := [.ref (q4 0), .int (nI n), .int (nI h), .int (nI (S - 2 ^ h))]) (rest := [.int (least_5 (S - 2 ^ h))]) hx hb hml hown hts hKW hP hD hs_39 (c_X5_costAhead l D cI cJ cB q5 q4 least_5 many_5 seenChanges_5 seenPlayers_5 parts_4 wins_4 draws_4 points_4 count_4 changes_4 ml n h (S - 2 ^ h) (by first | assumption | omega) (by first | assumption | omega) (by first | assumption | omega) (by first | assumption | omega)) (cwV 4 hts gX5_leastHead_X5_costAhead rfl rfl rfl (by decide +kernel) ⟨Nat.le_of_ble_eq_true rfl, Nat.le_of_ble_eq_true rfl⟩) 0 5 rfl rfl rfl rfl hl.1 rfl (Nat.le_of_ble_eq_true rfl) dX5_leastHead_39 ⟨Nat.zero_le _, Nat.zero_le _⟩) (fun r_39 u_39 H locs hw_39 hP hD hS => ?_)
          have er_39 := hw_39
          have er_39 := er_39.symm
          subst er_39
          have hP : va_P D vwCl (wX5 q5 cI cJ cB least_5 many_5 seenChanges_5 seenPlayers_5 ++ wX4 q4 cI cJ cB parts_4 wins_4 draws_4 points_4 count_4 changes_4) H := hP.sub (ws' := (wX5 q5 cI cJ cB least_5 many_5 seenChanges_5 seenPlayers_5 ++ wX4 q4 cI cJ cB parts_4 wins_4 draws_4 points_4 count_4 changes_4)) [0, 1, 2, 3, 4, 5, 6, 7] rfl
          have hD : va_D A (wX5 q5 cI cJ cB least_5 many_5 seenChanges_5 seenPlayers_5 ++ wX4 q4 cI cJ cB parts_4 wins_4 draws_4 points_4 count_4 changes_4) := hD.sub (ws' := (wX5 q5 cI cJ cB least_5 many_5 seenChanges_5 seenPlayers_5 ++ wX4 q4 cI cJ cB parts_4 wins_4 draws_4 points_4 count_4 changes_4)) [0, 1, 2, 3, 4, 5, 6, 7] (by decide) rfl
          refine lv_iadd hx hb dX5_leastHead_42 ?_
          refine lv_aload_n hx hb dX5_leastHead_43 rfl (lv_at hl 1 rfl) ?_
          refine k_get (ci := 5) (v := .ref (q5 1)) (C := RX5) (Tb := TX5) (N := 4) hx hb hts hu_5 hown hKW hP 0 rfl rfl 0 (by decide) hf_9 rfl rfl dX5_leastHead_44 ?_
          refine lv_iload_n hx hb dX5_leastHead_47 rfl (lv_at hl 4 rfl) ?_
          refine k_iald (n := 1024) (i := S) hx hb hKW hP 1 0 rfl rfl (by omega) (by omega) dX5_leastHead_48 ?_
          refine lv_icmp_ne (tgt := 55) hx hb dX5_leastHead_49 (by decide) (fun c_49 => ?_) (fun c_49 => ?_)
          · skip
            have hb9 : ¬ (S.testBit h && decide (least_5 (S - 2 ^ h) + caI ml n h (S - 2 ^ h) = least_5 S)) = true := fun z => by rw [Bool.and_eq_true] at z; exact c_49 (of_decide_eq_true z.2)
            refine lv_iinc (v := nI (h + 1)) (lv' := [(4, .int (nI (h + 1))), (5, .int (nI (S - 2 ^ h))), (0, .ref (q5 0)), (1, .ref (q4 0)), (2, .int (nI n)), (3, .int (nI S))]) hx hb dX5_leastHead_55 hl (k := 5) rfl (nI_add _ _) (by decide) rfl (fun ls hl => ?_)
            refine lv_goto (tgt := 3) hx hb dX5_leastHead_58 (by decide) ?_
            exact ih_3 _ (by omega) (by rw [hv, show n - h = (n - (h + 1)) + 1 by omega]; exact srch_no hb9) (by omega) _ _ hP hD hS ls (lv_sub hl [2, 3, 4, 5, 0] rfl)
          · skip
            refine lv_iload hx hb dX5_leastHead_52 (lv_at hl 5 rfl) ?_
            subst hQ; subst hAe
            exact W.iret (v := nI h) hx hb hr (fun tt9 ht9 _ => ⟨⟨nI h, (), rfl, by unfold hdF; rw [hv, show n - h = (n - (h + 1)) + 1 by omega, srch_yes (by rw [hb8, Bool.true_and]; exact decide_eq_true c_49)]; rfl, by rw [ht9]; exact hP, hD⟩, hS.F ht9⟩) hS.2.2 dX5_leastHead_54
  exact hL_3 _ 0 (Nat.zero_le _) rfl (Nat.lt_succ_self _) _ _ hP hD hS ls (lv_sub hl [1, 2, 3, 4, 0] rfl)
def rmX5_leastRow : Room := { frames := 3, cells := 0, slots := 0, locals := 73 }
set_option maxHeartbeats 4000000 in
set_option maxRecDepth 100000 in
theorem c_X5_leastRow (l : Launch) (D : va_G) (cI cJ cB : ClassId) (q5 : Nat → Nat) (q4 : Nat → Nat) (least_5 : Nat → Int32) (many_5 : Nat → Int32) (seenChanges_5 : Int32) (seenPlayers_5 : Int32) (parts_4 : Nat → Int32) (wins_4 : Nat → Int32) (draws_4 : Nat → Int32) (points_4 : Nat → Int32) (count_4 : Int32) (changes_4 : Int32) (ml : List Mt) (n : Nat) (hM : MR parts_4 wins_4 draws_4 points_4 ml) (hn1 : 1 ≤ n) (hn10 : n ≤ 10) : ∀ sz, Met l yX5_leastRow wsX5_leastRow rmX5_leastRow (va_Pc [.ref (q5 0), .ref (q4 0), .int (nI n)] (PW D (kT cI cJ cB) sz (wX5 q5 cI cJ cB least_5 many_5 seenChanges_5 seenPlayers_5 ++ wX4 q4 cI cJ cB parts_4 wins_4 draws_4 points_4 count_4 changes_4))) (va_Ql (S := Unit) (fun r _ => r = (rwF (hdF ml n least_5) (2 ^ n - 1) n).1) (QW D sz (wX5 q5 cI cJ cB least_5 many_5 seenChanges_5 seenPlayers_5 ++ wX4 q4 cI cJ cB parts_4 wins_4 draws_4 points_4 count_4 changes_4) (fun _ => (wX5 q5 cI cJ cB least_5 many_5 seenChanges_5 seenPlayers_5 ++ wX4 q4 cI cJ cB parts_4 wins_4 draws_4 points_4 count_4 changes_4))) (va_A (wX5 q5 cI cJ cB least_5 many_5 seenChanges_5 seenPlayers_5 ++ wX4 q4 cI cJ cB parts_4 wins_4 draws_4 points_4 count_4 changes_4) sz)) 0 0 (va_A (wX5 q5 cI cJ cB least_5 many_5 seenChanges_5 seenPlayers_5 ++ wX4 q4 cI cJ cB parts_4 wins_4 draws_4 points_4 count_4 changes_4) sz) := by
  intro sz
  refine Met.ofW (cc := cX5_leastRow) (maxL := 8) (ret := (some .long)) (by decide) rfl ?_
  intro p e s m args below meth c s₁ B hml hv
  obtain ⟨hav, hsz, hP, hKW, hD0⟩ := hv
  have hx := B.exec
  have hb := B.bytes
  have hr := B.returns
  have hts := atoms_spec (ws := wsX5_leastRow) B.pre
  have hown : s.vm.findClass RX5 = some m.cls := findClass_of_methodNamed B.named
  have hlocks := B.notSynchronized
  subst hsz
  have hD := hD0.self (sz := s.heap.size)
  obtain ⟨A, hAe⟩ : ∃ A : Nat → Prop, A = va_A (wX5 q5 cI cJ cB least_5 many_5 seenChanges_5 seenPlayers_5 ++ wX4 q4 cI cJ cB parts_4 wins_4 draws_4 points_4 count_4 changes_4) s.heap.size := ⟨_, rfl⟩
  rw [← hAe] at hD
  have hA : ∀ q : Nat, s.heap.size ≤ q → A q := fun q h => by rw [hAe]; exact Or.inr h
  have hS : va_S A s.heap s.heap [] := va_S.rf
  refine k_gen (fun Q hQ => ?_)
  have hl := lv_entry ([.ref (q5 0), .ref (q4 0), .int (nI n)]) (n := 8) (Nat.le_of_ble_eq_true rfl)
  refine k_entry hav (lg_entry_eq ..) ?_
  generalize (lg_sl ([.ref (q5 0), .ref (q4 0), .int (nI n)]) ++ List.replicate (8 - (lg_sl ([.ref (q5 0), .ref (q4 0), .int (nI n)])).length) Slot.unset).toArray = ls at hl ⊢
  have hl : lv_has ls 8 [(0, .ref (q5 0)), (1, .ref (q4 0)), (2, .int (nI n))] := hl
  have h2n := pow_le_1024 hn10
  have h2p := Nat.two_pow_pos n
  refine lv_lconst (v := 0) hx hb dX5_leastRow_0 (by decide) ?_
  refine lv_lstore_n (lv' := [(3, .long (0 : Int64)), (0, .ref (q5 0)), (1, .ref (q4 0)), (2, .int (nI n))]) hx hb dX5_leastRow_1 rfl hl (by decide) rfl (fun ls hl => ?_)
  refine lv_iload_n hx hb dX5_leastRow_2 rfl (lv_at hl 3 rfl) ?_
  have hs_3 : kSplit (wX5 q5 cI cJ cB least_5 many_5 seenChanges_5 seenPlayers_5 ++ wX4 q4 cI cJ cB parts_4 wins_4 draws_4 points_4 count_4 changes_4) ([] : va_W) (wX5 q5 cI cJ cB least_5 many_5 seenChanges_5 seenPlayers_5 ++ wX4 q4 cI cJ cB parts_4 wins_4 draws_4 points_4 count_4 changes_4) [] [0, 1, 2, 3, 4, 5, 6, 7] := ⟨rfl, rfl, rfl, rfl, rfl, by decide⟩
  refine kc_i hP hD hS hA hs_3 (kSN (n := 1) (As := [.int (nI n)]) (rest := []) (host := "MeetingRanks") hx hb hml hown hts hKW hP hD hs_3 (c_X9_everyone l D cI cJ cB n (by first | assumption | omega)) gX5_leastRow_X9_everyone_n25 rfl rfl rfl (by decide +kernel) (by decide +kernel) (by decide +kernel) (by decide +kernel) ⟨Nat.le_of_ble_eq_true rfl, Nat.le_of_ble_eq_true rfl⟩ rfl hl.1 rfl (Nat.le_of_ble_eq_true rfl) dX5_leastRow_3 ⟨Nat.zero_le _, Nat.zero_le _⟩) (fun r_3 u_3 H locs hw_3 hP hD hS => ?_)
  have er_3 := hw_3
  have er_3 := er_3.symm
  subst er_3
  have hP : va_P D vwCl (wX5 q5 cI cJ cB least_5 many_5 seenChanges_5 seenPlayers_5 ++ wX4 q4 cI cJ cB parts_4 wins_4 draws_4 points_4 count_4 changes_4) H := hP.sub (ws' := (wX5 q5 cI cJ cB least_5 many_5 seenChanges_5 seenPlayers_5 ++ wX4 q4 cI cJ cB parts_4 wins_4 draws_4 points_4 count_4 changes_4)) [0, 1, 2, 3, 4, 5, 6, 7] rfl
  have hD : va_D A (wX5 q5 cI cJ cB least_5 many_5 seenChanges_5 seenPlayers_5 ++ wX4 q4 cI cJ cB parts_4 wins_4 draws_4 points_4 count_4 changes_4) := hD.sub (ws' := (wX5 q5 cI cJ cB least_5 many_5 seenChanges_5 seenPlayers_5 ++ wX4 q4 cI cJ cB parts_4 wins_4 draws_4 points_4 count_4 changes_4)) [0, 1, 2, 3, 4, 5, 6, 7] (by decide) rfl
  refine lv_istore (lv' := [(5, .int (nI (2 ^ n - 1))), (3, .long (0 : Int64)), (0, .ref (q5 0)), (1, .ref (q4 0)), (2, .int (nI n))]) hx hb dX5_leastRow_6 hl (by decide) rfl (fun ls hl => ?_)
  refine lv_iconst (v := nI 0) hx hb dX5_leastRow_8 (by decide) ?_
  refine lv_istore (lv' := [(6, .int (nI 0)), (5, .int (nI (2 ^ n - 1))), (3, .long (0 : Int64)), (0, .ref (q5 0)), (1, .ref (q4 0)), (2, .int (nI n))]) hx hb dX5_leastRow_9 hl (by decide) rfl (fun ls hl => ?_)
  have hL_11 : ∀ (fu : Nat) (k : Nat) (hk : k ≤ n), n - k < fu → ∀ (H : Heap) (locs : List Loc), va_P D vwCl (wX5 q5 cI cJ cB least_5 many_5 seenChanges_5 seenPlayers_5 ++ wX4 q4 cI cJ cB parts_4 wins_4 draws_4 points_4 count_4 changes_4) H → va_D A (wX5 q5 cI cJ cB least_5 many_5 seenChanges_5 seenPlayers_5 ++ wX4 q4 cI cJ cB parts_4 wins_4 draws_4 points_4 count_4 changes_4) → va_S A s.heap H locs → ∀ (ls : Array Slot), lv_has ls 8 [(0, .ref (q5 0)), (1, .ref (q4 0)), (2, .int (nI n)), (3, .long ((rwF (hdF ml n least_5) (2 ^ n - 1) k).1)), (5, .int (nI ((rwF (hdF ml n least_5) (2 ^ n - 1) k).2))), (6, .int (nI k))] → W p l e (headSpec wsX5_leastRow rmX5_leastRow).room s m args below meth c H locs 0 0 Q (F0 m 11 ls []) := by
    intro fu
    induction fu with
    | zero => intro k hk hfu; exact absurd hfu (Nat.not_lt_zero _)
    | succ fu ih_11 =>
      intro k hk hfu H locs hP hD hS ls hl
      have hle9 := rwF_le (hdF ml n least_5) (2 ^ n - 1) k
      have hlt9 := hdF_lt (ml := ml) (n := n) (S := (rwF (hdF ml n least_5) (2 ^ n - 1) k).2) (least := least_5) (by omega)
      refine lv_iload hx hb dX5_leastRow_11 (lv_at hl 5 rfl) ?_
      refine lv_iload_n hx hb dX5_leastRow_13 rfl (lv_at hl 2 rfl) ?_
      refine lv_icmp_ge (tgt := 54) hx hb dX5_leastRow_14 (by decide) (fun c_14 => ?_) (fun c_14 => ?_)
      · skip
        have c_14 := k_ge (by omega) (by omega) c_14
        obtain rfl : n = k := by omega
        refine lv_lload_n hx hb dX5_leastRow_54 rfl (lv_at hl 3 rfl) ?_
        subst hQ; subst hAe
        exact W.lret (v := (rwF (hdF ml n least_5) (2 ^ n - 1) n).1) hx hb hr (fun tt9 ht9 _ => ⟨⟨(rwF (hdF ml n least_5) (2 ^ n - 1) n).1, (), rfl, rfl, by rw [ht9]; exact hP, hD⟩, hS.F ht9⟩) hS.2.2 dX5_leastRow_55
      · skip
        have c_14 := k_ge_n (by omega) (by omega) c_14
        refine lv_aload_n hx hb dX5_leastRow_17 rfl (lv_at hl 0 rfl) ?_
        refine lv_aload_n hx hb dX5_leastRow_18 rfl (lv_at hl 1 rfl) ?_
        refine lv_iload_n hx hb dX5_leastRow_19 rfl (lv_at hl 2 rfl) ?_
        refine lv_iload hx hb dX5_leastRow_20 (lv_at hl 4 rfl) ?_
        have hs_22 : kSplit (wX5 q5 cI cJ cB least_5 many_5 seenChanges_5 seenPlayers_5 ++ wX4 q4 cI cJ cB parts_4 wins_4 draws_4 points_4 count_4 changes_4) (wX5 q5 cI cJ cB least_5 many_5 seenChanges_5 seenPlayers_5 ++ wX4 q4 cI cJ cB parts_4 wins_4 draws_4 points_4 count_4 changes_4) ([] : va_W) [0, 1, 2, 3, 4, 5, 6, 7] [] := ⟨rfl, rfl, rfl, rfl, rfl, by decide⟩
        refine kc_i hP hD hS hA hs_22 (kV (As := [.ref (q4 0), .int (nI n), .int (nI ((rwF (hdF ml n least_5) (2 ^ n - 1) k).2))]) (rest := []) hx hb hml hown hts hKW hP hD hs_22 (c_X5_leastHead l D cI cJ cB q5 q4 least_5 many_5 seenChanges_5 seenPlayers_5 parts_4 wins_4 draws_4 points_4 count_4 changes_4 ml n ((rwF (hdF ml n least_5) (2 ^ n - 1) k).2) (by first | assumption | omega) (by first | assumption | omega) (by first | assumption | omega)) (cwV 3 hts gX5_leastRow_X5_leastHead rfl rfl rfl (by decide +kernel) ⟨Nat.le_of_ble_eq_true rfl, Nat.le_of_ble_eq_true rfl⟩) 0 5 rfl rfl rfl rfl hl.1 rfl (Nat.le_of_ble_eq_true rfl) dX5_leastRow_22 ⟨Nat.zero_le _, Nat.zero_le _⟩) (fun r_22 u_22 H locs hw_22 hP hD hS => ?_)
        have er_22 := hw_22
        have er_22 := er_22.symm
        subst er_22
        have hP : va_P D vwCl (wX5 q5 cI cJ cB least_5 many_5 seenChanges_5 seenPlayers_5 ++ wX4 q4 cI cJ cB parts_4 wins_4 draws_4 points_4 count_4 changes_4) H := hP.sub (ws' := (wX5 q5 cI cJ cB least_5 many_5 seenChanges_5 seenPlayers_5 ++ wX4 q4 cI cJ cB parts_4 wins_4 draws_4 points_4 count_4 changes_4)) [0, 1, 2, 3, 4, 5, 6, 7] rfl
        have hD : va_D A (wX5 q5 cI cJ cB least_5 many_5 seenChanges_5 seenPlayers_5 ++ wX4 q4 cI cJ cB parts_4 wins_4 draws_4 points_4 count_4 changes_4) := hD.sub (ws' := (wX5 q5 cI cJ cB least_5 many_5 seenChanges_5 seenPlayers_5 ++ wX4 q4 cI cJ cB parts_4 wins_4 draws_4 points_4 count_4 changes_4)) [0, 1, 2, 3, 4, 5, 6, 7] (by decide) rfl
        refine lv_istore (lv' := [(7, .int (nI (hdF ml n least_5 ((rwF (hdF ml n least_5) (2 ^ n - 1) k).2)))), (0, .ref (q5 0)), (1, .ref (q4 0)), (2, .int (nI n)), (3, .long ((rwF (hdF ml n least_5) (2 ^ n - 1) k).1)), (5, .int (nI ((rwF (hdF ml n least_5) (2 ^ n - 1) k).2))), (6, .int (nI k))]) hx hb dX5_leastRow_25 hl (by decide) rfl (fun ls hl => ?_)
        refine lv_lload_n hx hb dX5_leastRow_27 rfl (lv_at hl 4 rfl) ?_
        refine lv_ldc2 (v := (10 : Int64)) hx hb hown (hts (.constantLong RX5 43 (10)) (by decide +kernel)) dX5_leastRow_28 ?_
        refine lv_lmul hx hb dX5_leastRow_31 ?_
        refine lv_iload hx hb dX5_leastRow_32 (lv_at hl 0 rfl) ?_
        refine lv_i2l (v := (nI (hdF ml n least_5 ((rwF (hdF ml n least_5) (2 ^ n - 1) k).2))).toInt64) hx hb dX5_leastRow_34 rfl ?_
        refine lv_ladd hx hb dX5_leastRow_35 ?_
        refine lv_lstore_n (lv' := [(3, .long ((((rwF (hdF ml n least_5) (2 ^ n - 1) k).1) * (10 : Int64)) + ((nI (hdF ml n least_5 ((rwF (hdF ml n least_5) (2 ^ n - 1) k).2))).toInt64))), (7, .int (nI (hdF ml n least_5 ((rwF (hdF ml n least_5) (2 ^ n - 1) k).2)))), (0, .ref (q5 0)), (1, .ref (q4 0)), (2, .int (nI n)), (5, .int (nI ((rwF (hdF ml n least_5) (2 ^ n - 1) k).2))), (6, .int (nI k))]) hx hb dX5_leastRow_36 rfl hl (by decide) rfl (fun ls hl => ?_)
        refine lv_iload hx hb dX5_leastRow_37 (lv_at hl 5 rfl) ?_
        refine lv_iconst (v := nI 1) hx hb dX5_leastRow_39 (by decide) ?_
        refine lv_iload hx hb dX5_leastRow_40 (lv_at hl 1 rfl) ?_
        refine lv_ishl hx hb dX5_leastRow_42 ?_
        refine k_top (y := nI (2 ^ hdF ml n least_5 (rwF (hdF ml n least_5) (2 ^ n - 1) k).2)) (k_shl1 (by omega)) ?_
        refine lv_iconst (v := (-1)) hx hb dX5_leastRow_43 (by decide) ?_
        refine lv_ixor hx hb dX5_leastRow_44 ?_
        refine lv_iand hx hb dX5_leastRow_45 ?_
        refine k_top (y := nI (clr (rwF (hdF ml n least_5) (2 ^ n - 1) k).2 (hdF ml n least_5 (rwF (hdF ml n least_5) (2 ^ n - 1) k).2))) (by rw [k_clr _ _ (by omega) (by omega)]; rfl) ?_
        refine lv_istore (lv' := [(5, .int (nI (clr (rwF (hdF ml n least_5) (2 ^ n - 1) k).2 (hdF ml n least_5 (rwF (hdF ml n least_5) (2 ^ n - 1) k).2)))), (3, .long ((((rwF (hdF ml n least_5) (2 ^ n - 1) k).1) * (10 : Int64)) + ((nI (hdF ml n least_5 ((rwF (hdF ml n least_5) (2 ^ n - 1) k).2))).toInt64))), (7, .int (nI (hdF ml n least_5 ((rwF (hdF ml n least_5) (2 ^ n - 1) k).2)))), (0, .ref (q5 0)), (1, .ref (q4 0)), (2, .int (nI n)), (6, .int (nI k))]) hx hb dX5_leastRow_46 hl (by decide) rfl (fun ls hl => ?_)
        refine lv_iinc (v := nI (k + 1)) (lv' := [(6, .int (nI (k + 1))), (5, .int (nI (clr (rwF (hdF ml n least_5) (2 ^ n - 1) k).2 (hdF ml n least_5 (rwF (hdF ml n least_5) (2 ^ n - 1) k).2)))), (3, .long ((((rwF (hdF ml n least_5) (2 ^ n - 1) k).1) * (10 : Int64)) + ((nI (hdF ml n least_5 ((rwF (hdF ml n least_5) (2 ^ n - 1) k).2))).toInt64))), (7, .int (nI (hdF ml n least_5 ((rwF (hdF ml n least_5) (2 ^ n - 1) k).2)))), (0, .ref (q5 0)), (1, .ref (q4 0)), (2, .int (nI n))]) hx hb dX5_leastRow_48 hl (k := 6) rfl (nI_add _ _) (by decide) rfl (fun ls hl => ?_)
        refine lv_goto (tgt := 11) hx hb dX5_leastRow_51 (by decide) ?_
        exact ih_11 (k + 1) (by omega) (by omega) _ _ hP hD hS ls (lv_sub hl [4, 5, 6, 2, 1, 0] rfl)
  exact hL_11 _ 0 (Nat.zero_le _) (Nat.lt_succ_self _) _ _ hP hD hS ls (lv_sub hl [3, 4, 5, 2, 1, 0] rfl)
def rmX5_costOf : Room := { frames := 2, cells := 0, slots := 0, locals := 48 }
set_option maxHeartbeats 4000000 in
set_option maxRecDepth 100000 in
theorem c_X5_costOf (l : Launch) (D : va_G) (cI cJ cB : ClassId) (q5 : Nat → Nat) (q4 : Nat → Nat) (least_5 : Nat → Int32) (many_5 : Nat → Int32) (seenChanges_5 : Int32) (seenPlayers_5 : Int32) (parts_4 : Nat → Int32) (wins_4 : Nat → Int32) (draws_4 : Nat → Int32) (points_4 : Nat → Int32) (count_4 : Int32) (changes_4 : Int32) (ml : List Mt) (n : Nat) (x : Int64) (hM : MR parts_4 wins_4 draws_4 points_4 ml) (hn10 : n ≤ 10) : ∀ sz, Met l yX5_costOf wsX5_costOf rmX5_costOf (va_Pc [.ref (q5 0), .ref (q4 0), .int (nI n), .long x] (PW D (kT cI cJ cB) sz (wX5 q5 cI cJ cB least_5 many_5 seenChanges_5 seenPlayers_5 ++ wX4 q4 cI cJ cB parts_4 wins_4 draws_4 points_4 count_4 changes_4))) (va_Qi (S := Unit) (fun r _ => r = if x < 0 then -1 else coF (caI ml n) n n x.toInt.toNat 0 0) (QW D sz (wX5 q5 cI cJ cB least_5 many_5 seenChanges_5 seenPlayers_5 ++ wX4 q4 cI cJ cB parts_4 wins_4 draws_4 points_4 count_4 changes_4) (fun _ => (wX5 q5 cI cJ cB least_5 many_5 seenChanges_5 seenPlayers_5 ++ wX4 q4 cI cJ cB parts_4 wins_4 draws_4 points_4 count_4 changes_4))) (va_A (wX5 q5 cI cJ cB least_5 many_5 seenChanges_5 seenPlayers_5 ++ wX4 q4 cI cJ cB parts_4 wins_4 draws_4 points_4 count_4 changes_4) sz)) 0 0 (va_A (wX5 q5 cI cJ cB least_5 many_5 seenChanges_5 seenPlayers_5 ++ wX4 q4 cI cJ cB parts_4 wins_4 draws_4 points_4 count_4 changes_4) sz) := by
  intro sz
  refine Met.ofW (cc := cX5_costOf) (maxL := 11) (ret := (some .int)) (by decide) rfl ?_
  intro p e s m args below meth c s₁ B hml hv
  obtain ⟨hav, hsz, hP, hKW, hD0⟩ := hv
  have hx := B.exec
  have hb := B.bytes
  have hr := B.returns
  have hts := atoms_spec (ws := wsX5_costOf) B.pre
  have hown : s.vm.findClass RX5 = some m.cls := findClass_of_methodNamed B.named
  have hlocks := B.notSynchronized
  subst hsz
  have hD := hD0.self (sz := s.heap.size)
  obtain ⟨A, hAe⟩ : ∃ A : Nat → Prop, A = va_A (wX5 q5 cI cJ cB least_5 many_5 seenChanges_5 seenPlayers_5 ++ wX4 q4 cI cJ cB parts_4 wins_4 draws_4 points_4 count_4 changes_4) s.heap.size := ⟨_, rfl⟩
  rw [← hAe] at hD
  have hA : ∀ q : Nat, s.heap.size ≤ q → A q := fun q h => by rw [hAe]; exact Or.inr h
  have hS : va_S A s.heap s.heap [] := va_S.rf
  refine k_gen (fun Q hQ => ?_)
  have hl := lv_entry ([.ref (q5 0), .ref (q4 0), .int (nI n), .long x]) (n := 11) (Nat.le_of_ble_eq_true rfl)
  refine k_entry hav (lg_entry_eq ..) ?_
  generalize (lg_sl ([.ref (q5 0), .ref (q4 0), .int (nI n), .long x]) ++ List.replicate (11 - (lg_sl ([.ref (q5 0), .ref (q4 0), .int (nI n), .long x])).length) Slot.unset).toArray = ls at hl ⊢
  have hl : lv_has ls 11 [(0, .ref (q5 0)), (1, .ref (q4 0)), (2, .int (nI n)), (3, .long x)] := hl
  have h2n := pow_le_1024 hn10
  have h2p := Nat.two_pow_pos n
  refine lv_lload_n hx hb dX5_costOf_0 rfl (lv_at hl 3 rfl) ?_
  refine lv_lconst (v := 0) hx hb dX5_costOf_1 (by decide) ?_
  refine W.lcmp hx hb dX5_costOf_2 ?_
  refine lv_if_ge (tgt := 8) hx hb dX5_costOf_3 (by decide) (fun c_3 => ?_) (fun c_3 => ?_)
  · skip
    have c_3 := k_lc_ge c_3
    obtain ⟨R0, hR0, rfl⟩ := pk_lOf (x := x) (fun z => by rw [Int64.lt_iff_toInt_lt] at z; rw [Int64.le_iff_toInt_le] at c_3; omega)
    refine lv_lload_n hx hb dX5_costOf_8 rfl (lv_at hl 3 rfl) ?_
    refine lv_lstore (lv' := [(5, .long (lN R0)), (0, .ref (q5 0)), (1, .ref (q4 0)), (2, .int (nI n)), (3, .long (lN R0))]) hx hb dX5_costOf_9 hl (by decide) rfl (fun ls hl => ?_)
    refine lv_iconst (v := nI 0) hx hb dX5_costOf_11 (by decide) ?_
    refine lv_istore (lv' := [(7, .int (nI 0)), (5, .long (lN R0)), (0, .ref (q5 0)), (1, .ref (q4 0)), (2, .int (nI n)), (3, .long (lN R0))]) hx hb dX5_costOf_12 hl (by decide) rfl (fun ls hl => ?_)
    refine lv_iconst (v := nI 0) hx hb dX5_costOf_14 (by decide) ?_
    refine lv_istore (lv' := [(8, .int (nI 0)), (7, .int (nI 0)), (5, .long (lN R0)), (0, .ref (q5 0)), (1, .ref (q4 0)), (2, .int (nI n)), (3, .long (lN R0))]) hx hb dX5_costOf_15 hl (by decide) rfl (fun ls hl => ?_)
    refine lv_iconst (v := nI 0) hx hb dX5_costOf_17 (by decide) ?_
    refine lv_istore (lv' := [(9, .int (nI 0)), (8, .int (nI 0)), (7, .int (nI 0)), (5, .long (lN R0)), (0, .ref (q5 0)), (1, .ref (q4 0)), (2, .int (nI n)), (3, .long (lN R0))]) hx hb dX5_costOf_18 hl (by decide) rfl (fun ls hl => ?_)
    have hL_20 : ∀ (fu : Nat) (k : Nat) (R : Nat) (B2 : Nat) (v : Int32) (hk : k ≤ n) (hR : R < 2 ^ 63) (hB2 : B2 < 1024) (hv : coF (caI ml n) n n R0 0 0 = coF (caI ml n) n (n - k) R B2 v), n - k < fu → ∀ (H : Heap) (locs : List Loc), va_P D vwCl (wX5 q5 cI cJ cB least_5 many_5 seenChanges_5 seenPlayers_5 ++ wX4 q4 cI cJ cB parts_4 wins_4 draws_4 points_4 count_4 changes_4) H → va_D A (wX5 q5 cI cJ cB least_5 many_5 seenChanges_5 seenPlayers_5 ++ wX4 q4 cI cJ cB parts_4 wins_4 draws_4 points_4 count_4 changes_4) → va_S A s.heap H locs → ∀ (ls : Array Slot), lv_has ls 11 [(0, .ref (q5 0)), (1, .ref (q4 0)), (2, .int (nI n)), (3, .long (lN R0)), (5, .long (lN R)), (7, .int (nI B2)), (8, .int v), (9, .int (nI k))] → W p l e (headSpec wsX5_costOf rmX5_costOf).room s m args below meth c H locs 0 0 Q (F0 m 20 ls []) := by
      intro fu
      induction fu with
      | zero => intro k R B2 v hk hR hB2 hv hfu; exact absurd hfu (Nat.not_lt_zero _)
      | succ fu ih_20 =>
        intro k R B2 v hk hR hB2 hv hfu H locs hP hD hS ls hl
        refine lv_iload hx hb dX5_costOf_20 (lv_at hl 7 rfl) ?_
        refine lv_iload_n hx hb dX5_costOf_22 rfl (lv_at hl 2 rfl) ?_
        refine lv_icmp_ge (tgt := 91) hx hb dX5_costOf_23 (by decide) (fun c_23 => ?_) (fun c_23 => ?_)
        · skip
          have c_23 := k_ge (by omega) (by omega) c_23
          refine lv_lload hx hb dX5_costOf_91 (lv_at hl 4 rfl) ?_
          refine lv_lconst (v := 0) hx hb dX5_costOf_93 (by decide) ?_
          refine W.lcmp hx hb dX5_costOf_94 ?_
          refine lv_if_ne (tgt := 103) hx hb dX5_costOf_95 (by decide) (fun c_95 => ?_) (fun c_95 => ?_)
          · skip
            have c_95 := k_lc_ne c_95
            refine lv_iconst (v := (-1)) hx hb dX5_costOf_103 (by decide) ?_
            subst hQ; subst hAe
            exact W.iret (v := (-1)) hx hb hr (fun tt9 ht9 _ => ⟨⟨(-1), (), rfl, by rw [if_neg (k_lNn hR0), k_lNt hR0, hv, show n - k = 0 by omega]; show _ = (if _ then _ else _); rw [if_neg (fun z => c_95 (by rw [z]; rfl))], by rw [ht9]; exact hP, hD⟩, hS.F ht9⟩) hS.2.2 dX5_costOf_104
          · skip
            have c_95 := k_lc_ne_n c_95
            refine lv_iload hx hb dX5_costOf_98 (lv_at hl 6 rfl) ?_
            refine lv_goto (tgt := 104) hx hb dX5_costOf_100 (by decide) ?_
            subst hQ; subst hAe
            exact W.iret (v := v) hx hb hr (fun tt9 ht9 _ => ⟨⟨v, (), rfl, by rw [if_neg (k_lNn hR0), k_lNt hR0, hv, show n - k = 0 by omega]; show _ = (if _ then _ else _); rw [if_pos (k_lN0 hR c_95)], by rw [ht9]; exact hP, hD⟩, hS.F ht9⟩) hS.2.2 dX5_costOf_104
        · skip
          have c_23 := k_ge_n (by omega) (by omega) c_23
          refine lv_lload hx hb dX5_costOf_26 (lv_at hl 4 rfl) ?_
          refine lv_ldc2 (v := (10 : Int64)) hx hb hown (hts (.constantLong RX5 43 (10)) (by decide +kernel)) dX5_costOf_28 ?_
          refine lv_lrem hx hb dX5_costOf_31 (by decide) ?_
          refine k_topl (y := lN (R % 10)) (pk_lRem hR (by decide) (by decide)) ?_
          refine lv_l2i (v := (lN (R % 10)).toInt32) hx hb dX5_costOf_32 rfl ?_
          refine k_top (y := nI (R % 10)) (lN_i _) ?_
          refine lv_istore (lv' := [(10, .int (nI (R % 10))), (0, .ref (q5 0)), (1, .ref (q4 0)), (2, .int (nI n)), (3, .long (lN R0)), (5, .long (lN R)), (7, .int (nI B2)), (8, .int v), (9, .int (nI k))]) hx hb dX5_costOf_33 hl (by decide) rfl (fun ls hl => ?_)
          refine lv_lload hx hb dX5_costOf_35 (lv_at hl 5 rfl) ?_
          refine lv_ldc2 (v := (10 : Int64)) hx hb hown (hts (.constantLong RX5 43 (10)) (by decide +kernel)) dX5_costOf_37 ?_
          refine lv_ldiv hx hb dX5_costOf_40 (by decide) ?_
          refine k_topl (y := lN (R / 10)) (pk_lDiv hR (by decide) (by decide)) ?_
          refine lv_lstore (lv' := [(5, .long (lN (R / 10))), (10, .int (nI (R % 10))), (0, .ref (q5 0)), (1, .ref (q4 0)), (2, .int (nI n)), (3, .long (lN R0)), (7, .int (nI B2)), (8, .int v), (9, .int (nI k))]) hx hb dX5_costOf_41 hl (by decide) rfl (fun ls hl => ?_)
          refine lv_iload hx hb dX5_costOf_43 (lv_at hl 1 rfl) ?_
          refine lv_iload_n hx hb dX5_costOf_45 rfl (lv_at hl 4 rfl) ?_
          refine lv_icmp_ge (tgt := 59) hx hb dX5_costOf_46 (by decide) (fun c_46 => ?_) (fun c_46 => ?_)
          · skip
            have c_46 := k_ge (by omega) (by omega) c_46
            refine lv_iconst (v := (-1)) hx hb dX5_costOf_59 (by decide) ?_
            subst hQ; subst hAe
            exact W.iret (v := (-1)) hx hb hr (fun tt9 ht9 _ => ⟨⟨(-1), (), rfl, by rw [if_neg (k_lNn hR0), k_lNt hR0, hv, show n - k = (n - (k + 1)) + 1 by omega]; show _ = (if _ then _ else _); rw [if_pos (Or.inl c_46)], by rw [ht9]; exact hP, hD⟩, hS.F ht9⟩) hS.2.2 dX5_costOf_60
          · skip
            have c_46 := k_ge_n (by omega) (by omega) c_46
            
            refine lv_iload hx hb dX5_costOf_49 (lv_at hl 6 rfl) ?_
            refine lv_iload hx hb dX5_costOf_51 (lv_at hl 1 rfl) ?_
            have hs_53 : kSplit (wX5 q5 cI cJ cB least_5 many_5 seenChanges_5 seenPlayers_5 ++ wX4 q4 cI cJ cB parts_4 wins_4 draws_4 points_4 count_4 changes_4) ([] : va_W) (wX5 q5 cI cJ cB least_5 many_5 seenChanges_5 seenPlayers_5 ++ wX4 q4 cI cJ cB parts_4 wins_4 draws_4 points_4 count_4 changes_4) [] [0, 1, 2, 3, 4, 5, 6, 7] := ⟨rfl, rfl, rfl, rfl, rfl, by decide⟩
            refine kc_i hP hD hS hA hs_53 (kSN (n := 2) (As := [.int (nI B2), .int (nI (R % 10))]) (rest := []) (host := "MeetingRanks") hx hb hml hown hts hKW hP hD hs_53 (c_X9_isIn l D cI cJ cB B2 (R % 10) (by first | assumption | omega) (by first | assumption | omega)) gX5_costOf_X9_isIn_n45 rfl rfl rfl (by decide +kernel) (by decide +kernel) (by decide +kernel) (by decide +kernel) ⟨Nat.le_of_ble_eq_true rfl, Nat.le_of_ble_eq_true rfl⟩ rfl hl.1 rfl (Nat.le_of_ble_eq_true rfl) dX5_costOf_53 ⟨Nat.zero_le _, Nat.zero_le _⟩) (fun r_53 u_53 H locs hw_53 hP hD hS => ?_)
            have er_53 := hw_53
            have er_53 := er_53.symm
            subst er_53
            have hP : va_P D vwCl (wX5 q5 cI cJ cB least_5 many_5 seenChanges_5 seenPlayers_5 ++ wX4 q4 cI cJ cB parts_4 wins_4 draws_4 points_4 count_4 changes_4) H := hP.sub (ws' := (wX5 q5 cI cJ cB least_5 many_5 seenChanges_5 seenPlayers_5 ++ wX4 q4 cI cJ cB parts_4 wins_4 draws_4 points_4 count_4 changes_4)) [0, 1, 2, 3, 4, 5, 6, 7] rfl
            have hD : va_D A (wX5 q5 cI cJ cB least_5 many_5 seenChanges_5 seenPlayers_5 ++ wX4 q4 cI cJ cB parts_4 wins_4 draws_4 points_4 count_4 changes_4) := hD.sub (ws' := (wX5 q5 cI cJ cB least_5 many_5 seenChanges_5 seenPlayers_5 ++ wX4 q4 cI cJ cB parts_4 wins_4 draws_4 points_4 count_4 changes_4)) [0, 1, 2, 3, 4, 5, 6, 7] (by decide) rfl
            refine lv_if_eq (tgt := 61) hx hb dX5_costOf_56 (by decide) (fun c_56 => ?_) (fun c_56 => ?_)
            · skip
              have c_56 := k_b0 c_56
              refine lv_iload hx hb dX5_costOf_61 (lv_at hl 7 rfl) ?_
              refine lv_aload_n hx hb dX5_costOf_63 rfl (lv_at hl 2 rfl) ?_
              refine lv_aload_n hx hb dX5_costOf_64 rfl (lv_at hl 3 rfl) ?_
              refine lv_iload_n hx hb dX5_costOf_65 rfl (lv_at hl 4 rfl) ?_
              refine lv_iload hx hb dX5_costOf_66 (lv_at hl 1 rfl) ?_
              refine lv_iload hx hb dX5_costOf_68 (lv_at hl 6 rfl) ?_
              have hs_70 : kSplit (wX5 q5 cI cJ cB least_5 many_5 seenChanges_5 seenPlayers_5 ++ wX4 q4 cI cJ cB parts_4 wins_4 draws_4 points_4 count_4 changes_4) (wX5 q5 cI cJ cB least_5 many_5 seenChanges_5 seenPlayers_5 ++ wX4 q4 cI cJ cB parts_4 wins_4 draws_4 points_4 count_4 changes_4) ([] : va_W) [0, 1, 2, 3, 4, 5, 6, 7] [] := ⟨rfl, rfl, rfl, rfl, rfl, by decide⟩
              refine kc_i hP hD hS hA hs_70 (kV (As := [.ref (q4 0), .int (nI n), .int (nI (R % 10)), .int (nI B2)]) (rest := [.int v]) hx hb hml hown hts hKW hP hD hs_70 (c_X5_costAhead l D cI cJ cB q5 q4 least_5 many_5 seenChanges_5 seenPlayers_5 parts_4 wins_4 draws_4 points_4 count_4 changes_4 ml n (R % 10) B2 (by first | assumption | omega) (by first | assumption | omega) (by first | assumption | omega) (by first | assumption | omega)) (cwV 4 hts gX5_costOf_X5_costAhead rfl rfl rfl (by decide +kernel) ⟨Nat.le_of_ble_eq_true rfl, Nat.le_of_ble_eq_true rfl⟩) 0 5 rfl rfl rfl rfl hl.1 rfl (Nat.le_of_ble_eq_true rfl) dX5_costOf_70 ⟨Nat.zero_le _, Nat.zero_le _⟩) (fun r_70 u_70 H locs hw_70 hP hD hS => ?_)
              have er_70 := hw_70
              have er_70 := er_70.symm
              subst er_70
              have hP : va_P D vwCl (wX5 q5 cI cJ cB least_5 many_5 seenChanges_5 seenPlayers_5 ++ wX4 q4 cI cJ cB parts_4 wins_4 draws_4 points_4 count_4 changes_4) H := hP.sub (ws' := (wX5 q5 cI cJ cB least_5 many_5 seenChanges_5 seenPlayers_5 ++ wX4 q4 cI cJ cB parts_4 wins_4 draws_4 points_4 count_4 changes_4)) [0, 1, 2, 3, 4, 5, 6, 7] rfl
              have hD : va_D A (wX5 q5 cI cJ cB least_5 many_5 seenChanges_5 seenPlayers_5 ++ wX4 q4 cI cJ cB parts_4 wins_4 draws_4 points_4 count_4 changes_4) := hD.sub (ws' := (wX5 q5 cI cJ cB least_5 many_5 seenChanges_5 seenPlayers_5 ++ wX4 q4 cI cJ cB parts_4 wins_4 draws_4 points_4 count_4 changes_4)) [0, 1, 2, 3, 4, 5, 6, 7] (by decide) rfl
              refine lv_iadd hx hb dX5_costOf_73 ?_
              refine lv_istore (lv' := [(8, .int (v + (caI ml n (R % 10) B2))), (5, .long (lN (R / 10))), (10, .int (nI (R % 10))), (0, .ref (q5 0)), (1, .ref (q4 0)), (2, .int (nI n)), (3, .long (lN R0)), (7, .int (nI B2)), (9, .int (nI k))]) hx hb dX5_costOf_74 hl (by decide) rfl (fun ls hl => ?_)
              refine lv_iload hx hb dX5_costOf_76 (lv_at hl 7 rfl) ?_
              refine lv_iconst (v := nI 1) hx hb dX5_costOf_78 (by decide) ?_
              refine lv_iload hx hb dX5_costOf_79 (lv_at hl 2 rfl) ?_
              refine lv_ishl hx hb dX5_costOf_81 ?_
              refine k_top (y := nI (2 ^ (R % 10))) (k_shl1 (by omega)) ?_
              refine lv_ior hx hb dX5_costOf_82 ?_
              refine k_top (y := nI (B2 ||| 2 ^ (R % 10))) (k_or _ _) ?_
              refine lv_istore (lv' := [(7, .int (nI (B2 ||| 2 ^ (R % 10)))), (8, .int (v + (caI ml n (R % 10) B2))), (5, .long (lN (R / 10))), (10, .int (nI (R % 10))), (0, .ref (q5 0)), (1, .ref (q4 0)), (2, .int (nI n)), (3, .long (lN R0)), (9, .int (nI k))]) hx hb dX5_costOf_83 hl (by decide) rfl (fun ls hl => ?_)
              refine lv_iinc (v := nI (k + 1)) (lv' := [(9, .int (nI (k + 1))), (7, .int (nI (B2 ||| 2 ^ (R % 10)))), (8, .int (v + (caI ml n (R % 10) B2))), (5, .long (lN (R / 10))), (10, .int (nI (R % 10))), (0, .ref (q5 0)), (1, .ref (q4 0)), (2, .int (nI n)), (3, .long (lN R0))]) hx hb dX5_costOf_85 hl (k := 8) rfl (nI_add _ _) (by decide) rfl (fun ls hl => ?_)
              refine lv_goto (tgt := 20) hx hb dX5_costOf_88 (by decide) ?_
              exact ih_20 _ _ _ _ (by omega) (by omega) (Nat.or_lt_two_pow (n := 10) hB2 (Nat.lt_of_le_of_lt (pow_lt_1024 (by omega)) (by decide))) (by rw [hv, show n - k = (n - (k + 1)) + 1 by omega]; show (if _ then _ else _) = _; rw [if_neg (by rintro (z | z); (omega); (exact c_56 z))]) (by omega) _ _ hP hD hS ls (lv_sub hl [5, 6, 7, 8, 3, 1, 2, 0] rfl)
            · skip
              have c_56 := k_b1 c_56
              refine lv_iconst (v := (-1)) hx hb dX5_costOf_59 (by decide) ?_
              subst hQ; subst hAe
              exact W.iret (v := (-1)) hx hb hr (fun tt9 ht9 _ => ⟨⟨(-1), (), rfl, by rw [if_neg (k_lNn hR0), k_lNt hR0, hv, show n - k = (n - (k + 1)) + 1 by omega]; show _ = (if _ then _ else _); rw [if_pos (Or.inr c_56)], by rw [ht9]; exact hP, hD⟩, hS.F ht9⟩) hS.2.2 dX5_costOf_60
    exact hL_20 _ 0 R0 0 0 (Nat.zero_le _) hR0 (by omega) rfl (Nat.lt_succ_self _) _ _ hP hD hS ls (lv_sub hl [4, 5, 6, 7, 3, 2, 1, 0] rfl)
  · skip
    have c_3 := k_lc_ge_n c_3
    refine lv_iconst (v := (-1)) hx hb dX5_costOf_6 (by decide) ?_
    subst hQ; subst hAe
    exact W.iret (v := (-1)) hx hb hr (fun tt9 ht9 _ => ⟨⟨(-1), (), rfl, by rw [if_pos (by rw [Int64.lt_iff_toInt_lt]; rw [Int64.le_iff_toInt_le] at c_3; omega)], by rw [ht9]; exact hP, hD⟩, hS.F ht9⟩) hS.2.2 dX5_costOf_7
