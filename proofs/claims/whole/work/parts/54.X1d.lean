def rmX1_countWalks : Room := { frames := 2, cells := 0, slots := 0, locals := 47 }
set_option maxHeartbeats 4000000 in
set_option maxRecDepth 100000 in
theorem c_X1_countWalks (l : Launch) (D : va_G) (cI cJ cB : ClassId) (q1 : Nat → Nat) (q4 : Nat → Nat) (beaten_1 : Nat → Int32) (unused_1 : Nat → Int32) (ways_1 : Nat → Int32) (parts_4 : Nat → Int32) (wins_4 : Nat → Int32) (draws_4 : Nat → Int32) (points_4 : Nat → Int32) (count_4 : Int32) (changes_4 : Int32) (ml : List Mt) (n : Nat) (hM : MR parts_4 wins_4 draws_4 points_4 ml) (hm120 : ml.length ≤ 120) (hn1 : 1 ≤ n) (hn10 : n ≤ 10) : ∀ sz, Met l yX1_countWalks wsX1_countWalks rmX1_countWalks (va_Pc [.ref (q1 0), .ref (q4 0), .int (nI n)] (PW D (kT cI cJ cB) sz (wX1 q1 cI cJ cB beaten_1 unused_1 ways_1 ++ wX4 q4 cI cJ cB parts_4 wins_4 draws_4 points_4 count_4 changes_4))) (va_Qi (S := (Nat → Int32) × (Nat → Int32)) (fun r uu => match uu with | (beaten_1', ways_1') => ∃ W0, (∀ i, i < 10240 → W0 i = nI 0) ∧ r = sI (fun la => wcS (fun a => btF ml n a) n (wcI W0 n) (2 ^ n - 2) ((2 ^ n - 1) * 10 + la)) n) (QW D sz (wX1 q1 cI cJ cB beaten_1 unused_1 ways_1 ++ wX4 q4 cI cJ cB parts_4 wins_4 draws_4 points_4 count_4 changes_4) (fun uu => match uu with | (beaten_1', ways_1') => (wX1 q1 cI cJ cB beaten_1' unused_1 ways_1' ++ wX4 q4 cI cJ cB parts_4 wins_4 draws_4 points_4 count_4 changes_4))) (va_A (wX1 q1 cI cJ cB beaten_1 unused_1 ways_1 ++ wX4 q4 cI cJ cB parts_4 wins_4 draws_4 points_4 count_4 changes_4) sz)) 0 0 (va_A (wX1 q1 cI cJ cB beaten_1 unused_1 ways_1 ++ wX4 q4 cI cJ cB parts_4 wins_4 draws_4 points_4 count_4 changes_4) sz) := by
  intro sz
  refine Met.ofW (cc := cX1_countWalks) (maxL := 5) (ret := (some .int)) (by decide) rfl ?_
  intro p e s m args below meth c s₁ B hml hv
  obtain ⟨hav, hsz, hP, hKW, hD0⟩ := hv
  have hx := B.exec
  have hb := B.bytes
  have hr := B.returns
  have hts := atoms_spec (ws := wsX1_countWalks) B.pre
  have hown : s.vm.findClass RX1 = some m.cls := findClass_of_methodNamed B.named
  have hlocks := B.notSynchronized
  subst hsz
  have hD := hD0.self (sz := s.heap.size)
  obtain ⟨A, hAe⟩ : ∃ A : Nat → Prop, A = va_A (wX1 q1 cI cJ cB beaten_1 unused_1 ways_1 ++ wX4 q4 cI cJ cB parts_4 wins_4 draws_4 points_4 count_4 changes_4) s.heap.size := ⟨_, rfl⟩
  rw [← hAe] at hD
  have hA : ∀ q : Nat, s.heap.size ≤ q → A q := fun q h => by rw [hAe]; exact Or.inr h
  have hS : va_S A s.heap s.heap [] := va_S.rf
  refine k_gen (fun Q hQ => ?_)
  have hl := lv_entry ([.ref (q1 0), .ref (q4 0), .int (nI n)]) (n := 5) (Nat.le_of_ble_eq_true rfl)
  refine k_entry hav (lg_entry_eq ..) ?_
  generalize (lg_sl ([.ref (q1 0), .ref (q4 0), .int (nI n)]) ++ List.replicate (5 - (lg_sl ([.ref (q1 0), .ref (q4 0), .int (nI n)])).length) Slot.unset).toArray = ls at hl ⊢
  have hl : lv_has ls 5 [(0, .ref (q1 0)), (1, .ref (q4 0)), (2, .int (nI n))] := hl
  have hu_1 : ∀ w ∈ u_ws RX1 TX1 3, w ∈ wsX1_countWalks := by decide +kernel
  have hf_18 : Cond.fieldLink RX1 18 "MeetingRanks$Beating" "ways" "[I" ∈ wsX1_countWalks := by decide +kernel
  have h2n := pow_le_1024 hn10
  have h2p := Nat.two_pow_pos n
  have h2q := Nat.pow_le_pow_right (show 0 < 2 by decide) hn1
  refine lv_aload_n hx hb dX1_countWalks_0 rfl (lv_at hl 0 rfl) ?_
  refine lv_aload_n hx hb dX1_countWalks_1 rfl (lv_at hl 1 rfl) ?_
  refine lv_iload_n hx hb dX1_countWalks_2 rfl (lv_at hl 2 rfl) ?_
  have hs_3 : kSplit (wX1 q1 cI cJ cB beaten_1 unused_1 ways_1 ++ wX4 q4 cI cJ cB parts_4 wins_4 draws_4 points_4 count_4 changes_4) (wX1 q1 cI cJ cB beaten_1 unused_1 ways_1 ++ wX4 q4 cI cJ cB parts_4 wins_4 draws_4 points_4 count_4 changes_4) ([] : va_W) [0, 1, 2, 3, 4, 5, 6, 7, 8] [] := ⟨rfl, rfl, rfl, rfl, rfl, by decide⟩
  refine kc_v hP hD hS hA hs_3 (kV (As := [.ref (q4 0), .int (nI n)]) (rest := []) hx hb hml hown hts hKW hP hD hs_3 (c_X1_fillBeaten l D cI cJ cB q1 q4 beaten_1 unused_1 ways_1 parts_4 wins_4 draws_4 points_4 count_4 changes_4 ml n (by first | assumption | omega) (by first | assumption | omega) (by first | assumption | omega)) (cwV 2 hts gX1_countWalks_X1_fillBeaten rfl rfl rfl (by decide +kernel) ⟨Nat.le_of_ble_eq_true rfl, Nat.le_of_ble_eq_true rfl⟩) 0 1 rfl rfl rfl rfl hl.1 rfl (Nat.le_of_ble_eq_true rfl) dX1_countWalks_3 ⟨Nat.zero_le _, Nat.zero_le _⟩) (fun u_3 H locs hw_3 hP hD hS => ?_)
  obtain ⟨beaten_1_3, rfl⟩ : ∃ z, z = u_3 := ⟨_, rfl⟩
  have hP : va_P D vwCl (wX1 q1 cI cJ cB beaten_1_3 unused_1 ways_1 ++ wX4 q4 cI cJ cB parts_4 wins_4 draws_4 points_4 count_4 changes_4) H := hP.sub (ws' := (wX1 q1 cI cJ cB beaten_1_3 unused_1 ways_1 ++ wX4 q4 cI cJ cB parts_4 wins_4 draws_4 points_4 count_4 changes_4)) [0, 1, 2, 3, 4, 5, 6, 7, 8] rfl
  have hD : va_D A (wX1 q1 cI cJ cB beaten_1_3 unused_1 ways_1 ++ wX4 q4 cI cJ cB parts_4 wins_4 draws_4 points_4 count_4 changes_4) := hD.sub (ws' := (wX1 q1 cI cJ cB beaten_1_3 unused_1 ways_1 ++ wX4 q4 cI cJ cB parts_4 wins_4 draws_4 points_4 count_4 changes_4)) [0, 1, 2, 3, 4, 5, 6, 7, 8] (by decide) rfl
  refine lv_aload_n hx hb dX1_countWalks_6 rfl (lv_at hl 0 rfl) ?_
  refine k_get (ci := 1) (v := .ref (q1 3)) (C := RX1) (Tb := TX1) (N := 3) hx hb hts hu_1 hown hKW hP 0 rfl rfl 2 (by decide) hf_18 rfl rfl dX1_countWalks_7 ?_
  refine lv_iconst (v := nI 0) hx hb dX1_countWalks_10 (by decide) ?_
  have hs_11 : kSplit (wX1 q1 cI cJ cB beaten_1_3 unused_1 ways_1 ++ wX4 q4 cI cJ cB parts_4 wins_4 draws_4 points_4 count_4 changes_4) (wX99 (fun _ => (q1 3)) cI cJ cB 10240 ways_1) ([(q1 0, .inr (1, [.ref (q1 1), .ref (q1 2), .ref (q1 3)])), (q1 1, .inl (cI, 10, .inl beaten_1_3)), (q1 2, .inl (cI, 100, .inl unused_1)), (q4 0, .inr (4, [.ref (q4 1), .ref (q4 2), .ref (q4 3), .ref (q4 4), .int count_4, .int changes_4])), (q4 1, .inl (cI, 480, .inl parts_4)), (q4 2, .inl (cI, 100, .inl wins_4)), (q4 3, .inl (cI, 100, .inl draws_4)), (q4 4, .inl (cI, 100, .inl points_4))] : va_W) [3] [0, 1, 2, 4, 5, 6, 7, 8] := ⟨rfl, rfl, rfl, rfl, rfl, by decide⟩
  refine kc_v hP hD hS hA hs_11 (kS (As := [.ref (q1 3), .int (nI 0)]) (rest := []) hx hb hml hown hts hKW hP hD hs_11 (c_J7_fill_53178 l D cI cJ cB (fun _ => (q1 3)) ways_1 10240 (nI 0) (by first | assumption | omega)) (va_cwS 2 hts gX1_countWalks_J7_fill_53178 rfl rfl rfl (by decide +kernel) ⟨Nat.le_of_ble_eq_true rfl, Nat.le_of_ble_eq_true rfl⟩) rfl hl.1 rfl (Nat.le_of_ble_eq_true rfl) dX1_countWalks_11 ⟨Nat.zero_le _, Nat.zero_le _⟩) (fun u_11 H locs hw_11 hP hD hS => ?_)
  obtain ⟨row_99_11, rfl⟩ : ∃ z, z = u_11 := ⟨_, rfl⟩
  have e_row_99_11 := hw_11
  have e_row_99_11 := e_row_99_11.symm
  subst e_row_99_11
  have hP : va_P D vwCl (wX1 q1 cI cJ cB beaten_1_3 unused_1 (flF ways_1 (nI 0) 10240) ++ wX4 q4 cI cJ cB parts_4 wins_4 draws_4 points_4 count_4 changes_4) H := hP.sub (ws' := (wX1 q1 cI cJ cB beaten_1_3 unused_1 (flF ways_1 (nI 0) 10240) ++ wX4 q4 cI cJ cB parts_4 wins_4 draws_4 points_4 count_4 changes_4)) [0, 1, 2, 8, 3, 4, 5, 6, 7] rfl
  have hD : va_D A (wX1 q1 cI cJ cB beaten_1_3 unused_1 (flF ways_1 (nI 0) 10240) ++ wX4 q4 cI cJ cB parts_4 wins_4 draws_4 points_4 count_4 changes_4) := hD.sub (ws' := (wX1 q1 cI cJ cB beaten_1_3 unused_1 (flF ways_1 (nI 0) 10240) ++ wX4 q4 cI cJ cB parts_4 wins_4 draws_4 points_4 count_4 changes_4)) [0, 1, 2, 8, 3, 4, 5, 6, 7] (by decide) rfl
  refine lv_iconst (v := nI 0) hx hb dX1_countWalks_14 (by decide) ?_
  refine lv_istore_n (lv' := [(3, .int (nI 0)), (0, .ref (q1 0)), (1, .ref (q4 0)), (2, .int (nI n))]) hx hb dX1_countWalks_15 rfl hl (by decide) rfl (fun ls hl => ?_)
  have hL_16 : ∀ (fu : Nat) (p1 : Nat) (hp1 : p1 ≤ n), n - p1 < fu → ∀ (H : Heap) (locs : List Loc), va_P D vwCl (wX1 q1 cI cJ cB beaten_1_3 unused_1 (wcI (flF ways_1 (nI 0) 10240) p1) ++ wX4 q4 cI cJ cB parts_4 wins_4 draws_4 points_4 count_4 changes_4) H → va_D A (wX1 q1 cI cJ cB beaten_1_3 unused_1 (wcI (flF ways_1 (nI 0) 10240) p1) ++ wX4 q4 cI cJ cB parts_4 wins_4 draws_4 points_4 count_4 changes_4) → va_S A s.heap H locs → ∀ (ls : Array Slot), lv_has ls 5 [(0, .ref (q1 0)), (1, .ref (q4 0)), (2, .int (nI n)), (3, .int (nI p1))] → W p l e (headSpec wsX1_countWalks rmX1_countWalks).room s m args below meth c H locs 0 0 Q (F0 m 16 ls []) := by
    intro fu
    induction fu with
    | zero => intro p1 hp1 hfu; exact absurd hfu (Nat.not_lt_zero _)
    | succ fu ih_16 =>
      intro p1 hp1 hfu H locs hP hD hS ls hl
      refine lv_iload_n hx hb dX1_countWalks_16 rfl (lv_at hl 3 rfl) ?_
      refine lv_iload_n hx hb dX1_countWalks_17 rfl (lv_at hl 2 rfl) ?_
      refine lv_icmp_ge (tgt := 41) hx hb dX1_countWalks_18 (by decide) (fun c_18 => ?_) (fun c_18 => ?_)
      · skip
        have c_18 := k_ge (by omega) (by omega) c_18
        obtain rfl : n = p1 := by omega
        refine lv_iconst (v := nI 1) hx hb dX1_countWalks_41 (by decide) ?_
        refine lv_istore_n (lv' := [(3, .int (nI 1)), (0, .ref (q1 0)), (1, .ref (q4 0)), (2, .int (nI n))]) hx hb dX1_countWalks_42 rfl hl (by decide) rfl (fun ls hl => ?_)
        have hL_43 : ∀ (fu : Nat) (S : Nat) (hS1 : 1 ≤ S) (hS2 : S ≤ 2 ^ n - 1), 2 ^ n - S < fu → ∀ (H : Heap) (locs : List Loc), va_P D vwCl (wX1 q1 cI cJ cB beaten_1_3 unused_1 (wcS (fun a => btF ml n a) n (wcI (flF ways_1 (nI 0) 10240) n) (S - 1)) ++ wX4 q4 cI cJ cB parts_4 wins_4 draws_4 points_4 count_4 changes_4) H → va_D A (wX1 q1 cI cJ cB beaten_1_3 unused_1 (wcS (fun a => btF ml n a) n (wcI (flF ways_1 (nI 0) 10240) n) (S - 1)) ++ wX4 q4 cI cJ cB parts_4 wins_4 draws_4 points_4 count_4 changes_4) → va_S A s.heap H locs → ∀ (ls : Array Slot), lv_has ls 5 [(0, .ref (q1 0)), (1, .ref (q4 0)), (2, .int (nI n)), (3, .int (nI S))] → W p l e (headSpec wsX1_countWalks rmX1_countWalks).room s m args below meth c H locs 0 0 Q (F0 m 43 ls []) := by
          intro fu
          induction fu with
          | zero => intro S hS1 hS2 hfu; exact absurd hfu (Nat.not_lt_zero _)
          | succ fu ih_43 =>
            intro S hS1 hS2 hfu H locs hP hD hS ls hl
            refine lv_iload_n hx hb dX1_countWalks_43 rfl (lv_at hl 3 rfl) ?_
            refine lv_iload_n hx hb dX1_countWalks_44 rfl (lv_at hl 2 rfl) ?_
            have hs_45 : kSplit (wX1 q1 cI cJ cB beaten_1_3 unused_1 (wcS (fun a => btF ml n a) n (wcI (flF ways_1 (nI 0) 10240) n) (S - 1)) ++ wX4 q4 cI cJ cB parts_4 wins_4 draws_4 points_4 count_4 changes_4) ([] : va_W) (wX1 q1 cI cJ cB beaten_1_3 unused_1 (wcS (fun a => btF ml n a) n (wcI (flF ways_1 (nI 0) 10240) n) (S - 1)) ++ wX4 q4 cI cJ cB parts_4 wins_4 draws_4 points_4 count_4 changes_4) [] [0, 1, 2, 3, 4, 5, 6, 7, 8] := ⟨rfl, rfl, rfl, rfl, rfl, by decide⟩
            refine kc_i hP hD hS hA hs_45 (kSN (n := 1) (As := [.int (nI n)]) (rest := [.int (nI S)]) (host := "MeetingRanks") hx hb hml hown hts hKW hP hD hs_45 (c_X9_everyone l D cI cJ cB n (by first | assumption | omega)) gX1_countWalks_X9_everyone_n35 rfl rfl rfl (by decide +kernel) (by decide +kernel) (by decide +kernel) (by decide +kernel) ⟨Nat.le_of_ble_eq_true rfl, Nat.le_of_ble_eq_true rfl⟩ rfl hl.1 rfl (Nat.le_of_ble_eq_true rfl) dX1_countWalks_45 ⟨Nat.zero_le _, Nat.zero_le _⟩) (fun r_45 u_45 H locs hw_45 hP hD hS => ?_)
            have er_45 := hw_45
            have er_45 := er_45.symm
            subst er_45
            have hP : va_P D vwCl (wX1 q1 cI cJ cB beaten_1_3 unused_1 (wcS (fun a => btF ml n a) n (wcI (flF ways_1 (nI 0) 10240) n) (S - 1)) ++ wX4 q4 cI cJ cB parts_4 wins_4 draws_4 points_4 count_4 changes_4) H := hP.sub (ws' := (wX1 q1 cI cJ cB beaten_1_3 unused_1 (wcS (fun a => btF ml n a) n (wcI (flF ways_1 (nI 0) 10240) n) (S - 1)) ++ wX4 q4 cI cJ cB parts_4 wins_4 draws_4 points_4 count_4 changes_4)) [0, 1, 2, 3, 4, 5, 6, 7, 8] rfl
            have hD : va_D A (wX1 q1 cI cJ cB beaten_1_3 unused_1 (wcS (fun a => btF ml n a) n (wcI (flF ways_1 (nI 0) 10240) n) (S - 1)) ++ wX4 q4 cI cJ cB parts_4 wins_4 draws_4 points_4 count_4 changes_4) := hD.sub (ws' := (wX1 q1 cI cJ cB beaten_1_3 unused_1 (wcS (fun a => btF ml n a) n (wcI (flF ways_1 (nI 0) 10240) n) (S - 1)) ++ wX4 q4 cI cJ cB parts_4 wins_4 draws_4 points_4 count_4 changes_4)) [0, 1, 2, 3, 4, 5, 6, 7, 8] (by decide) rfl
            refine lv_icmp_ge (tgt := 80) hx hb dX1_countWalks_48 (by decide) (fun c_48 => ?_) (fun c_48 => ?_)
            · skip
              have c_48 := k_ge (by omega) (by omega) c_48
              obtain rfl : S = 2 ^ n - 1 := by omega
              rw [show 2 ^ n - 1 - 1 = 2 ^ n - 2 by omega] at hP hD
              refine lv_iconst (v := nI 0) hx hb dX1_countWalks_80 (by decide) ?_
              refine lv_istore_n (lv' := [(3, .int (nI 0)), (0, .ref (q1 0)), (1, .ref (q4 0)), (2, .int (nI n))]) hx hb dX1_countWalks_81 rfl hl (by decide) rfl (fun ls hl => ?_)
              refine lv_iconst (v := nI 0) hx hb dX1_countWalks_82 (by decide) ?_
              refine lv_istore (lv' := [(4, .int (nI 0)), (3, .int (nI 0)), (0, .ref (q1 0)), (1, .ref (q4 0)), (2, .int (nI n))]) hx hb dX1_countWalks_83 hl (by decide) rfl (fun ls hl => ?_)
              have hL_85 : ∀ (fu : Nat) (la : Nat) (v : Int32) (hla : la ≤ n) (hv : v = sI (fun la => wcS (fun a => btF ml n a) n (wcI (flF ways_1 (nI 0) 10240) n) (2 ^ n - 2) ((2 ^ n - 1) * 10 + la)) la), n - la < fu → ∀ (H : Heap) (locs : List Loc), va_P D vwCl (wX1 q1 cI cJ cB beaten_1_3 unused_1 (wcS (fun a => btF ml n a) n (wcI (flF ways_1 (nI 0) 10240) n) ((2 ^ n - 1) - 1)) ++ wX4 q4 cI cJ cB parts_4 wins_4 draws_4 points_4 count_4 changes_4) H → va_D A (wX1 q1 cI cJ cB beaten_1_3 unused_1 (wcS (fun a => btF ml n a) n (wcI (flF ways_1 (nI 0) 10240) n) ((2 ^ n - 1) - 1)) ++ wX4 q4 cI cJ cB parts_4 wins_4 draws_4 points_4 count_4 changes_4) → va_S A s.heap H locs → ∀ (ls : Array Slot), lv_has ls 5 [(0, .ref (q1 0)), (1, .ref (q4 0)), (2, .int (nI n)), (3, .int v), (4, .int (nI la))] → W p l e (headSpec wsX1_countWalks rmX1_countWalks).room s m args below meth c H locs 0 0 Q (F0 m 85 ls []) := by
                intro fu
                induction fu with
                | zero => intro la v hla hv hfu; exact absurd hfu (Nat.not_lt_zero _)
                | succ fu ih_85 =>
                  intro la v hla hv hfu H locs hP hD hS ls hl
                  refine lv_iload hx hb dX1_countWalks_85 (lv_at hl 4 rfl) ?_
                  refine lv_iload_n hx hb dX1_countWalks_87 rfl (lv_at hl 2 rfl) ?_
                  refine lv_icmp_ge (tgt := 115) hx hb dX1_countWalks_88 (by decide) (fun c_88 => ?_) (fun c_88 => ?_)
                  · skip
                    have c_88 := k_ge (by omega) (by omega) c_88
                    obtain rfl : n = la := by omega
                    refine lv_iload_n hx hb dX1_countWalks_115 rfl (lv_at hl 3 rfl) ?_
                    subst hQ; subst hAe
                    exact W.iret (v := v) hx hb hr (fun tt9 ht9 _ => ⟨⟨v, (beaten_1_3, wcS (fun a => btF ml n a) n (wcI (flF ways_1 (nI 0) 10240) n) ((2 ^ n - 1) - 1)), rfl, ⟨flF ways_1 (nI 0) 10240, fun i hi => if_pos hi, hv⟩, by rw [ht9]; exact hP, hD⟩, hS.F ht9⟩) hS.2.2 dX1_countWalks_116
                  · skip
                    have c_88 := k_ge_n (by omega) (by omega) c_88
                    refine lv_iload_n hx hb dX1_countWalks_91 rfl (lv_at hl 3 rfl) ?_
                    refine lv_aload_n hx hb dX1_countWalks_92 rfl (lv_at hl 0 rfl) ?_
                    refine k_get (ci := 1) (v := .ref (q1 3)) (C := RX1) (Tb := TX1) (N := 3) hx hb hts hu_1 hown hKW hP 0 rfl rfl 2 (by decide) hf_18 rfl rfl dX1_countWalks_93 ?_
                    refine lv_iload_n hx hb dX1_countWalks_96 rfl (lv_at hl 2 rfl) ?_
                    have hs_97 : kSplit (wX1 q1 cI cJ cB beaten_1_3 unused_1 (wcS (fun a => btF ml n a) n (wcI (flF ways_1 (nI 0) 10240) n) ((2 ^ n - 1) - 1)) ++ wX4 q4 cI cJ cB parts_4 wins_4 draws_4 points_4 count_4 changes_4) ([] : va_W) (wX1 q1 cI cJ cB beaten_1_3 unused_1 (wcS (fun a => btF ml n a) n (wcI (flF ways_1 (nI 0) 10240) n) ((2 ^ n - 1) - 1)) ++ wX4 q4 cI cJ cB parts_4 wins_4 draws_4 points_4 count_4 changes_4) [] [0, 1, 2, 3, 4, 5, 6, 7, 8] := ⟨rfl, rfl, rfl, rfl, rfl, by decide⟩
                    refine kc_i hP hD hS hA hs_97 (kSN (n := 1) (As := [.int (nI n)]) (rest := [.ref (q1 3), .int v]) (host := "MeetingRanks") hx hb hml hown hts hKW hP hD hs_97 (c_X9_everyone l D cI cJ cB n (by first | assumption | omega)) gX1_countWalks_X9_everyone_n35 rfl rfl rfl (by decide +kernel) (by decide +kernel) (by decide +kernel) (by decide +kernel) ⟨Nat.le_of_ble_eq_true rfl, Nat.le_of_ble_eq_true rfl⟩ rfl hl.1 rfl (Nat.le_of_ble_eq_true rfl) dX1_countWalks_97 ⟨Nat.zero_le _, Nat.zero_le _⟩) (fun r_97 u_97 H locs hw_97 hP hD hS => ?_)
                    have er_97 := hw_97
                    have er_97 := er_97.symm
                    subst er_97
                    have hP : va_P D vwCl (wX1 q1 cI cJ cB beaten_1_3 unused_1 (wcS (fun a => btF ml n a) n (wcI (flF ways_1 (nI 0) 10240) n) ((2 ^ n - 1) - 1)) ++ wX4 q4 cI cJ cB parts_4 wins_4 draws_4 points_4 count_4 changes_4) H := hP.sub (ws' := (wX1 q1 cI cJ cB beaten_1_3 unused_1 (wcS (fun a => btF ml n a) n (wcI (flF ways_1 (nI 0) 10240) n) ((2 ^ n - 1) - 1)) ++ wX4 q4 cI cJ cB parts_4 wins_4 draws_4 points_4 count_4 changes_4)) [0, 1, 2, 3, 4, 5, 6, 7, 8] rfl
                    have hD : va_D A (wX1 q1 cI cJ cB beaten_1_3 unused_1 (wcS (fun a => btF ml n a) n (wcI (flF ways_1 (nI 0) 10240) n) ((2 ^ n - 1) - 1)) ++ wX4 q4 cI cJ cB parts_4 wins_4 draws_4 points_4 count_4 changes_4) := hD.sub (ws' := (wX1 q1 cI cJ cB beaten_1_3 unused_1 (wcS (fun a => btF ml n a) n (wcI (flF ways_1 (nI 0) 10240) n) ((2 ^ n - 1) - 1)) ++ wX4 q4 cI cJ cB parts_4 wins_4 draws_4 points_4 count_4 changes_4)) [0, 1, 2, 3, 4, 5, 6, 7, 8] (by decide) rfl
                    refine lv_bipush (v := nI 10) hx hb dX1_countWalks_100 (by decide) ?_
                    refine k_imul hx hb dX1_countWalks_102 ?_
                    refine lv_iload hx hb dX1_countWalks_103 (lv_at hl 4 rfl) ?_
                    refine k_iadd hx hb dX1_countWalks_105 ?_
                    refine k_iald (n := 10240) (i := ((2 ^ n - 1) * 10) + la) hx hb hKW hP 3 0 rfl rfl (by omega) (by omega) dX1_countWalks_106 ?_
                    refine lv_iadd hx hb dX1_countWalks_107 ?_
                    refine lv_istore_n (lv' := [(3, .int (v + ((wcS (fun a => btF ml n a) n (wcI (flF ways_1 (nI 0) 10240) n) ((2 ^ n - 1) - 1)) (((2 ^ n - 1) * 10) + la)))), (0, .ref (q1 0)), (1, .ref (q4 0)), (2, .int (nI n)), (4, .int (nI la))]) hx hb dX1_countWalks_108 rfl hl (by decide) rfl (fun ls hl => ?_)
                    refine lv_iinc (v := nI (la + 1)) (lv' := [(4, .int (nI (la + 1))), (3, .int (v + ((wcS (fun a => btF ml n a) n (wcI (flF ways_1 (nI 0) 10240) n) ((2 ^ n - 1) - 1)) (((2 ^ n - 1) * 10) + la)))), (0, .ref (q1 0)), (1, .ref (q4 0)), (2, .int (nI n))]) hx hb dX1_countWalks_109 hl (k := 4) rfl (nI_add _ _) (by decide) rfl (fun ls hl => ?_)
                    refine lv_goto (tgt := 85) hx hb dX1_countWalks_112 (by decide) ?_
                    exact ih_85 _ _ (by omega) (by rw [hv]; rfl) (by omega) _ _ hP hD hS ls (lv_sub hl [2, 3, 4, 1, 0] rfl)
              exact hL_85 _ 0 _ (Nat.zero_le _) rfl (Nat.lt_succ_self _) _ _ hP hD hS ls (lv_sub hl [2, 3, 4, 1, 0] rfl)
            · skip
              have c_48 := k_ge_n (by omega) (by omega) c_48
              refine lv_iconst (v := nI 0) hx hb dX1_countWalks_51 (by decide) ?_
              refine lv_istore (lv' := [(4, .int (nI 0)), (0, .ref (q1 0)), (1, .ref (q4 0)), (2, .int (nI n)), (3, .int (nI S))]) hx hb dX1_countWalks_52 hl (by decide) rfl (fun ls hl => ?_)
              have hL_54 : ∀ (fu : Nat) (la : Nat) (hla : la ≤ n), n - la < fu → ∀ (H : Heap) (locs : List Loc), va_P D vwCl (wX1 q1 cI cJ cB beaten_1_3 unused_1 (wcL (fun a => btF ml n a) n S (wcS (fun a => btF ml n a) n (wcI (flF ways_1 (nI 0) 10240) n) (S - 1)) la) ++ wX4 q4 cI cJ cB parts_4 wins_4 draws_4 points_4 count_4 changes_4) H → va_D A (wX1 q1 cI cJ cB beaten_1_3 unused_1 (wcL (fun a => btF ml n a) n S (wcS (fun a => btF ml n a) n (wcI (flF ways_1 (nI 0) 10240) n) (S - 1)) la) ++ wX4 q4 cI cJ cB parts_4 wins_4 draws_4 points_4 count_4 changes_4) → va_S A s.heap H locs → ∀ (ls : Array Slot), lv_has ls 5 [(0, .ref (q1 0)), (1, .ref (q4 0)), (2, .int (nI n)), (3, .int (nI S)), (4, .int (nI la))] → W p l e (headSpec wsX1_countWalks rmX1_countWalks).room s m args below meth c H locs 0 0 Q (F0 m 54 ls []) := by
                intro fu
                induction fu with
                | zero => intro la hla hfu; exact absurd hfu (Nat.not_lt_zero _)
                | succ fu ih_54 =>
                  intro la hla hfu H locs hP hD hS ls hl
                  refine lv_iload hx hb dX1_countWalks_54 (lv_at hl 4 rfl) ?_
                  refine lv_iload_n hx hb dX1_countWalks_56 rfl (lv_at hl 2 rfl) ?_
                  refine lv_icmp_ge (tgt := 74) hx hb dX1_countWalks_57 (by decide) (fun c_57 => ?_) (fun c_57 => ?_)
                  · skip
                    have c_57 := k_ge (by omega) (by omega) c_57
                    obtain rfl : n = la := by omega
                    refine lv_iinc (v := nI (S + 1)) (lv' := [(3, .int (nI (S + 1))), (0, .ref (q1 0)), (1, .ref (q4 0)), (2, .int (nI n)), (4, .int (nI n))]) hx hb dX1_countWalks_74 hl (k := 3) rfl (nI_add _ _) (by decide) rfl (fun ls hl => ?_)
                    refine lv_goto (tgt := 43) hx hb dX1_countWalks_77 (by decide) ?_
                    exact ih_43 (S + 1) (by omega) (by omega) (by omega) _ _ (by rw [show S + 1 - 1 = (S - 1) + 1 by omega]; show va_P D vwCl (wX1 _ _ _ _ _ _ (wcL _ n (S - 1 + 1) _ n) ++ _) _; rw [show S - 1 + 1 = S by omega]; exact hP) (by rw [show S + 1 - 1 = (S - 1) + 1 by omega]; show va_D A (wX1 _ _ _ _ _ _ (wcL _ n (S - 1 + 1) _ n) ++ _); rw [show S - 1 + 1 = S by omega]; exact hD) hS ls (lv_sub hl [1, 2, 3, 0] rfl)
                  · skip
                    have c_57 := k_ge_n (by omega) (by omega) c_57
                    refine lv_aload_n hx hb dX1_countWalks_60 rfl (lv_at hl 0 rfl) ?_
                    refine lv_iload_n hx hb dX1_countWalks_61 rfl (lv_at hl 2 rfl) ?_
                    refine lv_iload_n hx hb dX1_countWalks_62 rfl (lv_at hl 3 rfl) ?_
                    refine lv_iload hx hb dX1_countWalks_63 (lv_at hl 4 rfl) ?_
                    have hs_65 : kSplit (wX1 q1 cI cJ cB beaten_1_3 unused_1 (wcL (fun a => btF ml n a) n S (wcS (fun a => btF ml n a) n (wcI (flF ways_1 (nI 0) 10240) n) (S - 1)) la) ++ wX4 q4 cI cJ cB parts_4 wins_4 draws_4 points_4 count_4 changes_4) (wX1 q1 cI cJ cB beaten_1_3 unused_1 (wcL (fun a => btF ml n a) n S (wcS (fun a => btF ml n a) n (wcI (flF ways_1 (nI 0) 10240) n) (S - 1)) la)) (wX4 q4 cI cJ cB parts_4 wins_4 draws_4 points_4 count_4 changes_4) [0, 1, 2, 3] [4, 5, 6, 7, 8] := ⟨rfl, rfl, rfl, rfl, rfl, by decide⟩
                    refine kc_v hP hD hS hA hs_65 (kV (As := [.int (nI n), .int (nI S), .int (nI la)]) (rest := []) hx hb hml hown hts hKW hP hD hs_65 (c_X1_goOn l D cI cJ cB q1 beaten_1_3 unused_1 (wcL (fun a => btF ml n a) n S (wcS (fun a => btF ml n a) n (wcI (flF ways_1 (nI 0) 10240) n) (S - 1)) la) ml n S la hw_3 (by first | assumption | omega) (by first | assumption | omega) (by first | assumption | omega)) (cwV 3 hts gX1_countWalks_X1_goOn rfl rfl rfl (by decide +kernel) ⟨Nat.le_of_ble_eq_true rfl, Nat.le_of_ble_eq_true rfl⟩) 0 1 rfl rfl rfl rfl hl.1 rfl (Nat.le_of_ble_eq_true rfl) dX1_countWalks_65 ⟨Nat.zero_le _, Nat.zero_le _⟩) (fun u_65 H locs hw_65 hP hD hS => ?_)
                    obtain ⟨ways_1_65, rfl⟩ : ∃ z, z = u_65 := ⟨_, rfl⟩
                    have e_ways_1_65 := hw_65
                    have e_ways_1_65 := e_ways_1_65.symm
                    subst e_ways_1_65
                    have hP : va_P D vwCl (wX1 q1 cI cJ cB beaten_1_3 unused_1 (gnF (fun a => btF ml n a) n S la (wcL (fun a => btF ml n a) n S (wcS (fun a => btF ml n a) n (wcI (flF ways_1 (nI 0) 10240) n) (S - 1)) la)) ++ wX4 q4 cI cJ cB parts_4 wins_4 draws_4 points_4 count_4 changes_4) H := hP.sub (ws' := (wX1 q1 cI cJ cB beaten_1_3 unused_1 (gnF (fun a => btF ml n a) n S la (wcL (fun a => btF ml n a) n S (wcS (fun a => btF ml n a) n (wcI (flF ways_1 (nI 0) 10240) n) (S - 1)) la)) ++ wX4 q4 cI cJ cB parts_4 wins_4 draws_4 points_4 count_4 changes_4)) [5, 6, 7, 8, 0, 1, 2, 3, 4] rfl
                    have hD : va_D A (wX1 q1 cI cJ cB beaten_1_3 unused_1 (gnF (fun a => btF ml n a) n S la (wcL (fun a => btF ml n a) n S (wcS (fun a => btF ml n a) n (wcI (flF ways_1 (nI 0) 10240) n) (S - 1)) la)) ++ wX4 q4 cI cJ cB parts_4 wins_4 draws_4 points_4 count_4 changes_4) := hD.sub (ws' := (wX1 q1 cI cJ cB beaten_1_3 unused_1 (gnF (fun a => btF ml n a) n S la (wcL (fun a => btF ml n a) n S (wcS (fun a => btF ml n a) n (wcI (flF ways_1 (nI 0) 10240) n) (S - 1)) la)) ++ wX4 q4 cI cJ cB parts_4 wins_4 draws_4 points_4 count_4 changes_4)) [5, 6, 7, 8, 0, 1, 2, 3, 4] (by decide) rfl
                    refine lv_iinc (v := nI (la + 1)) (lv' := [(4, .int (nI (la + 1))), (0, .ref (q1 0)), (1, .ref (q4 0)), (2, .int (nI n)), (3, .int (nI S))]) hx hb dX1_countWalks_68 hl (k := 4) rfl (nI_add _ _) (by decide) rfl (fun ls hl => ?_)
                    refine lv_goto (tgt := 54) hx hb dX1_countWalks_71 (by decide) ?_
                    exact ih_54 (la + 1) (by omega) (by omega) _ _ hP hD hS ls (lv_sub hl [1, 2, 3, 4, 0] rfl)
              exact hL_54 _ 0 (Nat.zero_le _) (Nat.lt_succ_self _) _ _ hP hD hS ls (lv_sub hl [1, 2, 3, 4, 0] rfl)
        exact hL_43 _ 1 (Nat.le_refl _) (by omega) (Nat.lt_succ_self _) _ _ hP hD hS ls (lv_sub hl [1, 2, 3, 0] rfl)
      · skip
        have c_18 := k_ge_n (by omega) (by omega) c_18
        have hp512 := pow_lt_1024 (n := p1) (by omega)
        refine lv_aload_n hx hb dX1_countWalks_21 rfl (lv_at hl 0 rfl) ?_
        refine k_get (ci := 1) (v := .ref (q1 3)) (C := RX1) (Tb := TX1) (N := 3) hx hb hts hu_1 hown hKW hP 0 rfl rfl 2 (by decide) hf_18 rfl rfl dX1_countWalks_22 ?_
        refine lv_iconst (v := nI 1) hx hb dX1_countWalks_25 (by decide) ?_
        refine lv_iload_n hx hb dX1_countWalks_26 rfl (lv_at hl 3 rfl) ?_
        refine lv_ishl hx hb dX1_countWalks_27 ?_
        refine k_top (y := nI (2 ^ p1)) (k_shl1 (by omega)) ?_
        refine lv_bipush (v := nI 10) hx hb dX1_countWalks_28 (by decide) ?_
        refine k_imul hx hb dX1_countWalks_30 ?_
        refine lv_iload_n hx hb dX1_countWalks_31 rfl (lv_at hl 3 rfl) ?_
        refine k_iadd hx hb dX1_countWalks_32 ?_
        refine lv_iconst (v := nI 1) hx hb dX1_countWalks_33 (by decide) ?_
        refine k_iast (n := 10240) (i := ((2 ^ p1) * 10) + p1) (x := nI 1) (w' := (wX1 q1 cI cJ cB beaten_1_3 unused_1 (upd (wcI (flF ways_1 (nI 0) 10240) p1) (((2 ^ p1) * 10) + p1) (nI 1)) ++ wX4 q4 cI cJ cB parts_4 wins_4 draws_4 points_4 count_4 changes_4)) hx hb hKW hP hD hS 3 0 rfl rfl (by omega) (by omega) dX1_countWalks_34 rfl (fun H locs hP hD hS => ?_)
        refine lv_iinc (v := nI (p1 + 1)) (lv' := [(3, .int (nI (p1 + 1))), (0, .ref (q1 0)), (1, .ref (q4 0)), (2, .int (nI n))]) hx hb dX1_countWalks_35 hl (k := 3) rfl (nI_add _ _) (by decide) rfl (fun ls hl => ?_)
        refine lv_goto (tgt := 16) hx hb dX1_countWalks_38 (by decide) ?_
        exact ih_16 (p1 + 1) (by omega) (by omega) _ _ hP hD hS ls (lv_sub hl [1, 2, 3, 0] rfl)
  exact hL_16 _ 0 (Nat.zero_le _) (Nat.lt_succ_self _) _ _ hP hD hS ls (lv_sub hl [1, 2, 3, 0] rfl)
