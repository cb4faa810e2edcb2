def rmX1_fillBeaten : Room := { frames := 1, cells := 0, slots := 0, locals := 22 }
set_option maxHeartbeats 4000000 in
set_option maxRecDepth 100000 in
theorem c_X1_fillBeaten (l : Launch) (D : va_G) (cI cJ cB : ClassId) (q1 : Nat → Nat) (q4 : Nat → Nat) (beaten_1 : Nat → Int32) (unused_1 : Nat → Int32) (ways_1 : Nat → Int32) (lw_1 : Nat) (parts_4 : Nat → Int32) (wins_4 : Nat → Int32) (draws_4 : Nat → Int32) (points_4 : Nat → Int32) (count_4 : Int32) (changes_4 : Int32) (ml : List Mt) (n : Nat) (hM : MR parts_4 wins_4 draws_4 points_4 ml) (hm120 : ml.length ≤ 120) (hn10 : n ≤ 10) : ∀ sz, Met l yX1_fillBeaten wsX1_fillBeaten rmX1_fillBeaten (va_Pc [.ref (q1 0), .ref (q4 0), .int (nI n)] (PW D (kT cI cJ cB) sz (wX1 q1 cI cJ cB beaten_1 unused_1 ways_1 lw_1 ++ wX4 q4 cI cJ cB parts_4 wins_4 draws_4 points_4 count_4 changes_4))) (va_Qv (S := (Nat → Int32)) (fun beaten_1' => ∀ a, a < n → beaten_1' a = nI (btF ml n a)) (QW D sz (wX1 q1 cI cJ cB beaten_1 unused_1 ways_1 lw_1 ++ wX4 q4 cI cJ cB parts_4 wins_4 draws_4 points_4 count_4 changes_4) (fun beaten_1' => (wX1 q1 cI cJ cB beaten_1' unused_1 ways_1 lw_1 ++ wX4 q4 cI cJ cB parts_4 wins_4 draws_4 points_4 count_4 changes_4))) (va_A (wX1 q1 cI cJ cB beaten_1 unused_1 ways_1 lw_1 ++ wX4 q4 cI cJ cB parts_4 wins_4 draws_4 points_4 count_4 changes_4) sz)) 0 0 (va_A (wX1 q1 cI cJ cB beaten_1 unused_1 ways_1 lw_1 ++ wX4 q4 cI cJ cB parts_4 wins_4 draws_4 points_4 count_4 changes_4) sz) := by
  intro sz
  refine Met.ofW (cc := cX1_fillBeaten) (maxL := 5) (ret := none) (by decide) rfl ?_
  intro p e s m args below meth c s₁ B hml hv
  obtain ⟨hav, hsz, hP, hKW, hD0⟩ := hv
  have hx := B.exec
  have hb := B.bytes
  have hr := B.returns
  have hts := atoms_spec (ws := wsX1_fillBeaten) B.pre
  have hown : s.vm.findClass RX1 = some m.cls := findClass_of_methodNamed B.named
  have hlocks := B.notSynchronized
  subst hsz
  have hD := hD0.self (sz := s.heap.size)
  obtain ⟨A, hAe⟩ : ∃ A : Nat → Prop, A = va_A (wX1 q1 cI cJ cB beaten_1 unused_1 ways_1 lw_1 ++ wX4 q4 cI cJ cB parts_4 wins_4 draws_4 points_4 count_4 changes_4) s.heap.size := ⟨_, rfl⟩
  rw [← hAe] at hD
  have hA : ∀ q : Nat, s.heap.size ≤ q → A q := fun q h => by rw [hAe]; exact Or.inr h
  have hS : va_S A s.heap s.heap [] := va_S.rf
  refine k_gen (fun Q hQ => ?_)
  have hl := lv_entry ([.ref (q1 0), .ref (q4 0), .int (nI n)]) (n := 5) (Nat.le_of_ble_eq_true rfl)
  refine k_entry hav (lg_entry_eq ..) ?_
  generalize (lg_sl ([.ref (q1 0), .ref (q4 0), .int (nI n)]) ++ List.replicate (5 - (lg_sl ([.ref (q1 0), .ref (q4 0), .int (nI n)])).length) Slot.unset).toArray = ls at hl ⊢
  have hl : lv_has ls 5 [(0, .ref (q1 0)), (1, .ref (q4 0)), (2, .int (nI n))] := hl
  have hu_1 : ∀ w ∈ u_ws RX1 TX1 3, w ∈ wsX1_fillBeaten := by decide +kernel
  have hf_9 : Cond.fieldLink RX1 9 "MeetingRanks$Beating" "beaten" "[I" ∈ wsX1_fillBeaten := by decide +kernel
  refine lv_iconst (v := nI 0) hx hb dX1_fillBeaten_0 (by decide) ?_
  refine lv_istore_n (lv' := [(3, .int (nI 0)), (0, .ref (q1 0)), (1, .ref (q4 0)), (2, .int (nI n))]) hx hb dX1_fillBeaten_1 rfl hl (by decide) rfl (fun ls hl => ?_)
  have hL_2 : ∀ (fu : Nat) (a : Nat) (f : Nat → Int32) (ha : a ≤ n) (hf : ∀ x, x < a → f x = nI (btF ml n x)), n - a < fu → ∀ (H : Heap) (locs : List Loc), va_P D vwCl (wX1 q1 cI cJ cB f unused_1 ways_1 lw_1 ++ wX4 q4 cI cJ cB parts_4 wins_4 draws_4 points_4 count_4 changes_4) H → va_D A (wX1 q1 cI cJ cB f unused_1 ways_1 lw_1 ++ wX4 q4 cI cJ cB parts_4 wins_4 draws_4 points_4 count_4 changes_4) → va_S A s.heap H locs → ∀ (ls : Array Slot), lv_has ls 5 [(0, .ref (q1 0)), (1, .ref (q4 0)), (2, .int (nI n)), (3, .int (nI a))] → W p l e (headSpec wsX1_fillBeaten rmX1_fillBeaten).room s m args below meth c H locs 0 0 Q (F0 m 2 ls []) := by
    intro fu
    induction fu with
    | zero => intro a f ha hf hfu; exact absurd hfu (Nat.not_lt_zero _)
    | succ fu ih_2 =>
      intro a f ha hf hfu H locs hP hD hS ls hl
      refine lv_iload_n hx hb dX1_fillBeaten_2 rfl (lv_at hl 3 rfl) ?_
      refine lv_iload_n hx hb dX1_fillBeaten_3 rfl (lv_at hl 2 rfl) ?_
      refine lv_icmp_ge (tgt := 65) hx hb dX1_fillBeaten_4 (by decide) (fun c_4 => ?_) (fun c_4 => ?_)
      · skip
        have c_4 := k_ge (by omega) (by omega) c_4
        obtain rfl : n = a := by omega
        subst hQ; subst hAe
        exact W.vret hx hb hr (fun tt9 ht9 _ => ⟨⟨(f), rfl, hf, by rw [ht9]; exact hP, hD⟩, hS.F ht9⟩) hS.2.2 dX1_fillBeaten_65
      · skip
        have c_4 := k_ge_n (by omega) (by omega) c_4
        refine lv_aload_n hx hb dX1_fillBeaten_7 rfl (lv_at hl 0 rfl) ?_
        refine k_get (ci := 1) (v := .ref (q1 1)) (C := RX1) (Tb := TX1) (N := 3) hx hb hts hu_1 hown hKW hP 0 rfl rfl 0 (by decide) hf_9 rfl rfl dX1_fillBeaten_8 ?_
        refine lv_iload_n hx hb dX1_fillBeaten_11 rfl (lv_at hl 3 rfl) ?_
        refine lv_iconst (v := nI 0) hx hb dX1_fillBeaten_12 (by decide) ?_
        refine k_iast (n := 10) (i := a) (x := nI 0) (w' := (wX1 q1 cI cJ cB (upd f a (nI 0)) unused_1 ways_1 lw_1 ++ wX4 q4 cI cJ cB parts_4 wins_4 draws_4 points_4 count_4 changes_4)) hx hb hKW hP hD hS 1 0 rfl rfl (by omega) (by omega) dX1_fillBeaten_13 rfl (fun H locs hP hD hS => ?_)
        refine lv_iconst (v := nI 0) hx hb dX1_fillBeaten_14 (by decide) ?_
        refine lv_istore (lv' := [(4, .int (nI 0)), (0, .ref (q1 0)), (1, .ref (q4 0)), (2, .int (nI n)), (3, .int (nI a))]) hx hb dX1_fillBeaten_15 hl (by decide) rfl (fun ls hl => ?_)
        have hL_17 : ∀ (fu : Nat) (b : Nat) (g : Nat → Int32) (hb2 : b ≤ n) (hf2 : ∀ x, x < a → g x = nI (btF ml n x)) (hg : g a = nI (bitsOf (fun b => decide (ov ml b a < ov ml a b)) b)), n - b < fu → ∀ (H : Heap) (locs : List Loc), va_P D vwCl (wX1 q1 cI cJ cB g unused_1 ways_1 lw_1 ++ wX4 q4 cI cJ cB parts_4 wins_4 draws_4 points_4 count_4 changes_4) H → va_D A (wX1 q1 cI cJ cB g unused_1 ways_1 lw_1 ++ wX4 q4 cI cJ cB parts_4 wins_4 draws_4 points_4 count_4 changes_4) → va_S A s.heap H locs → ∀ (ls : Array Slot), lv_has ls 5 [(0, .ref (q1 0)), (1, .ref (q4 0)), (2, .int (nI n)), (3, .int (nI a)), (4, .int (nI b))] → W p l e (headSpec wsX1_fillBeaten rmX1_fillBeaten).room s m args below meth c H locs 0 0 Q (F0 m 17 ls []) := by
          intro fu
          induction fu with
          | zero => intro b g hb2 hf2 hg hfu; exact absurd hfu (Nat.not_lt_zero _)
          | succ fu ih_17 =>
            intro b g hb2 hf2 hg hfu H locs hP hD hS ls hl
            have hov1 := ov_le ml a b
            have hov2 := ov_le ml b a
            refine lv_iload hx hb dX1_fillBeaten_17 (lv_at hl 4 rfl) ?_
            refine lv_iload_n hx hb dX1_fillBeaten_19 rfl (lv_at hl 2 rfl) ?_
            refine lv_icmp_ge (tgt := 59) hx hb dX1_fillBeaten_20 (by decide) (fun c_20 => ?_) (fun c_20 => ?_)
            · skip
              have c_20 := k_ge (by omega) (by omega) c_20
              obtain rfl : n = b := by omega
              refine lv_iinc (v := nI (a + 1)) (lv' := [(3, .int (nI (a + 1))), (0, .ref (q1 0)), (1, .ref (q4 0)), (2, .int (nI n)), (4, .int (nI n))]) hx hb dX1_fillBeaten_59 hl (k := 3) rfl (nI_add _ _) (by decide) rfl (fun ls hl => ?_)
              refine lv_goto (tgt := 2) hx hb dX1_fillBeaten_62 (by decide) ?_
              exact ih_2 _ _ (by omega) (fun x hx9 => by by_cases e9 : x = a; (subst e9; exact hg); (exact hf2 x (by omega))) (by omega) _ _ hP hD hS ls (lv_sub hl [1, 2, 3, 0] rfl)
            · skip
              have c_20 := k_ge_n (by omega) (by omega) c_20
              refine lv_aload_n hx hb dX1_fillBeaten_23 rfl (lv_at hl 1 rfl) ?_
              refine lv_iload_n hx hb dX1_fillBeaten_24 rfl (lv_at hl 3 rfl) ?_
              refine lv_iload hx hb dX1_fillBeaten_25 (lv_at hl 4 rfl) ?_
              have hs_27 : kSplit (wX1 q1 cI cJ cB g unused_1 ways_1 lw_1 ++ wX4 q4 cI cJ cB parts_4 wins_4 draws_4 points_4 count_4 changes_4) (wX4 q4 cI cJ cB parts_4 wins_4 draws_4 points_4 count_4 changes_4) (wX1 q1 cI cJ cB g unused_1 ways_1 lw_1) [4, 5, 6, 7, 8] [0, 1, 2, 3] := ⟨rfl, rfl, rfl, rfl, rfl, by decide⟩
              refine kc_i hP hD hS hA hs_27 (kV (As := [.int (nI a), .int (nI b)]) (rest := []) hx hb hml hown hts hKW hP hD hs_27 (c_X4_wins l D cI cJ cB q4 parts_4 wins_4 draws_4 points_4 count_4 changes_4 a b (by first | assumption | omega) (by first | assumption | omega)) (cwV 2 hts gX1_fillBeaten_X4_wins rfl rfl rfl (by decide +kernel) ⟨Nat.le_of_ble_eq_true rfl, Nat.le_of_ble_eq_true rfl⟩) 0 4 rfl rfl rfl rfl hl.1 rfl (Nat.le_of_ble_eq_true rfl) dX1_fillBeaten_27 ⟨Nat.zero_le _, Nat.zero_le _⟩) (fun r_27 u_27 H locs hw_27 hP hD hS => ?_)
              have er_27 := hw_27
              have er_27 := er_27.symm
              subst er_27
              have hP : va_P D vwCl (wX1 q1 cI cJ cB g unused_1 ways_1 lw_1 ++ wX4 q4 cI cJ cB parts_4 wins_4 draws_4 points_4 count_4 changes_4) H := hP.sub (ws' := (wX1 q1 cI cJ cB g unused_1 ways_1 lw_1 ++ wX4 q4 cI cJ cB parts_4 wins_4 draws_4 points_4 count_4 changes_4)) [0, 1, 2, 3, 4, 5, 6, 7, 8] rfl
              have hD : va_D A (wX1 q1 cI cJ cB g unused_1 ways_1 lw_1 ++ wX4 q4 cI cJ cB parts_4 wins_4 draws_4 points_4 count_4 changes_4) := hD.sub (ws' := (wX1 q1 cI cJ cB g unused_1 ways_1 lw_1 ++ wX4 q4 cI cJ cB parts_4 wins_4 draws_4 points_4 count_4 changes_4)) [0, 1, 2, 3, 4, 5, 6, 7, 8] (by decide) rfl
              refine k_top (y := nI (ov ml a b)) ((hM.2 a b (by omega) (by omega)).1) ?_
              refine lv_aload_n hx hb dX1_fillBeaten_30 rfl (lv_at hl 1 rfl) ?_
              refine lv_iload hx hb dX1_fillBeaten_31 (lv_at hl 4 rfl) ?_
              refine lv_iload_n hx hb dX1_fillBeaten_33 rfl (lv_at hl 3 rfl) ?_
              have hs_34 : kSplit (wX1 q1 cI cJ cB g unused_1 ways_1 lw_1 ++ wX4 q4 cI cJ cB parts_4 wins_4 draws_4 points_4 count_4 changes_4) (wX4 q4 cI cJ cB parts_4 wins_4 draws_4 points_4 count_4 changes_4) (wX1 q1 cI cJ cB g unused_1 ways_1 lw_1) [4, 5, 6, 7, 8] [0, 1, 2, 3] := ⟨rfl, rfl, rfl, rfl, rfl, by decide⟩
              refine kc_i hP hD hS hA hs_34 (kV (As := [.int (nI b), .int (nI a)]) (rest := [.int (nI (ov ml a b))]) hx hb hml hown hts hKW hP hD hs_34 (c_X4_wins l D cI cJ cB q4 parts_4 wins_4 draws_4 points_4 count_4 changes_4 b a (by first | assumption | omega) (by first | assumption | omega)) (cwV 2 hts gX1_fillBeaten_X4_wins rfl rfl rfl (by decide +kernel) ⟨Nat.le_of_ble_eq_true rfl, Nat.le_of_ble_eq_true rfl⟩) 0 4 rfl rfl rfl rfl hl.1 rfl (Nat.le_of_ble_eq_true rfl) dX1_fillBeaten_34 ⟨Nat.zero_le _, Nat.zero_le _⟩) (fun r_34 u_34 H locs hw_34 hP hD hS => ?_)
              have er_34 := hw_34
              have er_34 := er_34.symm
              subst er_34
              have hP : va_P D vwCl (wX1 q1 cI cJ cB g unused_1 ways_1 lw_1 ++ wX4 q4 cI cJ cB parts_4 wins_4 draws_4 points_4 count_4 changes_4) H := hP.sub (ws' := (wX1 q1 cI cJ cB g unused_1 ways_1 lw_1 ++ wX4 q4 cI cJ cB parts_4 wins_4 draws_4 points_4 count_4 changes_4)) [0, 1, 2, 3, 4, 5, 6, 7, 8] rfl
              have hD : va_D A (wX1 q1 cI cJ cB g unused_1 ways_1 lw_1 ++ wX4 q4 cI cJ cB parts_4 wins_4 draws_4 points_4 count_4 changes_4) := hD.sub (ws' := (wX1 q1 cI cJ cB g unused_1 ways_1 lw_1 ++ wX4 q4 cI cJ cB parts_4 wins_4 draws_4 points_4 count_4 changes_4)) [0, 1, 2, 3, 4, 5, 6, 7, 8] (by decide) rfl
              refine k_top (y := nI (ov ml b a)) ((hM.2 b a (by omega) (by omega)).1) ?_
              refine lv_icmp_le (tgt := 53) hx hb dX1_fillBeaten_37 (by decide) (fun c_37 => ?_) (fun c_37 => ?_)
              · skip
                have c_37 := k_le (by omega) (by omega) c_37
                refine lv_iinc (v := nI (b + 1)) (lv' := [(4, .int (nI (b + 1))), (0, .ref (q1 0)), (1, .ref (q4 0)), (2, .int (nI n)), (3, .int (nI a))]) hx hb dX1_fillBeaten_53 hl (k := 4) rfl (nI_add _ _) (by decide) rfl (fun ls hl => ?_)
                refine lv_goto (tgt := 17) hx hb dX1_fillBeaten_56 (by decide) ?_
                exact ih_17 _ _ (by omega) hf2 (by rw [hg, bits_n (P := (fun b => decide (ov ml b a < ov ml a b))) (k := b) (by rw [decide_eq_true_eq]; omega)]) (by omega) _ _ hP hD hS ls (lv_sub hl [1, 2, 3, 4, 0] rfl)
              · skip
                have c_37 := k_le_n (by omega) (by omega) c_37
                refine lv_aload_n hx hb dX1_fillBeaten_40 rfl (lv_at hl 0 rfl) ?_
                refine k_get (ci := 1) (v := .ref (q1 1)) (C := RX1) (Tb := TX1) (N := 3) hx hb hts hu_1 hown hKW hP 0 rfl rfl 0 (by decide) hf_9 rfl rfl dX1_fillBeaten_41 ?_
                refine lv_iload_n hx hb dX1_fillBeaten_44 rfl (lv_at hl 3 rfl) ?_
                refine lv_dup2_11 hx hb dX1_fillBeaten_45 rfl rfl ?_
                refine k_iald (n := 10) (i := a) hx hb hKW hP 1 0 rfl rfl (by omega) (by omega) dX1_fillBeaten_46 ?_
                refine k_top (y := nI (bitsOf (fun b => decide (ov ml b a < ov ml a b)) b)) (hg) ?_
                refine lv_iconst (v := nI 1) hx hb dX1_fillBeaten_47 (by decide) ?_
                refine lv_iload hx hb dX1_fillBeaten_48 (lv_at hl 4 rfl) ?_
                refine lv_ishl hx hb dX1_fillBeaten_50 ?_
                refine k_top (y := nI (2 ^ b)) (k_shl1 (by omega)) ?_
                refine lv_ior hx hb dX1_fillBeaten_51 ?_
                refine k_top (y := nI (bitsOf (fun b => decide (ov ml b a < ov ml a b)) b ||| 2 ^ b)) (k_or _ _) ?_
                refine k_iast (n := 10) (i := a) (x := nI (bitsOf (fun b => decide (ov ml b a < ov ml a b)) b ||| 2 ^ b)) (w' := (wX1 q1 cI cJ cB (upd g a (nI (bitsOf (fun b => decide (ov ml b a < ov ml a b)) b ||| 2 ^ b))) unused_1 ways_1 lw_1 ++ wX4 q4 cI cJ cB parts_4 wins_4 draws_4 points_4 count_4 changes_4)) hx hb hKW hP hD hS 1 0 rfl rfl (by omega) (by omega) dX1_fillBeaten_52 rfl (fun H locs hP hD hS => ?_)
                refine lv_iinc (v := nI (b + 1)) (lv' := [(4, .int (nI (b + 1))), (0, .ref (q1 0)), (1, .ref (q4 0)), (2, .int (nI n)), (3, .int (nI a))]) hx hb dX1_fillBeaten_53 hl (k := 4) rfl (nI_add _ _) (by decide) rfl (fun ls hl => ?_)
                refine lv_goto (tgt := 17) hx hb dX1_fillBeaten_56 (by decide) ?_
                exact ih_17 _ _ (by omega) (fun x hx9 => by rw [pk_un (by omega)]; exact hf2 x hx9) (by rw [pk_us, bits_y (P := (fun b => decide (ov ml b a < ov ml a b))) (k := b) (decide_eq_true c_37)]) (by omega) _ _ hP hD hS ls (lv_sub hl [1, 2, 3, 4, 0] rfl)
        exact hL_17 _ 0 _ (Nat.zero_le _) (fun x hx9 => by rw [pk_un (by omega)]; exact hf x hx9) pk_us (Nat.lt_succ_self _) _ _ hP hD hS ls (lv_sub hl [1, 2, 3, 4, 0] rfl)
  exact hL_2 _ 0 _ (Nat.zero_le _) (fun x hx9 => absurd hx9 (Nat.not_lt_zero x)) (Nat.lt_succ_self _) _ _ hP hD hS ls (lv_sub hl [1, 2, 3, 0] rfl)
def rmX1_useRings : Room := { frames := 1, cells := 0, slots := 0, locals := 21 }
set_option maxHeartbeats 4000000 in
set_option maxRecDepth 100000 in
theorem c_X1_useRings (l : Launch) (D : va_G) (cI cJ cB : ClassId) (q1 : Nat → Nat) (beaten_1 : Nat → Int32) (unused_1 : Nat → Int32) (ways_1 : Nat → Int32) (lw_1 : Nat) (o : Nat → Nat → Nat) (n : Nat) (a : Nat) (b : Nat) (c2 : Nat) (hO : ∀ x y, x < n → y < n → unused_1 (x * 10 + y) = nI (o x y)) (ho : ∀ x y, o x y ≤ 120) (hn10 : n ≤ 10) (ha : a < n) (hb2 : b < n) (hc2 : c2 < n) (hab : a ≠ b) (hbc : b ≠ c2) (hac : a ≠ c2) : ∀ sz, Met l yX1_useRings wsX1_useRings rmX1_useRings (va_Pc [.ref (q1 0), .int (nI a), .int (nI b), .int (nI c2)] (PW D (kT cI cJ cB) sz (wX1 q1 cI cJ cB beaten_1 unused_1 ways_1 lw_1))) (va_Qi (S := (Nat → Int32)) (fun r unused_1' => r = nI (ring3 o a b c2) ∧ ∀ x y, x < n → y < n → unused_1' (x * 10 + y) = nI (ringO o a b c2 x y)) (QW D sz (wX1 q1 cI cJ cB beaten_1 unused_1 ways_1 lw_1) (fun unused_1' => (wX1 q1 cI cJ cB beaten_1 unused_1' ways_1 lw_1))) (va_A (wX1 q1 cI cJ cB beaten_1 unused_1 ways_1 lw_1) sz)) 0 0 (va_A (wX1 q1 cI cJ cB beaten_1 unused_1 ways_1 lw_1) sz) := by
  intro sz
  refine Met.ofW (cc := cX1_useRings) (maxL := 8) (ret := (some .int)) (by decide) rfl ?_
  intro p e s m args below meth c s₁ B hml hv
  obtain ⟨hav, hsz, hP, hKW, hD0⟩ := hv
  have hx := B.exec
  have hb := B.bytes
  have hr := B.returns
  have hts := atoms_spec (ws := wsX1_useRings) B.pre
  have hown : s.vm.findClass RX1 = some m.cls := findClass_of_methodNamed B.named
  have hlocks := B.notSynchronized
  subst hsz
  have hD := hD0.self (sz := s.heap.size)
  obtain ⟨A, hAe⟩ : ∃ A : Nat → Prop, A = va_A (wX1 q1 cI cJ cB beaten_1 unused_1 ways_1 lw_1) s.heap.size := ⟨_, rfl⟩
  rw [← hAe] at hD
  have hA : ∀ q : Nat, s.heap.size ≤ q → A q := fun q h => by rw [hAe]; exact Or.inr h
  have hS : va_S A s.heap s.heap [] := va_S.rf
  refine k_gen (fun Q hQ => ?_)
  have hl := lv_entry ([.ref (q1 0), .int (nI a), .int (nI b), .int (nI c2)]) (n := 8) (Nat.le_of_ble_eq_true rfl)
  refine k_entry hav (lg_entry_eq ..) ?_
  generalize (lg_sl ([.ref (q1 0), .int (nI a), .int (nI b), .int (nI c2)]) ++ List.replicate (8 - (lg_sl ([.ref (q1 0), .int (nI a), .int (nI b), .int (nI c2)])).length) Slot.unset).toArray = ls at hl ⊢
  have hl : lv_has ls 8 [(0, .ref (q1 0)), (1, .int (nI a)), (2, .int (nI b)), (3, .int (nI c2))] := hl
  have hu_1 : ∀ w ∈ u_ws RX1 TX1 3, w ∈ wsX1_useRings := by decide +kernel
  have hf_15 : Cond.fieldLink RX1 15 "MeetingRanks$Beating" "unused" "[I" ∈ wsX1_useRings := by decide +kernel
  have ho1 := ho a b
  have ho2 := ho b c2
  have ho3 := ho c2 a
  have hle9 := ring3_le o a b c2
  refine lv_iload_n hx hb dX1_useRings_0 rfl (lv_at hl 1 rfl) ?_
  refine lv_bipush (v := nI 10) hx hb dX1_useRings_1 (by decide) ?_
  refine k_imul hx hb dX1_useRings_3 ?_
  refine lv_iload_n hx hb dX1_useRings_4 rfl (lv_at hl 2 rfl) ?_
  refine k_iadd hx hb dX1_useRings_5 ?_
  refine lv_istore (lv' := [(4, .int (nI ((a * 10) + b))), (0, .ref (q1 0)), (1, .int (nI a)), (2, .int (nI b)), (3, .int (nI c2))]) hx hb dX1_useRings_6 hl (by decide) rfl (fun ls hl => ?_)
  refine lv_iload_n hx hb dX1_useRings_8 rfl (lv_at hl 3 rfl) ?_
  refine lv_bipush (v := nI 10) hx hb dX1_useRings_9 (by decide) ?_
  refine k_imul hx hb dX1_useRings_11 ?_
  refine lv_iload_n hx hb dX1_useRings_12 rfl (lv_at hl 4 rfl) ?_
  refine k_iadd hx hb dX1_useRings_13 ?_
  refine lv_istore (lv' := [(5, .int (nI ((b * 10) + c2))), (4, .int (nI ((a * 10) + b))), (0, .ref (q1 0)), (1, .int (nI a)), (2, .int (nI b)), (3, .int (nI c2))]) hx hb dX1_useRings_14 hl (by decide) rfl (fun ls hl => ?_)
  refine lv_iload_n hx hb dX1_useRings_16 rfl (lv_at hl 5 rfl) ?_
  refine lv_bipush (v := nI 10) hx hb dX1_useRings_17 (by decide) ?_
  refine k_imul hx hb dX1_useRings_19 ?_
  refine lv_iload_n hx hb dX1_useRings_20 rfl (lv_at hl 3 rfl) ?_
  refine k_iadd hx hb dX1_useRings_21 ?_
  refine lv_istore (lv' := [(6, .int (nI ((c2 * 10) + a))), (5, .int (nI ((b * 10) + c2))), (4, .int (nI ((a * 10) + b))), (0, .ref (q1 0)), (1, .int (nI a)), (2, .int (nI b)), (3, .int (nI c2))]) hx hb dX1_useRings_22 hl (by decide) rfl (fun ls hl => ?_)
  refine lv_aload_n hx hb dX1_useRings_24 rfl (lv_at hl 3 rfl) ?_
  refine k_get (ci := 1) (v := .ref (q1 2)) (C := RX1) (Tb := TX1) (N := 3) hx hb hts hu_1 hown hKW hP 0 rfl rfl 1 (by decide) hf_15 rfl rfl dX1_useRings_25 ?_
  refine lv_iload hx hb dX1_useRings_28 (lv_at hl 2 rfl) ?_
  refine k_iald (n := 100) (i := (a * 10) + b) hx hb hKW hP 2 0 rfl rfl (by omega) (by omega) dX1_useRings_30 ?_
  refine k_top (y := nI (o a b)) (hO a b ha hb2) ?_
  refine lv_aload_n hx hb dX1_useRings_31 rfl (lv_at hl 3 rfl) ?_
  refine k_get (ci := 1) (v := .ref (q1 2)) (C := RX1) (Tb := TX1) (N := 3) hx hb hts hu_1 hown hKW hP 0 rfl rfl 1 (by decide) hf_15 rfl rfl dX1_useRings_32 ?_
  refine lv_iload hx hb dX1_useRings_35 (lv_at hl 1 rfl) ?_
  refine k_iald (n := 100) (i := (b * 10) + c2) hx hb hKW hP 2 0 rfl rfl (by omega) (by omega) dX1_useRings_37 ?_
  refine k_top (y := nI (o b c2)) (hO b c2 hb2 hc2) ?_
  refine lv_aload_n hx hb dX1_useRings_38 rfl (lv_at hl 3 rfl) ?_
  refine k_get (ci := 1) (v := .ref (q1 2)) (C := RX1) (Tb := TX1) (N := 3) hx hb hts hu_1 hown hKW hP 0 rfl rfl 1 (by decide) hf_15 rfl rfl dX1_useRings_39 ?_
  refine lv_iload hx hb dX1_useRings_42 (lv_at hl 0 rfl) ?_
  refine k_iald (n := 100) (i := (c2 * 10) + a) hx hb hKW hP 2 0 rfl rfl (by omega) (by omega) dX1_useRings_44 ?_
  refine k_top (y := nI (o c2 a)) (hO c2 a hc2 ha) ?_
  refine va_mmin hx hb (hml.trans hl.1.symm) hown (hts (.methodLink RX1 60 Lib.Math.min.name) (by decide +kernel)) (hts (.static Lib.Math.min.name) (by decide +kernel)) (hts (.initialized "java/lang/Math") (by decide +kernel)) (hts (.code Lib.Math.min.name Lib.Math.min.code 2 (some .int)) (by decide +kernel)) (Nat.le_of_ble_eq_true rfl) (Nat.le_of_ble_eq_true rfl) (Nat.zero_le _) (Nat.zero_le _) dX1_useRings_45 ?_
  refine k_top (y := nI (min (o b c2) (o c2 a))) (k_minN (by omega) (by omega)) ?_
  refine va_mmin hx hb (hml.trans hl.1.symm) hown (hts (.methodLink RX1 60 Lib.Math.min.name) (by decide +kernel)) (hts (.static Lib.Math.min.name) (by decide +kernel)) (hts (.initialized "java/lang/Math") (by decide +kernel)) (hts (.code Lib.Math.min.name Lib.Math.min.code 2 (some .int)) (by decide +kernel)) (Nat.le_of_ble_eq_true rfl) (Nat.le_of_ble_eq_true rfl) (Nat.zero_le _) (Nat.zero_le _) dX1_useRings_48 ?_
  refine k_top (y := nI (ring3 o a b c2)) (k_minN (by omega) (by omega)) ?_
  refine lv_istore (lv' := [(7, .int (nI (ring3 o a b c2))), (6, .int (nI ((c2 * 10) + a))), (5, .int (nI ((b * 10) + c2))), (4, .int (nI ((a * 10) + b))), (0, .ref (q1 0)), (1, .int (nI a)), (2, .int (nI b)), (3, .int (nI c2))]) hx hb dX1_useRings_51 hl (by decide) rfl (fun ls hl => ?_)
  refine lv_aload_n hx hb dX1_useRings_53 rfl (lv_at hl 4 rfl) ?_
  refine k_get (ci := 1) (v := .ref (q1 2)) (C := RX1) (Tb := TX1) (N := 3) hx hb hts hu_1 hown hKW hP 0 rfl rfl 1 (by decide) hf_15 rfl rfl dX1_useRings_54 ?_
  refine lv_iload hx hb dX1_useRings_57 (lv_at hl 3 rfl) ?_
  refine lv_dup2_11 hx hb dX1_useRings_59 rfl rfl ?_
  refine k_iald (n := 100) (i := (a * 10) + b) hx hb hKW hP 2 0 rfl rfl (by omega) (by omega) dX1_useRings_60 ?_
  refine k_top (y := nI (o a b)) (hO a b ha hb2) ?_
  refine lv_iload hx hb dX1_useRings_61 (lv_at hl 0 rfl) ?_
  refine k_isub hx hb (by omega) dX1_useRings_63 ?_
  refine k_iast (n := 100) (i := (a * 10) + b) (x := nI ((o a b) - (ring3 o a b c2))) (w' := (wX1 q1 cI cJ cB beaten_1 (upd unused_1 ((a * 10) + b) (nI ((o a b) - (ring3 o a b c2)))) ways_1 lw_1)) hx hb hKW hP hD hS 2 0 rfl rfl (by omega) (by omega) dX1_useRings_64 rfl (fun H locs hP hD hS => ?_)
  refine lv_aload_n hx hb dX1_useRings_65 rfl (lv_at hl 4 rfl) ?_
  refine k_get (ci := 1) (v := .ref (q1 2)) (C := RX1) (Tb := TX1) (N := 3) hx hb hts hu_1 hown hKW hP 0 rfl rfl 1 (by decide) hf_15 rfl rfl dX1_useRings_66 ?_
  refine lv_iload hx hb dX1_useRings_69 (lv_at hl 2 rfl) ?_
  refine lv_dup2_11 hx hb dX1_useRings_71 rfl rfl ?_
  refine k_iald (n := 100) (i := (b * 10) + c2) hx hb hKW hP 2 0 rfl rfl (by omega) (by omega) dX1_useRings_72 ?_
  refine k_top (y := nI (o b c2)) (by rw [pk_un (by omega)]; exact hO b c2 hb2 hc2) ?_
  refine lv_iload hx hb dX1_useRings_73 (lv_at hl 0 rfl) ?_
  refine k_isub hx hb (by omega) dX1_useRings_75 ?_
  refine k_iast (n := 100) (i := (b * 10) + c2) (x := nI ((o b c2) - (ring3 o a b c2))) (w' := (wX1 q1 cI cJ cB beaten_1 (upd (upd unused_1 ((a * 10) + b) (nI ((o a b) - (ring3 o a b c2)))) ((b * 10) + c2) (nI ((o b c2) - (ring3 o a b c2)))) ways_1 lw_1)) hx hb hKW hP hD hS 2 0 rfl rfl (by omega) (by omega) dX1_useRings_76 rfl (fun H locs hP hD hS => ?_)
  refine lv_aload_n hx hb dX1_useRings_77 rfl (lv_at hl 4 rfl) ?_
  refine k_get (ci := 1) (v := .ref (q1 2)) (C := RX1) (Tb := TX1) (N := 3) hx hb hts hu_1 hown hKW hP 0 rfl rfl 1 (by decide) hf_15 rfl rfl dX1_useRings_78 ?_
  refine lv_iload hx hb dX1_useRings_81 (lv_at hl 1 rfl) ?_
  refine lv_dup2_11 hx hb dX1_useRings_83 rfl rfl ?_
  refine k_iald (n := 100) (i := (c2 * 10) + a) hx hb hKW hP 2 0 rfl rfl (by omega) (by omega) dX1_useRings_84 ?_
  refine k_top (y := nI (o c2 a)) (by rw [pk_un (by omega), pk_un (by omega)]; exact hO c2 a hc2 ha) ?_
  refine lv_iload hx hb dX1_useRings_85 (lv_at hl 0 rfl) ?_
  refine k_isub hx hb (by omega) dX1_useRings_87 ?_
  refine k_iast (n := 100) (i := (c2 * 10) + a) (x := nI ((o c2 a) - (ring3 o a b c2))) (w' := (wX1 q1 cI cJ cB beaten_1 (upd (upd (upd unused_1 ((a * 10) + b) (nI ((o a b) - (ring3 o a b c2)))) ((b * 10) + c2) (nI ((o b c2) - (ring3 o a b c2)))) ((c2 * 10) + a) (nI ((o c2 a) - (ring3 o a b c2)))) ways_1 lw_1)) hx hb hKW hP hD hS 2 0 rfl rfl (by omega) (by omega) dX1_useRings_88 rfl (fun H locs hP hD hS => ?_)
  refine lv_iload hx hb dX1_useRings_89 (lv_at hl 0 rfl) ?_
  subst hQ; subst hAe
  exact W.iret (v := nI (ring3 o a b c2)) hx hb hr (fun tt9 ht9 _ => ⟨⟨nI (ring3 o a b c2), (upd (upd (upd unused_1 ((a * 10) + b) (nI ((o a b) - (ring3 o a b c2)))) ((b * 10) + c2) (nI ((o b c2) - (ring3 o a b c2)))) ((c2 * 10) + a) (nI ((o c2 a) - (ring3 o a b c2)))), rfl, ⟨rfl, fun x y hx9 hy9 => ring_upd2 hO hn10 ha hb2 hc2 hab hbc hac rfl hx9 hy9⟩, by rw [ht9]; exact hP, hD⟩, hS.F ht9⟩) hS.2.2 dX1_useRings_91
def rmX1_countRings : Room := { frames := 2, cells := 0, slots := 0, locals := 48 }
set_option maxHeartbeats 4000000 in
set_option maxRecDepth 100000 in
theorem c_X1_countRings (l : Launch) (D : va_G) (cI cJ cB : ClassId) (q1 : Nat → Nat) (q4 : Nat → Nat) (beaten_1 : Nat → Int32) (unused_1 : Nat → Int32) (ways_1 : Nat → Int32) (lw_1 : Nat) (parts_4 : Nat → Int32) (wins_4 : Nat → Int32) (draws_4 : Nat → Int32) (points_4 : Nat → Int32) (count_4 : Int32) (changes_4 : Int32) (ml : List Mt) (n : Nat) (hM : MR parts_4 wins_4 draws_4 points_4 ml) (hm120 : ml.length ≤ 120) (hn10 : n ≤ 10) : ∀ sz, Met l yX1_countRings wsX1_countRings rmX1_countRings (va_Pc [.ref (q1 0), .ref (q4 0), .int (nI n)] (PW D (kT cI cJ cB) sz (wX1 q1 cI cJ cB beaten_1 unused_1 ways_1 lw_1 ++ wX4 q4 cI cJ cB parts_4 wins_4 draws_4 points_4 count_4 changes_4))) (va_Qi (S := (Nat → Int32)) (fun r unused_1' => r = nI ((bd1 n n 0 (0, fun a b => ov ml a b)).1)) (QW D sz (wX1 q1 cI cJ cB beaten_1 unused_1 ways_1 lw_1 ++ wX4 q4 cI cJ cB parts_4 wins_4 draws_4 points_4 count_4 changes_4) (fun unused_1' => (wX1 q1 cI cJ cB beaten_1 unused_1' ways_1 lw_1 ++ wX4 q4 cI cJ cB parts_4 wins_4 draws_4 points_4 count_4 changes_4))) (va_A (wX1 q1 cI cJ cB beaten_1 unused_1 ways_1 lw_1 ++ wX4 q4 cI cJ cB parts_4 wins_4 draws_4 points_4 count_4 changes_4) sz)) 0 0 (va_A (wX1 q1 cI cJ cB beaten_1 unused_1 ways_1 lw_1 ++ wX4 q4 cI cJ cB parts_4 wins_4 draws_4 points_4 count_4 changes_4) sz) := by
  intro sz
  refine Met.ofW (cc := cX1_countRings) (maxL := 7) (ret := (some .int)) (by decide) rfl ?_
  intro p e s m args below meth c s₁ B hml hv
  obtain ⟨hav, hsz, hP, hKW, hD0⟩ := hv
  have hx := B.exec
  have hb := B.bytes
  have hr := B.returns
  have hts := atoms_spec (ws := wsX1_countRings) B.pre
  have hown : s.vm.findClass RX1 = some m.cls := findClass_of_methodNamed B.named
  have hlocks := B.notSynchronized
  subst hsz
  have hD := hD0.self (sz := s.heap.size)
  obtain ⟨A, hAe⟩ : ∃ A : Nat → Prop, A = va_A (wX1 q1 cI cJ cB beaten_1 unused_1 ways_1 lw_1 ++ wX4 q4 cI cJ cB parts_4 wins_4 draws_4 points_4 count_4 changes_4) s.heap.size := ⟨_, rfl⟩
  rw [← hAe] at hD
  have hA : ∀ q : Nat, s.heap.size ≤ q → A q := fun q h => by rw [hAe]; exact Or.inr h
  have hS : va_S A s.heap s.heap [] := va_S.rf
  refine k_gen (fun Q hQ => ?_)
  have hl := lv_entry ([.ref (q1 0), .ref (q4 0), .int (nI n)]) (n := 7) (Nat.le_of_ble_eq_true rfl)
  refine k_entry hav (lg_entry_eq ..) ?_
  generalize (lg_sl ([.ref (q1 0), .ref (q4 0), .int (nI n)]) ++ List.replicate (7 - (lg_sl ([.ref (q1 0), .ref (q4 0), .int (nI n)])).length) Slot.unset).toArray = ls at hl ⊢
  have hl : lv_has ls 7 [(0, .ref (q1 0)), (1, .ref (q4 0)), (2, .int (nI n))] := hl
  have hu_1 : ∀ w ∈ u_ws RX1 TX1 3, w ∈ wsX1_countRings := by decide +kernel
  have hf_15 : Cond.fieldLink RX1 15 "MeetingRanks$Beating" "unused" "[I" ∈ wsX1_countRings := by decide +kernel
  refine lv_iconst (v := nI 0) hx hb dX1_countRings_0 (by decide) ?_
  refine lv_istore_n (lv' := [(3, .int (nI 0)), (0, .ref (q1 0)), (1, .ref (q4 0)), (2, .int (nI n))]) hx hb dX1_countRings_1 rfl hl (by decide) rfl (fun ls hl => ?_)
  have hL_2 : ∀ (fu : Nat) (a : Nat) (f : Nat → Int32) (ha : a ≤ n) (hf : ∀ x y, x < a → y < n → f (x * 10 + y) = nI (ov ml x y)), n - a < fu → ∀ (H : Heap) (locs : List Loc), va_P D vwCl (wX1 q1 cI cJ cB beaten_1 f ways_1 lw_1 ++ wX4 q4 cI cJ cB parts_4 wins_4 draws_4 points_4 count_4 changes_4) H → va_D A (wX1 q1 cI cJ cB beaten_1 f ways_1 lw_1 ++ wX4 q4 cI cJ cB parts_4 wins_4 draws_4 points_4 count_4 changes_4) → va_S A s.heap H locs → ∀ (ls : Array Slot), lv_has ls 7 [(0, .ref (q1 0)), (1, .ref (q4 0)), (2, .int (nI n)), (3, .int (nI a))] → W p l e (headSpec wsX1_countRings rmX1_countRings).room s m args below meth c H locs 0 0 Q (F0 m 2 ls []) := by
    intro fu
    induction fu with
    | zero => intro a f ha hf hfu; exact absurd hfu (Nat.not_lt_zero _)
    | succ fu ih_2 =>
      intro a f ha hf hfu H locs hP hD hS ls hl
      refine lv_iload_n hx hb dX1_countRings_2 rfl (lv_at hl 3 rfl) ?_
      refine lv_iload_n hx hb dX1_countRings_3 rfl (lv_at hl 2 rfl) ?_
      refine lv_icmp_ge (tgt := 47) hx hb dX1_countRings_4 (by decide) (fun c_4 => ?_) (fun c_4 => ?_)
      · skip
        have c_4 := k_ge (by omega) (by omega) c_4
        obtain rfl : n = a := by omega
        refine lv_iconst (v := nI 0) hx hb dX1_countRings_47 (by decide) ?_
        refine lv_istore_n (lv' := [(3, .int (nI 0)), (0, .ref (q1 0)), (1, .ref (q4 0)), (2, .int (nI n))]) hx hb dX1_countRings_48 rfl hl (by decide) rfl (fun ls hl => ?_)
        refine lv_iconst (v := nI 0) hx hb dX1_countRings_49 (by decide) ?_
        refine lv_istore (lv' := [(4, .int (nI 0)), (3, .int (nI 0)), (0, .ref (q1 0)), (1, .ref (q4 0)), (2, .int (nI n))]) hx hb dX1_countRings_50 hl (by decide) rfl (fun ls hl => ?_)
        have hL_52 : ∀ (fu : Nat) (a : Nat) (sm : Nat) (o : Nat → Nat → Nat) (f : Nat → Int32) (ha : a ≤ n) (hO : ∀ x y, x < n → y < n → f (x * 10 + y) = nI (o x y)) (ho : ∀ x y, o x y ≤ 120) (hb9 : bd1 n n 0 (0, fun a b => ov ml a b) = bd1 n (n - a) a (sm, o)), n - a < fu → ∀ (H : Heap) (locs : List Loc), va_P D vwCl (wX1 q1 cI cJ cB beaten_1 f ways_1 lw_1 ++ wX4 q4 cI cJ cB parts_4 wins_4 draws_4 points_4 count_4 changes_4) H → va_D A (wX1 q1 cI cJ cB beaten_1 f ways_1 lw_1 ++ wX4 q4 cI cJ cB parts_4 wins_4 draws_4 points_4 count_4 changes_4) → va_S A s.heap H locs → ∀ (ls : Array Slot), lv_has ls 7 [(0, .ref (q1 0)), (1, .ref (q4 0)), (2, .int (nI n)), (3, .int (nI sm)), (4, .int (nI a))] → W p l e (headSpec wsX1_countRings rmX1_countRings).room s m args below meth c H locs 0 0 Q (F0 m 52 ls []) := by
          intro fu
          induction fu with
          | zero => intro a sm o f ha hO ho hb9 hfu; exact absurd hfu (Nat.not_lt_zero _)
          | succ fu ih_52 =>
            intro a sm o f ha hO ho hb9 hfu H locs hP hD hS ls hl
            refine lv_iload hx hb dX1_countRings_52 (lv_at hl 4 rfl) ?_
            refine lv_iload_n hx hb dX1_countRings_54 rfl (lv_at hl 2 rfl) ?_
            refine lv_icmp_ge (tgt := 126) hx hb dX1_countRings_55 (by decide) (fun c_55 => ?_) (fun c_55 => ?_)
            · skip
              have c_55 := k_ge (by omega) (by omega) c_55
              refine lv_iload_n hx hb dX1_countRings_126 rfl (lv_at hl 3 rfl) ?_
              subst hQ; subst hAe
              exact W.iret (v := nI sm) hx hb hr (fun tt9 ht9 _ => ⟨⟨nI sm, (f), rfl, by rw [hb9, show n - a = 0 by omega]; rfl, by rw [ht9]; exact hP, hD⟩, hS.F ht9⟩) hS.2.2 dX1_countRings_127
            · skip
              have c_55 := k_ge_n (by omega) (by omega) c_55
              refine lv_iload hx hb dX1_countRings_58 (lv_at hl 4 rfl) ?_
              refine lv_iconst (v := nI 1) hx hb dX1_countRings_60 (by decide) ?_
              refine k_iadd hx hb dX1_countRings_61 ?_
              refine lv_istore (lv' := [(5, .int (nI (a + 1))), (0, .ref (q1 0)), (1, .ref (q4 0)), (2, .int (nI n)), (3, .int (nI sm)), (4, .int (nI a))]) hx hb dX1_countRings_62 hl (by decide) rfl (fun ls hl => ?_)
              have hL_64 : ∀ (fu : Nat) (b : Nat) (sm : Nat) (o : Nat → Nat → Nat) (f : Nat → Int32) (hab : a < b) (hb2 : b ≤ n) (hO : ∀ x y, x < n → y < n → f (x * 10 + y) = nI (o x y)) (ho : ∀ x y, o x y ≤ 120) (hb9 : bd1 n n 0 (0, fun a b => ov ml a b) = bd1 n (n - (a + 1)) (a + 1) (bd2 n a (n - b) b (sm, o))), n - b < fu → ∀ (H : Heap) (locs : List Loc), va_P D vwCl (wX1 q1 cI cJ cB beaten_1 f ways_1 lw_1 ++ wX4 q4 cI cJ cB parts_4 wins_4 draws_4 points_4 count_4 changes_4) H → va_D A (wX1 q1 cI cJ cB beaten_1 f ways_1 lw_1 ++ wX4 q4 cI cJ cB parts_4 wins_4 draws_4 points_4 count_4 changes_4) → va_S A s.heap H locs → ∀ (ls : Array Slot), lv_has ls 7 [(0, .ref (q1 0)), (1, .ref (q4 0)), (2, .int (nI n)), (3, .int (nI sm)), (4, .int (nI a)), (5, .int (nI b))] → W p l e (headSpec wsX1_countRings rmX1_countRings).room s m args below meth c H locs 0 0 Q (F0 m 64 ls []) := by
                intro fu
                induction fu with
                | zero => intro b sm o f hab hb2 hO ho hb9 hfu; exact absurd hfu (Nat.not_lt_zero _)
                | succ fu ih_64 =>
                  intro b sm o f hab hb2 hO ho hb9 hfu H locs hP hD hS ls hl
                  refine lv_iload hx hb dX1_countRings_64 (lv_at hl 5 rfl) ?_
                  refine lv_iload_n hx hb dX1_countRings_66 rfl (lv_at hl 2 rfl) ?_
                  refine lv_icmp_ge (tgt := 120) hx hb dX1_countRings_67 (by decide) (fun c_67 => ?_) (fun c_67 => ?_)
                  · skip
                    have c_67 := k_ge (by omega) (by omega) c_67
                    refine lv_iinc (v := nI (a + 1)) (lv' := [(4, .int (nI (a + 1))), (0, .ref (q1 0)), (1, .ref (q4 0)), (2, .int (nI n)), (3, .int (nI sm)), (5, .int (nI b))]) hx hb dX1_countRings_120 hl (k := 4) rfl (nI_add _ _) (by decide) rfl (fun ls hl => ?_)
                    refine lv_goto (tgt := 52) hx hb dX1_countRings_123 (by decide) ?_
                    exact ih_52 _ _ o _ (by omega) hO ho (by rw [hb9, show n - b = 0 by omega]; rfl) (by omega) _ _ hP hD hS ls (lv_sub hl [1, 2, 3, 4, 0] rfl)
                  · skip
                    have c_67 := k_ge_n (by omega) (by omega) c_67
                    refine lv_iload hx hb dX1_countRings_70 (lv_at hl 5 rfl) ?_
                    refine lv_iconst (v := nI 1) hx hb dX1_countRings_72 (by decide) ?_
                    refine k_iadd hx hb dX1_countRings_73 ?_
                    refine lv_istore (lv' := [(6, .int (nI (b + 1))), (0, .ref (q1 0)), (1, .ref (q4 0)), (2, .int (nI n)), (3, .int (nI sm)), (4, .int (nI a)), (5, .int (nI b))]) hx hb dX1_countRings_74 hl (by decide) rfl (fun ls hl => ?_)
                    have hL_76 : ∀ (fu : Nat) (c2 : Nat) (sm : Nat) (o : Nat → Nat → Nat) (f : Nat → Int32) (hbc : b < c2) (hc2 : c2 ≤ n) (hO : ∀ x y, x < n → y < n → f (x * 10 + y) = nI (o x y)) (ho : ∀ x y, o x y ≤ 120) (hb9 : bd1 n n 0 (0, fun a b => ov ml a b) = bd1 n (n - (a + 1)) (a + 1) (bd2 n a (n - (b + 1)) (b + 1) (bd3 a b (n - c2) c2 (sm, o)))), n - c2 < fu → ∀ (H : Heap) (locs : List Loc), va_P D vwCl (wX1 q1 cI cJ cB beaten_1 f ways_1 lw_1 ++ wX4 q4 cI cJ cB parts_4 wins_4 draws_4 points_4 count_4 changes_4) H → va_D A (wX1 q1 cI cJ cB beaten_1 f ways_1 lw_1 ++ wX4 q4 cI cJ cB parts_4 wins_4 draws_4 points_4 count_4 changes_4) → va_S A s.heap H locs → ∀ (ls : Array Slot), lv_has ls 7 [(0, .ref (q1 0)), (1, .ref (q4 0)), (2, .int (nI n)), (3, .int (nI sm)), (4, .int (nI a)), (5, .int (nI b)), (6, .int (nI c2))] → W p l e (headSpec wsX1_countRings rmX1_countRings).room s m args below meth c H locs 0 0 Q (F0 m 76 ls []) := by
                      intro fu
                      induction fu with
                      | zero => intro c2 sm o f hbc hc2 hO ho hb9 hfu; exact absurd hfu (Nat.not_lt_zero _)
                      | succ fu ih_76 =>
                        intro c2 sm o f hbc hc2 hO ho hb9 hfu H locs hP hD hS ls hl
                        refine lv_iload hx hb dX1_countRings_76 (lv_at hl 6 rfl) ?_
                        refine lv_iload_n hx hb dX1_countRings_78 rfl (lv_at hl 2 rfl) ?_
                        refine lv_icmp_ge (tgt := 114) hx hb dX1_countRings_79 (by decide) (fun c_79 => ?_) (fun c_79 => ?_)
                        · skip
                          have c_79 := k_ge (by omega) (by omega) c_79
                          refine lv_iinc (v := nI (b + 1)) (lv' := [(5, .int (nI (b + 1))), (0, .ref (q1 0)), (1, .ref (q4 0)), (2, .int (nI n)), (3, .int (nI sm)), (4, .int (nI a)), (6, .int (nI c2))]) hx hb dX1_countRings_114 hl (k := 5) rfl (nI_add _ _) (by decide) rfl (fun ls hl => ?_)
                          refine lv_goto (tgt := 64) hx hb dX1_countRings_117 (by decide) ?_
                          exact ih_64 _ _ o _ (by omega) (by omega) hO ho (by rw [hb9, show n - c2 = 0 by omega]; rfl) (by omega) _ _ hP hD hS ls (lv_sub hl [1, 2, 3, 4, 5, 0] rfl)
                        · skip
                          have c_79 := k_ge_n (by omega) (by omega) c_79
                          refine lv_iload_n hx hb dX1_countRings_82 rfl (lv_at hl 3 rfl) ?_
                          refine lv_aload_n hx hb dX1_countRings_83 rfl (lv_at hl 0 rfl) ?_
                          refine lv_iload hx hb dX1_countRings_84 (lv_at hl 4 rfl) ?_
                          refine lv_iload hx hb dX1_countRings_86 (lv_at hl 5 rfl) ?_
                          refine lv_iload hx hb dX1_countRings_88 (lv_at hl 6 rfl) ?_
                          have hs_90 : kSplit (wX1 q1 cI cJ cB beaten_1 f ways_1 lw_1 ++ wX4 q4 cI cJ cB parts_4 wins_4 draws_4 points_4 count_4 changes_4) (wX1 q1 cI cJ cB beaten_1 f ways_1 lw_1) (wX4 q4 cI cJ cB parts_4 wins_4 draws_4 points_4 count_4 changes_4) [0, 1, 2, 3] [4, 5, 6, 7, 8] := ⟨rfl, rfl, rfl, rfl, rfl, by decide⟩
                          refine kc_i hP hD hS hA hs_90 (kV (As := [.int (nI a), .int (nI b), .int (nI c2)]) (rest := [.int (nI sm)]) hx hb hml hown hts hKW hP hD hs_90 (c_X1_useRings l D cI cJ cB q1 beaten_1 f ways_1 lw_1 o n a b c2 (by first | assumption | omega) (by first | assumption | omega) (by first | assumption | omega) (by first | assumption | omega) (by first | assumption | omega) (by first | assumption | omega) (by first | assumption | omega) (by first | assumption | omega) (by first | assumption | omega)) (cwV 3 hts gX1_countRings_X1_useRings rfl rfl rfl (by decide +kernel) ⟨Nat.le_of_ble_eq_true rfl, Nat.le_of_ble_eq_true rfl⟩) 0 1 rfl rfl rfl rfl hl.1 rfl (Nat.le_of_ble_eq_true rfl) dX1_countRings_90 ⟨Nat.zero_le _, Nat.zero_le _⟩) (fun r_90 u_90 H locs hw_90 hP hD hS => ?_)
                          obtain ⟨f1, rfl⟩ : ∃ z, z = u_90 := ⟨_, rfl⟩
                          obtain ⟨er_90, hw_90⟩ := hw_90
                          have er_90 := er_90.symm
                          subst er_90
                          have hP : va_P D vwCl (wX1 q1 cI cJ cB beaten_1 f1 ways_1 lw_1 ++ wX4 q4 cI cJ cB parts_4 wins_4 draws_4 points_4 count_4 changes_4) H := hP.sub (ws' := (wX1 q1 cI cJ cB beaten_1 f1 ways_1 lw_1 ++ wX4 q4 cI cJ cB parts_4 wins_4 draws_4 points_4 count_4 changes_4)) [5, 6, 7, 8, 0, 1, 2, 3, 4] rfl
                          have hD : va_D A (wX1 q1 cI cJ cB beaten_1 f1 ways_1 lw_1 ++ wX4 q4 cI cJ cB parts_4 wins_4 draws_4 points_4 count_4 changes_4) := hD.sub (ws' := (wX1 q1 cI cJ cB beaten_1 f1 ways_1 lw_1 ++ wX4 q4 cI cJ cB parts_4 wins_4 draws_4 points_4 count_4 changes_4)) [5, 6, 7, 8, 0, 1, 2, 3, 4] (by decide) rfl
                          refine k_iadd hx hb dX1_countRings_93 ?_
                          refine lv_istore_n (lv' := [(3, .int (nI (sm + (ring3 o a b c2)))), (0, .ref (q1 0)), (1, .ref (q4 0)), (2, .int (nI n)), (4, .int (nI a)), (5, .int (nI b)), (6, .int (nI c2))]) hx hb dX1_countRings_94 rfl hl (by decide) rfl (fun ls hl => ?_)
                          refine lv_iload_n hx hb dX1_countRings_95 rfl (lv_at hl 0 rfl) ?_
                          refine lv_aload_n hx hb dX1_countRings_96 rfl (lv_at hl 1 rfl) ?_
                          refine lv_iload hx hb dX1_countRings_97 (lv_at hl 5 rfl) ?_
                          refine lv_iload hx hb dX1_countRings_99 (lv_at hl 4 rfl) ?_
                          refine lv_iload hx hb dX1_countRings_101 (lv_at hl 6 rfl) ?_
                          have hs_103 : kSplit (wX1 q1 cI cJ cB beaten_1 f1 ways_1 lw_1 ++ wX4 q4 cI cJ cB parts_4 wins_4 draws_4 points_4 count_4 changes_4) (wX1 q1 cI cJ cB beaten_1 f1 ways_1 lw_1) (wX4 q4 cI cJ cB parts_4 wins_4 draws_4 points_4 count_4 changes_4) [0, 1, 2, 3] [4, 5, 6, 7, 8] := ⟨rfl, rfl, rfl, rfl, rfl, by decide⟩
                          refine kc_i hP hD hS hA hs_103 (kV (As := [.int (nI b), .int (nI a), .int (nI c2)]) (rest := [.int (nI (sm + (ring3 o a b c2)))]) hx hb hml hown hts hKW hP hD hs_103 (c_X1_useRings l D cI cJ cB q1 beaten_1 f1 ways_1 lw_1 (ringO o a b c2) n b a c2 hw_90 (ringO_le ho) (by first | assumption | omega) (by first | assumption | omega) (by first | assumption | omega) (by first | assumption | omega) (by first | assumption | omega) (by first | assumption | omega) (by first | assumption | omega)) (cwV 3 hts gX1_countRings_X1_useRings rfl rfl rfl (by decide +kernel) ⟨Nat.le_of_ble_eq_true rfl, Nat.le_of_ble_eq_true rfl⟩) 0 1 rfl rfl rfl rfl hl.1 rfl (Nat.le_of_ble_eq_true rfl) dX1_countRings_103 ⟨Nat.zero_le _, Nat.zero_le _⟩) (fun r_103 u_103 H locs hw_103 hP hD hS => ?_)
                          obtain ⟨f2, rfl⟩ : ∃ z, z = u_103 := ⟨_, rfl⟩
                          obtain ⟨er_103, hw_103⟩ := hw_103
                          have er_103 := er_103.symm
                          subst er_103
                          have hP : va_P D vwCl (wX1 q1 cI cJ cB beaten_1 f2 ways_1 lw_1 ++ wX4 q4 cI cJ cB parts_4 wins_4 draws_4 points_4 count_4 changes_4) H := hP.sub (ws' := (wX1 q1 cI cJ cB beaten_1 f2 ways_1 lw_1 ++ wX4 q4 cI cJ cB parts_4 wins_4 draws_4 points_4 count_4 changes_4)) [5, 6, 7, 8, 0, 1, 2, 3, 4] rfl
                          have hD : va_D A (wX1 q1 cI cJ cB beaten_1 f2 ways_1 lw_1 ++ wX4 q4 cI cJ cB parts_4 wins_4 draws_4 points_4 count_4 changes_4) := hD.sub (ws' := (wX1 q1 cI cJ cB beaten_1 f2 ways_1 lw_1 ++ wX4 q4 cI cJ cB parts_4 wins_4 draws_4 points_4 count_4 changes_4)) [5, 6, 7, 8, 0, 1, 2, 3, 4] (by decide) rfl
                          refine k_iadd hx hb dX1_countRings_106 ?_
                          refine lv_istore_n (lv' := [(3, .int (nI ((sm + (ring3 o a b c2)) + (ring3 (ringO o a b c2) b a c2)))), (0, .ref (q1 0)), (1, .ref (q4 0)), (2, .int (nI n)), (4, .int (nI a)), (5, .int (nI b)), (6, .int (nI c2))]) hx hb dX1_countRings_107 rfl hl (by decide) rfl (fun ls hl => ?_)
                          refine lv_iinc (v := nI (c2 + 1)) (lv' := [(6, .int (nI (c2 + 1))), (3, .int (nI ((sm + (ring3 o a b c2)) + (ring3 (ringO o a b c2) b a c2)))), (0, .ref (q1 0)), (1, .ref (q4 0)), (2, .int (nI n)), (4, .int (nI a)), (5, .int (nI b))]) hx hb dX1_countRings_108 hl (k := 6) rfl (nI_add _ _) (by decide) rfl (fun ls hl => ?_)
                          refine lv_goto (tgt := 76) hx hb dX1_countRings_111 (by decide) ?_
                          exact ih_76 _ _ (ringO (ringO o a b c2) a c2 b) _ (by omega) (by omega) (by rw [← ringO_rot]; exact hw_103) (ringO_le (ringO_le ho)) (by rw [hb9, show n - c2 = (n - (c2 + 1)) + 1 by omega, ring3_rot (ringO o a b c2) a b c2, Nat.add_assoc]; exact congrArg (fun z => bd1 n (n - (a + 1)) (a + 1) (bd2 n a (n - (b + 1)) (b + 1) z)) bd3_s) (by omega) _ _ hP hD hS ls (lv_sub hl [2, 3, 4, 1, 5, 6, 0] rfl)
                    exact hL_76 _ _ _ o _ (by omega) (by omega) hO ho (by rw [hb9, show n - b = (n - (b + 1)) + 1 by omega]; exact congrArg _ bd2_s) (Nat.lt_succ_self _) _ _ hP hD hS ls (lv_sub hl [1, 2, 3, 4, 5, 6, 0] rfl)
              exact hL_64 _ _ _ o _ (by omega) (by omega) hO ho (by rw [hb9, show n - a = (n - (a + 1)) + 1 by omega]; exact bd1_s) (Nat.lt_succ_self _) _ _ hP hD hS ls (lv_sub hl [1, 2, 3, 4, 5, 0] rfl)
        exact hL_52 _ 0 0 (fun a b => ov ml a b) _ (Nat.zero_le _) hf (fun x y => Nat.le_trans (ov_le ml x y) hm120) rfl (Nat.lt_succ_self _) _ _ hP hD hS ls (lv_sub hl [2, 3, 4, 1, 0] rfl)
      · skip
        have c_4 := k_ge_n (by omega) (by omega) c_4
        refine lv_iconst (v := nI 0) hx hb dX1_countRings_7 (by decide) ?_
        refine lv_istore (lv' := [(4, .int (nI 0)), (0, .ref (q1 0)), (1, .ref (q4 0)), (2, .int (nI n)), (3, .int (nI a))]) hx hb dX1_countRings_8 hl (by decide) rfl (fun ls hl => ?_)
        have hL_10 : ∀ (fu : Nat) (b : Nat) (g : Nat → Int32) (hb2 : b ≤ n) (hf2 : ∀ x y, x < a → y < n → g (x * 10 + y) = nI (ov ml x y)) (hg : ∀ y, y < b → g (a * 10 + y) = nI (ov ml a y)), n - b < fu → ∀ (H : Heap) (locs : List Loc), va_P D vwCl (wX1 q1 cI cJ cB beaten_1 g ways_1 lw_1 ++ wX4 q4 cI cJ cB parts_4 wins_4 draws_4 points_4 count_4 changes_4) H → va_D A (wX1 q1 cI cJ cB beaten_1 g ways_1 lw_1 ++ wX4 q4 cI cJ cB parts_4 wins_4 draws_4 points_4 count_4 changes_4) → va_S A s.heap H locs → ∀ (ls : Array Slot), lv_has ls 7 [(0, .ref (q1 0)), (1, .ref (q4 0)), (2, .int (nI n)), (3, .int (nI a)), (4, .int (nI b))] → W p l e (headSpec wsX1_countRings rmX1_countRings).room s m args below meth c H locs 0 0 Q (F0 m 10 ls []) := by
          intro fu
          induction fu with
          | zero => intro b g hb2 hf2 hg hfu; exact absurd hfu (Nat.not_lt_zero _)
          | succ fu ih_10 =>
            intro b g hb2 hf2 hg hfu H locs hP hD hS ls hl
            refine lv_iload hx hb dX1_countRings_10 (lv_at hl 4 rfl) ?_
            refine lv_iload_n hx hb dX1_countRings_12 rfl (lv_at hl 2 rfl) ?_
            refine lv_icmp_ge (tgt := 41) hx hb dX1_countRings_13 (by decide) (fun c_13 => ?_) (fun c_13 => ?_)
            · skip
              have c_13 := k_ge (by omega) (by omega) c_13
              obtain rfl : n = b := by omega
              refine lv_iinc (v := nI (a + 1)) (lv' := [(3, .int (nI (a + 1))), (0, .ref (q1 0)), (1, .ref (q4 0)), (2, .int (nI n)), (4, .int (nI n))]) hx hb dX1_countRings_41 hl (k := 3) rfl (nI_add _ _) (by decide) rfl (fun ls hl => ?_)
              refine lv_goto (tgt := 2) hx hb dX1_countRings_44 (by decide) ?_
              exact ih_2 _ _ (by omega) (fun x y hx9 hy9 => by by_cases e9 : x = a; (subst e9; exact hg y (by omega)); (exact hf2 x y (by omega) hy9)) (by omega) _ _ hP hD hS ls (lv_sub hl [1, 2, 3, 0] rfl)
            · skip
              have c_13 := k_ge_n (by omega) (by omega) c_13
              refine lv_aload_n hx hb dX1_countRings_16 rfl (lv_at hl 0 rfl) ?_
              refine k_get (ci := 1) (v := .ref (q1 2)) (C := RX1) (Tb := TX1) (N := 3) hx hb hts hu_1 hown hKW hP 0 rfl rfl 1 (by decide) hf_15 rfl rfl dX1_countRings_17 ?_
              refine lv_iload_n hx hb dX1_countRings_20 rfl (lv_at hl 3 rfl) ?_
              refine lv_bipush (v := nI 10) hx hb dX1_countRings_21 (by decide) ?_
              refine k_imul hx hb dX1_countRings_23 ?_
              refine lv_iload hx hb dX1_countRings_24 (lv_at hl 4 rfl) ?_
              refine k_iadd hx hb dX1_countRings_26 ?_
              refine lv_aload_n hx hb dX1_countRings_27 rfl (lv_at hl 1 rfl) ?_
              refine lv_iload_n hx hb dX1_countRings_28 rfl (lv_at hl 3 rfl) ?_
              refine lv_iload hx hb dX1_countRings_29 (lv_at hl 4 rfl) ?_
              have hs_31 : kSplit (wX1 q1 cI cJ cB beaten_1 g ways_1 lw_1 ++ wX4 q4 cI cJ cB parts_4 wins_4 draws_4 points_4 count_4 changes_4) (wX4 q4 cI cJ cB parts_4 wins_4 draws_4 points_4 count_4 changes_4) (wX1 q1 cI cJ cB beaten_1 g ways_1 lw_1) [4, 5, 6, 7, 8] [0, 1, 2, 3] := ⟨rfl, rfl, rfl, rfl, rfl, by decide⟩
              refine kc_i hP hD hS hA hs_31 (kV (As := [.int (nI a), .int (nI b)]) (rest := [.int (nI ((a * 10) + b)), .ref (q1 2)]) hx hb hml hown hts hKW hP hD hs_31 (c_X4_wins l D cI cJ cB q4 parts_4 wins_4 draws_4 points_4 count_4 changes_4 a b (by first | assumption | omega) (by first | assumption | omega)) (cwV 2 hts gX1_countRings_X4_wins rfl rfl rfl (by decide +kernel) ⟨Nat.le_of_ble_eq_true rfl, Nat.le_of_ble_eq_true rfl⟩) 0 4 rfl rfl rfl rfl hl.1 rfl (Nat.le_of_ble_eq_true rfl) dX1_countRings_31 ⟨Nat.zero_le _, Nat.zero_le _⟩) (fun r_31 u_31 H locs hw_31 hP hD hS => ?_)
              have er_31 := hw_31
              have er_31 := er_31.symm
              subst er_31
              have hP : va_P D vwCl (wX1 q1 cI cJ cB beaten_1 g ways_1 lw_1 ++ wX4 q4 cI cJ cB parts_4 wins_4 draws_4 points_4 count_4 changes_4) H := hP.sub (ws' := (wX1 q1 cI cJ cB beaten_1 g ways_1 lw_1 ++ wX4 q4 cI cJ cB parts_4 wins_4 draws_4 points_4 count_4 changes_4)) [0, 1, 2, 3, 4, 5, 6, 7, 8] rfl
              have hD : va_D A (wX1 q1 cI cJ cB beaten_1 g ways_1 lw_1 ++ wX4 q4 cI cJ cB parts_4 wins_4 draws_4 points_4 count_4 changes_4) := hD.sub (ws' := (wX1 q1 cI cJ cB beaten_1 g ways_1 lw_1 ++ wX4 q4 cI cJ cB parts_4 wins_4 draws_4 points_4 count_4 changes_4)) [0, 1, 2, 3, 4, 5, 6, 7, 8] (by decide) rfl
              refine k_top (y := nI (ov ml a b)) ((hM.2 a b (by omega) (by omega)).1) ?_
              refine k_iast (n := 100) (i := (a * 10) + b) (x := nI (ov ml a b)) (w' := (wX1 q1 cI cJ cB beaten_1 (upd g ((a * 10) + b) (nI (ov ml a b))) ways_1 lw_1 ++ wX4 q4 cI cJ cB parts_4 wins_4 draws_4 points_4 count_4 changes_4)) hx hb hKW hP hD hS 2 0 rfl rfl (by omega) (by omega) dX1_countRings_34 rfl (fun H locs hP hD hS => ?_)
              refine lv_iinc (v := nI (b + 1)) (lv' := [(4, .int (nI (b + 1))), (0, .ref (q1 0)), (1, .ref (q4 0)), (2, .int (nI n)), (3, .int (nI a))]) hx hb dX1_countRings_35 hl (k := 4) rfl (nI_add _ _) (by decide) rfl (fun ls hl => ?_)
              refine lv_goto (tgt := 10) hx hb dX1_countRings_38 (by decide) ?_
              exact ih_10 _ _ (by omega) (fun x y hx9 hy9 => by rw [pk_un (by omega)]; exact hf2 x y hx9 hy9) (fun y hy9 => by by_cases e9 : y = b; (subst e9; rw [pk_us]); (rw [pk_un (by omega)]; exact hg y (by omega))) (by omega) _ _ hP hD hS ls (lv_sub hl [1, 2, 3, 4, 0] rfl)
        exact hL_10 _ 0 _ (Nat.zero_le _) hf (fun y hy9 => absurd hy9 (Nat.not_lt_zero y)) (Nat.lt_succ_self _) _ _ hP hD hS ls (lv_sub hl [1, 2, 3, 4, 0] rfl)
  exact hL_2 _ 0 _ (Nat.zero_le _) (fun x y hx9 => absurd hx9 (Nat.not_lt_zero x)) (Nat.lt_succ_self _) _ _ hP hD hS ls (lv_sub hl [1, 2, 3, 0] rfl)
def rmX1_findChampion : Room := { frames := 2, cells := 0, slots := 0, locals := 46 }
set_option maxHeartbeats 4000000 in
set_option maxRecDepth 100000 in
theorem c_X1_findChampion (l : Launch) (D : va_G) (cI cJ cB : ClassId) (q1 : Nat → Nat) (q4 : Nat → Nat) (beaten_1 : Nat → Int32) (unused_1 : Nat → Int32) (ways_1 : Nat → Int32) (lw_1 : Nat) (parts_4 : Nat → Int32) (wins_4 : Nat → Int32) (draws_4 : Nat → Int32) (points_4 : Nat → Int32) (count_4 : Int32) (changes_4 : Int32) (ml : List Mt) (n : Nat) (hM : MR parts_4 wins_4 draws_4 points_4 ml) (hm120 : ml.length ≤ 120) (hn10 : n ≤ 10) : ∀ sz, Met l yX1_findChampion wsX1_findChampion rmX1_findChampion (va_Pc [.ref (q1 0), .ref (q4 0), .int (nI n)] (PW D (kT cI cJ cB) sz (wX1 q1 cI cJ cB beaten_1 unused_1 ways_1 lw_1 ++ wX4 q4 cI cJ cB parts_4 wins_4 draws_4 points_4 count_4 changes_4))) (va_Qi (S := (Nat → Int32)) (fun r beaten_1' => r = oI (srch (fun p => decide (btF ml n p ||| 2 ^ p = 2 ^ n - 1)) 0 n)) (QW D sz (wX1 q1 cI cJ cB beaten_1 unused_1 ways_1 lw_1 ++ wX4 q4 cI cJ cB parts_4 wins_4 draws_4 points_4 count_4 changes_4) (fun beaten_1' => (wX1 q1 cI cJ cB beaten_1' unused_1 ways_1 lw_1 ++ wX4 q4 cI cJ cB parts_4 wins_4 draws_4 points_4 count_4 changes_4))) (va_A (wX1 q1 cI cJ cB beaten_1 unused_1 ways_1 lw_1 ++ wX4 q4 cI cJ cB parts_4 wins_4 draws_4 points_4 count_4 changes_4) sz)) 0 0 (va_A (wX1 q1 cI cJ cB beaten_1 unused_1 ways_1 lw_1 ++ wX4 q4 cI cJ cB parts_4 wins_4 draws_4 points_4 count_4 changes_4) sz) := by
  intro sz
  refine Met.ofW (cc := cX1_findChampion) (maxL := 4) (ret := (some .int)) (by decide) rfl ?_
  intro p e s m args below meth c s₁ B hml hv
  obtain ⟨hav, hsz, hP, hKW, hD0⟩ := hv
  have hx := B.exec
  have hb := B.bytes
  have hr := B.returns
  have hts := atoms_spec (ws := wsX1_findChampion) B.pre
  have hown : s.vm.findClass RX1 = some m.cls := findClass_of_methodNamed B.named
  have hlocks := B.notSynchronized
  subst hsz
  have hD := hD0.self (sz := s.heap.size)
  obtain ⟨A, hAe⟩ : ∃ A : Nat → Prop, A = va_A (wX1 q1 cI cJ cB beaten_1 unused_1 ways_1 lw_1 ++ wX4 q4 cI cJ cB parts_4 wins_4 draws_4 points_4 count_4 changes_4) s.heap.size := ⟨_, rfl⟩
  rw [← hAe] at hD
  have hA : ∀ q : Nat, s.heap.size ≤ q → A q := fun q h => by rw [hAe]; exact Or.inr h
  have hS : va_S A s.heap s.heap [] := va_S.rf
  refine k_gen (fun Q hQ => ?_)
  have hl := lv_entry ([.ref (q1 0), .ref (q4 0), .int (nI n)]) (n := 4) (Nat.le_of_ble_eq_true rfl)
  refine k_entry hav (lg_entry_eq ..) ?_
  generalize (lg_sl ([.ref (q1 0), .ref (q4 0), .int (nI n)]) ++ List.replicate (4 - (lg_sl ([.ref (q1 0), .ref (q4 0), .int (nI n)])).length) Slot.unset).toArray = ls at hl ⊢
  have hl : lv_has ls 4 [(0, .ref (q1 0)), (1, .ref (q4 0)), (2, .int (nI n))] := hl
  have hu_1 : ∀ w ∈ u_ws RX1 TX1 3, w ∈ wsX1_findChampion := by decide +kernel
  have hf_9 : Cond.fieldLink RX1 9 "MeetingRanks$Beating" "beaten" "[I" ∈ wsX1_findChampion := by decide +kernel
  have h2n := pow_le_1024 hn10
  have h2p := Nat.two_pow_pos n
  refine lv_aload_n hx hb dX1_findChampion_0 rfl (lv_at hl 0 rfl) ?_
  refine lv_aload_n hx hb dX1_findChampion_1 rfl (lv_at hl 1 rfl) ?_
  refine lv_iload_n hx hb dX1_findChampion_2 rfl (lv_at hl 2 rfl) ?_
  have hs_3 : kSplit (wX1 q1 cI cJ cB beaten_1 unused_1 ways_1 lw_1 ++ wX4 q4 cI cJ cB parts_4 wins_4 draws_4 points_4 count_4 changes_4) (wX1 q1 cI cJ cB beaten_1 unused_1 ways_1 lw_1 ++ wX4 q4 cI cJ cB parts_4 wins_4 draws_4 points_4 count_4 changes_4) ([] : va_W) [0, 1, 2, 3, 4, 5, 6, 7, 8] [] := ⟨rfl, rfl, rfl, rfl, rfl, by decide⟩
  refine kc_v hP hD hS hA hs_3 (kV (As := [.ref (q4 0), .int (nI n)]) (rest := []) hx hb hml hown hts hKW hP hD hs_3 (c_X1_fillBeaten l D cI cJ cB q1 q4 beaten_1 unused_1 ways_1 lw_1 parts_4 wins_4 draws_4 points_4 count_4 changes_4 ml n (by first | assumption | omega) (by first | assumption | omega) (by first | assumption | omega)) (cwV 2 hts gX1_findChampion_X1_fillBeaten rfl rfl rfl (by decide +kernel) ⟨Nat.le_of_ble_eq_true rfl, Nat.le_of_ble_eq_true rfl⟩) 0 1 rfl rfl rfl rfl hl.1 rfl (Nat.le_of_ble_eq_true rfl) dX1_findChampion_3 ⟨Nat.zero_le _, Nat.zero_le _⟩) (fun u_3 H locs hw_3 hP hD hS => ?_)
  obtain ⟨beaten_1_3, rfl⟩ : ∃ z, z = u_3 := ⟨_, rfl⟩
  have hP : va_P D vwCl (wX1 q1 cI cJ cB beaten_1_3 unused_1 ways_1 lw_1 ++ wX4 q4 cI cJ cB parts_4 wins_4 draws_4 points_4 count_4 changes_4) H := hP.sub (ws' := (wX1 q1 cI cJ cB beaten_1_3 unused_1 ways_1 lw_1 ++ wX4 q4 cI cJ cB parts_4 wins_4 draws_4 points_4 count_4 changes_4)) [0, 1, 2, 3, 4, 5, 6, 7, 8] rfl
  have hD : va_D A (wX1 q1 cI cJ cB beaten_1_3 unused_1 ways_1 lw_1 ++ wX4 q4 cI cJ cB parts_4 wins_4 draws_4 points_4 count_4 changes_4) := hD.sub (ws' := (wX1 q1 cI cJ cB beaten_1_3 unused_1 ways_1 lw_1 ++ wX4 q4 cI cJ cB parts_4 wins_4 draws_4 points_4 count_4 changes_4)) [0, 1, 2, 3, 4, 5, 6, 7, 8] (by decide) rfl
  refine lv_iconst (v := nI 0) hx hb dX1_findChampion_6 (by decide) ?_
  refine lv_istore_n (lv' := [(3, .int (nI 0)), (0, .ref (q1 0)), (1, .ref (q4 0)), (2, .int (nI n))]) hx hb dX1_findChampion_7 rfl hl (by decide) rfl (fun ls hl => ?_)
  have hL_8 : ∀ (fu : Nat) (p1 : Nat) (hp1 : p1 ≤ n) (hs : srch (fun p => decide (btF ml n p ||| 2 ^ p = 2 ^ n - 1)) 0 n = srch (fun p => decide (btF ml n p ||| 2 ^ p = 2 ^ n - 1)) p1 (n - p1)), n - p1 < fu → ∀ (H : Heap) (locs : List Loc), va_P D vwCl (wX1 q1 cI cJ cB beaten_1_3 unused_1 ways_1 lw_1 ++ wX4 q4 cI cJ cB parts_4 wins_4 draws_4 points_4 count_4 changes_4) H → va_D A (wX1 q1 cI cJ cB beaten_1_3 unused_1 ways_1 lw_1 ++ wX4 q4 cI cJ cB parts_4 wins_4 draws_4 points_4 count_4 changes_4) → va_S A s.heap H locs → ∀ (ls : Array Slot), lv_has ls 4 [(0, .ref (q1 0)), (1, .ref (q4 0)), (2, .int (nI n)), (3, .int (nI p1))] → W p l e (headSpec wsX1_findChampion rmX1_findChampion).room s m args below meth c H locs 0 0 Q (F0 m 8 ls []) := by
    intro fu
    induction fu with
    | zero => intro p1 hp1 hs hfu; exact absurd hfu (Nat.not_lt_zero _)
    | succ fu ih_8 =>
      intro p1 hp1 hs hfu H locs hP hD hS ls hl
      refine lv_iload_n hx hb dX1_findChampion_8 rfl (lv_at hl 3 rfl) ?_
      refine lv_iload_n hx hb dX1_findChampion_9 rfl (lv_at hl 2 rfl) ?_
      refine lv_icmp_ge (tgt := 38) hx hb dX1_findChampion_10 (by decide) (fun c_10 => ?_) (fun c_10 => ?_)
      · skip
        have c_10 := k_ge (by omega) (by omega) c_10
        refine lv_iconst (v := (-1)) hx hb dX1_findChampion_38 (by decide) ?_
        subst hQ; subst hAe
        exact W.iret (v := (-1)) hx hb hr (fun tt9 ht9 _ => ⟨⟨(-1), (beaten_1_3), rfl, by rw [hs, show n - p1 = 0 by omega]; rfl, by rw [ht9]; exact hP, hD⟩, hS.F ht9⟩) hS.2.2 dX1_findChampion_39
      · skip
        have c_10 := k_ge_n (by omega) (by omega) c_10
        have hor9 : btF ml n p1 ||| 2 ^ p1 < 1024 := or_1024 (bits_lt hn10) (p2_1024 (by omega))
        refine lv_aload_n hx hb dX1_findChampion_13 rfl (lv_at hl 0 rfl) ?_
        refine k_get (ci := 1) (v := .ref (q1 1)) (C := RX1) (Tb := TX1) (N := 3) hx hb hts hu_1 hown hKW hP 0 rfl rfl 0 (by decide) hf_9 rfl rfl dX1_findChampion_14 ?_
        refine lv_iload_n hx hb dX1_findChampion_17 rfl (lv_at hl 3 rfl) ?_
        refine k_iald (n := 10) (i := p1) hx hb hKW hP 1 0 rfl rfl (by omega) (by omega) dX1_findChampion_18 ?_
        refine k_top (y := nI (btF ml n p1)) (hw_3 p1 (by omega)) ?_
        refine lv_iconst (v := nI 1) hx hb dX1_findChampion_19 (by decide) ?_
        refine lv_iload_n hx hb dX1_findChampion_20 rfl (lv_at hl 3 rfl) ?_
        refine lv_ishl hx hb dX1_findChampion_21 ?_
        refine k_top (y := nI (2 ^ p1)) (k_shl1 (by omega)) ?_
        refine lv_ior hx hb dX1_findChampion_22 ?_
        refine k_top (y := nI (btF ml n p1 ||| 2 ^ p1)) (k_or _ _) ?_
        refine lv_iload_n hx hb dX1_findChampion_23 rfl (lv_at hl 2 rfl) ?_
        have hs_24 : kSplit (wX1 q1 cI cJ cB beaten_1_3 unused_1 ways_1 lw_1 ++ wX4 q4 cI cJ cB parts_4 wins_4 draws_4 points_4 count_4 changes_4) ([] : va_W) (wX1 q1 cI cJ cB beaten_1_3 unused_1 ways_1 lw_1 ++ wX4 q4 cI cJ cB parts_4 wins_4 draws_4 points_4 count_4 changes_4) [] [0, 1, 2, 3, 4, 5, 6, 7, 8] := ⟨rfl, rfl, rfl, rfl, rfl, by decide⟩
        refine kc_i hP hD hS hA hs_24 (kSN (n := 1) (As := [.int (nI n)]) (rest := [.int (nI (btF ml n p1 ||| 2 ^ p1))]) (host := "MeetingRanks") hx hb hml hown hts hKW hP hD hs_24 (c_X9_everyone l D cI cJ cB n (by first | assumption | omega)) gX1_findChampion_X9_everyone_n35 rfl rfl rfl (by decide +kernel) (by decide +kernel) (by decide +kernel) (by decide +kernel) ⟨Nat.le_of_ble_eq_true rfl, Nat.le_of_ble_eq_true rfl⟩ rfl hl.1 rfl (Nat.le_of_ble_eq_true rfl) dX1_findChampion_24 ⟨Nat.zero_le _, Nat.zero_le _⟩) (fun r_24 u_24 H locs hw_24 hP hD hS => ?_)
        have er_24 := hw_24
        have er_24 := er_24.symm
        subst er_24
        have hP : va_P D vwCl (wX1 q1 cI cJ cB beaten_1_3 unused_1 ways_1 lw_1 ++ wX4 q4 cI cJ cB parts_4 wins_4 draws_4 points_4 count_4 changes_4) H := hP.sub (ws' := (wX1 q1 cI cJ cB beaten_1_3 unused_1 ways_1 lw_1 ++ wX4 q4 cI cJ cB parts_4 wins_4 draws_4 points_4 count_4 changes_4)) [0, 1, 2, 3, 4, 5, 6, 7, 8] rfl
        have hD : va_D A (wX1 q1 cI cJ cB beaten_1_3 unused_1 ways_1 lw_1 ++ wX4 q4 cI cJ cB parts_4 wins_4 draws_4 points_4 count_4 changes_4) := hD.sub (ws' := (wX1 q1 cI cJ cB beaten_1_3 unused_1 ways_1 lw_1 ++ wX4 q4 cI cJ cB parts_4 wins_4 draws_4 points_4 count_4 changes_4)) [0, 1, 2, 3, 4, 5, 6, 7, 8] (by decide) rfl
        refine lv_icmp_ne (tgt := 32) hx hb dX1_findChampion_27 (by decide) (fun c_27 => ?_) (fun c_27 => ?_)
        · skip
          have c_27 := k_ne (by omega) (by omega) c_27
          refine lv_iinc (v := nI (p1 + 1)) (lv' := [(3, .int (nI (p1 + 1))), (0, .ref (q1 0)), (1, .ref (q4 0)), (2, .int (nI n))]) hx hb dX1_findChampion_32 hl (k := 3) rfl (nI_add _ _) (by decide) rfl (fun ls hl => ?_)
          refine lv_goto (tgt := 8) hx hb dX1_findChampion_35 (by decide) ?_
          exact ih_8 _ (by omega) (by rw [hs, show n - p1 = (n - (p1 + 1)) + 1 by omega]; exact srch_no (by rw [decide_eq_true_eq]; exact c_27)) (by omega) _ _ hP hD hS ls (lv_sub hl [1, 2, 3, 0] rfl)
        · skip
          have c_27 := k_ne_n (by omega) (by omega) c_27
          refine lv_iload_n hx hb dX1_findChampion_30 rfl (lv_at hl 3 rfl) ?_
          subst hQ; subst hAe
          exact W.iret (v := nI p1) hx hb hr (fun tt9 ht9 _ => ⟨⟨nI p1, (beaten_1_3), rfl, by rw [hs, show n - p1 = (n - (p1 + 1)) + 1 by omega, srch_yes (decide_eq_true c_27)]; rfl, by rw [ht9]; exact hP, hD⟩, hS.F ht9⟩) hS.2.2 dX1_findChampion_31
  exact hL_8 _ 0 (Nat.zero_le _) rfl (Nat.lt_succ_self _) _ _ hP hD hS ls (lv_sub hl [1, 2, 3, 0] rfl)
