def rmX3_fillReached : Room := { frames := 1, cells := 0, slots := 0, locals := 22 }
set_option maxHeartbeats 4000000 in
set_option maxRecDepth 100000 in
theorem c_X3_fillReached (l : Launch) (D : va_G) (cI cJ cB : ClassId) (q3 : Nat → Nat) (q4 : Nat → Nat) (reached_3 : Nat → Int32) (heapNumbers_3 : Nat → Int32) (parts_4 : Nat → Int32) (wins_4 : Nat → Int32) (draws_4 : Nat → Int32) (points_4 : Nat → Int32) (count_4 : Int32) (changes_4 : Int32) (ml : List Mt) (n : Nat) (hM : MR parts_4 wins_4 draws_4 points_4 ml) (hm120 : ml.length ≤ 120) (hn10 : n ≤ 10) : ∀ sz, Met l yX3_fillReached wsX3_fillReached rmX3_fillReached (va_Pc [.ref (q3 0), .ref (q4 0), .int (nI n)] (PW D (kT cI cJ cB) sz (wX3 q3 cI cJ cB reached_3 heapNumbers_3 ++ wX4 q4 cI cJ cB parts_4 wins_4 draws_4 points_4 count_4 changes_4))) (va_Qv (S := (Nat → Int32)) (fun reached_3' => RB n reached_3' (wB n (fun a => rA ml a n) n)) (QW D sz (wX3 q3 cI cJ cB reached_3 heapNumbers_3 ++ wX4 q4 cI cJ cB parts_4 wins_4 draws_4 points_4 count_4 changes_4) (fun reached_3' => (wX3 q3 cI cJ cB reached_3' heapNumbers_3 ++ wX4 q4 cI cJ cB parts_4 wins_4 draws_4 points_4 count_4 changes_4))) (va_A (wX3 q3 cI cJ cB reached_3 heapNumbers_3 ++ wX4 q4 cI cJ cB parts_4 wins_4 draws_4 points_4 count_4 changes_4) sz)) 0 0 (va_A (wX3 q3 cI cJ cB reached_3 heapNumbers_3 ++ wX4 q4 cI cJ cB parts_4 wins_4 draws_4 points_4 count_4 changes_4) sz) := by
  intro sz
  refine Met.ofW (cc := cX3_fillReached) (maxL := 5) (ret := none) (by decide) rfl ?_
  intro p e s m args below meth c s₁ B hml hv
  obtain ⟨hav, hsz, hP, hKW, hD0⟩ := hv
  have hx := B.exec
  have hb := B.bytes
  have hr := B.returns
  have hts := atoms_spec (ws := wsX3_fillReached) B.pre
  have hown : s.vm.findClass RX3 = some m.cls := findClass_of_methodNamed B.named
  have hlocks := B.notSynchronized
  subst hsz
  have hD := hD0.self (sz := s.heap.size)
  obtain ⟨A, hAe⟩ : ∃ A : Nat → Prop, A = va_A (wX3 q3 cI cJ cB reached_3 heapNumbers_3 ++ wX4 q4 cI cJ cB parts_4 wins_4 draws_4 points_4 count_4 changes_4) s.heap.size := ⟨_, rfl⟩
  rw [← hAe] at hD
  have hA : ∀ q : Nat, s.heap.size ≤ q → A q := fun q h => by rw [hAe]; exact Or.inr h
  have hS : va_S A s.heap s.heap [] := va_S.rf
  refine k_gen (fun Q hQ => ?_)
  have hl := lv_entry ([.ref (q3 0), .ref (q4 0), .int (nI n)]) (n := 5) (Nat.le_of_ble_eq_true rfl)
  refine k_entry hav (lg_entry_eq ..) ?_
  generalize (lg_sl ([.ref (q3 0), .ref (q4 0), .int (nI n)]) ++ List.replicate (5 - (lg_sl ([.ref (q3 0), .ref (q4 0), .int (nI n)])).length) Slot.unset).toArray = ls at hl ⊢
  have hl : lv_has ls 5 [(0, .ref (q3 0)), (1, .ref (q4 0)), (2, .int (nI n))] := hl
  have hu_3 : ∀ w ∈ u_ws RX3 TX3 2, w ∈ wsX3_fillReached := by decide +kernel
  have hf_9 : Cond.fieldLink RX3 9 "MeetingRanks$HeapSearch" "reached" "[I" ∈ wsX3_fillReached := by decide +kernel
  refine lv_iconst (v := nI 0) hx hb dX3_fillReached_0 (by decide) ?_
  refine lv_istore_n (lv' := [(3, .int (nI 0)), (0, .ref (q3 0)), (1, .ref (q4 0)), (2, .int (nI n))]) hx hb dX3_fillReached_1 rfl hl (by decide) rfl (fun ls hl => ?_)
  have hL_2 : ∀ (fu : Nat) (a : Nat) (f : Nat → Int32) (ha : a ≤ n) (hf : ∀ x, x < a → f x = nI (rA ml x n)), n - a < fu → ∀ (H : Heap) (locs : List Loc), va_P D vwCl (wX3 q3 cI cJ cB f heapNumbers_3 ++ wX4 q4 cI cJ cB parts_4 wins_4 draws_4 points_4 count_4 changes_4) H → va_D A (wX3 q3 cI cJ cB f heapNumbers_3 ++ wX4 q4 cI cJ cB parts_4 wins_4 draws_4 points_4 count_4 changes_4) → va_S A s.heap H locs → ∀ (ls : Array Slot), lv_has ls 5 [(0, .ref (q3 0)), (1, .ref (q4 0)), (2, .int (nI n)), (3, .int (nI a))] → W p l e (headSpec wsX3_fillReached rmX3_fillReached).room s m args below meth c H locs 0 0 Q (F0 m 2 ls []) := by
    intro fu
    induction fu with
    | zero => intro a f ha hf hfu; exact absurd hfu (Nat.not_lt_zero _)
    | succ fu ih_2 =>
      intro a f ha hf hfu H locs hP hD hS ls hl
      refine lv_iload_n hx hb dX3_fillReached_2 rfl (lv_at hl 3 rfl) ?_
      refine lv_iload_n hx hb dX3_fillReached_3 rfl (lv_at hl 2 rfl) ?_
      refine lv_icmp_ge (tgt := 68) hx hb dX3_fillReached_4 (by decide) (fun c_4 => ?_) (fun c_4 => ?_)
      · skip
        have c_4 := k_ge (by omega) (by omega) c_4
        obtain rfl : n = a := by omega
        refine lv_iconst (v := nI 0) hx hb dX3_fillReached_68 (by decide) ?_
        refine lv_istore_n (lv' := [(3, .int (nI 0)), (0, .ref (q3 0)), (1, .ref (q4 0)), (2, .int (nI n))]) hx hb dX3_fillReached_69 rfl hl (by decide) rfl (fun ls hl => ?_)
        have hL_70 : ∀ (fu : Nat) (b1 : Nat) (f : Nat → Int32) (hb1 : b1 ≤ n) (hf : RB n f (wB n (fun a => rA ml a n) b1)), n - b1 < fu → ∀ (H : Heap) (locs : List Loc), va_P D vwCl (wX3 q3 cI cJ cB f heapNumbers_3 ++ wX4 q4 cI cJ cB parts_4 wins_4 draws_4 points_4 count_4 changes_4) H → va_D A (wX3 q3 cI cJ cB f heapNumbers_3 ++ wX4 q4 cI cJ cB parts_4 wins_4 draws_4 points_4 count_4 changes_4) → va_S A s.heap H locs → ∀ (ls : Array Slot), lv_has ls 5 [(0, .ref (q3 0)), (1, .ref (q4 0)), (2, .int (nI n)), (3, .int (nI b1))] → W p l e (headSpec wsX3_fillReached rmX3_fillReached).room s m args below meth c H locs 0 0 Q (F0 m 70 ls []) := by
          intro fu
          induction fu with
          | zero => intro b1 f hb1 hf hfu; exact absurd hfu (Nat.not_lt_zero _)
          | succ fu ih_70 =>
            intro b1 f hb1 hf hfu H locs hP hD hS ls hl
            refine lv_iload_n hx hb dX3_fillReached_70 rfl (lv_at hl 3 rfl) ?_
            refine lv_iload_n hx hb dX3_fillReached_71 rfl (lv_at hl 2 rfl) ?_
            refine lv_icmp_ge (tgt := 126) hx hb dX3_fillReached_72 (by decide) (fun c_72 => ?_) (fun c_72 => ?_)
            · skip
              have c_72 := k_ge (by omega) (by omega) c_72
              obtain rfl : n = b1 := by omega
              subst hQ; subst hAe
              exact W.vret hx hb hr (fun tt9 ht9 _ => ⟨⟨(f), rfl, hf, by rw [ht9]; exact hP, hD⟩, hS.F ht9⟩) hS.2.2 dX3_fillReached_126
            · skip
              have c_72 := k_ge_n (by omega) (by omega) c_72
              refine lv_iconst (v := nI 0) hx hb dX3_fillReached_75 (by decide) ?_
              refine lv_istore (lv' := [(4, .int (nI 0)), (0, .ref (q3 0)), (1, .ref (q4 0)), (2, .int (nI n)), (3, .int (nI b1))]) hx hb dX3_fillReached_76 hl (by decide) rfl (fun ls hl => ?_)
              have hL_78 : ∀ (fu : Nat) (p1 : Nat) (f2 : Nat → Int32) (hp1 : p1 ≤ n) (hf2 : RB n f2 (wA b1 (wB n (fun a => rA ml a n) b1) p1)), n - p1 < fu → ∀ (H : Heap) (locs : List Loc), va_P D vwCl (wX3 q3 cI cJ cB f2 heapNumbers_3 ++ wX4 q4 cI cJ cB parts_4 wins_4 draws_4 points_4 count_4 changes_4) H → va_D A (wX3 q3 cI cJ cB f2 heapNumbers_3 ++ wX4 q4 cI cJ cB parts_4 wins_4 draws_4 points_4 count_4 changes_4) → va_S A s.heap H locs → ∀ (ls : Array Slot), lv_has ls 5 [(0, .ref (q3 0)), (1, .ref (q4 0)), (2, .int (nI n)), (3, .int (nI b1)), (4, .int (nI p1))] → W p l e (headSpec wsX3_fillReached rmX3_fillReached).room s m args below meth c H locs 0 0 Q (F0 m 78 ls []) := by
                intro fu
                induction fu with
                | zero => intro p1 f2 hp1 hf2 hfu; exact absurd hfu (Nat.not_lt_zero _)
                | succ fu ih_78 =>
                  intro p1 f2 hp1 hf2 hfu H locs hP hD hS ls hl
                  refine lv_iload hx hb dX3_fillReached_78 (lv_at hl 4 rfl) ?_
                  refine lv_iload_n hx hb dX3_fillReached_80 rfl (lv_at hl 2 rfl) ?_
                  refine lv_icmp_ge (tgt := 120) hx hb dX3_fillReached_81 (by decide) (fun c_81 => ?_) (fun c_81 => ?_)
                  · skip
                    have c_81 := k_ge (by omega) (by omega) c_81
                    obtain rfl : n = p1 := by omega
                    refine lv_iinc (v := nI (b1 + 1)) (lv' := [(3, .int (nI (b1 + 1))), (0, .ref (q3 0)), (1, .ref (q4 0)), (2, .int (nI n)), (4, .int (nI n))]) hx hb dX3_fillReached_120 hl (k := 3) rfl (nI_add _ _) (by decide) rfl (fun ls hl => ?_)
                    refine lv_goto (tgt := 70) hx hb dX3_fillReached_123 (by decide) ?_
                    exact ih_70 _ _ (by omega) hf2 (by omega) _ _ hP hD hS ls (lv_sub hl [1, 2, 3, 0] rfl)
                  · skip
                    have c_81 := k_ge_n (by omega) (by omega) c_81
                    have hR9 := (hf2 p1 (by omega)).2
                    refine lv_aload_n hx hb dX3_fillReached_84 rfl (lv_at hl 0 rfl) ?_
                    refine k_get (ci := 3) (v := .ref (q3 1)) (C := RX3) (Tb := TX3) (N := 2) hx hb hts hu_3 hown hKW hP 0 rfl rfl 0 (by decide) hf_9 rfl rfl dX3_fillReached_85 ?_
                    refine lv_iload hx hb dX3_fillReached_88 (lv_at hl 4 rfl) ?_
                    refine k_iald (n := 10) (i := p1) hx hb hKW hP 1 0 rfl rfl (by omega) (by omega) dX3_fillReached_90 ?_
                    refine k_top (y := nI (wA b1 (wB n (fun a => rA ml a n) b1) p1 p1)) ((hf2 p1 (by omega)).1) ?_
                    refine lv_iload_n hx hb dX3_fillReached_91 rfl (lv_at hl 3 rfl) ?_
                    have hs_92 : kSplit (wX3 q3 cI cJ cB f2 heapNumbers_3 ++ wX4 q4 cI cJ cB parts_4 wins_4 draws_4 points_4 count_4 changes_4) ([] : va_W) (wX3 q3 cI cJ cB f2 heapNumbers_3 ++ wX4 q4 cI cJ cB parts_4 wins_4 draws_4 points_4 count_4 changes_4) [] [0, 1, 2, 3, 4, 5, 6, 7] := ⟨rfl, rfl, rfl, rfl, rfl, by decide⟩
                    refine kc_i hP hD hS hA hs_92 (kSN (n := 2) (As := [.int (nI (wA b1 (wB n (fun a => rA ml a n) b1) p1 p1)), .int (nI b1)]) (rest := []) (host := "MeetingRanks") hx hb hml hown hts hKW hP hD hs_92 (c_X9_isIn l D cI cJ cB (wA b1 (wB n (fun a => rA ml a n) b1) p1 p1) b1 (by first | assumption | omega) (by first | assumption | omega)) gX3_fillReached_X9_isIn_n42 rfl rfl rfl (by decide +kernel) (by decide +kernel) (by decide +kernel) (by decide +kernel) ⟨Nat.le_of_ble_eq_true rfl, Nat.le_of_ble_eq_true rfl⟩ rfl hl.1 rfl (Nat.le_of_ble_eq_true rfl) dX3_fillReached_92 ⟨Nat.zero_le _, Nat.zero_le _⟩) (fun r_92 u_92 H locs hw_92 hP hD hS => ?_)
                    have er_92 := hw_92
                    have er_92 := er_92.symm
                    subst er_92
                    have hP : va_P D vwCl (wX3 q3 cI cJ cB f2 heapNumbers_3 ++ wX4 q4 cI cJ cB parts_4 wins_4 draws_4 points_4 count_4 changes_4) H := hP.sub (ws' := (wX3 q3 cI cJ cB f2 heapNumbers_3 ++ wX4 q4 cI cJ cB parts_4 wins_4 draws_4 points_4 count_4 changes_4)) [0, 1, 2, 3, 4, 5, 6, 7] rfl
                    have hD : va_D A (wX3 q3 cI cJ cB f2 heapNumbers_3 ++ wX4 q4 cI cJ cB parts_4 wins_4 draws_4 points_4 count_4 changes_4) := hD.sub (ws' := (wX3 q3 cI cJ cB f2 heapNumbers_3 ++ wX4 q4 cI cJ cB parts_4 wins_4 draws_4 points_4 count_4 changes_4)) [0, 1, 2, 3, 4, 5, 6, 7] (by decide) rfl
                    refine lv_if_eq (tgt := 114) hx hb dX3_fillReached_95 (by decide) (fun c_95 => ?_) (fun c_95 => ?_)
                    · skip
                      have c_95 := k_b0 c_95
                      refine lv_iinc (v := nI (p1 + 1)) (lv' := [(4, .int (nI (p1 + 1))), (0, .ref (q3 0)), (1, .ref (q4 0)), (2, .int (nI n)), (3, .int (nI b1))]) hx hb dX3_fillReached_114 hl (k := 4) rfl (nI_add _ _) (by decide) rfl (fun ls hl => ?_)
                      refine lv_goto (tgt := 78) hx hb dX3_fillReached_117 (by decide) ?_
                      exact ih_78 _ _ (by omega) (wStep_n hf2 c_95) (by omega) _ _ hP hD hS ls (lv_sub hl [1, 2, 3, 4, 0] rfl)
                    · skip
                      have c_95 := k_b1 c_95
                      refine lv_aload_n hx hb dX3_fillReached_98 rfl (lv_at hl 0 rfl) ?_
                      refine k_get (ci := 3) (v := .ref (q3 1)) (C := RX3) (Tb := TX3) (N := 2) hx hb hts hu_3 hown hKW hP 0 rfl rfl 0 (by decide) hf_9 rfl rfl dX3_fillReached_99 ?_
                      refine lv_iload hx hb dX3_fillReached_102 (lv_at hl 4 rfl) ?_
                      refine lv_dup2_11 hx hb dX3_fillReached_104 rfl rfl ?_
                      refine k_iald (n := 10) (i := p1) hx hb hKW hP 1 0 rfl rfl (by omega) (by omega) dX3_fillReached_105 ?_
                      refine k_top (y := nI (wA b1 (wB n (fun a => rA ml a n) b1) p1 p1)) ((hf2 p1 (by omega)).1) ?_
                      refine lv_aload_n hx hb dX3_fillReached_106 rfl (lv_at hl 0 rfl) ?_
                      refine k_get (ci := 3) (v := .ref (q3 1)) (C := RX3) (Tb := TX3) (N := 2) hx hb hts hu_3 hown hKW hP 0 rfl rfl 0 (by decide) hf_9 rfl rfl dX3_fillReached_107 ?_
                      refine lv_iload_n hx hb dX3_fillReached_110 rfl (lv_at hl 3 rfl) ?_
                      refine k_iald (n := 10) (i := b1) hx hb hKW hP 1 0 rfl rfl (by omega) (by omega) dX3_fillReached_111 ?_
                      refine k_top (y := nI (wA b1 (wB n (fun a => rA ml a n) b1) p1 b1)) ((hf2 b1 (by omega)).1) ?_
                      refine lv_ior hx hb dX3_fillReached_112 ?_
                      refine k_top (y := nI (wA b1 (wB n (fun a => rA ml a n) b1) p1 p1 ||| wA b1 (wB n (fun a => rA ml a n) b1) p1 b1)) (k_or _ _) ?_
                      refine k_iast (n := 10) (i := p1) (x := nI (wA b1 (wB n (fun a => rA ml a n) b1) p1 p1 ||| wA b1 (wB n (fun a => rA ml a n) b1) p1 b1)) (w' := (wX3 q3 cI cJ cB (upd f2 p1 (nI (wA b1 (wB n (fun a => rA ml a n) b1) p1 p1 ||| wA b1 (wB n (fun a => rA ml a n) b1) p1 b1))) heapNumbers_3 ++ wX4 q4 cI cJ cB parts_4 wins_4 draws_4 points_4 count_4 changes_4)) hx hb hKW hP hD hS 1 0 rfl rfl (by omega) (by omega) dX3_fillReached_113 rfl (fun H locs hP hD hS => ?_)
                      refine lv_iinc (v := nI (p1 + 1)) (lv' := [(4, .int (nI (p1 + 1))), (0, .ref (q3 0)), (1, .ref (q4 0)), (2, .int (nI n)), (3, .int (nI b1))]) hx hb dX3_fillReached_114 hl (k := 4) rfl (nI_add _ _) (by decide) rfl (fun ls hl => ?_)
                      refine lv_goto (tgt := 78) hx hb dX3_fillReached_117 (by decide) ?_
                      exact ih_78 _ _ (by omega) (wStep_y hf2 c_95 (or_1024 (hf2 p1 (by omega)).2 (hf2 b1 (by omega)).2)) (by omega) _ _ hP hD hS ls (lv_sub hl [1, 2, 3, 4, 0] rfl)
              exact hL_78 _ 0 _ (Nat.zero_le _) hf (Nat.lt_succ_self _) _ _ hP hD hS ls (lv_sub hl [1, 2, 3, 4, 0] rfl)
        exact hL_70 _ 0 _ (Nat.zero_le _) (fun x hx9 => ⟨hf x hx9, rA_lt (by omega) n hn10⟩) (Nat.lt_succ_self _) _ _ hP hD hS ls (lv_sub hl [1, 2, 3, 0] rfl)
      · skip
        have c_4 := k_ge_n (by omega) (by omega) c_4
        refine lv_aload_n hx hb dX3_fillReached_7 rfl (lv_at hl 0 rfl) ?_
        refine k_get (ci := 3) (v := .ref (q3 1)) (C := RX3) (Tb := TX3) (N := 2) hx hb hts hu_3 hown hKW hP 0 rfl rfl 0 (by decide) hf_9 rfl rfl dX3_fillReached_8 ?_
        refine lv_iload_n hx hb dX3_fillReached_11 rfl (lv_at hl 3 rfl) ?_
        refine lv_iconst (v := nI 1) hx hb dX3_fillReached_12 (by decide) ?_
        refine lv_iload_n hx hb dX3_fillReached_13 rfl (lv_at hl 3 rfl) ?_
        refine lv_ishl hx hb dX3_fillReached_14 ?_
        refine k_top (y := nI (2 ^ a)) (k_shl1 (by omega)) ?_
        refine k_iast (n := 10) (i := a) (x := nI (2 ^ a)) (w' := (wX3 q3 cI cJ cB (upd f a (nI (2 ^ a))) heapNumbers_3 ++ wX4 q4 cI cJ cB parts_4 wins_4 draws_4 points_4 count_4 changes_4)) hx hb hKW hP hD hS 1 0 rfl rfl (by omega) (by omega) dX3_fillReached_15 rfl (fun H locs hP hD hS => ?_)
        refine lv_iconst (v := nI 0) hx hb dX3_fillReached_16 (by decide) ?_
        refine lv_istore (lv' := [(4, .int (nI 0)), (0, .ref (q3 0)), (1, .ref (q4 0)), (2, .int (nI n)), (3, .int (nI a))]) hx hb dX3_fillReached_17 hl (by decide) rfl (fun ls hl => ?_)
        have hL_19 : ∀ (fu : Nat) (b : Nat) (g : Nat → Int32) (hb2 : b ≤ n) (hf2 : ∀ x, x < a → g x = nI (rA ml x n)) (hg : g a = nI (rA ml a b)), n - b < fu → ∀ (H : Heap) (locs : List Loc), va_P D vwCl (wX3 q3 cI cJ cB g heapNumbers_3 ++ wX4 q4 cI cJ cB parts_4 wins_4 draws_4 points_4 count_4 changes_4) H → va_D A (wX3 q3 cI cJ cB g heapNumbers_3 ++ wX4 q4 cI cJ cB parts_4 wins_4 draws_4 points_4 count_4 changes_4) → va_S A s.heap H locs → ∀ (ls : Array Slot), lv_has ls 5 [(0, .ref (q3 0)), (1, .ref (q4 0)), (2, .int (nI n)), (3, .int (nI a)), (4, .int (nI b))] → W p l e (headSpec wsX3_fillReached rmX3_fillReached).room s m args below meth c H locs 0 0 Q (F0 m 19 ls []) := by
          intro fu
          induction fu with
          | zero => intro b g hb2 hf2 hg hfu; exact absurd hfu (Nat.not_lt_zero _)
          | succ fu ih_19 =>
            intro b g hb2 hf2 hg hfu H locs hP hD hS ls hl
            have hov1 := ov_le ml a b
            have hov2 := dr_le ml a b
            have hra9 : a < n → rA ml a b < 1024 := fun z => rA_lt (by omega) b (by omega)
            refine lv_iload hx hb dX3_fillReached_19 (lv_at hl 4 rfl) ?_
            refine lv_iload_n hx hb dX3_fillReached_21 rfl (lv_at hl 2 rfl) ?_
            refine lv_icmp_ge (tgt := 62) hx hb dX3_fillReached_22 (by decide) (fun c_22 => ?_) (fun c_22 => ?_)
            · skip
              have c_22 := k_ge (by omega) (by omega) c_22
              obtain rfl : n = b := by omega
              refine lv_iinc (v := nI (a + 1)) (lv' := [(3, .int (nI (a + 1))), (0, .ref (q3 0)), (1, .ref (q4 0)), (2, .int (nI n)), (4, .int (nI n))]) hx hb dX3_fillReached_62 hl (k := 3) rfl (nI_add _ _) (by decide) rfl (fun ls hl => ?_)
              refine lv_goto (tgt := 2) hx hb dX3_fillReached_65 (by decide) ?_
              exact ih_2 _ _ (by omega) (fun x hx9 => by by_cases e9 : x = a; (subst e9; exact hg); (exact hf2 x (by omega))) (by omega) _ _ hP hD hS ls (lv_sub hl [1, 2, 3, 0] rfl)
            · skip
              have c_22 := k_ge_n (by omega) (by omega) c_22
              refine lv_aload_n hx hb dX3_fillReached_25 rfl (lv_at hl 1 rfl) ?_
              refine lv_iload_n hx hb dX3_fillReached_26 rfl (lv_at hl 3 rfl) ?_
              refine lv_iload hx hb dX3_fillReached_27 (lv_at hl 4 rfl) ?_
              have hs_29 : kSplit (wX3 q3 cI cJ cB g heapNumbers_3 ++ wX4 q4 cI cJ cB parts_4 wins_4 draws_4 points_4 count_4 changes_4) (wX4 q4 cI cJ cB parts_4 wins_4 draws_4 points_4 count_4 changes_4) (wX3 q3 cI cJ cB g heapNumbers_3) [3, 4, 5, 6, 7] [0, 1, 2] := ⟨rfl, rfl, rfl, rfl, rfl, by decide⟩
              refine kc_i hP hD hS hA hs_29 (kV (As := [.int (nI a), .int (nI b)]) (rest := []) hx hb hml hown hts hKW hP hD hs_29 (c_X4_wins l D cI cJ cB q4 parts_4 wins_4 draws_4 points_4 count_4 changes_4 a b (by first | assumption | omega) (by first | assumption | omega)) (cwV 2 hts gX3_fillReached_X4_wins rfl rfl rfl (by decide +kernel) ⟨Nat.le_of_ble_eq_true rfl, Nat.le_of_ble_eq_true rfl⟩) 0 4 rfl rfl rfl rfl hl.1 rfl (Nat.le_of_ble_eq_true rfl) dX3_fillReached_29 ⟨Nat.zero_le _, Nat.zero_le _⟩) (fun r_29 u_29 H locs hw_29 hP hD hS => ?_)
              have er_29 := hw_29
              have er_29 := er_29.symm
              subst er_29
              have hP : va_P D vwCl (wX3 q3 cI cJ cB g heapNumbers_3 ++ wX4 q4 cI cJ cB parts_4 wins_4 draws_4 points_4 count_4 changes_4) H := hP.sub (ws' := (wX3 q3 cI cJ cB g heapNumbers_3 ++ wX4 q4 cI cJ cB parts_4 wins_4 draws_4 points_4 count_4 changes_4)) [0, 1, 2, 3, 4, 5, 6, 7] rfl
              have hD : va_D A (wX3 q3 cI cJ cB g heapNumbers_3 ++ wX4 q4 cI cJ cB parts_4 wins_4 draws_4 points_4 count_4 changes_4) := hD.sub (ws' := (wX3 q3 cI cJ cB g heapNumbers_3 ++ wX4 q4 cI cJ cB parts_4 wins_4 draws_4 points_4 count_4 changes_4)) [0, 1, 2, 3, 4, 5, 6, 7] (by decide) rfl
              refine k_top (y := nI (ov ml a b)) ((hM.2 a b (by omega) (by omega)).1) ?_
              refine lv_aload_n hx hb dX3_fillReached_32 rfl (lv_at hl 1 rfl) ?_
              refine lv_iload_n hx hb dX3_fillReached_33 rfl (lv_at hl 3 rfl) ?_
              refine lv_iload hx hb dX3_fillReached_34 (lv_at hl 4 rfl) ?_
              have hs_36 : kSplit (wX3 q3 cI cJ cB g heapNumbers_3 ++ wX4 q4 cI cJ cB parts_4 wins_4 draws_4 points_4 count_4 changes_4) (wX4 q4 cI cJ cB parts_4 wins_4 draws_4 points_4 count_4 changes_4) (wX3 q3 cI cJ cB g heapNumbers_3) [3, 4, 5, 6, 7] [0, 1, 2] := ⟨rfl, rfl, rfl, rfl, rfl, by decide⟩
              refine kc_i hP hD hS hA hs_36 (kV (As := [.int (nI a), .int (nI b)]) (rest := [.int (nI (ov ml a b))]) hx hb hml hown hts hKW hP hD hs_36 (c_X4_draws l D cI cJ cB q4 parts_4 wins_4 draws_4 points_4 count_4 changes_4 a b (by first | assumption | omega) (by first | assumption | omega)) (cwV 2 hts gX3_fillReached_X4_draws rfl rfl rfl (by decide +kernel) ⟨Nat.le_of_ble_eq_true rfl, Nat.le_of_ble_eq_true rfl⟩) 0 4 rfl rfl rfl rfl hl.1 rfl (Nat.le_of_ble_eq_true rfl) dX3_fillReached_36 ⟨Nat.zero_le _, Nat.zero_le _⟩) (fun r_36 u_36 H locs hw_36 hP hD hS => ?_)
              have er_36 := hw_36
              have er_36 := er_36.symm
              subst er_36
              have hP : va_P D vwCl (wX3 q3 cI cJ cB g heapNumbers_3 ++ wX4 q4 cI cJ cB parts_4 wins_4 draws_4 points_4 count_4 changes_4) H := hP.sub (ws' := (wX3 q3 cI cJ cB g heapNumbers_3 ++ wX4 q4 cI cJ cB parts_4 wins_4 draws_4 points_4 count_4 changes_4)) [0, 1, 2, 3, 4, 5, 6, 7] rfl
              have hD : va_D A (wX3 q3 cI cJ cB g heapNumbers_3 ++ wX4 q4 cI cJ cB parts_4 wins_4 draws_4 points_4 count_4 changes_4) := hD.sub (ws' := (wX3 q3 cI cJ cB g heapNumbers_3 ++ wX4 q4 cI cJ cB parts_4 wins_4 draws_4 points_4 count_4 changes_4)) [0, 1, 2, 3, 4, 5, 6, 7] (by decide) rfl
              refine k_top (y := nI (dr ml a b)) ((hM.2 a b (by omega) (by omega)).2.1) ?_
              refine k_iadd hx hb dX3_fillReached_39 ?_
              refine lv_if_le (tgt := 56) hx hb dX3_fillReached_40 (by decide) (fun c_40 => ?_) (fun c_40 => ?_)
              · skip
                have c_40 := k0_le (by omega) c_40
                refine lv_iinc (v := nI (b + 1)) (lv' := [(4, .int (nI (b + 1))), (0, .ref (q3 0)), (1, .ref (q4 0)), (2, .int (nI n)), (3, .int (nI a))]) hx hb dX3_fillReached_56 hl (k := 4) rfl (nI_add _ _) (by decide) rfl (fun ls hl => ?_)
                refine lv_goto (tgt := 19) hx hb dX3_fillReached_59 (by decide) ?_
                exact ih_19 _ _ (by omega) hf2 (by rw [hg]; show _ = nI (if _ then _ else _); rw [if_neg (by omega)]) (by omega) _ _ hP hD hS ls (lv_sub hl [1, 2, 3, 4, 0] rfl)
              · skip
                have c_40 := k0_le_n (by omega) c_40
                refine lv_aload_n hx hb dX3_fillReached_43 rfl (lv_at hl 0 rfl) ?_
                refine k_get (ci := 3) (v := .ref (q3 1)) (C := RX3) (Tb := TX3) (N := 2) hx hb hts hu_3 hown hKW hP 0 rfl rfl 0 (by decide) hf_9 rfl rfl dX3_fillReached_44 ?_
                refine lv_iload_n hx hb dX3_fillReached_47 rfl (lv_at hl 3 rfl) ?_
                refine lv_dup2_11 hx hb dX3_fillReached_48 rfl rfl ?_
                refine k_iald (n := 10) (i := a) hx hb hKW hP 1 0 rfl rfl (by omega) (by omega) dX3_fillReached_49 ?_
                refine k_top (y := nI (rA ml a b)) (hg) ?_
                refine lv_iconst (v := nI 1) hx hb dX3_fillReached_50 (by decide) ?_
                refine lv_iload hx hb dX3_fillReached_51 (lv_at hl 4 rfl) ?_
                refine lv_ishl hx hb dX3_fillReached_53 ?_
                refine k_top (y := nI (2 ^ b)) (k_shl1 (by omega)) ?_
                refine lv_ior hx hb dX3_fillReached_54 ?_
                refine k_top (y := nI (rA ml a b ||| 2 ^ b)) (k_or _ _) ?_
                refine k_iast (n := 10) (i := a) (x := nI (rA ml a b ||| 2 ^ b)) (w' := (wX3 q3 cI cJ cB (upd g a (nI (rA ml a b ||| 2 ^ b))) heapNumbers_3 ++ wX4 q4 cI cJ cB parts_4 wins_4 draws_4 points_4 count_4 changes_4)) hx hb hKW hP hD hS 1 0 rfl rfl (by omega) (by omega) dX3_fillReached_55 rfl (fun H locs hP hD hS => ?_)
                refine lv_iinc (v := nI (b + 1)) (lv' := [(4, .int (nI (b + 1))), (0, .ref (q3 0)), (1, .ref (q4 0)), (2, .int (nI n)), (3, .int (nI a))]) hx hb dX3_fillReached_56 hl (k := 4) rfl (nI_add _ _) (by decide) rfl (fun ls hl => ?_)
                refine lv_goto (tgt := 19) hx hb dX3_fillReached_59 (by decide) ?_
                exact ih_19 _ _ (by omega) (fun x hx9 => by rw [pk_un (by omega)]; exact hf2 x hx9) (by rw [pk_us]; show _ = nI (if _ then _ else _); rw [if_pos c_40]) (by omega) _ _ hP hD hS ls (lv_sub hl [1, 2, 3, 4, 0] rfl)
        exact hL_19 _ 0 _ (Nat.zero_le _) (fun x hx9 => by rw [pk_un (by omega)]; exact hf x hx9) pk_us (Nat.lt_succ_self _) _ _ hP hD hS ls (lv_sub hl [1, 2, 3, 4, 0] rfl)
  exact hL_2 _ 0 _ (Nat.zero_le _) (fun x hx9 => absurd hx9 (Nat.not_lt_zero x)) (Nat.lt_succ_self _) _ _ hP hD hS ls (lv_sub hl [1, 2, 3, 0] rfl)
def rmX3_isLed : Room := { frames := 1, cells := 0, slots := 0, locals := 21 }
set_option maxHeartbeats 4000000 in
set_option maxRecDepth 100000 in
theorem c_X3_isLed (l : Launch) (D : va_G) (cI cJ cB : ClassId) (q3 : Nat → Nat) (reached_3 : Nat → Int32) (heapNumbers_3 : Nat → Int32) (R : Nat → Nat) (p1 : Nat) (n : Nat) (B2 : Nat) (hRB : RB n reached_3 R) (hn10 : n ≤ 10) (hp1 : p1 < n) (hB2 : B2 < 1024) : ∀ sz, Met l yX3_isLed wsX3_isLed rmX3_isLed (va_Pc [.ref (q3 0), .int (nI p1), .int (nI n), .int (nI B2)] (PW D (kT cI cJ cB) sz (wX3 q3 cI cJ cB reached_3 heapNumbers_3))) (va_Qi (S := Unit) (fun r _ => r = if ldB R B2 p1 n = true then 1 else 0) (QW D sz (wX3 q3 cI cJ cB reached_3 heapNumbers_3) (fun _ => (wX3 q3 cI cJ cB reached_3 heapNumbers_3))) (va_A (wX3 q3 cI cJ cB reached_3 heapNumbers_3) sz)) 0 0 (va_A (wX3 q3 cI cJ cB reached_3 heapNumbers_3) sz) := by
  intro sz
  refine Met.ofW (cc := cX3_isLed) (maxL := 6) (ret := (some .boolean)) (by decide) rfl ?_
  intro p e s m args below meth c s₁ B hml hv
  obtain ⟨hav, hsz, hP, hKW, hD0⟩ := hv
  have hx := B.exec
  have hb := B.bytes
  have hr := B.returns
  have hts := atoms_spec (ws := wsX3_isLed) B.pre
  have hown : s.vm.findClass RX3 = some m.cls := findClass_of_methodNamed B.named
  have hlocks := B.notSynchronized
  subst hsz
  have hD := hD0.self (sz := s.heap.size)
  obtain ⟨A, hAe⟩ : ∃ A : Nat → Prop, A = va_A (wX3 q3 cI cJ cB reached_3 heapNumbers_3) s.heap.size := ⟨_, rfl⟩
  rw [← hAe] at hD
  have hA : ∀ q : Nat, s.heap.size ≤ q → A q := fun q h => by rw [hAe]; exact Or.inr h
  have hS : va_S A s.heap s.heap [] := va_S.rf
  refine k_gen (fun Q hQ => ?_)
  have hl := lv_entry ([.ref (q3 0), .int (nI p1), .int (nI n), .int (nI B2)]) (n := 6) (Nat.le_of_ble_eq_true rfl)
  refine k_entry hav (lg_entry_eq ..) ?_
  generalize (lg_sl ([.ref (q3 0), .int (nI p1), .int (nI n), .int (nI B2)]) ++ List.replicate (6 - (lg_sl ([.ref (q3 0), .int (nI p1), .int (nI n), .int (nI B2)])).length) Slot.unset).toArray = ls at hl ⊢
  have hl : lv_has ls 6 [(0, .ref (q3 0)), (1, .int (nI p1)), (2, .int (nI n)), (3, .int (nI B2))] := hl
  have hu_3 : ∀ w ∈ u_ws RX3 TX3 2, w ∈ wsX3_isLed := by decide +kernel
  have hf_9 : Cond.fieldLink RX3 9 "MeetingRanks$HeapSearch" "reached" "[I" ∈ wsX3_isLed := by decide +kernel
  refine lv_iconst (v := nI 0) hx hb dX3_isLed_0 (by decide) ?_
  refine lv_istore (lv' := [(4, .int (nI 0)), (0, .ref (q3 0)), (1, .int (nI p1)), (2, .int (nI n)), (3, .int (nI B2))]) hx hb dX3_isLed_1 hl (by decide) rfl (fun ls hl => ?_)
  have hL_3 : ∀ (fu : Nat) (o : Nat) (ho : o ≤ n) (hld : ldB R B2 p1 o = false), n - o < fu → ∀ (H : Heap) (locs : List Loc), va_P D vwCl (wX3 q3 cI cJ cB reached_3 heapNumbers_3) H → va_D A (wX3 q3 cI cJ cB reached_3 heapNumbers_3) → va_S A s.heap H locs → ∀ (ls : Array Slot), lv_has ls 6 [(0, .ref (q3 0)), (1, .int (nI p1)), (2, .int (nI n)), (3, .int (nI B2)), (4, .int (nI o))] → W p l e (headSpec wsX3_isLed rmX3_isLed).room s m args below meth c H locs 0 0 Q (F0 m 3 ls []) := by
    intro fu
    induction fu with
    | zero => intro o ho hld hfu; exact absurd hfu (Nat.not_lt_zero _)
    | succ fu ih_3 =>
      intro o ho hld hfu H locs hP hD hS ls hl
      refine lv_iload hx hb dX3_isLed_3 (lv_at hl 4 rfl) ?_
      refine lv_iload_n hx hb dX3_isLed_5 rfl (lv_at hl 2 rfl) ?_
      refine lv_icmp_ge (tgt := 66) hx hb dX3_isLed_6 (by decide) (fun c_6 => ?_) (fun c_6 => ?_)
      · skip
        have c_6 := k_ge (by omega) (by omega) c_6
        refine lv_iconst (v := nI 0) hx hb dX3_isLed_66 (by decide) ?_
        subst hQ; subst hAe
        exact W.zret (v := nI 0) (ty := .boolean) hx hb hr (by decide) (fun tt9 ht9 _ => ⟨⟨nI 0, (), rfl, k_if0 (by have e9 : o = n := (by omega); subst e9; rw [hld]; exact Bool.false_ne_true), by rw [ht9]; exact hP, hD⟩, hS.F ht9⟩) hS.2.2 dX3_isLed_67
      · skip
        have c_6 := k_ge_n (by omega) (by omega) c_6
        have hRo9 := (hRB o (by omega)).2
        have hRp9 := (hRB p1 hp1).2
        refine lv_aload_n hx hb dX3_isLed_9 rfl (lv_at hl 0 rfl) ?_
        refine k_get (ci := 3) (v := .ref (q3 1)) (C := RX3) (Tb := TX3) (N := 2) hx hb hts hu_3 hown hKW hP 0 rfl rfl 0 (by decide) hf_9 rfl rfl dX3_isLed_10 ?_
        refine lv_iload hx hb dX3_isLed_13 (lv_at hl 4 rfl) ?_
        refine k_iald (n := 10) (i := o) hx hb hKW hP 1 0 rfl rfl (by omega) (by omega) dX3_isLed_15 ?_
        refine k_top (y := nI (R o)) ((hRB o (by omega)).1) ?_
        refine lv_iload_n hx hb dX3_isLed_16 rfl (lv_at hl 1 rfl) ?_
        have hs_17 : kSplit (wX3 q3 cI cJ cB reached_3 heapNumbers_3) ([] : va_W) (wX3 q3 cI cJ cB reached_3 heapNumbers_3) [] [0, 1, 2] := ⟨rfl, rfl, rfl, rfl, rfl, by decide⟩
        refine kc_i hP hD hS hA hs_17 (kSN (n := 2) (As := [.int (nI (R o)), .int (nI p1)]) (rest := []) (host := "MeetingRanks") hx hb hml hown hts hKW hP hD hs_17 (c_X9_isIn l D cI cJ cB (R o) p1 (by first | assumption | omega) (by first | assumption | omega)) gX3_isLed_X9_isIn_n42 rfl rfl rfl (by decide +kernel) (by decide +kernel) (by decide +kernel) (by decide +kernel) ⟨Nat.le_of_ble_eq_true rfl, Nat.le_of_ble_eq_true rfl⟩ rfl hl.1 rfl (Nat.le_of_ble_eq_true rfl) dX3_isLed_17 ⟨Nat.zero_le _, Nat.zero_le _⟩) (fun r_17 u_17 H locs hw_17 hP hD hS => ?_)
        have er_17 := hw_17
        have er_17 := er_17.symm
        subst er_17
        have hP : va_P D vwCl (wX3 q3 cI cJ cB reached_3 heapNumbers_3) H := hP.sub (ws' := (wX3 q3 cI cJ cB reached_3 heapNumbers_3)) [0, 1, 2] rfl
        have hD : va_D A (wX3 q3 cI cJ cB reached_3 heapNumbers_3) := hD.sub (ws' := (wX3 q3 cI cJ cB reached_3 heapNumbers_3)) [0, 1, 2] (by decide) rfl
        refine lv_if_eq (tgt := 41) hx hb dX3_isLed_20 (by decide) (fun c_20 => ?_) (fun c_20 => ?_)
        · skip
          have c_20 := k_b0 c_20
          refine lv_iconst (v := nI 0) hx hb dX3_isLed_41 (by decide) ?_
          refine lv_istore (lv' := [(5, .int (nI 0)), (0, .ref (q3 0)), (1, .int (nI p1)), (2, .int (nI n)), (3, .int (nI B2)), (4, .int (nI o))]) hx hb dX3_isLed_42 hl (by decide) rfl (fun ls hl => ?_)
          refine lv_iload hx hb dX3_isLed_44 (lv_at hl 0 rfl) ?_
          refine lv_if_eq (tgt := 60) hx hb dX3_isLed_46 (by decide) (fun c_46 => ?_) (fun c_46 => ?_)
          · skip
            have c_46 := k0_eq (by omega) c_46
            
            refine lv_iinc (v := nI (o + 1)) (lv' := [(4, .int (nI (o + 1))), (5, .int (nI 0)), (0, .ref (q3 0)), (1, .int (nI p1)), (2, .int (nI n)), (3, .int (nI B2))]) hx hb dX3_isLed_60 hl (k := 5) rfl (nI_add _ _) (by decide) rfl (fun ls hl => ?_)
            refine lv_goto (tgt := 3) hx hb dX3_isLed_63 (by decide) ?_
            exact ih_3 _ (by omega) (ld_1 hld c_20) (by omega) _ _ hP hD hS ls (lv_sub hl [2, 3, 4, 5, 0] rfl)
          · skip
            have c_46 := k0_eq_n (by omega) c_46
            exact absurd rfl c_46
        · skip
          have c_20 := k_b1 c_20
          refine lv_aload_n hx hb dX3_isLed_23 rfl (lv_at hl 0 rfl) ?_
          refine k_get (ci := 3) (v := .ref (q3 1)) (C := RX3) (Tb := TX3) (N := 2) hx hb hts hu_3 hown hKW hP 0 rfl rfl 0 (by decide) hf_9 rfl rfl dX3_isLed_24 ?_
          refine lv_iload_n hx hb dX3_isLed_27 rfl (lv_at hl 1 rfl) ?_
          refine k_iald (n := 10) (i := p1) hx hb hKW hP 1 0 rfl rfl (by omega) (by omega) dX3_isLed_28 ?_
          refine k_top (y := nI (R p1)) ((hRB p1 hp1).1) ?_
          refine lv_iload hx hb dX3_isLed_29 (lv_at hl 4 rfl) ?_
          have hs_31 : kSplit (wX3 q3 cI cJ cB reached_3 heapNumbers_3) ([] : va_W) (wX3 q3 cI cJ cB reached_3 heapNumbers_3) [] [0, 1, 2] := ⟨rfl, rfl, rfl, rfl, rfl, by decide⟩
          refine kc_i hP hD hS hA hs_31 (kSN (n := 2) (As := [.int (nI (R p1)), .int (nI o)]) (rest := []) (host := "MeetingRanks") hx hb hml hown hts hKW hP hD hs_31 (c_X9_isIn l D cI cJ cB (R p1) o (by first | assumption | omega) (by first | assumption | omega)) gX3_isLed_X9_isIn_n42 rfl rfl rfl (by decide +kernel) (by decide +kernel) (by decide +kernel) (by decide +kernel) ⟨Nat.le_of_ble_eq_true rfl, Nat.le_of_ble_eq_true rfl⟩ rfl hl.1 rfl (Nat.le_of_ble_eq_true rfl) dX3_isLed_31 ⟨Nat.zero_le _, Nat.zero_le _⟩) (fun r_31 u_31 H locs hw_31 hP hD hS => ?_)
          have er_31 := hw_31
          have er_31 := er_31.symm
          subst er_31
          have hP : va_P D vwCl (wX3 q3 cI cJ cB reached_3 heapNumbers_3) H := hP.sub (ws' := (wX3 q3 cI cJ cB reached_3 heapNumbers_3)) [0, 1, 2] rfl
          have hD : va_D A (wX3 q3 cI cJ cB reached_3 heapNumbers_3) := hD.sub (ws' := (wX3 q3 cI cJ cB reached_3 heapNumbers_3)) [0, 1, 2] (by decide) rfl
          refine lv_if_ne (tgt := 41) hx hb dX3_isLed_34 (by decide) (fun c_34 => ?_) (fun c_34 => ?_)
          · skip
            have c_34 := k_b1 c_34
            refine lv_iconst (v := nI 0) hx hb dX3_isLed_41 (by decide) ?_
            refine lv_istore (lv' := [(5, .int (nI 0)), (0, .ref (q3 0)), (1, .int (nI p1)), (2, .int (nI n)), (3, .int (nI B2)), (4, .int (nI o))]) hx hb dX3_isLed_42 hl (by decide) rfl (fun ls hl => ?_)
            refine lv_iload hx hb dX3_isLed_44 (lv_at hl 0 rfl) ?_
            refine lv_if_eq (tgt := 60) hx hb dX3_isLed_46 (by decide) (fun c_46 => ?_) (fun c_46 => ?_)
            · skip
              have c_46 := k0_eq (by omega) c_46
              
              refine lv_iinc (v := nI (o + 1)) (lv' := [(4, .int (nI (o + 1))), (5, .int (nI 0)), (0, .ref (q3 0)), (1, .int (nI p1)), (2, .int (nI n)), (3, .int (nI B2))]) hx hb dX3_isLed_60 hl (k := 5) rfl (nI_add _ _) (by decide) rfl (fun ls hl => ?_)
              refine lv_goto (tgt := 3) hx hb dX3_isLed_63 (by decide) ?_
              exact ih_3 _ (by omega) (ld_2 hld c_34) (by omega) _ _ hP hD hS ls (lv_sub hl [2, 3, 4, 5, 0] rfl)
            · skip
              have c_46 := k0_eq_n (by omega) c_46
              exact absurd rfl c_46
          · skip
            have c_34 := k_b0 c_34
            refine lv_iconst (v := nI 1) hx hb dX3_isLed_37 (by decide) ?_
            refine lv_goto (tgt := 42) hx hb dX3_isLed_38 (by decide) ?_
            refine lv_istore (lv' := [(5, .int (nI 1)), (0, .ref (q3 0)), (1, .int (nI p1)), (2, .int (nI n)), (3, .int (nI B2)), (4, .int (nI o))]) hx hb dX3_isLed_42 hl (by decide) rfl (fun ls hl => ?_)
            refine lv_iload hx hb dX3_isLed_44 (lv_at hl 0 rfl) ?_
            refine lv_if_eq (tgt := 60) hx hb dX3_isLed_46 (by decide) (fun c_46 => ?_) (fun c_46 => ?_)
            · skip
              have c_46 := k0_eq (by omega) c_46
              exact absurd c_46 (by decide)
            · skip
              have c_46 := k0_eq_n (by omega) c_46
              
              refine lv_iload_n hx hb dX3_isLed_49 rfl (lv_at hl 4 rfl) ?_
              refine lv_iload hx hb dX3_isLed_50 (lv_at hl 5 rfl) ?_
              have hs_52 : kSplit (wX3 q3 cI cJ cB reached_3 heapNumbers_3) ([] : va_W) (wX3 q3 cI cJ cB reached_3 heapNumbers_3) [] [0, 1, 2] := ⟨rfl, rfl, rfl, rfl, rfl, by decide⟩
              refine kc_i hP hD hS hA hs_52 (kSN (n := 2) (As := [.int (nI B2), .int (nI o)]) (rest := []) (host := "MeetingRanks") hx hb hml hown hts hKW hP hD hs_52 (c_X9_isIn l D cI cJ cB B2 o (by first | assumption | omega) (by first | assumption | omega)) gX3_isLed_X9_isIn_n42 rfl rfl rfl (by decide +kernel) (by decide +kernel) (by decide +kernel) (by decide +kernel) ⟨Nat.le_of_ble_eq_true rfl, Nat.le_of_ble_eq_true rfl⟩ rfl hl.1 rfl (Nat.le_of_ble_eq_true rfl) dX3_isLed_52 ⟨Nat.zero_le _, Nat.zero_le _⟩) (fun r_52 u_52 H locs hw_52 hP hD hS => ?_)
              have er_52 := hw_52
              have er_52 := er_52.symm
              subst er_52
              have hP : va_P D vwCl (wX3 q3 cI cJ cB reached_3 heapNumbers_3) H := hP.sub (ws' := (wX3 q3 cI cJ cB reached_3 heapNumbers_3)) [0, 1, 2] rfl
              have hD : va_D A (wX3 q3 cI cJ cB reached_3 heapNumbers_3) := hD.sub (ws' := (wX3 q3 cI cJ cB reached_3 heapNumbers_3)) [0, 1, 2] (by decide) rfl
              refine lv_if_ne (tgt := 60) hx hb dX3_isLed_55 (by decide) (fun c_55 => ?_) (fun c_55 => ?_)
              · skip
                have c_55 := k_b1 c_55
                refine lv_iinc (v := nI (o + 1)) (lv' := [(4, .int (nI (o + 1))), (5, .int (nI 1)), (0, .ref (q3 0)), (1, .int (nI p1)), (2, .int (nI n)), (3, .int (nI B2))]) hx hb dX3_isLed_60 hl (k := 5) rfl (nI_add _ _) (by decide) rfl (fun ls hl => ?_)
                refine lv_goto (tgt := 3) hx hb dX3_isLed_63 (by decide) ?_
                exact ih_3 _ (by omega) (ld_3 hld c_55) (by omega) _ _ hP hD hS ls (lv_sub hl [2, 3, 4, 5, 0] rfl)
              · skip
                have c_55 := k_b0 c_55
                refine lv_iconst (v := nI 1) hx hb dX3_isLed_58 (by decide) ?_
                subst hQ; subst hAe
                exact W.zret (v := nI 1) (ty := .boolean) hx hb hr (by decide) (fun tt9 ht9 _ => ⟨⟨nI 1, (), rfl, k_if1 (ldB_yes (ld_4 c_20 c_34 c_55) n (by omega)), by rw [ht9]; exact hP, hD⟩, hS.F ht9⟩) hS.2.2 dX3_isLed_59
  exact hL_3 _ 0 (Nat.zero_le _) rfl (Nat.lt_succ_self _) _ _ hP hD hS ls (lv_sub hl [1, 2, 3, 4, 0] rfl)
def rmX3_leastUnled : Room := { frames := 2, cells := 0, slots := 0, locals := 46 }
set_option maxHeartbeats 4000000 in
set_option maxRecDepth 100000 in
theorem c_X3_leastUnled (l : Launch) (D : va_G) (cI cJ cB : ClassId) (q3 : Nat → Nat) (reached_3 : Nat → Int32) (heapNumbers_3 : Nat → Int32) (R : Nat → Nat) (n : Nat) (B2 : Nat) (hRB : RB n reached_3 R) (hn10 : n ≤ 10) (hB2 : B2 < 1024) : ∀ sz, Met l yX3_leastUnled wsX3_leastUnled rmX3_leastUnled (va_Pc [.ref (q3 0), .int (nI n), .int (nI B2)] (PW D (kT cI cJ cB) sz (wX3 q3 cI cJ cB reached_3 heapNumbers_3))) (va_Qi (S := Unit) (fun r _ => r = nI (luF R n B2)) (QW D sz (wX3 q3 cI cJ cB reached_3 heapNumbers_3) (fun _ => (wX3 q3 cI cJ cB reached_3 heapNumbers_3))) (va_A (wX3 q3 cI cJ cB reached_3 heapNumbers_3) sz)) 0 0 (va_A (wX3 q3 cI cJ cB reached_3 heapNumbers_3) sz) := by
  intro sz
  refine Met.ofW (cc := cX3_leastUnled) (maxL := 4) (ret := (some .int)) (by decide) rfl ?_
  intro p e s m args below meth c s₁ B hml hv
  obtain ⟨hav, hsz, hP, hKW, hD0⟩ := hv
  have hx := B.exec
  have hb := B.bytes
  have hr := B.returns
  have hts := atoms_spec (ws := wsX3_leastUnled) B.pre
  have hown : s.vm.findClass RX3 = some m.cls := findClass_of_methodNamed B.named
  have hlocks := B.notSynchronized
  subst hsz
  have hD := hD0.self (sz := s.heap.size)
  obtain ⟨A, hAe⟩ : ∃ A : Nat → Prop, A = va_A (wX3 q3 cI cJ cB reached_3 heapNumbers_3) s.heap.size := ⟨_, rfl⟩
  rw [← hAe] at hD
  have hA : ∀ q : Nat, s.heap.size ≤ q → A q := fun q h => by rw [hAe]; exact Or.inr h
  have hS : va_S A s.heap s.heap [] := va_S.rf
  refine k_gen (fun Q hQ => ?_)
  have hl := lv_entry ([.ref (q3 0), .int (nI n), .int (nI B2)]) (n := 4) (Nat.le_of_ble_eq_true rfl)
  refine k_entry hav (lg_entry_eq ..) ?_
  generalize (lg_sl ([.ref (q3 0), .int (nI n), .int (nI B2)]) ++ List.replicate (4 - (lg_sl ([.ref (q3 0), .int (nI n), .int (nI B2)])).length) Slot.unset).toArray = ls at hl ⊢
  have hl : lv_has ls 4 [(0, .ref (q3 0)), (1, .int (nI n)), (2, .int (nI B2))] := hl
  refine lv_iconst (v := nI 0) hx hb dX3_leastUnled_0 (by decide) ?_
  refine lv_istore_n (lv' := [(3, .int (nI 0)), (0, .ref (q3 0)), (1, .int (nI n)), (2, .int (nI B2))]) hx hb dX3_leastUnled_1 rfl hl (by decide) rfl (fun ls hl => ?_)
  have hL_2 : ∀ (fu : Nat) (p1 : Nat) (hp1 : p1 ≤ n) (hs : srch (luP R n B2) 0 n = srch (luP R n B2) p1 (n - p1)), n - p1 < fu → ∀ (H : Heap) (locs : List Loc), va_P D vwCl (wX3 q3 cI cJ cB reached_3 heapNumbers_3) H → va_D A (wX3 q3 cI cJ cB reached_3 heapNumbers_3) → va_S A s.heap H locs → ∀ (ls : Array Slot), lv_has ls 4 [(0, .ref (q3 0)), (1, .int (nI n)), (2, .int (nI B2)), (3, .int (nI p1))] → W p l e (headSpec wsX3_leastUnled rmX3_leastUnled).room s m args below meth c H locs 0 0 Q (F0 m 2 ls []) := by
    intro fu
    induction fu with
    | zero => intro p1 hp1 hs hfu; exact absurd hfu (Nat.not_lt_zero _)
    | succ fu ih_2 =>
      intro p1 hp1 hs hfu H locs hP hD hS ls hl
      refine lv_iload_n hx hb dX3_leastUnled_2 rfl (lv_at hl 3 rfl) ?_
      refine lv_iload_n hx hb dX3_leastUnled_3 rfl (lv_at hl 1 rfl) ?_
      refine lv_icmp_ge (tgt := 33) hx hb dX3_leastUnled_4 (by decide) (fun c_4 => ?_) (fun c_4 => ?_)
      · skip
        have c_4 := k_ge (by omega) (by omega) c_4
        refine lv_iconst (v := nI 0) hx hb dX3_leastUnled_33 (by decide) ?_
        subst hQ; subst hAe
        exact W.iret (v := nI 0) hx hb hr (fun tt9 ht9 _ => ⟨⟨nI 0, (), rfl, by unfold luF; rw [hs, show n - p1 = 0 by omega]; rfl, by rw [ht9]; exact hP, hD⟩, hS.F ht9⟩) hS.2.2 dX3_leastUnled_34
      · skip
        have c_4 := k_ge_n (by omega) (by omega) c_4
        refine lv_iload_n hx hb dX3_leastUnled_7 rfl (lv_at hl 2 rfl) ?_
        refine lv_iload_n hx hb dX3_leastUnled_8 rfl (lv_at hl 3 rfl) ?_
        have hs_9 : kSplit (wX3 q3 cI cJ cB reached_3 heapNumbers_3) ([] : va_W) (wX3 q3 cI cJ cB reached_3 heapNumbers_3) [] [0, 1, 2] := ⟨rfl, rfl, rfl, rfl, rfl, by decide⟩
        refine kc_i hP hD hS hA hs_9 (kSN (n := 2) (As := [.int (nI B2), .int (nI p1)]) (rest := []) (host := "MeetingRanks") hx hb hml hown hts hKW hP hD hs_9 (c_X9_isIn l D cI cJ cB B2 p1 (by first | assumption | omega) (by first | assumption | omega)) gX3_leastUnled_X9_isIn_n42 rfl rfl rfl (by decide +kernel) (by decide +kernel) (by decide +kernel) (by decide +kernel) ⟨Nat.le_of_ble_eq_true rfl, Nat.le_of_ble_eq_true rfl⟩ rfl hl.1 rfl (Nat.le_of_ble_eq_true rfl) dX3_leastUnled_9 ⟨Nat.zero_le _, Nat.zero_le _⟩) (fun r_9 u_9 H locs hw_9 hP hD hS => ?_)
        have er_9 := hw_9
        have er_9 := er_9.symm
        subst er_9
        have hP : va_P D vwCl (wX3 q3 cI cJ cB reached_3 heapNumbers_3) H := hP.sub (ws' := (wX3 q3 cI cJ cB reached_3 heapNumbers_3)) [0, 1, 2] rfl
        have hD : va_D A (wX3 q3 cI cJ cB reached_3 heapNumbers_3) := hD.sub (ws' := (wX3 q3 cI cJ cB reached_3 heapNumbers_3)) [0, 1, 2] (by decide) rfl
        refine lv_if_ne (tgt := 27) hx hb dX3_leastUnled_12 (by decide) (fun c_12 => ?_) (fun c_12 => ?_)
        · skip
          have c_12 := k_b1 c_12
          refine lv_iinc (v := nI (p1 + 1)) (lv' := [(3, .int (nI (p1 + 1))), (0, .ref (q3 0)), (1, .int (nI n)), (2, .int (nI B2))]) hx hb dX3_leastUnled_27 hl (k := 3) rfl (nI_add _ _) (by decide) rfl (fun ls hl => ?_)
          refine lv_goto (tgt := 2) hx hb dX3_leastUnled_30 (by decide) ?_
          exact ih_2 _ (by omega) (by rw [hs, show n - p1 = (n - (p1 + 1)) + 1 by omega]; exact srch_no (wb_f c_12)) (by omega) _ _ hP hD hS ls (lv_sub hl [1, 2, 3, 0] rfl)
        · skip
          have c_12 := k_b0 c_12
          refine lv_aload_n hx hb dX3_leastUnled_15 rfl (lv_at hl 0 rfl) ?_
          refine lv_iload_n hx hb dX3_leastUnled_16 rfl (lv_at hl 3 rfl) ?_
          refine lv_iload_n hx hb dX3_leastUnled_17 rfl (lv_at hl 1 rfl) ?_
          refine lv_iload_n hx hb dX3_leastUnled_18 rfl (lv_at hl 2 rfl) ?_
          have hs_19 : kSplit (wX3 q3 cI cJ cB reached_3 heapNumbers_3) (wX3 q3 cI cJ cB reached_3 heapNumbers_3) ([] : va_W) [0, 1, 2] [] := ⟨rfl, rfl, rfl, rfl, rfl, by decide⟩
          refine kc_i hP hD hS hA hs_19 (kV (As := [.int (nI p1), .int (nI n), .int (nI B2)]) (rest := []) hx hb hml hown hts hKW hP hD hs_19 (c_X3_isLed l D cI cJ cB q3 reached_3 heapNumbers_3 R p1 n B2 (by first | assumption | omega) (by first | assumption | omega) (by first | assumption | omega) (by first | assumption | omega)) (cwV 3 hts gX3_leastUnled_X3_isLed rfl rfl rfl (by decide +kernel) ⟨Nat.le_of_ble_eq_true rfl, Nat.le_of_ble_eq_true rfl⟩) 0 3 rfl rfl rfl rfl hl.1 rfl (Nat.le_of_ble_eq_true rfl) dX3_leastUnled_19 ⟨Nat.zero_le _, Nat.zero_le _⟩) (fun r_19 u_19 H locs hw_19 hP hD hS => ?_)
          have er_19 := hw_19
          have er_19 := er_19.symm
          subst er_19
          have hP : va_P D vwCl (wX3 q3 cI cJ cB reached_3 heapNumbers_3) H := hP.sub (ws' := (wX3 q3 cI cJ cB reached_3 heapNumbers_3)) [0, 1, 2] rfl
          have hD : va_D A (wX3 q3 cI cJ cB reached_3 heapNumbers_3) := hD.sub (ws' := (wX3 q3 cI cJ cB reached_3 heapNumbers_3)) [0, 1, 2] (by decide) rfl
          refine lv_if_ne (tgt := 27) hx hb dX3_leastUnled_22 (by decide) (fun c_22 => ?_) (fun c_22 => ?_)
          · skip
            have c_22 := k_b1 c_22
            refine lv_iinc (v := nI (p1 + 1)) (lv' := [(3, .int (nI (p1 + 1))), (0, .ref (q3 0)), (1, .int (nI n)), (2, .int (nI B2))]) hx hb dX3_leastUnled_27 hl (k := 3) rfl (nI_add _ _) (by decide) rfl (fun ls hl => ?_)
            refine lv_goto (tgt := 2) hx hb dX3_leastUnled_30 (by decide) ?_
            exact ih_2 _ (by omega) (by rw [hs, show n - p1 = (n - (p1 + 1)) + 1 by omega]; exact srch_no (fun z => by rw [Bool.and_eq_true, c_22] at z; exact Bool.false_ne_true z.2)) (by omega) _ _ hP hD hS ls (lv_sub hl [1, 2, 3, 0] rfl)
          · skip
            have c_22 := k_b0 c_22
            refine lv_iload_n hx hb dX3_leastUnled_25 rfl (lv_at hl 3 rfl) ?_
            subst hQ; subst hAe
            exact W.iret (v := nI p1) hx hb hr (fun tt9 ht9 _ => ⟨⟨nI p1, (), rfl, by unfold luF; rw [hs, show n - p1 = (n - (p1 + 1)) + 1 by omega, srch_yes (by rw [Bool.and_eq_true]; exact ⟨nb_t c_12, by rw [Bool.eq_false_iff.mpr c_22]; rfl⟩)]; rfl, by rw [ht9]; exact hP, hD⟩, hS.F ht9⟩) hS.2.2 dX3_leastUnled_26
  exact hL_2 _ 0 (Nat.zero_le _) rfl (Nat.lt_succ_self _) _ _ hP hD hS ls (lv_sub hl [1, 2, 3, 0] rfl)
def rmX3_numberHeapOf : Room := { frames := 1, cells := 0, slots := 0, locals := 21 }
set_option maxHeartbeats 4000000 in
set_option maxRecDepth 100000 in
theorem c_X3_numberHeapOf (l : Launch) (D : va_G) (cI cJ cB : ClassId) (q3 : Nat → Nat) (reached_3 : Nat → Int32) (heapNumbers_3 : Nat → Int32) (R : Nat → Nat) (p1 : Nat) (n : Nat) (hp : Nat) (hRB : RB n reached_3 R) (hn10 : n ≤ 10) (hp1 : p1 < n) : ∀ sz, Met l yX3_numberHeapOf wsX3_numberHeapOf rmX3_numberHeapOf (va_Pc [.ref (q3 0), .int (nI p1), .int (nI n), .int (nI hp)] (PW D (kT cI cJ cB) sz (wX3 q3 cI cJ cB reached_3 heapNumbers_3))) (va_Qi (S := Unit) (fun r _ => r = nI (bitsOf (mkB R p1) n)) (QW D sz (wX3 q3 cI cJ cB reached_3 heapNumbers_3) (fun _ => (wX3 q3 cI cJ cB reached_3 (hset R heapNumbers_3 p1 hp n)))) (va_A (wX3 q3 cI cJ cB reached_3 heapNumbers_3) sz)) 0 0 (va_A (wX3 q3 cI cJ cB reached_3 heapNumbers_3) sz) := by
  intro sz
  refine Met.ofW (cc := cX3_numberHeapOf) (maxL := 6) (ret := (some .int)) (by decide) rfl ?_
  intro p e s m args below meth c s₁ B hml hv
  obtain ⟨hav, hsz, hP, hKW, hD0⟩ := hv
  have hx := B.exec
  have hb := B.bytes
  have hr := B.returns
  have hts := atoms_spec (ws := wsX3_numberHeapOf) B.pre
  have hown : s.vm.findClass RX3 = some m.cls := findClass_of_methodNamed B.named
  have hlocks := B.notSynchronized
  subst hsz
  have hD := hD0.self (sz := s.heap.size)
  obtain ⟨A, hAe⟩ : ∃ A : Nat → Prop, A = va_A (wX3 q3 cI cJ cB reached_3 heapNumbers_3) s.heap.size := ⟨_, rfl⟩
  rw [← hAe] at hD
  have hA : ∀ q : Nat, s.heap.size ≤ q → A q := fun q h => by rw [hAe]; exact Or.inr h
  have hS : va_S A s.heap s.heap [] := va_S.rf
  refine k_gen (fun Q hQ => ?_)
  have hl := lv_entry ([.ref (q3 0), .int (nI p1), .int (nI n), .int (nI hp)]) (n := 6) (Nat.le_of_ble_eq_true rfl)
  refine k_entry hav (lg_entry_eq ..) ?_
  generalize (lg_sl ([.ref (q3 0), .int (nI p1), .int (nI n), .int (nI hp)]) ++ List.replicate (6 - (lg_sl ([.ref (q3 0), .int (nI p1), .int (nI n), .int (nI hp)])).length) Slot.unset).toArray = ls at hl ⊢
  have hl : lv_has ls 6 [(0, .ref (q3 0)), (1, .int (nI p1)), (2, .int (nI n)), (3, .int (nI hp))] := hl
  have hu_3 : ∀ w ∈ u_ws RX3 TX3 2, w ∈ wsX3_numberHeapOf := by decide +kernel
  have hf_9 : Cond.fieldLink RX3 9 "MeetingRanks$HeapSearch" "reached" "[I" ∈ wsX3_numberHeapOf := by decide +kernel
  have hf_15 : Cond.fieldLink RX3 15 "MeetingRanks$HeapSearch" "heapNumbers" "[I" ∈ wsX3_numberHeapOf := by decide +kernel
  refine lv_iconst (v := nI 0) hx hb dX3_numberHeapOf_0 (by decide) ?_
  refine lv_istore (lv' := [(4, .int (nI 0)), (0, .ref (q3 0)), (1, .int (nI p1)), (2, .int (nI n)), (3, .int (nI hp))]) hx hb dX3_numberHeapOf_1 hl (by decide) rfl (fun ls hl => ?_)
  refine lv_iconst (v := nI 0) hx hb dX3_numberHeapOf_3 (by decide) ?_
  refine lv_istore (lv' := [(5, .int (nI 0)), (4, .int (nI 0)), (0, .ref (q3 0)), (1, .int (nI p1)), (2, .int (nI n)), (3, .int (nI hp))]) hx hb dX3_numberHeapOf_4 hl (by decide) rfl (fun ls hl => ?_)
  have hL_6 : ∀ (fu : Nat) (o : Nat) (ho : o ≤ n), n - o < fu → ∀ (H : Heap) (locs : List Loc), va_P D vwCl (wX3 q3 cI cJ cB reached_3 (hset R heapNumbers_3 p1 hp o)) H → va_D A (wX3 q3 cI cJ cB reached_3 (hset R heapNumbers_3 p1 hp o)) → va_S A s.heap H locs → ∀ (ls : Array Slot), lv_has ls 6 [(0, .ref (q3 0)), (1, .int (nI p1)), (2, .int (nI n)), (3, .int (nI hp)), (4, .int (nI (bitsOf (mkB R p1) o))), (5, .int (nI o))] → W p l e (headSpec wsX3_numberHeapOf rmX3_numberHeapOf).room s m args below meth c H locs 0 0 Q (F0 m 6 ls []) := by
    intro fu
    induction fu with
    | zero => intro o ho hfu; exact absurd hfu (Nat.not_lt_zero _)
    | succ fu ih_6 =>
      intro o ho hfu H locs hP hD hS ls hl
      refine lv_iload hx hb dX3_numberHeapOf_6 (lv_at hl 5 rfl) ?_
      refine lv_iload_n hx hb dX3_numberHeapOf_8 rfl (lv_at hl 2 rfl) ?_
      refine lv_icmp_ge (tgt := 63) hx hb dX3_numberHeapOf_9 (by decide) (fun c_9 => ?_) (fun c_9 => ?_)
      · skip
        have c_9 := k_ge (by omega) (by omega) c_9
        obtain rfl : n = o := by omega
        refine lv_iload hx hb dX3_numberHeapOf_63 (lv_at hl 4 rfl) ?_
        subst hQ; subst hAe
        exact W.iret (v := nI (bitsOf (mkB R p1) n)) hx hb hr (fun tt9 ht9 _ => ⟨⟨nI (bitsOf (mkB R p1) n), (), rfl, rfl, by rw [ht9]; exact hP, hD⟩, hS.F ht9⟩) hS.2.2 dX3_numberHeapOf_65
      · skip
        have c_9 := k_ge_n (by omega) (by omega) c_9
        have hRo9 := (hRB o (by omega)).2
        have hRp9 := (hRB p1 hp1).2
        refine lv_aload_n hx hb dX3_numberHeapOf_12 rfl (lv_at hl 0 rfl) ?_
        refine k_get (ci := 3) (v := .ref (q3 1)) (C := RX3) (Tb := TX3) (N := 2) hx hb hts hu_3 hown hKW hP 0 rfl rfl 0 (by decide) hf_9 rfl rfl dX3_numberHeapOf_13 ?_
        refine lv_iload hx hb dX3_numberHeapOf_16 (lv_at hl 5 rfl) ?_
        refine k_iald (n := 10) (i := o) hx hb hKW hP 1 0 rfl rfl (by omega) (by omega) dX3_numberHeapOf_18 ?_
        refine k_top (y := nI (R o)) ((hRB o (by omega)).1) ?_
        refine lv_iload_n hx hb dX3_numberHeapOf_19 rfl (lv_at hl 1 rfl) ?_
        have hs_20 : kSplit (wX3 q3 cI cJ cB reached_3 (hset R heapNumbers_3 p1 hp o)) ([] : va_W) (wX3 q3 cI cJ cB reached_3 (hset R heapNumbers_3 p1 hp o)) [] [0, 1, 2] := ⟨rfl, rfl, rfl, rfl, rfl, by decide⟩
        refine kc_i hP hD hS hA hs_20 (kSN (n := 2) (As := [.int (nI (R o)), .int (nI p1)]) (rest := []) (host := "MeetingRanks") hx hb hml hown hts hKW hP hD hs_20 (c_X9_isIn l D cI cJ cB (R o) p1 (by first | assumption | omega) (by first | assumption | omega)) gX3_numberHeapOf_X9_isIn_n42 rfl rfl rfl (by decide +kernel) (by decide +kernel) (by decide +kernel) (by decide +kernel) ⟨Nat.le_of_ble_eq_true rfl, Nat.le_of_ble_eq_true rfl⟩ rfl hl.1 rfl (Nat.le_of_ble_eq_true rfl) dX3_numberHeapOf_20 ⟨Nat.zero_le _, Nat.zero_le _⟩) (fun r_20 u_20 H locs hw_20 hP hD hS => ?_)
        have er_20 := hw_20
        have er_20 := er_20.symm
        subst er_20
        have hP : va_P D vwCl (wX3 q3 cI cJ cB reached_3 (hset R heapNumbers_3 p1 hp o)) H := hP.sub (ws' := (wX3 q3 cI cJ cB reached_3 (hset R heapNumbers_3 p1 hp o))) [0, 1, 2] rfl
        have hD : va_D A (wX3 q3 cI cJ cB reached_3 (hset R heapNumbers_3 p1 hp o)) := hD.sub (ws' := (wX3 q3 cI cJ cB reached_3 (hset R heapNumbers_3 p1 hp o))) [0, 1, 2] (by decide) rfl
        refine lv_if_eq (tgt := 57) hx hb dX3_numberHeapOf_23 (by decide) (fun c_23 => ?_) (fun c_23 => ?_)
        · skip
          have c_23 := k_b0 c_23
          refine lv_iinc (v := nI (o + 1)) (lv' := [(5, .int (nI (o + 1))), (0, .ref (q3 0)), (1, .int (nI p1)), (2, .int (nI n)), (3, .int (nI hp)), (4, .int (nI (bitsOf (mkB R p1) o)))]) hx hb dX3_numberHeapOf_57 hl (k := 5) rfl (nI_add _ _) (by decide) rfl (fun ls hl => ?_)
          refine lv_goto (tgt := 6) hx hb dX3_numberHeapOf_60 (by decide) ?_
          rw [hset_n (fun z => c_23 z.2)] at hP hD
          rw [bits_n (P := mkB R p1) (k := o) (by rw [Bool.and_eq_true]; exact fun z => c_23 z.1)] at hl
          exact ih_6 (o + 1) (by omega) (by omega) _ _ hP hD hS ls (lv_sub hl [1, 2, 3, 4, 5, 0] rfl)
        · skip
          have c_23 := k_b1 c_23
          refine lv_aload_n hx hb dX3_numberHeapOf_26 rfl (lv_at hl 0 rfl) ?_
          refine k_get (ci := 3) (v := .ref (q3 1)) (C := RX3) (Tb := TX3) (N := 2) hx hb hts hu_3 hown hKW hP 0 rfl rfl 0 (by decide) hf_9 rfl rfl dX3_numberHeapOf_27 ?_
          refine lv_iload_n hx hb dX3_numberHeapOf_30 rfl (lv_at hl 1 rfl) ?_
          refine k_iald (n := 10) (i := p1) hx hb hKW hP 1 0 rfl rfl (by omega) (by omega) dX3_numberHeapOf_31 ?_
          refine k_top (y := nI (R p1)) ((hRB p1 hp1).1) ?_
          refine lv_iload hx hb dX3_numberHeapOf_32 (lv_at hl 5 rfl) ?_
          have hs_34 : kSplit (wX3 q3 cI cJ cB reached_3 (hset R heapNumbers_3 p1 hp o)) ([] : va_W) (wX3 q3 cI cJ cB reached_3 (hset R heapNumbers_3 p1 hp o)) [] [0, 1, 2] := ⟨rfl, rfl, rfl, rfl, rfl, by decide⟩
          refine kc_i hP hD hS hA hs_34 (kSN (n := 2) (As := [.int (nI (R p1)), .int (nI o)]) (rest := []) (host := "MeetingRanks") hx hb hml hown hts hKW hP hD hs_34 (c_X9_isIn l D cI cJ cB (R p1) o (by first | assumption | omega) (by first | assumption | omega)) gX3_numberHeapOf_X9_isIn_n42 rfl rfl rfl (by decide +kernel) (by decide +kernel) (by decide +kernel) (by decide +kernel) ⟨Nat.le_of_ble_eq_true rfl, Nat.le_of_ble_eq_true rfl⟩ rfl hl.1 rfl (Nat.le_of_ble_eq_true rfl) dX3_numberHeapOf_34 ⟨Nat.zero_le _, Nat.zero_le _⟩) (fun r_34 u_34 H locs hw_34 hP hD hS => ?_)
          have er_34 := hw_34
          have er_34 := er_34.symm
          subst er_34
          have hP : va_P D vwCl (wX3 q3 cI cJ cB reached_3 (hset R heapNumbers_3 p1 hp o)) H := hP.sub (ws' := (wX3 q3 cI cJ cB reached_3 (hset R heapNumbers_3 p1 hp o))) [0, 1, 2] rfl
          have hD : va_D A (wX3 q3 cI cJ cB reached_3 (hset R heapNumbers_3 p1 hp o)) := hD.sub (ws' := (wX3 q3 cI cJ cB reached_3 (hset R heapNumbers_3 p1 hp o))) [0, 1, 2] (by decide) rfl
          refine lv_if_eq (tgt := 57) hx hb dX3_numberHeapOf_37 (by decide) (fun c_37 => ?_) (fun c_37 => ?_)
          · skip
            have c_37 := k_b0 c_37
            refine lv_iinc (v := nI (o + 1)) (lv' := [(5, .int (nI (o + 1))), (0, .ref (q3 0)), (1, .int (nI p1)), (2, .int (nI n)), (3, .int (nI hp)), (4, .int (nI (bitsOf (mkB R p1) o)))]) hx hb dX3_numberHeapOf_57 hl (k := 5) rfl (nI_add _ _) (by decide) rfl (fun ls hl => ?_)
            refine lv_goto (tgt := 6) hx hb dX3_numberHeapOf_60 (by decide) ?_
            rw [hset_n (fun z => c_37 z.1)] at hP hD
            rw [bits_n (P := mkB R p1) (k := o) (by rw [Bool.and_eq_true]; exact fun z => c_37 z.2)] at hl
            exact ih_6 (o + 1) (by omega) (by omega) _ _ hP hD hS ls (lv_sub hl [1, 2, 3, 4, 5, 0] rfl)
          · skip
            have c_37 := k_b1 c_37
            refine lv_aload_n hx hb dX3_numberHeapOf_40 rfl (lv_at hl 0 rfl) ?_
            refine k_get (ci := 3) (v := .ref (q3 2)) (C := RX3) (Tb := TX3) (N := 2) hx hb hts hu_3 hown hKW hP 0 rfl rfl 1 (by decide) hf_15 rfl rfl dX3_numberHeapOf_41 ?_
            refine lv_iload hx hb dX3_numberHeapOf_44 (lv_at hl 5 rfl) ?_
            refine lv_iload_n hx hb dX3_numberHeapOf_46 rfl (lv_at hl 3 rfl) ?_
            refine k_iast (n := 10) (i := o) (x := nI hp) (w' := (wX3 q3 cI cJ cB reached_3 (upd (hset R heapNumbers_3 p1 hp o) o (nI hp)))) hx hb hKW hP hD hS 2 0 rfl rfl (by omega) (by omega) dX3_numberHeapOf_47 rfl (fun H locs hP hD hS => ?_)
            refine lv_iload hx hb dX3_numberHeapOf_48 (lv_at hl 4 rfl) ?_
            refine lv_iconst (v := nI 1) hx hb dX3_numberHeapOf_50 (by decide) ?_
            refine lv_iload hx hb dX3_numberHeapOf_51 (lv_at hl 5 rfl) ?_
            refine lv_ishl hx hb dX3_numberHeapOf_53 ?_
            refine k_top (y := nI (2 ^ o)) (k_shl1 (by omega)) ?_
            refine lv_ior hx hb dX3_numberHeapOf_54 ?_
            refine k_top (y := nI (bitsOf (mkB R p1) o ||| 2 ^ o)) (k_or _ _) ?_
            refine lv_istore (lv' := [(4, .int (nI (bitsOf (mkB R p1) o ||| 2 ^ o))), (0, .ref (q3 0)), (1, .int (nI p1)), (2, .int (nI n)), (3, .int (nI hp)), (5, .int (nI o))]) hx hb dX3_numberHeapOf_55 hl (by decide) rfl (fun ls hl => ?_)
            refine lv_iinc (v := nI (o + 1)) (lv' := [(5, .int (nI (o + 1))), (4, .int (nI (bitsOf (mkB R p1) o ||| 2 ^ o))), (0, .ref (q3 0)), (1, .int (nI p1)), (2, .int (nI n)), (3, .int (nI hp))]) hx hb dX3_numberHeapOf_57 hl (k := 5) rfl (nI_add _ _) (by decide) rfl (fun ls hl => ?_)
            refine lv_goto (tgt := 6) hx hb dX3_numberHeapOf_60 (by decide) ?_
            rw [hset_y c_37 c_23] at hP hD
            rw [bits_y (P := mkB R p1) (k := o) (by rw [Bool.and_eq_true]; exact ⟨c_23, c_37⟩)] at hl
            exact ih_6 (o + 1) (by omega) (by omega) _ _ hP hD hS ls (lv_sub hl [2, 3, 4, 5, 1, 0] rfl)
  exact hL_6 _ 0 (Nat.zero_le _) (Nat.lt_succ_self _) _ _ (by rw [hset_0]; exact hP) (by rw [hset_0]; exact hD) hS ls (lv_sub hl [2, 3, 4, 5, 1, 0] rfl)
def rmX3_heapOf : Room := { frames := 0, cells := 0, slots := 0, locals := 0 }
set_option maxHeartbeats 4000000 in
set_option maxRecDepth 100000 in
theorem c_X3_heapOf (l : Launch) (D : va_G) (cI cJ cB : ClassId) (q3 : Nat → Nat) (reached_3 : Nat → Int32) (heapNumbers_3 : Nat → Int32) (p1 : Nat) (hp1 : p1 < 10) : ∀ sz, Met l yX3_heapOf wsX3_heapOf rmX3_heapOf (va_Pc [.ref (q3 0), .int (nI p1)] (PW D (kT cI cJ cB) sz (wX3 q3 cI cJ cB reached_3 heapNumbers_3))) (va_Qi (S := Unit) (fun r _ => r = heapNumbers_3 p1) (QW D sz (wX3 q3 cI cJ cB reached_3 heapNumbers_3) (fun _ => (wX3 q3 cI cJ cB reached_3 heapNumbers_3))) (va_A (wX3 q3 cI cJ cB reached_3 heapNumbers_3) sz)) 0 0 (va_A (wX3 q3 cI cJ cB reached_3 heapNumbers_3) sz) := by
  intro sz
  refine Met.ofW (cc := cX3_heapOf) (maxL := 2) (ret := (some .int)) (by decide) rfl ?_
  intro p e s m args below meth c s₁ B hml hv
  obtain ⟨hav, hsz, hP, hKW, hD0⟩ := hv
  have hx := B.exec
  have hb := B.bytes
  have hr := B.returns
  have hts := atoms_spec (ws := wsX3_heapOf) B.pre
  have hown : s.vm.findClass RX3 = some m.cls := findClass_of_methodNamed B.named
  have hlocks := B.notSynchronized
  subst hsz
  have hD := hD0.self (sz := s.heap.size)
  obtain ⟨A, hAe⟩ : ∃ A : Nat → Prop, A = va_A (wX3 q3 cI cJ cB reached_3 heapNumbers_3) s.heap.size := ⟨_, rfl⟩
  rw [← hAe] at hD
  have hA : ∀ q : Nat, s.heap.size ≤ q → A q := fun q h => by rw [hAe]; exact Or.inr h
  have hS : va_S A s.heap s.heap [] := va_S.rf
  refine k_gen (fun Q hQ => ?_)
  have hl := lv_entry ([.ref (q3 0), .int (nI p1)]) (n := 2) (Nat.le_of_ble_eq_true rfl)
  refine k_entry hav (lg_entry_eq ..) ?_
  generalize (lg_sl ([.ref (q3 0), .int (nI p1)]) ++ List.replicate (2 - (lg_sl ([.ref (q3 0), .int (nI p1)])).length) Slot.unset).toArray = ls at hl ⊢
  have hl : lv_has ls 2 [(0, .ref (q3 0)), (1, .int (nI p1))] := hl
  have hu_3 : ∀ w ∈ u_ws RX3 TX3 2, w ∈ wsX3_heapOf := by decide +kernel
  have hf_15 : Cond.fieldLink RX3 15 "MeetingRanks$HeapSearch" "heapNumbers" "[I" ∈ wsX3_heapOf := by decide +kernel
  refine lv_aload_n hx hb dX3_heapOf_0 rfl (lv_at hl 0 rfl) ?_
  refine k_get (ci := 3) (v := .ref (q3 2)) (C := RX3) (Tb := TX3) (N := 2) hx hb hts hu_3 hown hKW hP 0 rfl rfl 1 (by decide) hf_15 rfl rfl dX3_heapOf_1 ?_
  refine lv_iload_n hx hb dX3_heapOf_4 rfl (lv_at hl 1 rfl) ?_
  refine k_iald (n := 10) (i := p1) hx hb hKW hP 2 0 rfl rfl (by omega) (by omega) dX3_heapOf_5 ?_
  subst hQ; subst hAe
  exact W.iret (v := heapNumbers_3 p1) hx hb hr (fun tt9 ht9 _ => ⟨⟨heapNumbers_3 p1, (), rfl, rfl, by rw [ht9]; exact hP, hD⟩, hS.F ht9⟩) hS.2.2 dX3_heapOf_6
def rmX3_split : Room := { frames := 3, cells := 0, slots := 0, locals := 69 }
set_option maxHeartbeats 4000000 in
set_option maxRecDepth 100000 in
theorem c_X3_split (l : Launch) (D : va_G) (cI cJ cB : ClassId) (q3 : Nat → Nat) (q4 : Nat → Nat) (reached_3 : Nat → Int32) (heapNumbers_3 : Nat → Int32) (parts_4 : Nat → Int32) (wins_4 : Nat → Int32) (draws_4 : Nat → Int32) (points_4 : Nat → Int32) (count_4 : Int32) (changes_4 : Int32) (ml : List Mt) (n : Nat) (hM : MR parts_4 wins_4 draws_4 points_4 ml) (hm120 : ml.length ≤ 120) (hn1 : 1 ≤ n) (hn10 : n ≤ 10) : ∀ sz, Met l yX3_split wsX3_split rmX3_split (va_Pc [.ref (q3 0), .ref (q4 0), .int (nI n)] (PW D (kT cI cJ cB) sz (wX3 q3 cI cJ cB reached_3 heapNumbers_3 ++ wX4 q4 cI cJ cB parts_4 wins_4 draws_4 points_4 count_4 changes_4))) (va_Qi (S := (Nat → Int32) × (Nat → Int32)) (fun r uu => match uu with | (reached_3', heapNumbers_3') => r = nI (spF (wB n (fun a => rA ml a n) n) n n 0 0 heapNumbers_3).1 ∧ heapNumbers_3' = (spF (wB n (fun a => rA ml a n) n) n n 0 0 heapNumbers_3).2) (QW D sz (wX3 q3 cI cJ cB reached_3 heapNumbers_3 ++ wX4 q4 cI cJ cB parts_4 wins_4 draws_4 points_4 count_4 changes_4) (fun uu => match uu with | (reached_3', heapNumbers_3') => (wX3 q3 cI cJ cB reached_3' heapNumbers_3' ++ wX4 q4 cI cJ cB parts_4 wins_4 draws_4 points_4 count_4 changes_4))) (va_A (wX3 q3 cI cJ cB reached_3 heapNumbers_3 ++ wX4 q4 cI cJ cB parts_4 wins_4 draws_4 points_4 count_4 changes_4) sz)) 0 0 (va_A (wX3 q3 cI cJ cB reached_3 heapNumbers_3 ++ wX4 q4 cI cJ cB parts_4 wins_4 draws_4 points_4 count_4 changes_4) sz) := by
  intro sz
  refine Met.ofW (cc := cX3_split) (maxL := 7) (ret := (some .int)) (by decide) rfl ?_
  intro p e s m args below meth c s₁ B hml hv
  obtain ⟨hav, hsz, hP, hKW, hD0⟩ := hv
  have hx := B.exec
  have hb := B.bytes
  have hr := B.returns
  have hts := atoms_spec (ws := wsX3_split) B.pre
  have hown : s.vm.findClass RX3 = some m.cls := findClass_of_methodNamed B.named
  have hlocks := B.notSynchronized
  subst hsz
  have hD := hD0.self (sz := s.heap.size)
  obtain ⟨A, hAe⟩ : ∃ A : Nat → Prop, A = va_A (wX3 q3 cI cJ cB reached_3 heapNumbers_3 ++ wX4 q4 cI cJ cB parts_4 wins_4 draws_4 points_4 count_4 changes_4) s.heap.size := ⟨_, rfl⟩
  rw [← hAe] at hD
  have hA : ∀ q : Nat, s.heap.size ≤ q → A q := fun q h => by rw [hAe]; exact Or.inr h
  have hS : va_S A s.heap s.heap [] := va_S.rf
  refine k_gen (fun Q hQ => ?_)
  have hl := lv_entry ([.ref (q3 0), .ref (q4 0), .int (nI n)]) (n := 7) (Nat.le_of_ble_eq_true rfl)
  refine k_entry hav (lg_entry_eq ..) ?_
  generalize (lg_sl ([.ref (q3 0), .ref (q4 0), .int (nI n)]) ++ List.replicate (7 - (lg_sl ([.ref (q3 0), .ref (q4 0), .int (nI n)])).length) Slot.unset).toArray = ls at hl ⊢
  have hl : lv_has ls 7 [(0, .ref (q3 0)), (1, .ref (q4 0)), (2, .int (nI n))] := hl
  have h2n := pow_le_1024 hn10
  have h2p := Nat.two_pow_pos n
  refine lv_aload_n hx hb dX3_split_0 rfl (lv_at hl 0 rfl) ?_
  refine lv_aload_n hx hb dX3_split_1 rfl (lv_at hl 1 rfl) ?_
  refine lv_iload_n hx hb dX3_split_2 rfl (lv_at hl 2 rfl) ?_
  have hs_3 : kSplit (wX3 q3 cI cJ cB reached_3 heapNumbers_3 ++ wX4 q4 cI cJ cB parts_4 wins_4 draws_4 points_4 count_4 changes_4) (wX3 q3 cI cJ cB reached_3 heapNumbers_3 ++ wX4 q4 cI cJ cB parts_4 wins_4 draws_4 points_4 count_4 changes_4) ([] : va_W) [0, 1, 2, 3, 4, 5, 6, 7] [] := ⟨rfl, rfl, rfl, rfl, rfl, by decide⟩
  refine kc_v hP hD hS hA hs_3 (kV (As := [.ref (q4 0), .int (nI n)]) (rest := []) hx hb hml hown hts hKW hP hD hs_3 (c_X3_fillReached l D cI cJ cB q3 q4 reached_3 heapNumbers_3 parts_4 wins_4 draws_4 points_4 count_4 changes_4 ml n (by first | assumption | omega) (by first | assumption | omega) (by first | assumption | omega)) (cwV 2 hts gX3_split_X3_fillReached rfl rfl rfl (by decide +kernel) ⟨Nat.le_of_ble_eq_true rfl, Nat.le_of_ble_eq_true rfl⟩) 0 3 rfl rfl rfl rfl hl.1 rfl (Nat.le_of_ble_eq_true rfl) dX3_split_3 ⟨Nat.zero_le _, Nat.zero_le _⟩) (fun u_3 H locs hw_3 hP hD hS => ?_)
  obtain ⟨reached_3_3, rfl⟩ : ∃ z, z = u_3 := ⟨_, rfl⟩
  have hP : va_P D vwCl (wX3 q3 cI cJ cB reached_3_3 heapNumbers_3 ++ wX4 q4 cI cJ cB parts_4 wins_4 draws_4 points_4 count_4 changes_4) H := hP.sub (ws' := (wX3 q3 cI cJ cB reached_3_3 heapNumbers_3 ++ wX4 q4 cI cJ cB parts_4 wins_4 draws_4 points_4 count_4 changes_4)) [0, 1, 2, 3, 4, 5, 6, 7] rfl
  have hD : va_D A (wX3 q3 cI cJ cB reached_3_3 heapNumbers_3 ++ wX4 q4 cI cJ cB parts_4 wins_4 draws_4 points_4 count_4 changes_4) := hD.sub (ws' := (wX3 q3 cI cJ cB reached_3_3 heapNumbers_3 ++ wX4 q4 cI cJ cB parts_4 wins_4 draws_4 points_4 count_4 changes_4)) [0, 1, 2, 3, 4, 5, 6, 7] (by decide) rfl
  refine lv_iconst (v := nI 0) hx hb dX3_split_6 (by decide) ?_
  refine lv_istore_n (lv' := [(3, .int (nI 0)), (0, .ref (q3 0)), (1, .ref (q4 0)), (2, .int (nI n))]) hx hb dX3_split_7 rfl hl (by decide) rfl (fun ls hl => ?_)
  refine lv_iconst (v := nI 0) hx hb dX3_split_8 (by decide) ?_
  refine lv_istore (lv' := [(4, .int (nI 0)), (3, .int (nI 0)), (0, .ref (q3 0)), (1, .ref (q4 0)), (2, .int (nI n))]) hx hb dX3_split_9 hl (by decide) rfl (fun ls hl => ?_)
  refine lv_iconst (v := nI 0) hx hb dX3_split_11 (by decide) ?_
  refine lv_istore (lv' := [(5, .int (nI 0)), (4, .int (nI 0)), (3, .int (nI 0)), (0, .ref (q3 0)), (1, .ref (q4 0)), (2, .int (nI n))]) hx hb dX3_split_12 hl (by decide) rfl (fun ls hl => ?_)
  have hL_14 : ∀ (fu : Nat) (k : Nat) (B2 : Nat) (m2 : Nat) (h : Nat → Int32) (hk : k ≤ n) (hB2 : B2 < 2 ^ n) (hres : spF (wB n (fun a => rA ml a n) n) n n 0 0 heapNumbers_3 = spF (wB n (fun a => rA ml a n) n) n (n - k) B2 m2 h), n - k < fu → ∀ (H : Heap) (locs : List Loc), va_P D vwCl (wX3 q3 cI cJ cB reached_3_3 h ++ wX4 q4 cI cJ cB parts_4 wins_4 draws_4 points_4 count_4 changes_4) H → va_D A (wX3 q3 cI cJ cB reached_3_3 h ++ wX4 q4 cI cJ cB parts_4 wins_4 draws_4 points_4 count_4 changes_4) → va_S A s.heap H locs → ∀ (ls : Array Slot), lv_has ls 7 [(0, .ref (q3 0)), (1, .ref (q4 0)), (2, .int (nI n)), (3, .int (nI B2)), (4, .int (nI m2)), (5, .int (nI k))] → W p l e (headSpec wsX3_split rmX3_split).room s m args below meth c H locs 0 0 Q (F0 m 14 ls []) := by
    intro fu
    induction fu with
    | zero => intro k B2 m2 h hk hB2 hres hfu; exact absurd hfu (Nat.not_lt_zero _)
    | succ fu ih_14 =>
      intro k B2 m2 h hk hB2 hres hfu H locs hP hD hS ls hl
      refine lv_iload hx hb dX3_split_14 (lv_at hl 5 rfl) ?_
      refine lv_iload_n hx hb dX3_split_16 rfl (lv_at hl 2 rfl) ?_
      refine lv_icmp_ge (tgt := 57) hx hb dX3_split_17 (by decide) (fun c_17 => ?_) (fun c_17 => ?_)
      · skip
        have c_17 := k_ge (by omega) (by omega) c_17
        refine lv_iload hx hb dX3_split_57 (lv_at hl 4 rfl) ?_
        subst hQ; subst hAe
        exact W.iret (v := nI m2) hx hb hr (fun tt9 ht9 _ => ⟨⟨nI m2, (reached_3_3, h), rfl, by rw [hres, show n - k = 0 by omega]; exact ⟨rfl, rfl⟩, by rw [ht9]; exact hP, hD⟩, hS.F ht9⟩) hS.2.2 dX3_split_59
      · skip
        have c_17 := k_ge_n (by omega) (by omega) c_17
        refine lv_iload_n hx hb dX3_split_20 rfl (lv_at hl 3 rfl) ?_
        refine lv_iload_n hx hb dX3_split_21 rfl (lv_at hl 2 rfl) ?_
        have hs_22 : kSplit (wX3 q3 cI cJ cB reached_3_3 h ++ wX4 q4 cI cJ cB parts_4 wins_4 draws_4 points_4 count_4 changes_4) ([] : va_W) (wX3 q3 cI cJ cB reached_3_3 h ++ wX4 q4 cI cJ cB parts_4 wins_4 draws_4 points_4 count_4 changes_4) [] [0, 1, 2, 3, 4, 5, 6, 7] := ⟨rfl, rfl, rfl, rfl, rfl, by decide⟩
        refine kc_i hP hD hS hA hs_22 (kSN (n := 1) (As := [.int (nI n)]) (rest := [.int (nI B2)]) (host := "MeetingRanks") hx hb hml hown hts hKW hP hD hs_22 (c_X9_everyone l D cI cJ cB n (by first | assumption | omega)) gX3_split_X9_everyone_n22 rfl rfl rfl (by decide +kernel) (by decide +kernel) (by decide +kernel) (by decide +kernel) ⟨Nat.le_of_ble_eq_true rfl, Nat.le_of_ble_eq_true rfl⟩ rfl hl.1 rfl (Nat.le_of_ble_eq_true rfl) dX3_split_22 ⟨Nat.zero_le _, Nat.zero_le _⟩) (fun r_22 u_22 H locs hw_22 hP hD hS => ?_)
        have er_22 := hw_22
        have er_22 := er_22.symm
        subst er_22
        have hP : va_P D vwCl (wX3 q3 cI cJ cB reached_3_3 h ++ wX4 q4 cI cJ cB parts_4 wins_4 draws_4 points_4 count_4 changes_4) H := hP.sub (ws' := (wX3 q3 cI cJ cB reached_3_3 h ++ wX4 q4 cI cJ cB parts_4 wins_4 draws_4 points_4 count_4 changes_4)) [0, 1, 2, 3, 4, 5, 6, 7] rfl
        have hD : va_D A (wX3 q3 cI cJ cB reached_3_3 h ++ wX4 q4 cI cJ cB parts_4 wins_4 draws_4 points_4 count_4 changes_4) := hD.sub (ws' := (wX3 q3 cI cJ cB reached_3_3 h ++ wX4 q4 cI cJ cB parts_4 wins_4 draws_4 points_4 count_4 changes_4)) [0, 1, 2, 3, 4, 5, 6, 7] (by decide) rfl
        refine lv_icmp_eq (tgt := 57) hx hb dX3_split_25 (by decide) (fun c_25 => ?_) (fun c_25 => ?_)
        · skip
          have c_25 := k_eq (by omega) (by omega) c_25
          refine lv_iload hx hb dX3_split_57 (lv_at hl 4 rfl) ?_
          subst hQ; subst hAe
          exact W.iret (v := nI m2) hx hb hr (fun tt9 ht9 _ => ⟨⟨nI m2, (reached_3_3, h), rfl, by rw [hres, spF_stop c_25]; exact ⟨rfl, rfl⟩, by rw [ht9]; exact hP, hD⟩, hS.F ht9⟩) hS.2.2 dX3_split_59
        · skip
          have c_25 := k_eq_n (by omega) (by omega) c_25
          refine lv_aload_n hx hb dX3_split_28 rfl (lv_at hl 0 rfl) ?_
          refine lv_iload_n hx hb dX3_split_29 rfl (lv_at hl 2 rfl) ?_
          refine lv_iload_n hx hb dX3_split_30 rfl (lv_at hl 3 rfl) ?_
          have hs_31 : kSplit (wX3 q3 cI cJ cB reached_3_3 h ++ wX4 q4 cI cJ cB parts_4 wins_4 draws_4 points_4 count_4 changes_4) (wX3 q3 cI cJ cB reached_3_3 h) (wX4 q4 cI cJ cB parts_4 wins_4 draws_4 points_4 count_4 changes_4) [0, 1, 2] [3, 4, 5, 6, 7] := ⟨rfl, rfl, rfl, rfl, rfl, by decide⟩
          refine kc_i hP hD hS hA hs_31 (kV (As := [.int (nI n), .int (nI B2)]) (rest := []) hx hb hml hown hts hKW hP hD hs_31 (c_X3_leastUnled l D cI cJ cB q3 reached_3_3 h (wB n (fun a => rA ml a n) n) n B2 hw_3 (by first | assumption | omega) (by first | assumption | omega)) (cwV 2 hts gX3_split_X3_leastUnled rfl rfl rfl (by decide +kernel) ⟨Nat.le_of_ble_eq_true rfl, Nat.le_of_ble_eq_true rfl⟩) 0 3 rfl rfl rfl rfl hl.1 rfl (Nat.le_of_ble_eq_true rfl) dX3_split_31 ⟨Nat.zero_le _, Nat.zero_le _⟩) (fun r_31 u_31 H locs hw_31 hP hD hS => ?_)
          have er_31 := hw_31
          have er_31 := er_31.symm
          subst er_31
          have hP : va_P D vwCl (wX3 q3 cI cJ cB reached_3_3 h ++ wX4 q4 cI cJ cB parts_4 wins_4 draws_4 points_4 count_4 changes_4) H := hP.sub (ws' := (wX3 q3 cI cJ cB reached_3_3 h ++ wX4 q4 cI cJ cB parts_4 wins_4 draws_4 points_4 count_4 changes_4)) [5, 6, 7, 0, 1, 2, 3, 4] rfl
          have hD : va_D A (wX3 q3 cI cJ cB reached_3_3 h ++ wX4 q4 cI cJ cB parts_4 wins_4 draws_4 points_4 count_4 changes_4) := hD.sub (ws' := (wX3 q3 cI cJ cB reached_3_3 h ++ wX4 q4 cI cJ cB parts_4 wins_4 draws_4 points_4 count_4 changes_4)) [5, 6, 7, 0, 1, 2, 3, 4] (by decide) rfl
          have hlu9 := luF_lt (R := (wB n (fun a => rA ml a n) n)) (n := n) (B := B2) (by omega)
          refine lv_istore (lv' := [(6, .int (nI (luF (wB n (fun a => rA ml a n) n) n B2))), (0, .ref (q3 0)), (1, .ref (q4 0)), (2, .int (nI n)), (3, .int (nI B2)), (4, .int (nI m2)), (5, .int (nI k))]) hx hb dX3_split_34 hl (by decide) rfl (fun ls hl => ?_)
          refine lv_iload_n hx hb dX3_split_36 rfl (lv_at hl 4 rfl) ?_
          refine lv_aload_n hx hb dX3_split_37 rfl (lv_at hl 1 rfl) ?_
          refine lv_iload hx hb dX3_split_38 (lv_at hl 0 rfl) ?_
          refine lv_iload_n hx hb dX3_split_40 rfl (lv_at hl 3 rfl) ?_
          refine lv_iload hx hb dX3_split_41 (lv_at hl 5 rfl) ?_
          have hs_43 : kSplit (wX3 q3 cI cJ cB reached_3_3 h ++ wX4 q4 cI cJ cB parts_4 wins_4 draws_4 points_4 count_4 changes_4) (wX3 q3 cI cJ cB reached_3_3 h) (wX4 q4 cI cJ cB parts_4 wins_4 draws_4 points_4 count_4 changes_4) [0, 1, 2] [3, 4, 5, 6, 7] := ⟨rfl, rfl, rfl, rfl, rfl, by decide⟩
          refine kc_i hP hD hS hA hs_43 (kV (As := [.int (nI (luF (wB n (fun a => rA ml a n) n) n B2)), .int (nI n), .int (nI m2)]) (rest := [.int (nI B2)]) hx hb hml hown hts hKW hP hD hs_43 (c_X3_numberHeapOf l D cI cJ cB q3 reached_3_3 h (wB n (fun a => rA ml a n) n) (luF (wB n (fun a => rA ml a n) n) n B2) n m2 hw_3 (by first | assumption | omega) (by first | assumption | omega)) (cwV 3 hts gX3_split_X3_numberHeapOf rfl rfl rfl (by decide +kernel) ⟨Nat.le_of_ble_eq_true rfl, Nat.le_of_ble_eq_true rfl⟩) 0 3 rfl rfl rfl rfl hl.1 rfl (Nat.le_of_ble_eq_true rfl) dX3_split_43 ⟨Nat.zero_le _, Nat.zero_le _⟩) (fun r_43 u_43 H locs hw_43 hP hD hS => ?_)
          have er_43 := hw_43
          have er_43 := er_43.symm
          subst er_43
          have hP : va_P D vwCl (wX3 q3 cI cJ cB reached_3_3 (hset (wB n (fun a => rA ml a n) n) h (luF (wB n (fun a => rA ml a n) n) n B2) m2 n) ++ wX4 q4 cI cJ cB parts_4 wins_4 draws_4 points_4 count_4 changes_4) H := hP.sub (ws' := (wX3 q3 cI cJ cB reached_3_3 (hset (wB n (fun a => rA ml a n) n) h (luF (wB n (fun a => rA ml a n) n) n B2) m2 n) ++ wX4 q4 cI cJ cB parts_4 wins_4 draws_4 points_4 count_4 changes_4)) [5, 6, 7, 0, 1, 2, 3, 4] rfl
          have hD : va_D A (wX3 q3 cI cJ cB reached_3_3 (hset (wB n (fun a => rA ml a n) n) h (luF (wB n (fun a => rA ml a n) n) n B2) m2 n) ++ wX4 q4 cI cJ cB parts_4 wins_4 draws_4 points_4 count_4 changes_4) := hD.sub (ws' := (wX3 q3 cI cJ cB reached_3_3 (hset (wB n (fun a => rA ml a n) n) h (luF (wB n (fun a => rA ml a n) n) n B2) m2 n) ++ wX4 q4 cI cJ cB parts_4 wins_4 draws_4 points_4 count_4 changes_4)) [5, 6, 7, 0, 1, 2, 3, 4] (by decide) rfl
          refine lv_ior hx hb dX3_split_46 ?_
          refine k_top (y := nI (B2 ||| bitsOf (mkB (wB n (fun a => rA ml a n) n) (luF (wB n (fun a => rA ml a n) n) n B2)) n)) (k_or _ _) ?_
          refine lv_istore_n (lv' := [(3, .int (nI (B2 ||| bitsOf (mkB (wB n (fun a => rA ml a n) n) (luF (wB n (fun a => rA ml a n) n) n B2)) n))), (6, .int (nI (luF (wB n (fun a => rA ml a n) n) n B2))), (0, .ref (q3 0)), (1, .ref (q4 0)), (2, .int (nI n)), (4, .int (nI m2)), (5, .int (nI k))]) hx hb dX3_split_47 rfl hl (by decide) rfl (fun ls hl => ?_)
          refine lv_iinc (v := nI (m2 + 1)) (lv' := [(4, .int (nI (m2 + 1))), (3, .int (nI (B2 ||| bitsOf (mkB (wB n (fun a => rA ml a n) n) (luF (wB n (fun a => rA ml a n) n) n B2)) n))), (6, .int (nI (luF (wB n (fun a => rA ml a n) n) n B2))), (0, .ref (q3 0)), (1, .ref (q4 0)), (2, .int (nI n)), (5, .int (nI k))]) hx hb dX3_split_48 hl (k := 5) rfl (nI_add _ _) (by decide) rfl (fun ls hl => ?_)
          refine lv_iinc (v := nI (k + 1)) (lv' := [(5, .int (nI (k + 1))), (4, .int (nI (m2 + 1))), (3, .int (nI (B2 ||| bitsOf (mkB (wB n (fun a => rA ml a n) n) (luF (wB n (fun a => rA ml a n) n) n B2)) n))), (6, .int (nI (luF (wB n (fun a => rA ml a n) n) n B2))), (0, .ref (q3 0)), (1, .ref (q4 0)), (2, .int (nI n))]) hx hb dX3_split_51 hl (k := 6) rfl (nI_add _ _) (by decide) rfl (fun ls hl => ?_)
          refine lv_goto (tgt := 14) hx hb dX3_split_54 (by decide) ?_
          exact ih_14 _ _ _ _ (by omega) (or_2n hB2 (bitsOf_lt _ n)) (by rw [hres, show n - k = (n - (k + 1)) + 1 by omega]; exact spF_go c_25) (by omega) _ _ hP hD hS ls (lv_sub hl [4, 5, 6, 2, 1, 0] rfl)
  exact hL_14 _ 0 0 0 _ (Nat.zero_le _) (by omega) rfl (Nat.lt_succ_self _) _ _ hP hD hS ls (lv_sub hl [3, 4, 5, 2, 1, 0] rfl)
