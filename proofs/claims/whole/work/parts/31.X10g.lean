def rmX10_about : Room := { frames := 2, cells := 0, slots := 0, locals := 45 }
set_option maxHeartbeats 4000000 in
set_option maxRecDepth 100000 in
theorem c_X10_about (l : Launch) (D : va_G) (cI cJ cB : ClassId) (q10 : Nat → Nat) (st_10 : Nat → Int32) (kept_10 : Nat → Int32) (newest_10 : Int32) (tape_10 : Nat → Int32) (marks_10 : Nat → Int32) (order_10 : Nat → Int32) (reach_10 : Nat → Int32) (heapOf_10 : Nat → Int32) (rows_10 : Nat → Int64) (x_10 : Nat → Int64) (overs_10 : Nat → Int32) (costs_10 : Nat → Int32) (ways_10 : Nat → Int32) (digits_10 : Nat → Int32) (beaten_10 : Nat → Int32) (walks_10 : Nat → Int32) (n : Nat) (ml : List Mt) (nx : List (Nat × Nat)) (ks : List Nat) (rr : Int32 × Int32 × Int32) (u : Nat) (z : Nat) (x : Int32) (hR : RS st_10 n ml nx ks rr) (hV : VS n ml nx ks) : ∀ sz, Met l yX10_about wsX10_about rmX10_about (va_Pc [.ref (q10 0), .int x] (PW D (kT cI cJ cB) sz (wX10 q10 cI cJ cB st_10 kept_10 (nI u) newest_10 tape_10 (nI z) marks_10 order_10 reach_10 heapOf_10 rows_10 x_10 overs_10 costs_10 ways_10 digits_10 beaten_10 walks_10))) (va_Qi (S := Unit) (fun r _ => r = aboF x (nI n) (nI ml.length) (nI nx.length) (nI ks.length) (nI u) (nI z) (if jnR ml n = 2 ^ n - 1 then 1 else 0)) (QW D sz (wX10 q10 cI cJ cB st_10 kept_10 (nI u) newest_10 tape_10 (nI z) marks_10 order_10 reach_10 heapOf_10 rows_10 x_10 overs_10 costs_10 ways_10 digits_10 beaten_10 walks_10) (fun _ => (wX10 q10 cI cJ cB st_10 kept_10 (nI u) newest_10 tape_10 (nI z) marks_10 order_10 reach_10 heapOf_10 rows_10 x_10 overs_10 costs_10 ways_10 digits_10 beaten_10 walks_10))) (va_A (wX10 q10 cI cJ cB st_10 kept_10 (nI u) newest_10 tape_10 (nI z) marks_10 order_10 reach_10 heapOf_10 rows_10 x_10 overs_10 costs_10 ways_10 digits_10 beaten_10 walks_10) sz)) 0 0 (va_A (wX10 q10 cI cJ cB st_10 kept_10 (nI u) newest_10 tape_10 (nI z) marks_10 order_10 reach_10 heapOf_10 rows_10 x_10 overs_10 costs_10 ways_10 digits_10 beaten_10 walks_10) sz) := by
  intro sz
  refine Met.ofW (cc := cX10_about) (maxL := 2) (ret := (some .int)) (by decide) rfl ?_
  intro p e s m args below meth c s₁ B hml hv
  obtain ⟨hav, hsz, hP, hKW, hD0⟩ := hv
  have hx := B.exec
  have hb := B.bytes
  have hr := B.returns
  have hts := atoms_spec (ws := wsX10_about) B.pre
  have hown : s.vm.findClass RX10 = some m.cls := findClass_of_methodNamed B.named
  have hlocks := B.notSynchronized
  subst hsz
  have hD := hD0.self (sz := s.heap.size)
  obtain ⟨A, hAe⟩ : ∃ A : Nat → Prop, A = va_A (wX10 q10 cI cJ cB st_10 kept_10 (nI u) newest_10 tape_10 (nI z) marks_10 order_10 reach_10 heapOf_10 rows_10 x_10 overs_10 costs_10 ways_10 digits_10 beaten_10 walks_10) s.heap.size := ⟨_, rfl⟩
  rw [← hAe] at hD
  have hA : ∀ q : Nat, s.heap.size ≤ q → A q := fun q h => by rw [hAe]; exact Or.inr h
  have hS : va_S A s.heap s.heap [] := va_S.rf
  refine k_gen (fun Q hQ => ?_)
  have hl := lv_entry ([.ref (q10 0), .int x]) (n := 2) (Nat.le_of_ble_eq_true rfl)
  refine k_entry hav (lg_entry_eq ..) ?_
  generalize (lg_sl ([.ref (q10 0), .int x]) ++ List.replicate (2 - (lg_sl ([.ref (q10 0), .int x])).length) Slot.unset).toArray = ls at hl ⊢
  have hl : lv_has ls 2 [(0, .ref (q10 0)), (1, .int x)] := hl
  have hu_10 : ∀ w ∈ u_ws RX10 TX10 18, w ∈ wsX10_about := by decide +kernel
  have hf_7 : Cond.fieldLink RX10 7 "MeetingRanksModel" "st" "[I" ∈ wsX10_about := by decide +kernel
  have hf_64 : Cond.fieldLink RX10 64 "MeetingRanksModel" "undoable" "I" ∈ wsX10_about := by decide +kernel
  have hf_82 : Cond.fieldLink RX10 82 "MeetingRanksModel" "taped" "I" ∈ wsX10_about := by decide +kernel
  have hn1 := hV.1
  have hn10 := hV.2.1
  have hm120 := hV.2.2.1
  have hx40 := hV.2.2.2.2.1
  have hk4 := hV.2.2.2.2.2.2.1
  refine lv_iload_n hx hb dX10_about_0 rfl (lv_at hl 1 rfl) ?_
  rcases abo_split x with rfl | rfl | rfl | rfl | rfl | rfl | rfl | h9
  · skip
    refine lv_tableIn (off := 43) (tgt := 44) hx hb dX10_about_1 (by decide) (by decide) (by decide) (by decide) ?_
    refine lv_aload_n hx hb dX10_about_44 rfl (lv_at hl 0 rfl) ?_
    have hs_45 : kSplit (wX10 q10 cI cJ cB st_10 kept_10 (nI u) newest_10 tape_10 (nI z) marks_10 order_10 reach_10 heapOf_10 rows_10 x_10 overs_10 costs_10 ways_10 digits_10 beaten_10 walks_10) (wX10 q10 cI cJ cB st_10 kept_10 (nI u) newest_10 tape_10 (nI z) marks_10 order_10 reach_10 heapOf_10 rows_10 x_10 overs_10 costs_10 ways_10 digits_10 beaten_10 walks_10) ([] : va_W) [0, 1, 2, 3, 4, 5, 6, 7, 8, 9, 10, 11, 12, 13, 14, 15] [] := ⟨rfl, rfl, rfl, rfl, rfl, by decide⟩
    refine kc_i hP hD hS hA hs_45 (kV (As := []) (rest := []) hx hb hml hown hts hKW hP hD hs_45 (c_X10_n l D cI cJ cB q10 st_10 kept_10 (nI u) newest_10 tape_10 (nI z) marks_10 order_10 reach_10 heapOf_10 rows_10 x_10 overs_10 costs_10 ways_10 digits_10 beaten_10 walks_10 n ml nx ks rr (by first | assumption | omega) (by first | assumption | omega)) (cwV 0 hts gX10_about_X10_n rfl rfl rfl (by decide +kernel) ⟨Nat.le_of_ble_eq_true rfl, Nat.le_of_ble_eq_true rfl⟩) 0 10 rfl rfl rfl rfl hl.1 rfl (Nat.le_of_ble_eq_true rfl) dX10_about_45 ⟨Nat.zero_le _, Nat.zero_le _⟩) (fun r_45 u_45 H locs hw_45 hP hD hS => ?_)
    have er_45 := hw_45
    have er_45 := er_45.symm
    subst er_45
    have hP : va_P D vwCl (wX10 q10 cI cJ cB st_10 kept_10 (nI u) newest_10 tape_10 (nI z) marks_10 order_10 reach_10 heapOf_10 rows_10 x_10 overs_10 costs_10 ways_10 digits_10 beaten_10 walks_10) H := hP.sub (ws' := (wX10 q10 cI cJ cB st_10 kept_10 (nI u) newest_10 tape_10 (nI z) marks_10 order_10 reach_10 heapOf_10 rows_10 x_10 overs_10 costs_10 ways_10 digits_10 beaten_10 walks_10)) [0, 1, 2, 3, 4, 5, 6, 7, 8, 9, 10, 11, 12, 13, 14, 15] rfl
    have hD : va_D A (wX10 q10 cI cJ cB st_10 kept_10 (nI u) newest_10 tape_10 (nI z) marks_10 order_10 reach_10 heapOf_10 rows_10 x_10 overs_10 costs_10 ways_10 digits_10 beaten_10 walks_10) := hD.sub (ws' := (wX10 q10 cI cJ cB st_10 kept_10 (nI u) newest_10 tape_10 (nI z) marks_10 order_10 reach_10 heapOf_10 rows_10 x_10 overs_10 costs_10 ways_10 digits_10 beaten_10 walks_10)) [0, 1, 2, 3, 4, 5, 6, 7, 8, 9, 10, 11, 12, 13, 14, 15] (by decide) rfl
    subst hQ; subst hAe
    exact W.iret (v := nI n) hx hb hr (fun t ht _ => ⟨⟨nI n, (), rfl, rfl, by rw [ht]; exact hP, hD⟩, hS.F ht⟩) hS.2.2 dX10_about_48
  · skip
    refine lv_tableIn (off := 48) (tgt := 49) hx hb dX10_about_1 (by decide) (by decide) (by decide) (by decide) ?_
    refine lv_aload_n hx hb dX10_about_49 rfl (lv_at hl 0 rfl) ?_
    refine k_get (ci := 10) (v := .ref (q10 1)) (C := RX10) (Tb := TX10) (N := 18) hx hb hts hu_10 hown hKW hP 0 rfl rfl 0 (by decide) hf_7 rfl rfl dX10_about_50 ?_
    refine lv_iconst (v := nI 1) hx hb dX10_about_53 (by decide) ?_
    refine k_iald (n := 600) (i := 1) hx hb hKW hP 1 0 rfl rfl (by omega) (by omega) dX10_about_54 ?_
    refine k_top (y := nI ml.length) (hR.2.1) ?_
    subst hQ; subst hAe
    exact W.iret (v := nI ml.length) hx hb hr (fun t ht _ => ⟨⟨nI ml.length, (), rfl, rfl, by rw [ht]; exact hP, hD⟩, hS.F ht⟩) hS.2.2 dX10_about_55
  · skip
    refine lv_tableIn (off := 55) (tgt := 56) hx hb dX10_about_1 (by decide) (by decide) (by decide) (by decide) ?_
    refine lv_aload_n hx hb dX10_about_56 rfl (lv_at hl 0 rfl) ?_
    refine k_get (ci := 10) (v := .ref (q10 1)) (C := RX10) (Tb := TX10) (N := 18) hx hb hts hu_10 hown hKW hP 0 rfl rfl 0 (by decide) hf_7 rfl rfl dX10_about_57 ?_
    refine lv_iconst (v := nI 2) hx hb dX10_about_60 (by decide) ?_
    refine k_iald (n := 600) (i := 2) hx hb hKW hP 1 0 rfl rfl (by omega) (by omega) dX10_about_61 ?_
    refine k_top (y := nI nx.length) (hR.2.2.1) ?_
    subst hQ; subst hAe
    exact W.iret (v := nI nx.length) hx hb hr (fun t ht _ => ⟨⟨nI nx.length, (), rfl, rfl, by rw [ht]; exact hP, hD⟩, hS.F ht⟩) hS.2.2 dX10_about_62
  · skip
    refine lv_tableIn (off := 62) (tgt := 63) hx hb dX10_about_1 (by decide) (by decide) (by decide) (by decide) ?_
    refine lv_aload_n hx hb dX10_about_63 rfl (lv_at hl 0 rfl) ?_
    refine k_get (ci := 10) (v := .ref (q10 1)) (C := RX10) (Tb := TX10) (N := 18) hx hb hts hu_10 hown hKW hP 0 rfl rfl 0 (by decide) hf_7 rfl rfl dX10_about_64 ?_
    refine lv_iconst (v := nI 3) hx hb dX10_about_67 (by decide) ?_
    refine k_iald (n := 600) (i := 3) hx hb hKW hP 1 0 rfl rfl (by omega) (by omega) dX10_about_68 ?_
    refine k_top (y := nI ks.length) (hR.2.2.2.1) ?_
    subst hQ; subst hAe
    exact W.iret (v := nI ks.length) hx hb hr (fun t ht _ => ⟨⟨nI ks.length, (), rfl, rfl, by rw [ht]; exact hP, hD⟩, hS.F ht⟩) hS.2.2 dX10_about_69
  · skip
    refine lv_tableIn (off := 69) (tgt := 70) hx hb dX10_about_1 (by decide) (by decide) (by decide) (by decide) ?_
    refine lv_aload_n hx hb dX10_about_70 rfl (lv_at hl 0 rfl) ?_
    refine k_get (ci := 10) (v := .int (nI u)) (C := RX10) (Tb := TX10) (N := 18) hx hb hts hu_10 hown hKW hP 0 rfl rfl 2 (by decide) hf_64 rfl rfl dX10_about_71 ?_
    subst hQ; subst hAe
    exact W.iret (v := nI u) hx hb hr (fun t ht _ => ⟨⟨nI u, (), rfl, rfl, by rw [ht]; exact hP, hD⟩, hS.F ht⟩) hS.2.2 dX10_about_74
  · skip
    refine lv_tableIn (off := 74) (tgt := 75) hx hb dX10_about_1 (by decide) (by decide) (by decide) (by decide) ?_
    refine lv_aload_n hx hb dX10_about_75 rfl (lv_at hl 0 rfl) ?_
    refine k_get (ci := 10) (v := .int (nI z)) (C := RX10) (Tb := TX10) (N := 18) hx hb hts hu_10 hown hKW hP 0 rfl rfl 5 (by decide) hf_82 rfl rfl dX10_about_76 ?_
    subst hQ; subst hAe
    exact W.iret (v := nI z) hx hb hr (fun t ht _ => ⟨⟨nI z, (), rfl, rfl, by rw [ht]; exact hP, hD⟩, hS.F ht⟩) hS.2.2 dX10_about_79
  · skip
    refine lv_tableIn (off := 79) (tgt := 80) hx hb dX10_about_1 (by decide) (by decide) (by decide) (by decide) ?_
    refine lv_aload_n hx hb dX10_about_80 rfl (lv_at hl 0 rfl) ?_
    have hs_81 : kSplit (wX10 q10 cI cJ cB st_10 kept_10 (nI u) newest_10 tape_10 (nI z) marks_10 order_10 reach_10 heapOf_10 rows_10 x_10 overs_10 costs_10 ways_10 digits_10 beaten_10 walks_10) (wX10 q10 cI cJ cB st_10 kept_10 (nI u) newest_10 tape_10 (nI z) marks_10 order_10 reach_10 heapOf_10 rows_10 x_10 overs_10 costs_10 ways_10 digits_10 beaten_10 walks_10) ([] : va_W) [0, 1, 2, 3, 4, 5, 6, 7, 8, 9, 10, 11, 12, 13, 14, 15] [] := ⟨rfl, rfl, rfl, rfl, rfl, by decide⟩
    refine kc_i hP hD hS hA hs_81 (kV (As := []) (rest := []) hx hb hml hown hts hKW hP hD hs_81 (c_X10_areJoined l D cI cJ cB q10 st_10 kept_10 (nI u) newest_10 tape_10 (nI z) marks_10 order_10 reach_10 heapOf_10 rows_10 x_10 overs_10 costs_10 ways_10 digits_10 beaten_10 walks_10 n ml nx ks rr (by first | assumption | omega) (by first | assumption | omega)) (cwV 0 hts gX10_about_X10_areJoined rfl rfl rfl (by decide +kernel) ⟨Nat.le_of_ble_eq_true rfl, Nat.le_of_ble_eq_true rfl⟩) 0 10 rfl rfl rfl rfl hl.1 rfl (Nat.le_of_ble_eq_true rfl) dX10_about_81 ⟨Nat.zero_le _, Nat.zero_le _⟩) (fun r_81 u_81 H locs hw_81 hP hD hS => ?_)
    have er_81 := hw_81
    have er_81 := er_81.symm
    subst er_81
    have hP : va_P D vwCl (wX10 q10 cI cJ cB st_10 kept_10 (nI u) newest_10 tape_10 (nI z) marks_10 order_10 reach_10 heapOf_10 rows_10 x_10 overs_10 costs_10 ways_10 digits_10 beaten_10 walks_10) H := hP.sub (ws' := (wX10 q10 cI cJ cB st_10 kept_10 (nI u) newest_10 tape_10 (nI z) marks_10 order_10 reach_10 heapOf_10 rows_10 x_10 overs_10 costs_10 ways_10 digits_10 beaten_10 walks_10)) [0, 1, 2, 3, 4, 5, 6, 7, 8, 9, 10, 11, 12, 13, 14, 15] rfl
    have hD : va_D A (wX10 q10 cI cJ cB st_10 kept_10 (nI u) newest_10 tape_10 (nI z) marks_10 order_10 reach_10 heapOf_10 rows_10 x_10 overs_10 costs_10 ways_10 digits_10 beaten_10 walks_10) := hD.sub (ws' := (wX10 q10 cI cJ cB st_10 kept_10 (nI u) newest_10 tape_10 (nI z) marks_10 order_10 reach_10 heapOf_10 rows_10 x_10 overs_10 costs_10 ways_10 digits_10 beaten_10 walks_10)) [0, 1, 2, 3, 4, 5, 6, 7, 8, 9, 10, 11, 12, 13, 14, 15] (by decide) rfl
    refine lv_if_eq (tgt := 91) hx hb dX10_about_84 (by decide) (fun c_84 => ?_) (fun c_84 => ?_)
    · skip
      have c_84 := k_b0 c_84
      refine lv_iconst (v := nI 0) hx hb dX10_about_91 (by decide) ?_
      subst hQ; subst hAe
      exact W.iret (v := nI 0) hx hb hr (fun t ht _ => ⟨⟨nI 0, (), rfl, by show _ = (if jnR ml n = 2 ^ n - 1 then 1 else 0); exact (if_neg c_84).symm, by rw [ht]; exact hP, hD⟩, hS.F ht⟩) hS.2.2 dX10_about_92
    · skip
      have c_84 := k_b1 c_84
      refine lv_iconst (v := nI 1) hx hb dX10_about_87 (by decide) ?_
      refine lv_goto (tgt := 92) hx hb dX10_about_88 (by decide) ?_
      subst hQ; subst hAe
      exact W.iret (v := nI 1) hx hb hr (fun t ht _ => ⟨⟨nI 1, (), rfl, by show _ = (if jnR ml n = 2 ^ n - 1 then 1 else 0); exact (if_pos c_84).symm, by rw [ht]; exact hP, hD⟩, hS.F ht⟩) hS.2.2 dX10_about_92
  · skip
    refine lv_tableOut (tgt := 93) hx hb dX10_about_1 (h9) (by decide) ?_
    refine lv_iconst (v := (-1)) hx hb dX10_about_93 (by decide) ?_
    subst hQ; subst hAe
    exact W.iret (v := (-1)) hx hb hr (fun t ht _ => ⟨⟨(-1), (), rfl, (abo_out h9).symm, by rw [ht]; exact hP, hD⟩, hS.F ht⟩) hS.2.2 dX10_about_94
def rmX10_undo : Room := { frames := 0, cells := 0, slots := 0, locals := 0 }
set_option maxHeartbeats 4000000 in
set_option maxRecDepth 100000 in
theorem c_X10_undo (l : Launch) (D : va_G) (cI cJ cB : ClassId) (q10 : Nat → Nat) (st_10 : Nat → Int32) (kept_10 : Nat → Int32) (tape_10 : Nat → Int32) (taped_10 : Int32) (marks_10 : Nat → Int32) (order_10 : Nat → Int32) (reach_10 : Nat → Int32) (heapOf_10 : Nat → Int32) (rows_10 : Nat → Int64) (x_10 : Nat → Int64) (overs_10 : Nat → Int32) (costs_10 : Nat → Int32) (ways_10 : Nat → Int32) (digits_10 : Nat → Int32) (beaten_10 : Nat → Int32) (walks_10 : Nat → Int32) (n : Nat) (ml : List Mt) (nx : List (Nat × Nat)) (ks : List Nat) (rr : Int32 × Int32 × Int32) (hist : List Tt) (w : Nat) (x : Int32) (hR : RS st_10 n ml nx ks rr) (hV : VS n ml nx ks) (hw40 : w < 40) (hh40 : hist.length ≤ 40) (hKP : KP kept_10 w hist) (hHV : ∀ x ∈ hist, VST x) : ∀ sz, Met l yX10_undo wsX10_undo rmX10_undo (va_Pc [.ref (q10 0), .int x] (PW D (kT cI cJ cB) sz (wX10 q10 cI cJ cB st_10 kept_10 (nI hist.length) (nI w) tape_10 taped_10 marks_10 order_10 reach_10 heapOf_10 rows_10 x_10 overs_10 costs_10 ways_10 digits_10 beaten_10 walks_10))) (va_Qi (S := (Nat → Int32) × Int32 × Int32) (fun r uu => match uu with | (st_10', undoable_10', newest_10') => (kIn x (hist.length + 1) → r = x ∧ RST st_10' (tAt (n, ml, nx, ks, rr) hist x.toInt.toNat) ∧ newest_10' = nI ((w + 40 - x.toInt.toNat) % 40) ∧ undoable_10' = nI (hist.length - x.toInt.toNat)) ∧ (¬ kIn x (hist.length + 1) → r = -1 ∧ st_10' = st_10 ∧ newest_10' = nI w ∧ undoable_10' = nI hist.length)) (QW D sz (wX10 q10 cI cJ cB st_10 kept_10 (nI hist.length) (nI w) tape_10 taped_10 marks_10 order_10 reach_10 heapOf_10 rows_10 x_10 overs_10 costs_10 ways_10 digits_10 beaten_10 walks_10) (fun uu => match uu with | (st_10', undoable_10', newest_10') => (wX10 q10 cI cJ cB st_10' kept_10 undoable_10' newest_10' tape_10 taped_10 marks_10 order_10 reach_10 heapOf_10 rows_10 x_10 overs_10 costs_10 ways_10 digits_10 beaten_10 walks_10))) (va_A (wX10 q10 cI cJ cB st_10 kept_10 (nI hist.length) (nI w) tape_10 taped_10 marks_10 order_10 reach_10 heapOf_10 rows_10 x_10 overs_10 costs_10 ways_10 digits_10 beaten_10 walks_10) sz)) 0 0 (va_A (wX10 q10 cI cJ cB st_10 kept_10 (nI hist.length) (nI w) tape_10 taped_10 marks_10 order_10 reach_10 heapOf_10 rows_10 x_10 overs_10 costs_10 ways_10 digits_10 beaten_10 walks_10) sz) := by
  intro sz
  refine Met.ofW (cc := cX10_undo) (maxL := 4) (ret := (some .int)) (by decide) rfl ?_
  intro p e s m args below meth c s₁ B hml hv
  obtain ⟨hav, hsz, hP, hKW, hD0⟩ := hv
  have hx := B.exec
  have hb := B.bytes
  have hr := B.returns
  have hts := atoms_spec (ws := wsX10_undo) B.pre
  have hown : s.vm.findClass RX10 = some m.cls := findClass_of_methodNamed B.named
  have hlocks := B.notSynchronized
  subst hsz
  have hD := hD0.self (sz := s.heap.size)
  obtain ⟨A, hAe⟩ : ∃ A : Nat → Prop, A = va_A (wX10 q10 cI cJ cB st_10 kept_10 (nI hist.length) (nI w) tape_10 taped_10 marks_10 order_10 reach_10 heapOf_10 rows_10 x_10 overs_10 costs_10 ways_10 digits_10 beaten_10 walks_10) s.heap.size := ⟨_, rfl⟩
  rw [← hAe] at hD
  have hA : ∀ q : Nat, s.heap.size ≤ q → A q := fun q h => by rw [hAe]; exact Or.inr h
  have hS : va_S A s.heap s.heap [] := va_S.rf
  refine k_gen (fun Q hQ => ?_)
  have hl := lv_entry ([.ref (q10 0), .int x]) (n := 4) (Nat.le_of_ble_eq_true rfl)
  refine k_entry hav (lg_entry_eq ..) ?_
  generalize (lg_sl ([.ref (q10 0), .int x]) ++ List.replicate (4 - (lg_sl ([.ref (q10 0), .int x])).length) Slot.unset).toArray = ls at hl ⊢
  have hl : lv_has ls 4 [(0, .ref (q10 0)), (1, .int x)] := hl
  have hu_10 : ∀ w ∈ u_ws RX10 TX10 18, w ∈ wsX10_undo := by decide +kernel
  have hf_7 : Cond.fieldLink RX10 7 "MeetingRanksModel" "st" "[I" ∈ wsX10_undo := by decide +kernel
  have hf_13 : Cond.fieldLink RX10 13 "MeetingRanksModel" "kept" "[I" ∈ wsX10_undo := by decide +kernel
  have hf_60 : Cond.fieldLink RX10 60 "MeetingRanksModel" "newest" "I" ∈ wsX10_undo := by decide +kernel
  have hf_64 : Cond.fieldLink RX10 64 "MeetingRanksModel" "undoable" "I" ∈ wsX10_undo := by decide +kernel
  have hn1 := hV.1
  have hn10 := hV.2.1
  have hm120 := hV.2.2.1
  have hx40 := hV.2.2.2.2.1
  have hk4 := hV.2.2.2.2.2.2.1
  refine lv_iload_n hx hb dX10_undo_0 rfl (lv_at hl 1 rfl) ?_
  refine lv_if_lt (tgt := 12) hx hb dX10_undo_1 (by decide) (fun c_1 => ?_) (fun c_1 => ?_)
  · skip
    refine lv_iconst (v := (-1)) hx hb dX10_undo_12 (by decide) ?_
    subst hQ; subst hAe
    exact W.iret (v := (-1)) hx hb hr (fun t ht _ => ⟨⟨(-1), (st_10, nI hist.length, nI w), rfl, ⟨fun h => absurd h (by first | exact kIn_lo c_1 | exact kIn_nle (by omega) c_9), fun _ => ⟨rfl, rfl, rfl, rfl⟩⟩, by rw [ht]; exact hP, hD⟩, hS.F ht⟩) hS.2.2 dX10_undo_13
  · skip
    refine lv_iload_n hx hb dX10_undo_4 rfl (lv_at hl 1 rfl) ?_
    refine lv_aload_n hx hb dX10_undo_5 rfl (lv_at hl 0 rfl) ?_
    refine k_get (ci := 10) (v := .int (nI hist.length)) (C := RX10) (Tb := TX10) (N := 18) hx hb hts hu_10 hown hKW hP 0 rfl rfl 2 (by decide) hf_64 rfl rfl dX10_undo_6 ?_
    refine lv_icmp_le (tgt := 14) hx hb dX10_undo_9 (by decide) (fun c_9 => ?_) (fun c_9 => ?_)
    · skip
      obtain ⟨m2, hm2, rfl⟩ := kIn_nat (kIn_le' (by omega) c_1 c_9)
      refine lv_iconst (v := nI 0) hx hb dX10_undo_14 (by decide) ?_
      refine lv_istore_n (lv' := [(2, .int (nI 0)), (0, .ref (q10 0)), (1, .int (nI m2))]) hx hb dX10_undo_15 rfl hl (by decide) rfl (fun ls hl => ?_)
      have hL_16 : ∀ (fu : Nat) (j : Nat) (f : Nat → Int32) (hj : j ≤ m2) (hf : RST f (tAt (n, ml, nx, ks, rr) hist j)), m2 - j < fu → ∀ (H : Heap) (locs : List Loc), va_P D vwCl (wX10 q10 cI cJ cB f kept_10 (nI (hist.length - j)) (nI ((w + 40 - j) % 40)) tape_10 taped_10 marks_10 order_10 reach_10 heapOf_10 rows_10 x_10 overs_10 costs_10 ways_10 digits_10 beaten_10 walks_10) H → va_D A (wX10 q10 cI cJ cB f kept_10 (nI (hist.length - j)) (nI ((w + 40 - j) % 40)) tape_10 taped_10 marks_10 order_10 reach_10 heapOf_10 rows_10 x_10 overs_10 costs_10 ways_10 digits_10 beaten_10 walks_10) → va_S A s.heap H locs → ∀ (ls : Array Slot), lv_has ls 4 [(0, .ref (q10 0)), (1, .int (nI m2)), (2, .int (nI j))] → W p l e (headSpec wsX10_undo rmX10_undo).room s m args below meth c H locs 0 0 Q (F0 m 16 ls []) := by
        intro fu
        induction fu with
        | zero => intro j f hj hf hfu; exact absurd hfu (Nat.not_lt_zero _)
        | succ fu ih_16 =>
          intro j f hj hf hfu H locs hP hD hS ls hl
          refine lv_iload_n hx hb dX10_undo_16 rfl (lv_at hl 2 rfl) ?_
          refine lv_iload_n hx hb dX10_undo_17 rfl (lv_at hl 1 rfl) ?_
          refine lv_icmp_ge (tgt := 89) hx hb dX10_undo_18 (by decide) (fun c_18 => ?_) (fun c_18 => ?_)
          · skip
            have c_18 := k_ge (by omega) (by omega) c_18
            obtain rfl : j = m2 := by omega
            refine lv_iload_n hx hb dX10_undo_89 rfl (lv_at hl 1 rfl) ?_
            subst hQ; subst hAe
            exact W.iret (v := nI j) hx hb hr (fun t ht _ => ⟨⟨nI j, (f, nI (hist.length - j), nI ((w + 40 - j) % 40)), rfl, ⟨fun _ => by rw [k_tt (by omega)]; exact ⟨rfl, hf, rfl, rfl⟩, fun h => absurd ((kIn_nI (by omega)).mpr (by omega)) h⟩, by rw [ht]; exact hP, hD⟩, hS.F ht⟩) hS.2.2 dX10_undo_90
          · skip
            have c_18 := k_ge_n (by omega) (by omega) c_18
            refine lv_iconst (v := nI 0) hx hb dX10_undo_21 (by decide) ?_
            refine lv_istore_n (lv' := [(3, .int (nI 0)), (0, .ref (q10 0)), (1, .int (nI m2)), (2, .int (nI j))]) hx hb dX10_undo_22 rfl hl (by decide) rfl (fun ls hl => ?_)
            have hL_23 : ∀ (fu : Nat) (k : Nat) (hk : k ≤ 600), 600 - k < fu → ∀ (H : Heap) (locs : List Loc), va_P D vwCl (wX10 q10 cI cJ cB (fb_put f (fun i => kept_10 (600 * ((w + 40 - j) % 40) + i)) 0 k) kept_10 (nI (hist.length - j)) (nI ((w + 40 - j) % 40)) tape_10 taped_10 marks_10 order_10 reach_10 heapOf_10 rows_10 x_10 overs_10 costs_10 ways_10 digits_10 beaten_10 walks_10) H → va_D A (wX10 q10 cI cJ cB (fb_put f (fun i => kept_10 (600 * ((w + 40 - j) % 40) + i)) 0 k) kept_10 (nI (hist.length - j)) (nI ((w + 40 - j) % 40)) tape_10 taped_10 marks_10 order_10 reach_10 heapOf_10 rows_10 x_10 overs_10 costs_10 ways_10 digits_10 beaten_10 walks_10) → va_S A s.heap H locs → ∀ (ls : Array Slot), lv_has ls 4 [(0, .ref (q10 0)), (1, .int (nI m2)), (2, .int (nI j)), (3, .int (nI k))] → W p l e (headSpec wsX10_undo rmX10_undo).room s m args below meth c H locs 0 0 Q (F0 m 23 ls []) := by
              intro fu
              induction fu with
              | zero => intro k hk hfu; exact absurd hfu (Nat.not_lt_zero _)
              | succ fu ih_23 =>
                intro k hk hfu H locs hP hD hS ls hl
                refine lv_iload_n hx hb dX10_undo_23 rfl (lv_at hl 3 rfl) ?_
                refine lv_sipush (v := nI 600) hx hb dX10_undo_24 (by decide) ?_
                refine lv_icmp_ge (tgt := 57) hx hb dX10_undo_27 (by decide) (fun c_27 => ?_) (fun c_27 => ?_)
                · skip
                  have c_27 := k_ge (by omega) (by omega) c_27
                  obtain rfl : k = 600 := by omega
                  refine lv_aload_n hx hb dX10_undo_57 rfl (lv_at hl 0 rfl) ?_
                  refine lv_aload_n hx hb dX10_undo_58 rfl (lv_at hl 0 rfl) ?_
                  refine k_get (ci := 10) (v := .int (nI ((w + 40 - j) % 40))) (C := RX10) (Tb := TX10) (N := 18) hx hb hts hu_10 hown hKW hP 0 rfl rfl 3 (by decide) hf_60 rfl rfl dX10_undo_59 ?_
                  refine lv_bipush (v := nI 40) hx hb dX10_undo_62 (by decide) ?_
                  refine k_iadd hx hb dX10_undo_64 ?_
                  refine lv_iconst (v := nI 1) hx hb dX10_undo_65 (by decide) ?_
                  refine k_isub hx hb (by omega) dX10_undo_66 ?_
                  refine lv_bipush (v := nI 40) hx hb dX10_undo_67 (by decide) ?_
                  refine lv_irem hx hb dX10_undo_69 (by decide) ?_
                  refine k_top (y := nI ((w + 40 - (j + 1)) % 40)) (by rw [pk_rem (by omega) (by decide) (by decide)]; congr 1; omega) ?_
                  refine k_put (ci := 10) (ty := .int) (v := .int (nI ((w + 40 - (j + 1)) % 40))) (C := RX10) (Tb := TX10) (N := 18) (w' := (wX10 q10 cI cJ cB (fb_put f (fun i => kept_10 (600 * ((w + 40 - j) % 40) + i)) 0 600) kept_10 (nI (hist.length - j)) (nI ((w + 40 - (j + 1)) % 40)) tape_10 taped_10 marks_10 order_10 reach_10 heapOf_10 rows_10 x_10 overs_10 costs_10 ways_10 digits_10 beaten_10 walks_10)) hx hb hts hu_10 tyX10 tyX10_ok nmX10 hown hKW hP hD hS 0 rfl rfl 3 (by decide) hf_60 rfl rfl (by decide +kernel) rfl rfl (Nat.le_of_ble_eq_true rfl) dX10_undo_70 rfl (fun H locs hP hD hS => ?_)
                  refine lv_aload_n hx hb dX10_undo_73 rfl (lv_at hl 0 rfl) ?_
                  refine lv_dup hx hb dX10_undo_74 rfl ?_
                  refine k_get (ci := 10) (v := .int (nI (hist.length - j))) (C := RX10) (Tb := TX10) (N := 18) hx hb hts hu_10 hown hKW hP 0 rfl rfl 2 (by decide) hf_64 rfl rfl dX10_undo_75 ?_
                  refine lv_iconst (v := nI 1) hx hb dX10_undo_78 (by decide) ?_
                  refine k_isub hx hb (by omega) dX10_undo_79 ?_
                  refine k_put (ci := 10) (ty := .int) (v := .int (nI ((hist.length - j) - 1))) (C := RX10) (Tb := TX10) (N := 18) (w' := (wX10 q10 cI cJ cB (fb_put f (fun i => kept_10 (600 * ((w + 40 - j) % 40) + i)) 0 600) kept_10 (nI ((hist.length - j) - 1)) (nI ((w + 40 - (j + 1)) % 40)) tape_10 taped_10 marks_10 order_10 reach_10 heapOf_10 rows_10 x_10 overs_10 costs_10 ways_10 digits_10 beaten_10 walks_10)) hx hb hts hu_10 tyX10 tyX10_ok nmX10 hown hKW hP hD hS 0 rfl rfl 2 (by decide) hf_64 rfl rfl (by decide +kernel) rfl rfl (Nat.le_of_ble_eq_true rfl) dX10_undo_80 rfl (fun H locs hP hD hS => ?_)
                  refine lv_iinc (v := nI (j + 1)) (lv' := [(2, .int (nI (j + 1))), (0, .ref (q10 0)), (1, .int (nI m2)), (3, .int (nI 600))]) hx hb dX10_undo_83 hl (k := 2) rfl (nI_add _ _) (by decide) rfl (fun ls hl => ?_)
                  refine lv_goto (tgt := 16) hx hb dX10_undo_86 (by decide) ?_
                  exact ih_16 (j + 1) _ (by omega) (tAt_step (by omega) hKP hHV) (by omega) _ _ hP hD hS ls (lv_sub hl [1, 2, 0] rfl)
                · skip
                  have c_27 := k_ge_n (by omega) (by omega) c_27
                  refine lv_aload_n hx hb dX10_undo_30 rfl (lv_at hl 0 rfl) ?_
                  refine k_get (ci := 10) (v := .ref (q10 1)) (C := RX10) (Tb := TX10) (N := 18) hx hb hts hu_10 hown hKW hP 0 rfl rfl 0 (by decide) hf_7 rfl rfl dX10_undo_31 ?_
                  refine lv_iload_n hx hb dX10_undo_34 rfl (lv_at hl 3 rfl) ?_
                  refine lv_aload_n hx hb dX10_undo_35 rfl (lv_at hl 0 rfl) ?_
                  refine k_get (ci := 10) (v := .ref (q10 2)) (C := RX10) (Tb := TX10) (N := 18) hx hb hts hu_10 hown hKW hP 0 rfl rfl 1 (by decide) hf_13 rfl rfl dX10_undo_36 ?_
                  refine lv_sipush (v := nI 600) hx hb dX10_undo_39 (by decide) ?_
                  refine lv_aload_n hx hb dX10_undo_42 rfl (lv_at hl 0 rfl) ?_
                  refine k_get (ci := 10) (v := .int (nI ((w + 40 - j) % 40))) (C := RX10) (Tb := TX10) (N := 18) hx hb hts hu_10 hown hKW hP 0 rfl rfl 3 (by decide) hf_60 rfl rfl dX10_undo_43 ?_
                  refine k_imul hx hb dX10_undo_46 ?_
                  refine lv_iload_n hx hb dX10_undo_47 rfl (lv_at hl 3 rfl) ?_
                  refine k_iadd hx hb dX10_undo_48 ?_
                  refine k_iald (n := 24000) (i := (600 * ((w + 40 - j) % 40)) + k) hx hb hKW hP 2 0 rfl rfl (by omega) (by omega) dX10_undo_49 ?_
                  refine k_iast (n := 600) (i := k) (x := kept_10 ((600 * ((w + 40 - j) % 40)) + k)) (w' := (wX10 q10 cI cJ cB (upd (fb_put f (fun i => kept_10 (600 * ((w + 40 - j) % 40) + i)) 0 k) k (kept_10 ((600 * ((w + 40 - j) % 40)) + k))) kept_10 (nI (hist.length - j)) (nI ((w + 40 - j) % 40)) tape_10 taped_10 marks_10 order_10 reach_10 heapOf_10 rows_10 x_10 overs_10 costs_10 ways_10 digits_10 beaten_10 walks_10)) hx hb hKW hP hD hS 1 0 rfl rfl (by omega) (by omega) dX10_undo_50 rfl (fun H locs hP hD hS => ?_)
                  refine lv_iinc (v := nI (k + 1)) (lv' := [(3, .int (nI (k + 1))), (0, .ref (q10 0)), (1, .int (nI m2)), (2, .int (nI j))]) hx hb dX10_undo_51 hl (k := 3) rfl (nI_add _ _) (by decide) rfl (fun ls hl => ?_)
                  refine lv_goto (tgt := 23) hx hb dX10_undo_54 (by decide) ?_
                  exact ih_23 (k + 1) (by omega) (by omega) _ _ (by rw [← fb_put_s0]; exact hP) (by rw [← fb_put_s0]; exact hD) hS ls (lv_sub hl [1, 2, 3, 0] rfl)
            exact hL_23 _ 0 (Nat.zero_le _) (Nat.lt_succ_self _) _ _ (by rw [fb_put_0]; exact hP) (by rw [fb_put_0]; exact hD) hS ls (lv_sub hl [1, 2, 3, 0] rfl)
      exact hL_16 _ 0 _ (Nat.zero_le _) hR (Nat.lt_succ_self _) _ _ (by rw [show (w + 40 - 0) % 40 = w by omega]; exact hP) (by rw [show (w + 40 - 0) % 40 = w by omega]; exact hD) hS ls (lv_sub hl [1, 2, 0] rfl)
    · skip
      refine lv_iconst (v := (-1)) hx hb dX10_undo_12 (by decide) ?_
      subst hQ; subst hAe
      exact W.iret (v := (-1)) hx hb hr (fun t ht _ => ⟨⟨(-1), (st_10, nI hist.length, nI w), rfl, ⟨fun h => absurd h (by first | exact kIn_lo c_1 | exact kIn_nle (by omega) c_9), fun _ => ⟨rfl, rfl, rfl, rfl⟩⟩, by rw [ht]; exact hP, hD⟩, hS.F ht⟩) hS.2.2 dX10_undo_13
def rmX10_ring : Room := { frames := 0, cells := 0, slots := 0, locals := 0 }
set_option maxHeartbeats 4000000 in
set_option maxRecDepth 100000 in
theorem c_X10_ring (l : Launch) (D : va_G) (cI cJ cB : ClassId) (q10 : Nat → Nat) (st_10 : Nat → Int32) (kept_10 : Nat → Int32) (undoable_10 : Int32) (newest_10 : Int32) (tape_10 : Nat → Int32) (taped_10 : Int32) (marks_10 : Nat → Int32) (order_10 : Nat → Int32) (reach_10 : Nat → Int32) (heapOf_10 : Nat → Int32) (rows_10 : Nat → Int64) (x_10 : Nat → Int64) (overs_10 : Nat → Int32) (costs_10 : Nat → Int32) (ways_10 : Nat → Int32) (digits_10 : Nat → Int32) (beaten_10 : Nat → Int32) (walks_10 : Nat → Int32) (n : Nat) (ml : List Mt) (nx : List (Nat × Nat)) (ks : List Nat) (rr : Int32 × Int32 × Int32) (o : Nat → Nat → Nat) (a : Nat) (b : Nat) (c2 : Nat) (hR : RS st_10 n ml nx ks rr) (hV : VS n ml nx ks) (hO : ∀ x y, x < n → y < n → overs_10 (10 * x + y) = nI (o x y)) (ho : ∀ x y, o x y ≤ 120) (ha : a < n) (hb2 : b < n) (hc2 : c2 < n) (hab : a ≠ b) (hbc : b ≠ c2) (hac : a ≠ c2) : ∀ sz, Met l yX10_ring wsX10_ring rmX10_ring (va_Pc [.ref (q10 0), .int (nI a), .int (nI b), .int (nI c2)] (PW D (kT cI cJ cB) sz (wX10 q10 cI cJ cB st_10 kept_10 undoable_10 newest_10 tape_10 taped_10 marks_10 order_10 reach_10 heapOf_10 rows_10 x_10 overs_10 costs_10 ways_10 digits_10 beaten_10 walks_10))) (va_Qi (S := (Nat → Int32)) (fun r overs_10' => r = nI (ring3 o a b c2) ∧ ∀ x y, x < n → y < n → overs_10' (10 * x + y) = nI (ringO o a b c2 x y)) (QW D sz (wX10 q10 cI cJ cB st_10 kept_10 undoable_10 newest_10 tape_10 taped_10 marks_10 order_10 reach_10 heapOf_10 rows_10 x_10 overs_10 costs_10 ways_10 digits_10 beaten_10 walks_10) (fun overs_10' => (wX10 q10 cI cJ cB st_10 kept_10 undoable_10 newest_10 tape_10 taped_10 marks_10 order_10 reach_10 heapOf_10 rows_10 x_10 overs_10' costs_10 ways_10 digits_10 beaten_10 walks_10))) (va_A (wX10 q10 cI cJ cB st_10 kept_10 undoable_10 newest_10 tape_10 taped_10 marks_10 order_10 reach_10 heapOf_10 rows_10 x_10 overs_10 costs_10 ways_10 digits_10 beaten_10 walks_10) sz)) 0 0 (va_A (wX10 q10 cI cJ cB st_10 kept_10 undoable_10 newest_10 tape_10 taped_10 marks_10 order_10 reach_10 heapOf_10 rows_10 x_10 overs_10 costs_10 ways_10 digits_10 beaten_10 walks_10) sz) := by
  intro sz
  refine Met.ofW (cc := cX10_ring) (maxL := 5) (ret := (some .int)) (by decide) rfl ?_
  intro p e s m args below meth c s₁ B hml hv
  obtain ⟨hav, hsz, hP, hKW, hD0⟩ := hv
  have hx := B.exec
  have hb := B.bytes
  have hr := B.returns
  have hts := atoms_spec (ws := wsX10_ring) B.pre
  have hown : s.vm.findClass RX10 = some m.cls := findClass_of_methodNamed B.named
  have hlocks := B.notSynchronized
  subst hsz
  have hD := hD0.self (sz := s.heap.size)
  obtain ⟨A, hAe⟩ : ∃ A : Nat → Prop, A = va_A (wX10 q10 cI cJ cB st_10 kept_10 undoable_10 newest_10 tape_10 taped_10 marks_10 order_10 reach_10 heapOf_10 rows_10 x_10 overs_10 costs_10 ways_10 digits_10 beaten_10 walks_10) s.heap.size := ⟨_, rfl⟩
  rw [← hAe] at hD
  have hA : ∀ q : Nat, s.heap.size ≤ q → A q := fun q h => by rw [hAe]; exact Or.inr h
  have hS : va_S A s.heap s.heap [] := va_S.rf
  refine k_gen (fun Q hQ => ?_)
  have hl := lv_entry ([.ref (q10 0), .int (nI a), .int (nI b), .int (nI c2)]) (n := 5) (Nat.le_of_ble_eq_true rfl)
  refine k_entry hav (lg_entry_eq ..) ?_
  generalize (lg_sl ([.ref (q10 0), .int (nI a), .int (nI b), .int (nI c2)]) ++ List.replicate (5 - (lg_sl ([.ref (q10 0), .int (nI a), .int (nI b), .int (nI c2)])).length) Slot.unset).toArray = ls at hl ⊢
  have hl : lv_has ls 5 [(0, .ref (q10 0)), (1, .int (nI a)), (2, .int (nI b)), (3, .int (nI c2))] := hl
  have hu_10 : ∀ w ∈ u_ws RX10 TX10 18, w ∈ wsX10_ring := by decide +kernel
  have hf_38 : Cond.fieldLink RX10 38 "MeetingRanksModel" "overs" "[I" ∈ wsX10_ring := by decide +kernel
  have hn1 := hV.1
  have hn10 := hV.2.1
  have hm120 := hV.2.2.1
  have hx40 := hV.2.2.2.2.1
  have hk4 := hV.2.2.2.2.2.2.1
  have ho1 := ho a b
  have ho2 := ho b c2
  have ho3 := ho c2 a
  refine lv_aload_n hx hb dX10_ring_0 rfl (lv_at hl 0 rfl) ?_
  refine k_get (ci := 10) (v := .ref (q10 10)) (C := RX10) (Tb := TX10) (N := 18) hx hb hts hu_10 hown hKW hP 0 rfl rfl 12 (by decide) hf_38 rfl rfl dX10_ring_1 ?_
  refine lv_bipush (v := nI 10) hx hb dX10_ring_4 (by decide) ?_
  refine lv_iload_n hx hb dX10_ring_6 rfl (lv_at hl 1 rfl) ?_
  refine k_imul hx hb dX10_ring_7 ?_
  refine lv_iload_n hx hb dX10_ring_8 rfl (lv_at hl 2 rfl) ?_
  refine k_iadd hx hb dX10_ring_9 ?_
  refine k_iald (n := 100) (i := (10 * a) + b) hx hb hKW hP 10 0 rfl rfl (by omega) (by omega) dX10_ring_10 ?_
  refine k_top (y := nI (o a b)) (hO a b ha hb2) ?_
  refine lv_istore (lv' := [(4, .int (nI (o a b))), (0, .ref (q10 0)), (1, .int (nI a)), (2, .int (nI b)), (3, .int (nI c2))]) hx hb dX10_ring_11 hl (by decide) rfl (fun ls hl => ?_)
  refine lv_aload_n hx hb dX10_ring_13 rfl (lv_at hl 1 rfl) ?_
  refine k_get (ci := 10) (v := .ref (q10 10)) (C := RX10) (Tb := TX10) (N := 18) hx hb hts hu_10 hown hKW hP 0 rfl rfl 12 (by decide) hf_38 rfl rfl dX10_ring_14 ?_
  refine lv_bipush (v := nI 10) hx hb dX10_ring_17 (by decide) ?_
  refine lv_iload_n hx hb dX10_ring_19 rfl (lv_at hl 3 rfl) ?_
  refine k_imul hx hb dX10_ring_20 ?_
  refine lv_iload_n hx hb dX10_ring_21 rfl (lv_at hl 4 rfl) ?_
  refine k_iadd hx hb dX10_ring_22 ?_
  refine k_iald (n := 100) (i := (10 * b) + c2) hx hb hKW hP 10 0 rfl rfl (by omega) (by omega) dX10_ring_23 ?_
  refine k_top (y := nI (o b c2)) (hO b c2 hb2 hc2) ?_
  have hJ_45 : ∀ (k : Nat) (hk : k = min (o a b) (o b c2)), ∀ (H : Heap) (locs : List Loc), va_P D vwCl (wX10 q10 cI cJ cB st_10 kept_10 undoable_10 newest_10 tape_10 taped_10 marks_10 order_10 reach_10 heapOf_10 rows_10 x_10 overs_10 costs_10 ways_10 digits_10 beaten_10 walks_10) H → va_D A (wX10 q10 cI cJ cB st_10 kept_10 undoable_10 newest_10 tape_10 taped_10 marks_10 order_10 reach_10 heapOf_10 rows_10 x_10 overs_10 costs_10 ways_10 digits_10 beaten_10 walks_10) → va_S A s.heap H locs → ∀ (ls : Array Slot), lv_has ls 5 [(0, .ref (q10 0)), (1, .int (nI a)), (2, .int (nI b)), (3, .int (nI c2)), (4, .int (nI (o a b)))] → W p l e (headSpec wsX10_ring rmX10_ring).room s m args below meth c H locs 0 0 Q (F0 m 45 ls [.int (nI k)]) := by
    intro k hk H locs hP hD hS ls hl
    refine lv_istore (lv' := [(4, .int (nI k)), (0, .ref (q10 0)), (1, .int (nI a)), (2, .int (nI b)), (3, .int (nI c2))]) hx hb dX10_ring_45 hl (by decide) rfl (fun ls hl => ?_)
    have hJ_79 : ∀ (k2 : Nat) (hk2 : k2 = ring3 o a b c2), ∀ (H : Heap) (locs : List Loc), va_P D vwCl (wX10 q10 cI cJ cB st_10 kept_10 undoable_10 newest_10 tape_10 taped_10 marks_10 order_10 reach_10 heapOf_10 rows_10 x_10 overs_10 costs_10 ways_10 digits_10 beaten_10 walks_10) H → va_D A (wX10 q10 cI cJ cB st_10 kept_10 undoable_10 newest_10 tape_10 taped_10 marks_10 order_10 reach_10 heapOf_10 rows_10 x_10 overs_10 costs_10 ways_10 digits_10 beaten_10 walks_10) → va_S A s.heap H locs → ∀ (ls : Array Slot), lv_has ls 5 [(0, .ref (q10 0)), (1, .int (nI a)), (2, .int (nI b)), (3, .int (nI c2)), (4, .int (nI k))] → W p l e (headSpec wsX10_ring rmX10_ring).room s m args below meth c H locs 0 0 Q (F0 m 79 ls [.int (nI k2)]) := by
      intro k2 hk2 H locs hP hD hS ls hl
      have hle9 := ring3_le o a b c2
      refine lv_istore (lv' := [(4, .int (nI k2)), (0, .ref (q10 0)), (1, .int (nI a)), (2, .int (nI b)), (3, .int (nI c2))]) hx hb dX10_ring_79 hl (by decide) rfl (fun ls hl => ?_)
      refine lv_aload_n hx hb dX10_ring_81 rfl (lv_at hl 1 rfl) ?_
      refine k_get (ci := 10) (v := .ref (q10 10)) (C := RX10) (Tb := TX10) (N := 18) hx hb hts hu_10 hown hKW hP 0 rfl rfl 12 (by decide) hf_38 rfl rfl dX10_ring_82 ?_
      refine lv_bipush (v := nI 10) hx hb dX10_ring_85 (by decide) ?_
      refine lv_iload_n hx hb dX10_ring_87 rfl (lv_at hl 2 rfl) ?_
      refine k_imul hx hb dX10_ring_88 ?_
      refine lv_iload_n hx hb dX10_ring_89 rfl (lv_at hl 3 rfl) ?_
      refine k_iadd hx hb dX10_ring_90 ?_
      refine lv_dup2_11 hx hb dX10_ring_91 rfl rfl ?_
      refine k_iald (n := 100) (i := (10 * a) + b) hx hb hKW hP 10 0 rfl rfl (by omega) (by omega) dX10_ring_92 ?_
      refine k_top (y := nI (o a b)) (hO a b ha hb2) ?_
      refine lv_iload hx hb dX10_ring_93 (lv_at hl 0 rfl) ?_
      refine k_isub hx hb (by omega) dX10_ring_95 ?_
      refine k_iast (n := 100) (i := (10 * a) + b) (x := nI ((o a b) - k2)) (w' := (wX10 q10 cI cJ cB st_10 kept_10 undoable_10 newest_10 tape_10 taped_10 marks_10 order_10 reach_10 heapOf_10 rows_10 x_10 (upd overs_10 ((10 * a) + b) (nI ((o a b) - k2))) costs_10 ways_10 digits_10 beaten_10 walks_10)) hx hb hKW hP hD hS 10 0 rfl rfl (by omega) (by omega) dX10_ring_96 rfl (fun H locs hP hD hS => ?_)
      refine lv_aload_n hx hb dX10_ring_97 rfl (lv_at hl 1 rfl) ?_
      refine k_get (ci := 10) (v := .ref (q10 10)) (C := RX10) (Tb := TX10) (N := 18) hx hb hts hu_10 hown hKW hP 0 rfl rfl 12 (by decide) hf_38 rfl rfl dX10_ring_98 ?_
      refine lv_bipush (v := nI 10) hx hb dX10_ring_101 (by decide) ?_
      refine lv_iload_n hx hb dX10_ring_103 rfl (lv_at hl 3 rfl) ?_
      refine k_imul hx hb dX10_ring_104 ?_
      refine lv_iload_n hx hb dX10_ring_105 rfl (lv_at hl 4 rfl) ?_
      refine k_iadd hx hb dX10_ring_106 ?_
      refine lv_dup2_11 hx hb dX10_ring_107 rfl rfl ?_
      refine k_iald (n := 100) (i := (10 * b) + c2) hx hb hKW hP 10 0 rfl rfl (by omega) (by omega) dX10_ring_108 ?_
      refine k_top (y := nI (o b c2)) (by rw [pk_un (by omega)]; exact hO b c2 hb2 hc2) ?_
      refine lv_iload hx hb dX10_ring_109 (lv_at hl 0 rfl) ?_
      refine k_isub hx hb (by omega) dX10_ring_111 ?_
      refine k_iast (n := 100) (i := (10 * b) + c2) (x := nI ((o b c2) - k2)) (w' := (wX10 q10 cI cJ cB st_10 kept_10 undoable_10 newest_10 tape_10 taped_10 marks_10 order_10 reach_10 heapOf_10 rows_10 x_10 (upd (upd overs_10 ((10 * a) + b) (nI ((o a b) - k2))) ((10 * b) + c2) (nI ((o b c2) - k2))) costs_10 ways_10 digits_10 beaten_10 walks_10)) hx hb hKW hP hD hS 10 0 rfl rfl (by omega) (by omega) dX10_ring_112 rfl (fun H locs hP hD hS => ?_)
      refine lv_aload_n hx hb dX10_ring_113 rfl (lv_at hl 1 rfl) ?_
      refine k_get (ci := 10) (v := .ref (q10 10)) (C := RX10) (Tb := TX10) (N := 18) hx hb hts hu_10 hown hKW hP 0 rfl rfl 12 (by decide) hf_38 rfl rfl dX10_ring_114 ?_
      refine lv_bipush (v := nI 10) hx hb dX10_ring_117 (by decide) ?_
      refine lv_iload_n hx hb dX10_ring_119 rfl (lv_at hl 4 rfl) ?_
      refine k_imul hx hb dX10_ring_120 ?_
      refine lv_iload_n hx hb dX10_ring_121 rfl (lv_at hl 2 rfl) ?_
      refine k_iadd hx hb dX10_ring_122 ?_
      refine lv_dup2_11 hx hb dX10_ring_123 rfl rfl ?_
      refine k_iald (n := 100) (i := (10 * c2) + a) hx hb hKW hP 10 0 rfl rfl (by omega) (by omega) dX10_ring_124 ?_
      refine k_top (y := nI (o c2 a)) (by rw [pk_un (by omega), pk_un (by omega)]; exact hO c2 a hc2 ha) ?_
      refine lv_iload hx hb dX10_ring_125 (lv_at hl 0 rfl) ?_
      refine k_isub hx hb (by omega) dX10_ring_127 ?_
      refine k_iast (n := 100) (i := (10 * c2) + a) (x := nI ((o c2 a) - k2)) (w' := (wX10 q10 cI cJ cB st_10 kept_10 undoable_10 newest_10 tape_10 taped_10 marks_10 order_10 reach_10 heapOf_10 rows_10 x_10 (upd (upd (upd overs_10 ((10 * a) + b) (nI ((o a b) - k2))) ((10 * b) + c2) (nI ((o b c2) - k2))) ((10 * c2) + a) (nI ((o c2 a) - k2))) costs_10 ways_10 digits_10 beaten_10 walks_10)) hx hb hKW hP hD hS 10 0 rfl rfl (by omega) (by omega) dX10_ring_128 rfl (fun H locs hP hD hS => ?_)
      refine lv_iload hx hb dX10_ring_129 (lv_at hl 0 rfl) ?_
      subst hQ; subst hAe
      exact W.iret (v := nI k2) hx hb hr (fun t ht _ => ⟨⟨nI k2, (upd (upd (upd overs_10 ((10 * a) + b) (nI ((o a b) - k2))) ((10 * b) + c2) (nI ((o b c2) - k2))) ((10 * c2) + a) (nI ((o c2 a) - k2))), rfl, ⟨congrArg nI hk2, fun x y hx9 hy9 => ring_upd hO ho ha hb2 hc2 hab hbc hac hk2 hx9 hy9⟩, by rw [ht]; exact hP, hD⟩, hS.F ht⟩) hS.2.2 dX10_ring_131
    refine lv_aload_n hx hb dX10_ring_47 rfl (lv_at hl 1 rfl) ?_
    refine k_get (ci := 10) (v := .ref (q10 10)) (C := RX10) (Tb := TX10) (N := 18) hx hb hts hu_10 hown hKW hP 0 rfl rfl 12 (by decide) hf_38 rfl rfl dX10_ring_48 ?_
    refine lv_bipush (v := nI 10) hx hb dX10_ring_51 (by decide) ?_
    refine lv_iload_n hx hb dX10_ring_53 rfl (lv_at hl 4 rfl) ?_
    refine k_imul hx hb dX10_ring_54 ?_
    refine lv_iload_n hx hb dX10_ring_55 rfl (lv_at hl 2 rfl) ?_
    refine k_iadd hx hb dX10_ring_56 ?_
    refine k_iald (n := 100) (i := (10 * c2) + a) hx hb hKW hP 10 0 rfl rfl (by omega) (by omega) dX10_ring_57 ?_
    refine k_top (y := nI (o c2 a)) (hO c2 a hc2 ha) ?_
    refine lv_iload hx hb dX10_ring_58 (lv_at hl 0 rfl) ?_
    refine lv_icmp_ge (tgt := 77) hx hb dX10_ring_60 (by decide) (fun c_60 => ?_) (fun c_60 => ?_)
    · skip
      have c_60 := k_ge (by omega) (by omega) c_60
      refine lv_iload hx hb dX10_ring_77 (lv_at hl 0 rfl) ?_
      exact hJ_79 _ (by unfold ring3; omega) _ _ hP hD hS ls (lv_sub hl [1, 2, 3, 4, 0] rfl)
    · skip
      have c_60 := k_ge_n (by omega) (by omega) c_60
      refine lv_aload_n hx hb dX10_ring_63 rfl (lv_at hl 1 rfl) ?_
      refine k_get (ci := 10) (v := .ref (q10 10)) (C := RX10) (Tb := TX10) (N := 18) hx hb hts hu_10 hown hKW hP 0 rfl rfl 12 (by decide) hf_38 rfl rfl dX10_ring_64 ?_
      refine lv_bipush (v := nI 10) hx hb dX10_ring_67 (by decide) ?_
      refine lv_iload_n hx hb dX10_ring_69 rfl (lv_at hl 4 rfl) ?_
      refine k_imul hx hb dX10_ring_70 ?_
      refine lv_iload_n hx hb dX10_ring_71 rfl (lv_at hl 2 rfl) ?_
      refine k_iadd hx hb dX10_ring_72 ?_
      refine k_iald (n := 100) (i := (10 * c2) + a) hx hb hKW hP 10 0 rfl rfl (by omega) (by omega) dX10_ring_73 ?_
      refine k_top (y := nI (o c2 a)) (hO c2 a hc2 ha) ?_
      refine lv_goto (tgt := 79) hx hb dX10_ring_74 (by decide) ?_
      exact hJ_79 _ (by unfold ring3; omega) _ _ hP hD hS ls (lv_sub hl [1, 2, 3, 4, 0] rfl)
  refine lv_iload hx hb dX10_ring_24 (lv_at hl 0 rfl) ?_
  refine lv_icmp_ge (tgt := 43) hx hb dX10_ring_26 (by decide) (fun c_26 => ?_) (fun c_26 => ?_)
  · skip
    have c_26 := k_ge (by omega) (by omega) c_26
    refine lv_iload hx hb dX10_ring_43 (lv_at hl 0 rfl) ?_
    exact hJ_45 _ (by omega) _ _ hP hD hS ls (lv_sub hl [1, 2, 3, 4, 0] rfl)
  · skip
    have c_26 := k_ge_n (by omega) (by omega) c_26
    refine lv_aload_n hx hb dX10_ring_29 rfl (lv_at hl 1 rfl) ?_
    refine k_get (ci := 10) (v := .ref (q10 10)) (C := RX10) (Tb := TX10) (N := 18) hx hb hts hu_10 hown hKW hP 0 rfl rfl 12 (by decide) hf_38 rfl rfl dX10_ring_30 ?_
    refine lv_bipush (v := nI 10) hx hb dX10_ring_33 (by decide) ?_
    refine lv_iload_n hx hb dX10_ring_35 rfl (lv_at hl 3 rfl) ?_
    refine k_imul hx hb dX10_ring_36 ?_
    refine lv_iload_n hx hb dX10_ring_37 rfl (lv_at hl 4 rfl) ?_
    refine k_iadd hx hb dX10_ring_38 ?_
    refine k_iald (n := 100) (i := (10 * b) + c2) hx hb hKW hP 10 0 rfl rfl (by omega) (by omega) dX10_ring_39 ?_
    refine k_top (y := nI (o b c2)) (hO b c2 hb2 hc2) ?_
    refine lv_goto (tgt := 45) hx hb dX10_ring_40 (by decide) ?_
    exact hJ_45 _ (by omega) _ _ hP hD hS ls (lv_sub hl [1, 2, 3, 4, 0] rfl)
