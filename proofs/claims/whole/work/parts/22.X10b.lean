def rmX10_player : Room := { frames := 1, cells := 0, slots := 0, locals := 21 }
set_option maxHeartbeats 4000000 in
set_option maxRecDepth 100000 in
theorem c_X10_player (l : Launch) (D : va_G) (cI cJ cB : ClassId) (q10 : Nat → Nat) (st_10 : Nat → Int32) (kept_10 : Nat → Int32) (tape_10 : Nat → Int32) (taped_10 : Int32) (marks_10 : Nat → Int32) (order_10 : Nat → Int32) (reach_10 : Nat → Int32) (heapOf_10 : Nat → Int32) (rows_10 : Nat → Int64) (x_10 : Nat → Int64) (overs_10 : Nat → Int32) (costs_10 : Nat → Int32) (ways_10 : Nat → Int32) (digits_10 : Nat → Int32) (beaten_10 : Nat → Int32) (walks_10 : Nat → Int32) (n : Nat) (ml : List Mt) (nx : List (Nat × Nat)) (ks : List Nat) (rr : Int32 × Int32 × Int32) (w : Nat) (u : Nat) (hR : RS st_10 n ml nx ks rr) (hV : VS n ml nx ks) (hw40 : w < 40) (hu40 : u ≤ 40) : ∀ sz, Met l yX10_player wsX10_player rmX10_player (va_Pc [.ref (q10 0)] (PW D (kT cI cJ cB) sz (wX10 q10 cI cJ cB st_10 kept_10 (nI u) (nI w) tape_10 taped_10 marks_10 order_10 reach_10 heapOf_10 rows_10 x_10 overs_10 costs_10 ways_10 digits_10 beaten_10 walks_10))) (va_Qi (S := (Nat → Int32) × (Nat → Int32) × Int32 × Int32) (fun r uu => match uu with | (st_10', kept_10', undoable_10', newest_10') => (n < 10 → r = nI n ∧ RS st_10' (n + 1) ml nx ks rr ∧ ActD st_10 kept_10 w u kept_10' newest_10' undoable_10') ∧ (¬ n < 10 → r = -1 ∧ NoD st_10 kept_10 w u st_10' kept_10' newest_10' undoable_10')) (QW D sz (wX10 q10 cI cJ cB st_10 kept_10 (nI u) (nI w) tape_10 taped_10 marks_10 order_10 reach_10 heapOf_10 rows_10 x_10 overs_10 costs_10 ways_10 digits_10 beaten_10 walks_10) (fun uu => match uu with | (st_10', kept_10', undoable_10', newest_10') => (wX10 q10 cI cJ cB st_10' kept_10' undoable_10' newest_10' tape_10 taped_10 marks_10 order_10 reach_10 heapOf_10 rows_10 x_10 overs_10 costs_10 ways_10 digits_10 beaten_10 walks_10))) (va_A (wX10 q10 cI cJ cB st_10 kept_10 (nI u) (nI w) tape_10 taped_10 marks_10 order_10 reach_10 heapOf_10 rows_10 x_10 overs_10 costs_10 ways_10 digits_10 beaten_10 walks_10) sz)) 0 0 (va_A (wX10 q10 cI cJ cB st_10 kept_10 (nI u) (nI w) tape_10 taped_10 marks_10 order_10 reach_10 heapOf_10 rows_10 x_10 overs_10 costs_10 ways_10 digits_10 beaten_10 walks_10) sz) := by
  intro sz
  refine Met.ofW (cc := cX10_player) (maxL := 1) (ret := (some .int)) (by decide) rfl ?_
  intro p e s m args below meth c s₁ B hml hv
  obtain ⟨hav, hsz, hP, hKW, hD0⟩ := hv
  have hx := B.exec
  have hb := B.bytes
  have hr := B.returns
  have hts := atoms_spec (ws := wsX10_player) B.pre
  have hown : s.vm.findClass RX10 = some m.cls := findClass_of_methodNamed B.named
  have hlocks := B.notSynchronized
  subst hsz
  have hD := hD0.self (sz := s.heap.size)
  obtain ⟨A, hAe⟩ : ∃ A : Nat → Prop, A = va_A (wX10 q10 cI cJ cB st_10 kept_10 (nI u) (nI w) tape_10 taped_10 marks_10 order_10 reach_10 heapOf_10 rows_10 x_10 overs_10 costs_10 ways_10 digits_10 beaten_10 walks_10) s.heap.size := ⟨_, rfl⟩
  rw [← hAe] at hD
  have hA : ∀ q : Nat, s.heap.size ≤ q → A q := fun q h => by rw [hAe]; exact Or.inr h
  have hS : va_S A s.heap s.heap [] := va_S.rf
  refine k_gen (fun Q hQ => ?_)
  have hl := lv_entry ([.ref (q10 0)]) (n := 1) (Nat.le_of_ble_eq_true rfl)
  refine k_entry hav (lg_entry_eq ..) ?_
  generalize (lg_sl ([.ref (q10 0)]) ++ List.replicate (1 - (lg_sl ([.ref (q10 0)])).length) Slot.unset).toArray = ls at hl ⊢
  have hl : lv_has ls 1 [(0, .ref (q10 0))] := hl
  have hu_10 : ∀ w ∈ u_ws RX10 TX10 18, w ∈ wsX10_player := by decide +kernel
  have hf_7 : Cond.fieldLink RX10 7 "MeetingRanksModel" "st" "[I" ∈ wsX10_player := by decide +kernel
  have hn1 := hV.1
  have hn10 := hV.2.1
  have hm120 := hV.2.2.1
  have hx40 := hV.2.2.2.2.1
  have hk4 := hV.2.2.2.2.2.2.1
  refine lv_aload_n hx hb dX10_player_0 rfl (lv_at hl 0 rfl) ?_
  have hs_1 : kSplit (wX10 q10 cI cJ cB st_10 kept_10 (nI u) (nI w) tape_10 taped_10 marks_10 order_10 reach_10 heapOf_10 rows_10 x_10 overs_10 costs_10 ways_10 digits_10 beaten_10 walks_10) (wX10 q10 cI cJ cB st_10 kept_10 (nI u) (nI w) tape_10 taped_10 marks_10 order_10 reach_10 heapOf_10 rows_10 x_10 overs_10 costs_10 ways_10 digits_10 beaten_10 walks_10) ([] : va_W) [0, 1, 2, 3, 4, 5, 6, 7, 8, 9, 10, 11, 12, 13, 14, 15] [] := ⟨rfl, rfl, rfl, rfl, rfl, by decide⟩
  refine kc_i hP hD hS hA hs_1 (kV (As := []) (rest := []) hx hb hml hown hts hKW hP hD hs_1 (c_X10_n l D cI cJ cB q10 st_10 kept_10 (nI u) (nI w) tape_10 taped_10 marks_10 order_10 reach_10 heapOf_10 rows_10 x_10 overs_10 costs_10 ways_10 digits_10 beaten_10 walks_10 n ml nx ks rr (by first | assumption | omega) (by first | assumption | omega)) (cwV 0 hts gX10_player_X10_n rfl rfl rfl (by decide +kernel) ⟨Nat.le_of_ble_eq_true rfl, Nat.le_of_ble_eq_true rfl⟩) 0 10 rfl rfl rfl rfl hl.1 rfl (Nat.le_of_ble_eq_true rfl) dX10_player_1 ⟨Nat.zero_le _, Nat.zero_le _⟩) (fun r_1 u_1 H locs hw_1 hP hD hS => ?_)
  have er_1 := hw_1
  subst er_1
  have hP : va_P D vwCl (wX10 q10 cI cJ cB st_10 kept_10 (nI u) (nI w) tape_10 taped_10 marks_10 order_10 reach_10 heapOf_10 rows_10 x_10 overs_10 costs_10 ways_10 digits_10 beaten_10 walks_10) H := hP.sub (ws' := (wX10 q10 cI cJ cB st_10 kept_10 (nI u) (nI w) tape_10 taped_10 marks_10 order_10 reach_10 heapOf_10 rows_10 x_10 overs_10 costs_10 ways_10 digits_10 beaten_10 walks_10)) [0, 1, 2, 3, 4, 5, 6, 7, 8, 9, 10, 11, 12, 13, 14, 15] rfl
  have hD : va_D A (wX10 q10 cI cJ cB st_10 kept_10 (nI u) (nI w) tape_10 taped_10 marks_10 order_10 reach_10 heapOf_10 rows_10 x_10 overs_10 costs_10 ways_10 digits_10 beaten_10 walks_10) := hD.sub (ws' := (wX10 q10 cI cJ cB st_10 kept_10 (nI u) (nI w) tape_10 taped_10 marks_10 order_10 reach_10 heapOf_10 rows_10 x_10 overs_10 costs_10 ways_10 digits_10 beaten_10 walks_10)) [0, 1, 2, 3, 4, 5, 6, 7, 8, 9, 10, 11, 12, 13, 14, 15] (by decide) rfl
  refine lv_bipush (v := nI 10) hx hb dX10_player_4 (by decide) ?_
  refine lv_icmp_ne (tgt := 11) hx hb dX10_player_6 (by decide) (fun c_6 => ?_) (fun c_6 => ?_)
  · skip
    have c_6 := k_ne (by omega) (by omega) c_6
    refine lv_aload_n hx hb dX10_player_11 rfl (lv_at hl 0 rfl) ?_
    have hs_12 : kSplit (wX10 q10 cI cJ cB st_10 kept_10 (nI u) (nI w) tape_10 taped_10 marks_10 order_10 reach_10 heapOf_10 rows_10 x_10 overs_10 costs_10 ways_10 digits_10 beaten_10 walks_10) (wX10 q10 cI cJ cB st_10 kept_10 (nI u) (nI w) tape_10 taped_10 marks_10 order_10 reach_10 heapOf_10 rows_10 x_10 overs_10 costs_10 ways_10 digits_10 beaten_10 walks_10) ([] : va_W) [0, 1, 2, 3, 4, 5, 6, 7, 8, 9, 10, 11, 12, 13, 14, 15] [] := ⟨rfl, rfl, rfl, rfl, rfl, by decide⟩
    refine kc_v hP hD hS hA hs_12 (kV (As := []) (rest := []) hx hb hml hown hts hKW hP hD hs_12 (c_X10_act l D cI cJ cB q10 st_10 kept_10 tape_10 taped_10 marks_10 order_10 reach_10 heapOf_10 rows_10 x_10 overs_10 costs_10 ways_10 digits_10 beaten_10 walks_10 w u (by first | assumption | omega) (by first | assumption | omega)) (cwV 0 hts gX10_player_X10_act rfl rfl rfl (by decide +kernel) ⟨Nat.le_of_ble_eq_true rfl, Nat.le_of_ble_eq_true rfl⟩) 0 10 rfl rfl rfl rfl hl.1 rfl (Nat.le_of_ble_eq_true rfl) dX10_player_12 ⟨Nat.zero_le _, Nat.zero_le _⟩) (fun u_12 H locs hw_12 hP hD hS => ?_)
    obtain ⟨kept_10_12, undoable_10_12, newest_10_12⟩ := u_12
    obtain ⟨e_kept_10_12, e_undoable_10_12, e_newest_10_12⟩ := hw_12
    subst e_kept_10_12 e_undoable_10_12 e_newest_10_12
    have hP : va_P D vwCl (wX10 q10 cI cJ cB st_10 (fb_put kept_10 st_10 (600 * ((w + 1) % 40)) 600) (nI (if u < 40 then u + 1 else u)) (nI ((w + 1) % 40)) tape_10 taped_10 marks_10 order_10 reach_10 heapOf_10 rows_10 x_10 overs_10 costs_10 ways_10 digits_10 beaten_10 walks_10) H := hP.sub (ws' := (wX10 q10 cI cJ cB st_10 (fb_put kept_10 st_10 (600 * ((w + 1) % 40)) 600) (nI (if u < 40 then u + 1 else u)) (nI ((w + 1) % 40)) tape_10 taped_10 marks_10 order_10 reach_10 heapOf_10 rows_10 x_10 overs_10 costs_10 ways_10 digits_10 beaten_10 walks_10)) [0, 1, 2, 3, 4, 5, 6, 7, 8, 9, 10, 11, 12, 13, 14, 15] rfl
    have hD : va_D A (wX10 q10 cI cJ cB st_10 (fb_put kept_10 st_10 (600 * ((w + 1) % 40)) 600) (nI (if u < 40 then u + 1 else u)) (nI ((w + 1) % 40)) tape_10 taped_10 marks_10 order_10 reach_10 heapOf_10 rows_10 x_10 overs_10 costs_10 ways_10 digits_10 beaten_10 walks_10) := hD.sub (ws' := (wX10 q10 cI cJ cB st_10 (fb_put kept_10 st_10 (600 * ((w + 1) % 40)) 600) (nI (if u < 40 then u + 1 else u)) (nI ((w + 1) % 40)) tape_10 taped_10 marks_10 order_10 reach_10 heapOf_10 rows_10 x_10 overs_10 costs_10 ways_10 digits_10 beaten_10 walks_10)) [0, 1, 2, 3, 4, 5, 6, 7, 8, 9, 10, 11, 12, 13, 14, 15] (by decide) rfl
    refine lv_aload_n hx hb dX10_player_15 rfl (lv_at hl 0 rfl) ?_
    refine k_get (ci := 10) (v := .ref (q10 1)) (C := RX10) (Tb := TX10) (N := 18) hx hb hts hu_10 hown hKW hP 0 rfl rfl 0 (by decide) hf_7 rfl rfl dX10_player_16 ?_
    refine lv_iconst (v := nI 0) hx hb dX10_player_19 (by decide) ?_
    refine lv_dup2_11 hx hb dX10_player_20 rfl rfl ?_
    refine k_iald (n := 600) (i := 0) hx hb hKW hP 1 0 rfl rfl (by omega) (by omega) dX10_player_21 ?_
    refine k_top (y := nI n) (hR.1) ?_
    refine lv_iconst (v := nI 1) hx hb dX10_player_22 (by decide) ?_
    refine k_iadd hx hb dX10_player_23 ?_
    refine k_iast (n := 600) (i := 0) (x := nI (n + 1)) (w' := (wX10 q10 cI cJ cB (upd st_10 0 (nI (n + 1))) (fb_put kept_10 st_10 (600 * ((w + 1) % 40)) 600) (nI (if u < 40 then u + 1 else u)) (nI ((w + 1) % 40)) tape_10 taped_10 marks_10 order_10 reach_10 heapOf_10 rows_10 x_10 overs_10 costs_10 ways_10 digits_10 beaten_10 walks_10)) hx hb hKW hP hD hS 1 0 rfl rfl (by omega) (by omega) dX10_player_24 rfl (fun H locs hP hD hS => ?_)
    refine lv_aload_n hx hb dX10_player_25 rfl (lv_at hl 0 rfl) ?_
    have hs_26 : kSplit (wX10 q10 cI cJ cB (upd st_10 0 (nI (n + 1))) (fb_put kept_10 st_10 (600 * ((w + 1) % 40)) 600) (nI (if u < 40 then u + 1 else u)) (nI ((w + 1) % 40)) tape_10 taped_10 marks_10 order_10 reach_10 heapOf_10 rows_10 x_10 overs_10 costs_10 ways_10 digits_10 beaten_10 walks_10) (wX10 q10 cI cJ cB (upd st_10 0 (nI (n + 1))) (fb_put kept_10 st_10 (600 * ((w + 1) % 40)) 600) (nI (if u < 40 then u + 1 else u)) (nI ((w + 1) % 40)) tape_10 taped_10 marks_10 order_10 reach_10 heapOf_10 rows_10 x_10 overs_10 costs_10 ways_10 digits_10 beaten_10 walks_10) ([] : va_W) [0, 1, 2, 3, 4, 5, 6, 7, 8, 9, 10, 11, 12, 13, 14, 15] [] := ⟨rfl, rfl, rfl, rfl, rfl, by decide⟩
    refine kc_i hP hD hS hA hs_26 (kV (As := []) (rest := []) hx hb hml hown hts hKW hP hD hs_26 (c_X10_n l D cI cJ cB q10 (upd st_10 0 (nI (n + 1))) (fb_put kept_10 st_10 (600 * ((w + 1) % 40)) 600) (nI (if u < 40 then u + 1 else u)) (nI ((w + 1) % 40)) tape_10 taped_10 marks_10 order_10 reach_10 heapOf_10 rows_10 x_10 overs_10 costs_10 ways_10 digits_10 beaten_10 walks_10 (n + 1) ml nx ks rr hR.n1 (VS.n1 hV c_6)) (cwV 0 hts gX10_player_X10_n rfl rfl rfl (by decide +kernel) ⟨Nat.le_of_ble_eq_true rfl, Nat.le_of_ble_eq_true rfl⟩) 0 10 rfl rfl rfl rfl hl.1 rfl (Nat.le_of_ble_eq_true rfl) dX10_player_26 ⟨Nat.zero_le _, Nat.zero_le _⟩) (fun r_26 u_26 H locs hw_26 hP hD hS => ?_)
    have er_26 := hw_26
    subst er_26
    have hP : va_P D vwCl (wX10 q10 cI cJ cB (upd st_10 0 (nI (n + 1))) (fb_put kept_10 st_10 (600 * ((w + 1) % 40)) 600) (nI (if u < 40 then u + 1 else u)) (nI ((w + 1) % 40)) tape_10 taped_10 marks_10 order_10 reach_10 heapOf_10 rows_10 x_10 overs_10 costs_10 ways_10 digits_10 beaten_10 walks_10) H := hP.sub (ws' := (wX10 q10 cI cJ cB (upd st_10 0 (nI (n + 1))) (fb_put kept_10 st_10 (600 * ((w + 1) % 40)) 600) (nI (if u < 40 then u + 1 else u)) (nI ((w + 1) % 40)) tape_10 taped_10 marks_10 order_10 reach_10 heapOf_10 rows_10 x_10 overs_10 costs_10 ways_10 digits_10 beaten_10 walks_10)) [0, 1, 2, 3, 4, 5, 6, 7, 8, 9, 10, 11, 12, 13, 14, 15] rfl
    have hD : va_D A (wX10 q10 cI cJ cB (upd st_10 0 (nI (n + 1))) (fb_put kept_10 st_10 (600 * ((w + 1) % 40)) 600) (nI (if u < 40 then u + 1 else u)) (nI ((w + 1) % 40)) tape_10 taped_10 marks_10 order_10 reach_10 heapOf_10 rows_10 x_10 overs_10 costs_10 ways_10 digits_10 beaten_10 walks_10) := hD.sub (ws' := (wX10 q10 cI cJ cB (upd st_10 0 (nI (n + 1))) (fb_put kept_10 st_10 (600 * ((w + 1) % 40)) 600) (nI (if u < 40 then u + 1 else u)) (nI ((w + 1) % 40)) tape_10 taped_10 marks_10 order_10 reach_10 heapOf_10 rows_10 x_10 overs_10 costs_10 ways_10 digits_10 beaten_10 walks_10)) [0, 1, 2, 3, 4, 5, 6, 7, 8, 9, 10, 11, 12, 13, 14, 15] (by decide) rfl
    refine lv_iconst (v := nI 1) hx hb dX10_player_29 (by decide) ?_
    refine lv_isub hx hb dX10_player_30 ?_
    refine k_top (y := nI n) (by rw [pk_sub (by omega)]; rfl) ?_
    subst hQ; subst hAe
    exact W.iret (v := nI n) hx hb hr (fun t ht _ => ⟨⟨nI n, (upd st_10 0 (nI (n + 1)), fb_put kept_10 st_10 (600 * ((w + 1) % 40)) 600, nI (if u < 40 then u + 1 else u), nI ((w + 1) % 40)), rfl, ⟨fun _ => ⟨rfl, hR.n1, ⟨rfl, rfl, rfl⟩⟩, fun h => absurd (by omega) h⟩, by rw [ht]; exact hP, hD⟩, hS.F ht⟩) hS.2.2 dX10_player_31
  · skip
    have c_6 := k_ne_n (by omega) (by omega) c_6
    refine lv_iconst (v := (-1)) hx hb dX10_player_9 (by decide) ?_
    subst hQ; subst hAe
    exact W.iret (v := (-1)) hx hb hr (fun t ht _ => ⟨⟨(-1), (st_10, kept_10, nI u, nI w), rfl, ⟨fun h => absurd h (by omega), fun _ => ⟨rfl, ⟨rfl, rfl, rfl, rfl⟩⟩⟩, by rw [ht]; exact hP, hD⟩, hS.F ht⟩) hS.2.2 dX10_player_10
def rmX10_canMeet : Room := { frames := 2, cells := 0, slots := 0, locals := 41 }
set_option maxHeartbeats 4000000 in
set_option maxRecDepth 100000 in
theorem c_X10_canMeet (l : Launch) (D : va_G) (cI cJ cB : ClassId) (q10 : Nat → Nat) (st_10 : Nat → Int32) (kept_10 : Nat → Int32) (undoable_10 : Int32) (newest_10 : Int32) (tape_10 : Nat → Int32) (taped_10 : Int32) (marks_10 : Nat → Int32) (order_10 : Nat → Int32) (reach_10 : Nat → Int32) (heapOf_10 : Nat → Int32) (rows_10 : Nat → Int64) (x_10 : Nat → Int64) (overs_10 : Nat → Int32) (costs_10 : Nat → Int32) (ways_10 : Nat → Int32) (digits_10 : Nat → Int32) (beaten_10 : Nat → Int32) (walks_10 : Nat → Int32) (n : Nat) (ml : List Mt) (nx : List (Nat × Nat)) (ks : List Nat) (rr : Int32 × Int32 × Int32) (a : Int32) (b : Int32) (p2 : Int32) (q2 : Int32) (hR : RS st_10 n ml nx ks rr) (hV : VS n ml nx ks) : ∀ sz, Met l yX10_canMeet wsX10_canMeet rmX10_canMeet (va_Pc [.ref (q10 0), .int a, .int b, .int p2, .int q2] (PW D (kT cI cJ cB) sz (wX10 q10 cI cJ cB st_10 kept_10 undoable_10 newest_10 tape_10 taped_10 marks_10 order_10 reach_10 heapOf_10 rows_10 x_10 overs_10 costs_10 ways_10 digits_10 beaten_10 walks_10))) (va_Qi (S := Unit) (fun r _ => r = if ml.length < 120 ∧ kIn a n ∧ kIn b n ∧ ¬ a = b ∧ kIn p2 100 ∧ kIn q2 100 then 1 else 0) (QW D sz (wX10 q10 cI cJ cB st_10 kept_10 undoable_10 newest_10 tape_10 taped_10 marks_10 order_10 reach_10 heapOf_10 rows_10 x_10 overs_10 costs_10 ways_10 digits_10 beaten_10 walks_10) (fun _ => (wX10 q10 cI cJ cB st_10 kept_10 undoable_10 newest_10 tape_10 taped_10 marks_10 order_10 reach_10 heapOf_10 rows_10 x_10 overs_10 costs_10 ways_10 digits_10 beaten_10 walks_10))) (va_A (wX10 q10 cI cJ cB st_10 kept_10 undoable_10 newest_10 tape_10 taped_10 marks_10 order_10 reach_10 heapOf_10 rows_10 x_10 overs_10 costs_10 ways_10 digits_10 beaten_10 walks_10) sz)) 0 0 (va_A (wX10 q10 cI cJ cB st_10 kept_10 undoable_10 newest_10 tape_10 taped_10 marks_10 order_10 reach_10 heapOf_10 rows_10 x_10 overs_10 costs_10 ways_10 digits_10 beaten_10 walks_10) sz) := by
  intro sz
  refine Met.ofW (cc := cX10_canMeet) (maxL := 5) (ret := (some .boolean)) (by decide) rfl ?_
  intro p e s m args below meth c s₁ B hml hv
  obtain ⟨hav, hsz, hP, hKW, hD0⟩ := hv
  have hx := B.exec
  have hb := B.bytes
  have hr := B.returns
  have hts := atoms_spec (ws := wsX10_canMeet) B.pre
  have hown : s.vm.findClass RX10 = some m.cls := findClass_of_methodNamed B.named
  have hlocks := B.notSynchronized
  subst hsz
  have hD := hD0.self (sz := s.heap.size)
  obtain ⟨A, hAe⟩ : ∃ A : Nat → Prop, A = va_A (wX10 q10 cI cJ cB st_10 kept_10 undoable_10 newest_10 tape_10 taped_10 marks_10 order_10 reach_10 heapOf_10 rows_10 x_10 overs_10 costs_10 ways_10 digits_10 beaten_10 walks_10) s.heap.size := ⟨_, rfl⟩
  rw [← hAe] at hD
  have hA : ∀ q : Nat, s.heap.size ≤ q → A q := fun q h => by rw [hAe]; exact Or.inr h
  have hS : va_S A s.heap s.heap [] := va_S.rf
  refine k_gen (fun Q hQ => ?_)
  have hl := lv_entry ([.ref (q10 0), .int a, .int b, .int p2, .int q2]) (n := 5) (Nat.le_of_ble_eq_true rfl)
  refine k_entry hav (lg_entry_eq ..) ?_
  generalize (lg_sl ([.ref (q10 0), .int a, .int b, .int p2, .int q2]) ++ List.replicate (5 - (lg_sl ([.ref (q10 0), .int a, .int b, .int p2, .int q2])).length) Slot.unset).toArray = ls at hl ⊢
  have hl : lv_has ls 5 [(0, .ref (q10 0)), (1, .int a), (2, .int b), (3, .int p2), (4, .int q2)] := hl
  have hu_10 : ∀ w ∈ u_ws RX10 TX10 18, w ∈ wsX10_canMeet := by decide +kernel
  have hf_7 : Cond.fieldLink RX10 7 "MeetingRanksModel" "st" "[I" ∈ wsX10_canMeet := by decide +kernel
  have hn1 := hV.1
  have hn10 := hV.2.1
  have hm120 := hV.2.2.1
  have hx40 := hV.2.2.2.2.1
  have hk4 := hV.2.2.2.2.2.2.1
  refine lv_aload_n hx hb dX10_canMeet_0 rfl (lv_at hl 0 rfl) ?_
  refine k_get (ci := 10) (v := .ref (q10 1)) (C := RX10) (Tb := TX10) (N := 18) hx hb hts hu_10 hown hKW hP 0 rfl rfl 0 (by decide) hf_7 rfl rfl dX10_canMeet_1 ?_
  refine lv_iconst (v := nI 1) hx hb dX10_canMeet_4 (by decide) ?_
  refine k_iald (n := 600) (i := 1) hx hb hKW hP 1 0 rfl rfl (by omega) (by omega) dX10_canMeet_5 ?_
  refine k_top (y := nI ml.length) (hR.2.1) ?_
  refine lv_bipush (v := nI 120) hx hb dX10_canMeet_6 (by decide) ?_
  refine lv_icmp_ge (tgt := 58) hx hb dX10_canMeet_8 (by decide) (fun c_8 => ?_) (fun c_8 => ?_)
  · skip
    have c_8 := k_ge (by omega) (by omega) c_8
    refine lv_iconst (v := nI 0) hx hb dX10_canMeet_58 (by decide) ?_
    subst hQ; subst hAe
    exact W.zret (v := nI 0) (ty := .boolean) hx hb hr (by decide) (fun t ht _ => ⟨⟨nI 0, (), rfl, by first | exact k_if1 ⟨c_8, c_16, c_24, c_29, kIn_le (m := 99) (by decide) c_33 c_39, kIn_le (m := 99) (by decide) c_44 c_51⟩ | exact k_if0 (fun z => by obtain ⟨z1, z2, z3, z4, z5, z6⟩ := z; first | exact absurd z1 (by omega) | exact c_16 z2 | exact c_24 z3 | exact z4 c_29 | exact kIn_lo c_33 z5 | exact kIn_gt (m := 99) (by decide) c_39 z5 | exact kIn_lo c_44 z6 | exact kIn_gt (m := 99) (by decide) c_51 z6), by rw [ht]; exact hP, hD⟩, hS.F ht⟩) hS.2.2 dX10_canMeet_59
  · skip
    have c_8 := k_ge_n (by omega) (by omega) c_8
    refine lv_aload_n hx hb dX10_canMeet_11 rfl (lv_at hl 0 rfl) ?_
    refine lv_iload_n hx hb dX10_canMeet_12 rfl (lv_at hl 1 rfl) ?_
    have hs_13 : kSplit (wX10 q10 cI cJ cB st_10 kept_10 undoable_10 newest_10 tape_10 taped_10 marks_10 order_10 reach_10 heapOf_10 rows_10 x_10 overs_10 costs_10 ways_10 digits_10 beaten_10 walks_10) (wX10 q10 cI cJ cB st_10 kept_10 undoable_10 newest_10 tape_10 taped_10 marks_10 order_10 reach_10 heapOf_10 rows_10 x_10 overs_10 costs_10 ways_10 digits_10 beaten_10 walks_10) ([] : va_W) [0, 1, 2, 3, 4, 5, 6, 7, 8, 9, 10, 11, 12, 13, 14, 15] [] := ⟨rfl, rfl, rfl, rfl, rfl, by decide⟩
    refine kc_i hP hD hS hA hs_13 (kV (As := [.int a]) (rest := []) hx hb hml hown hts hKW hP hD hs_13 (c_X10_isPlayer l D cI cJ cB q10 st_10 kept_10 undoable_10 newest_10 tape_10 taped_10 marks_10 order_10 reach_10 heapOf_10 rows_10 x_10 overs_10 costs_10 ways_10 digits_10 beaten_10 walks_10 n ml nx ks rr a (by first | assumption | omega) (by first | assumption | omega)) (cwV 1 hts gX10_canMeet_X10_isPlayer rfl rfl rfl (by decide +kernel) ⟨Nat.le_of_ble_eq_true rfl, Nat.le_of_ble_eq_true rfl⟩) 0 10 rfl rfl rfl rfl hl.1 rfl (Nat.le_of_ble_eq_true rfl) dX10_canMeet_13 ⟨Nat.zero_le _, Nat.zero_le _⟩) (fun r_13 u_13 H locs hw_13 hP hD hS => ?_)
    have er_13 := hw_13
    subst er_13
    have hP : va_P D vwCl (wX10 q10 cI cJ cB st_10 kept_10 undoable_10 newest_10 tape_10 taped_10 marks_10 order_10 reach_10 heapOf_10 rows_10 x_10 overs_10 costs_10 ways_10 digits_10 beaten_10 walks_10) H := hP.sub (ws' := (wX10 q10 cI cJ cB st_10 kept_10 undoable_10 newest_10 tape_10 taped_10 marks_10 order_10 reach_10 heapOf_10 rows_10 x_10 overs_10 costs_10 ways_10 digits_10 beaten_10 walks_10)) [0, 1, 2, 3, 4, 5, 6, 7, 8, 9, 10, 11, 12, 13, 14, 15] rfl
    have hD : va_D A (wX10 q10 cI cJ cB st_10 kept_10 undoable_10 newest_10 tape_10 taped_10 marks_10 order_10 reach_10 heapOf_10 rows_10 x_10 overs_10 costs_10 ways_10 digits_10 beaten_10 walks_10) := hD.sub (ws' := (wX10 q10 cI cJ cB st_10 kept_10 undoable_10 newest_10 tape_10 taped_10 marks_10 order_10 reach_10 heapOf_10 rows_10 x_10 overs_10 costs_10 ways_10 digits_10 beaten_10 walks_10)) [0, 1, 2, 3, 4, 5, 6, 7, 8, 9, 10, 11, 12, 13, 14, 15] (by decide) rfl
    refine lv_if_eq (tgt := 58) hx hb dX10_canMeet_16 (by decide) (fun c_16 => ?_) (fun c_16 => ?_)
    · skip
      have c_16 := k_b0 c_16
      refine lv_iconst (v := nI 0) hx hb dX10_canMeet_58 (by decide) ?_
      subst hQ; subst hAe
      exact W.zret (v := nI 0) (ty := .boolean) hx hb hr (by decide) (fun t ht _ => ⟨⟨nI 0, (), rfl, by first | exact k_if1 ⟨c_8, c_16, c_24, c_29, kIn_le (m := 99) (by decide) c_33 c_39, kIn_le (m := 99) (by decide) c_44 c_51⟩ | exact k_if0 (fun z => by obtain ⟨z1, z2, z3, z4, z5, z6⟩ := z; first | exact absurd z1 (by omega) | exact c_16 z2 | exact c_24 z3 | exact z4 c_29 | exact kIn_lo c_33 z5 | exact kIn_gt (m := 99) (by decide) c_39 z5 | exact kIn_lo c_44 z6 | exact kIn_gt (m := 99) (by decide) c_51 z6), by rw [ht]; exact hP, hD⟩, hS.F ht⟩) hS.2.2 dX10_canMeet_59
    · skip
      have c_16 := k_b1 c_16
      refine lv_aload_n hx hb dX10_canMeet_19 rfl (lv_at hl 0 rfl) ?_
      refine lv_iload_n hx hb dX10_canMeet_20 rfl (lv_at hl 2 rfl) ?_
      have hs_21 : kSplit (wX10 q10 cI cJ cB st_10 kept_10 undoable_10 newest_10 tape_10 taped_10 marks_10 order_10 reach_10 heapOf_10 rows_10 x_10 overs_10 costs_10 ways_10 digits_10 beaten_10 walks_10) (wX10 q10 cI cJ cB st_10 kept_10 undoable_10 newest_10 tape_10 taped_10 marks_10 order_10 reach_10 heapOf_10 rows_10 x_10 overs_10 costs_10 ways_10 digits_10 beaten_10 walks_10) ([] : va_W) [0, 1, 2, 3, 4, 5, 6, 7, 8, 9, 10, 11, 12, 13, 14, 15] [] := ⟨rfl, rfl, rfl, rfl, rfl, by decide⟩
      refine kc_i hP hD hS hA hs_21 (kV (As := [.int b]) (rest := []) hx hb hml hown hts hKW hP hD hs_21 (c_X10_isPlayer l D cI cJ cB q10 st_10 kept_10 undoable_10 newest_10 tape_10 taped_10 marks_10 order_10 reach_10 heapOf_10 rows_10 x_10 overs_10 costs_10 ways_10 digits_10 beaten_10 walks_10 n ml nx ks rr b (by first | assumption | omega) (by first | assumption | omega)) (cwV 1 hts gX10_canMeet_X10_isPlayer rfl rfl rfl (by decide +kernel) ⟨Nat.le_of_ble_eq_true rfl, Nat.le_of_ble_eq_true rfl⟩) 0 10 rfl rfl rfl rfl hl.1 rfl (Nat.le_of_ble_eq_true rfl) dX10_canMeet_21 ⟨Nat.zero_le _, Nat.zero_le _⟩) (fun r_21 u_21 H locs hw_21 hP hD hS => ?_)
      have er_21 := hw_21
      subst er_21
      have hP : va_P D vwCl (wX10 q10 cI cJ cB st_10 kept_10 undoable_10 newest_10 tape_10 taped_10 marks_10 order_10 reach_10 heapOf_10 rows_10 x_10 overs_10 costs_10 ways_10 digits_10 beaten_10 walks_10) H := hP.sub (ws' := (wX10 q10 cI cJ cB st_10 kept_10 undoable_10 newest_10 tape_10 taped_10 marks_10 order_10 reach_10 heapOf_10 rows_10 x_10 overs_10 costs_10 ways_10 digits_10 beaten_10 walks_10)) [0, 1, 2, 3, 4, 5, 6, 7, 8, 9, 10, 11, 12, 13, 14, 15] rfl
      have hD : va_D A (wX10 q10 cI cJ cB st_10 kept_10 undoable_10 newest_10 tape_10 taped_10 marks_10 order_10 reach_10 heapOf_10 rows_10 x_10 overs_10 costs_10 ways_10 digits_10 beaten_10 walks_10) := hD.sub (ws' := (wX10 q10 cI cJ cB st_10 kept_10 undoable_10 newest_10 tape_10 taped_10 marks_10 order_10 reach_10 heapOf_10 rows_10 x_10 overs_10 costs_10 ways_10 digits_10 beaten_10 walks_10)) [0, 1, 2, 3, 4, 5, 6, 7, 8, 9, 10, 11, 12, 13, 14, 15] (by decide) rfl
      refine lv_if_eq (tgt := 58) hx hb dX10_canMeet_24 (by decide) (fun c_24 => ?_) (fun c_24 => ?_)
      · skip
        have c_24 := k_b0 c_24
        refine lv_iconst (v := nI 0) hx hb dX10_canMeet_58 (by decide) ?_
        subst hQ; subst hAe
        exact W.zret (v := nI 0) (ty := .boolean) hx hb hr (by decide) (fun t ht _ => ⟨⟨nI 0, (), rfl, by first | exact k_if1 ⟨c_8, c_16, c_24, c_29, kIn_le (m := 99) (by decide) c_33 c_39, kIn_le (m := 99) (by decide) c_44 c_51⟩ | exact k_if0 (fun z => by obtain ⟨z1, z2, z3, z4, z5, z6⟩ := z; first | exact absurd z1 (by omega) | exact c_16 z2 | exact c_24 z3 | exact z4 c_29 | exact kIn_lo c_33 z5 | exact kIn_gt (m := 99) (by decide) c_39 z5 | exact kIn_lo c_44 z6 | exact kIn_gt (m := 99) (by decide) c_51 z6), by rw [ht]; exact hP, hD⟩, hS.F ht⟩) hS.2.2 dX10_canMeet_59
      · skip
        have c_24 := k_b1 c_24
        refine lv_iload_n hx hb dX10_canMeet_27 rfl (lv_at hl 1 rfl) ?_
        refine lv_iload_n hx hb dX10_canMeet_28 rfl (lv_at hl 2 rfl) ?_
        refine lv_icmp_eq (tgt := 58) hx hb dX10_canMeet_29 (by decide) (fun c_29 => ?_) (fun c_29 => ?_)
        · skip
          refine lv_iconst (v := nI 0) hx hb dX10_canMeet_58 (by decide) ?_
          subst hQ; subst hAe
          exact W.zret (v := nI 0) (ty := .boolean) hx hb hr (by decide) (fun t ht _ => ⟨⟨nI 0, (), rfl, by first | exact k_if1 ⟨c_8, c_16, c_24, c_29, kIn_le (m := 99) (by decide) c_33 c_39, kIn_le (m := 99) (by decide) c_44 c_51⟩ | exact k_if0 (fun z => by obtain ⟨z1, z2, z3, z4, z5, z6⟩ := z; first | exact absurd z1 (by omega) | exact c_16 z2 | exact c_24 z3 | exact z4 c_29 | exact kIn_lo c_33 z5 | exact kIn_gt (m := 99) (by decide) c_39 z5 | exact kIn_lo c_44 z6 | exact kIn_gt (m := 99) (by decide) c_51 z6), by rw [ht]; exact hP, hD⟩, hS.F ht⟩) hS.2.2 dX10_canMeet_59
        · skip
          refine lv_iload_n hx hb dX10_canMeet_32 rfl (lv_at hl 3 rfl) ?_
          refine lv_if_lt (tgt := 58) hx hb dX10_canMeet_33 (by decide) (fun c_33 => ?_) (fun c_33 => ?_)
          · skip
            refine lv_iconst (v := nI 0) hx hb dX10_canMeet_58 (by decide) ?_
            subst hQ; subst hAe
            exact W.zret (v := nI 0) (ty := .boolean) hx hb hr (by decide) (fun t ht _ => ⟨⟨nI 0, (), rfl, by first | exact k_if1 ⟨c_8, c_16, c_24, c_29, kIn_le (m := 99) (by decide) c_33 c_39, kIn_le (m := 99) (by decide) c_44 c_51⟩ | exact k_if0 (fun z => by obtain ⟨z1, z2, z3, z4, z5, z6⟩ := z; first | exact absurd z1 (by omega) | exact c_16 z2 | exact c_24 z3 | exact z4 c_29 | exact kIn_lo c_33 z5 | exact kIn_gt (m := 99) (by decide) c_39 z5 | exact kIn_lo c_44 z6 | exact kIn_gt (m := 99) (by decide) c_51 z6), by rw [ht]; exact hP, hD⟩, hS.F ht⟩) hS.2.2 dX10_canMeet_59
          · skip
            refine lv_iload_n hx hb dX10_canMeet_36 rfl (lv_at hl 3 rfl) ?_
            refine lv_bipush (v := nI 99) hx hb dX10_canMeet_37 (by decide) ?_
            refine lv_icmp_gt (tgt := 58) hx hb dX10_canMeet_39 (by decide) (fun c_39 => ?_) (fun c_39 => ?_)
            · skip
              refine lv_iconst (v := nI 0) hx hb dX10_canMeet_58 (by decide) ?_
              subst hQ; subst hAe
              exact W.zret (v := nI 0) (ty := .boolean) hx hb hr (by decide) (fun t ht _ => ⟨⟨nI 0, (), rfl, by first | exact k_if1 ⟨c_8, c_16, c_24, c_29, kIn_le (m := 99) (by decide) c_33 c_39, kIn_le (m := 99) (by decide) c_44 c_51⟩ | exact k_if0 (fun z => by obtain ⟨z1, z2, z3, z4, z5, z6⟩ := z; first | exact absurd z1 (by omega) | exact c_16 z2 | exact c_24 z3 | exact z4 c_29 | exact kIn_lo c_33 z5 | exact kIn_gt (m := 99) (by decide) c_39 z5 | exact kIn_lo c_44 z6 | exact kIn_gt (m := 99) (by decide) c_51 z6), by rw [ht]; exact hP, hD⟩, hS.F ht⟩) hS.2.2 dX10_canMeet_59
            · skip
              refine lv_iload hx hb dX10_canMeet_42 (lv_at hl 4 rfl) ?_
              refine lv_if_lt (tgt := 58) hx hb dX10_canMeet_44 (by decide) (fun c_44 => ?_) (fun c_44 => ?_)
              · skip
                refine lv_iconst (v := nI 0) hx hb dX10_canMeet_58 (by decide) ?_
                subst hQ; subst hAe
                exact W.zret (v := nI 0) (ty := .boolean) hx hb hr (by decide) (fun t ht _ => ⟨⟨nI 0, (), rfl, by first | exact k_if1 ⟨c_8, c_16, c_24, c_29, kIn_le (m := 99) (by decide) c_33 c_39, kIn_le (m := 99) (by decide) c_44 c_51⟩ | exact k_if0 (fun z => by obtain ⟨z1, z2, z3, z4, z5, z6⟩ := z; first | exact absurd z1 (by omega) | exact c_16 z2 | exact c_24 z3 | exact z4 c_29 | exact kIn_lo c_33 z5 | exact kIn_gt (m := 99) (by decide) c_39 z5 | exact kIn_lo c_44 z6 | exact kIn_gt (m := 99) (by decide) c_51 z6), by rw [ht]; exact hP, hD⟩, hS.F ht⟩) hS.2.2 dX10_canMeet_59
              · skip
                refine lv_iload hx hb dX10_canMeet_47 (lv_at hl 4 rfl) ?_
                refine lv_bipush (v := nI 99) hx hb dX10_canMeet_49 (by decide) ?_
                refine lv_icmp_gt (tgt := 58) hx hb dX10_canMeet_51 (by decide) (fun c_51 => ?_) (fun c_51 => ?_)
                · skip
                  refine lv_iconst (v := nI 0) hx hb dX10_canMeet_58 (by decide) ?_
                  subst hQ; subst hAe
                  exact W.zret (v := nI 0) (ty := .boolean) hx hb hr (by decide) (fun t ht _ => ⟨⟨nI 0, (), rfl, by first | exact k_if1 ⟨c_8, c_16, c_24, c_29, kIn_le (m := 99) (by decide) c_33 c_39, kIn_le (m := 99) (by decide) c_44 c_51⟩ | exact k_if0 (fun z => by obtain ⟨z1, z2, z3, z4, z5, z6⟩ := z; first | exact absurd z1 (by omega) | exact c_16 z2 | exact c_24 z3 | exact z4 c_29 | exact kIn_lo c_33 z5 | exact kIn_gt (m := 99) (by decide) c_39 z5 | exact kIn_lo c_44 z6 | exact kIn_gt (m := 99) (by decide) c_51 z6), by rw [ht]; exact hP, hD⟩, hS.F ht⟩) hS.2.2 dX10_canMeet_59
                · skip
                  refine lv_iconst (v := nI 1) hx hb dX10_canMeet_54 (by decide) ?_
                  refine lv_goto (tgt := 59) hx hb dX10_canMeet_55 (by decide) ?_
                  subst hQ; subst hAe
                  exact W.zret (v := nI 1) (ty := .boolean) hx hb hr (by decide) (fun t ht _ => ⟨⟨nI 1, (), rfl, by first | exact k_if1 ⟨c_8, c_16, c_24, c_29, kIn_le (m := 99) (by decide) c_33 c_39, kIn_le (m := 99) (by decide) c_44 c_51⟩ | exact k_if0 (fun z => by obtain ⟨z1, z2, z3, z4, z5, z6⟩ := z; first | exact absurd z1 (by omega) | exact c_16 z2 | exact c_24 z3 | exact z4 c_29 | exact kIn_lo c_33 z5 | exact kIn_gt (m := 99) (by decide) c_39 z5 | exact kIn_lo c_44 z6 | exact kIn_gt (m := 99) (by decide) c_51 z6), by rw [ht]; exact hP, hD⟩, hS.F ht⟩) hS.2.2 dX10_canMeet_59
def rmX10_put : Room := { frames := 0, cells := 0, slots := 0, locals := 0 }
set_option maxHeartbeats 4000000 in
set_option maxRecDepth 100000 in
theorem c_X10_put (l : Launch) (D : va_G) (cI cJ cB : ClassId) (q10 : Nat → Nat) (st_10 : Nat → Int32) (kept_10 : Nat → Int32) (undoable_10 : Int32) (newest_10 : Int32) (tape_10 : Nat → Int32) (taped_10 : Int32) (marks_10 : Nat → Int32) (order_10 : Nat → Int32) (reach_10 : Nat → Int32) (heapOf_10 : Nat → Int32) (rows_10 : Nat → Int64) (x_10 : Nat → Int64) (overs_10 : Nat → Int32) (costs_10 : Nat → Int32) (ways_10 : Nat → Int32) (digits_10 : Nat → Int32) (beaten_10 : Nat → Int32) (walks_10 : Nat → Int32) (n : Nat) (ml : List Mt) (nx : List (Nat × Nat)) (ks : List Nat) (rr : Int32 × Int32 × Int32) (a : Int32) (b : Int32) (p2 : Int32) (q2 : Int32) (hR : RS st_10 n ml nx ks rr) (hV : VS n ml nx ks) (hm : ml.length < 120) : ∀ sz, Met l yX10_put wsX10_put rmX10_put (va_Pc [.ref (q10 0), .int a, .int b, .int p2, .int q2] (PW D (kT cI cJ cB) sz (wX10 q10 cI cJ cB st_10 kept_10 undoable_10 newest_10 tape_10 taped_10 marks_10 order_10 reach_10 heapOf_10 rows_10 x_10 overs_10 costs_10 ways_10 digits_10 beaten_10 walks_10))) (va_Qv (S := Unit) (fun _ => True) (QW D sz (wX10 q10 cI cJ cB st_10 kept_10 undoable_10 newest_10 tape_10 taped_10 marks_10 order_10 reach_10 heapOf_10 rows_10 x_10 overs_10 costs_10 ways_10 digits_10 beaten_10 walks_10) (fun _ => (wX10 q10 cI cJ cB (upd (upd (upd (upd (upd st_10 (11 + (4 * ml.length)) a) ((11 + (4 * ml.length)) + 1) b) ((11 + (4 * ml.length)) + 2) p2) ((11 + (4 * ml.length)) + 3) q2) 1 (nI (ml.length + 1))) kept_10 undoable_10 newest_10 tape_10 taped_10 marks_10 order_10 reach_10 heapOf_10 rows_10 x_10 overs_10 costs_10 ways_10 digits_10 beaten_10 walks_10))) (va_A (wX10 q10 cI cJ cB st_10 kept_10 undoable_10 newest_10 tape_10 taped_10 marks_10 order_10 reach_10 heapOf_10 rows_10 x_10 overs_10 costs_10 ways_10 digits_10 beaten_10 walks_10) sz)) 0 0 (va_A (wX10 q10 cI cJ cB st_10 kept_10 undoable_10 newest_10 tape_10 taped_10 marks_10 order_10 reach_10 heapOf_10 rows_10 x_10 overs_10 costs_10 ways_10 digits_10 beaten_10 walks_10) sz) := by
  intro sz
  refine Met.ofW (cc := cX10_put) (maxL := 6) (ret := none) (by decide) rfl ?_
  intro p e s m args below meth c s₁ B hml hv
  obtain ⟨hav, hsz, hP, hKW, hD0⟩ := hv
  have hx := B.exec
  have hb := B.bytes
  have hr := B.returns
  have hts := atoms_spec (ws := wsX10_put) B.pre
  have hown : s.vm.findClass RX10 = some m.cls := findClass_of_methodNamed B.named
  have hlocks := B.notSynchronized
  subst hsz
  have hD := hD0.self (sz := s.heap.size)
  obtain ⟨A, hAe⟩ : ∃ A : Nat → Prop, A = va_A (wX10 q10 cI cJ cB st_10 kept_10 undoable_10 newest_10 tape_10 taped_10 marks_10 order_10 reach_10 heapOf_10 rows_10 x_10 overs_10 costs_10 ways_10 digits_10 beaten_10 walks_10) s.heap.size := ⟨_, rfl⟩
  rw [← hAe] at hD
  have hA : ∀ q : Nat, s.heap.size ≤ q → A q := fun q h => by rw [hAe]; exact Or.inr h
  have hS : va_S A s.heap s.heap [] := va_S.rf
  refine k_gen (fun Q hQ => ?_)
  have hl := lv_entry ([.ref (q10 0), .int a, .int b, .int p2, .int q2]) (n := 6) (Nat.le_of_ble_eq_true rfl)
  refine k_entry hav (lg_entry_eq ..) ?_
  generalize (lg_sl ([.ref (q10 0), .int a, .int b, .int p2, .int q2]) ++ List.replicate (6 - (lg_sl ([.ref (q10 0), .int a, .int b, .int p2, .int q2])).length) Slot.unset).toArray = ls at hl ⊢
  have hl : lv_has ls 6 [(0, .ref (q10 0)), (1, .int a), (2, .int b), (3, .int p2), (4, .int q2)] := hl
  have hu_10 : ∀ w ∈ u_ws RX10 TX10 18, w ∈ wsX10_put := by decide +kernel
  have hf_7 : Cond.fieldLink RX10 7 "MeetingRanksModel" "st" "[I" ∈ wsX10_put := by decide +kernel
  have hn1 := hV.1
  have hn10 := hV.2.1
  have hm120 := hV.2.2.1
  have hx40 := hV.2.2.2.2.1
  have hk4 := hV.2.2.2.2.2.2.1
  refine lv_bipush (v := nI 11) hx hb dX10_put_0 (by decide) ?_
  refine lv_iconst (v := nI 4) hx hb dX10_put_2 (by decide) ?_
  refine lv_aload_n hx hb dX10_put_3 rfl (lv_at hl 0 rfl) ?_
  refine k_get (ci := 10) (v := .ref (q10 1)) (C := RX10) (Tb := TX10) (N := 18) hx hb hts hu_10 hown hKW hP 0 rfl rfl 0 (by decide) hf_7 rfl rfl dX10_put_4 ?_
  refine lv_iconst (v := nI 1) hx hb dX10_put_7 (by decide) ?_
  refine k_iald (n := 600) (i := 1) hx hb hKW hP 1 0 rfl rfl (by omega) (by omega) dX10_put_8 ?_
  refine k_top (y := nI ml.length) (hR.2.1) ?_
  refine k_imul hx hb dX10_put_9 ?_
  refine k_iadd hx hb dX10_put_10 ?_
  refine lv_istore (lv' := [(5, .int (nI (11 + (4 * ml.length)))), (0, .ref (q10 0)), (1, .int a), (2, .int b), (3, .int p2), (4, .int q2)]) hx hb dX10_put_11 hl (by decide) rfl (fun ls hl => ?_)
  refine lv_aload_n hx hb dX10_put_13 rfl (lv_at hl 1 rfl) ?_
  refine k_get (ci := 10) (v := .ref (q10 1)) (C := RX10) (Tb := TX10) (N := 18) hx hb hts hu_10 hown hKW hP 0 rfl rfl 0 (by decide) hf_7 rfl rfl dX10_put_14 ?_
  refine lv_iload hx hb dX10_put_17 (lv_at hl 0 rfl) ?_
  refine lv_iload_n hx hb dX10_put_19 rfl (lv_at hl 2 rfl) ?_
  refine k_iast (n := 600) (i := 11 + (4 * ml.length)) (x := a) (w' := (wX10 q10 cI cJ cB (upd st_10 (11 + (4 * ml.length)) a) kept_10 undoable_10 newest_10 tape_10 taped_10 marks_10 order_10 reach_10 heapOf_10 rows_10 x_10 overs_10 costs_10 ways_10 digits_10 beaten_10 walks_10)) hx hb hKW hP hD hS 1 0 rfl rfl (by omega) (by omega) dX10_put_20 rfl (fun H locs hP hD hS => ?_)
  refine lv_aload_n hx hb dX10_put_21 rfl (lv_at hl 1 rfl) ?_
  refine k_get (ci := 10) (v := .ref (q10 1)) (C := RX10) (Tb := TX10) (N := 18) hx hb hts hu_10 hown hKW hP 0 rfl rfl 0 (by decide) hf_7 rfl rfl dX10_put_22 ?_
  refine lv_iload hx hb dX10_put_25 (lv_at hl 0 rfl) ?_
  refine lv_iconst (v := nI 1) hx hb dX10_put_27 (by decide) ?_
  refine k_iadd hx hb dX10_put_28 ?_
  refine lv_iload_n hx hb dX10_put_29 rfl (lv_at hl 3 rfl) ?_
  refine k_iast (n := 600) (i := (11 + (4 * ml.length)) + 1) (x := b) (w' := (wX10 q10 cI cJ cB (upd (upd st_10 (11 + (4 * ml.length)) a) ((11 + (4 * ml.length)) + 1) b) kept_10 undoable_10 newest_10 tape_10 taped_10 marks_10 order_10 reach_10 heapOf_10 rows_10 x_10 overs_10 costs_10 ways_10 digits_10 beaten_10 walks_10)) hx hb hKW hP hD hS 1 0 rfl rfl (by omega) (by omega) dX10_put_30 rfl (fun H locs hP hD hS => ?_)
  refine lv_aload_n hx hb dX10_put_31 rfl (lv_at hl 1 rfl) ?_
  refine k_get (ci := 10) (v := .ref (q10 1)) (C := RX10) (Tb := TX10) (N := 18) hx hb hts hu_10 hown hKW hP 0 rfl rfl 0 (by decide) hf_7 rfl rfl dX10_put_32 ?_
  refine lv_iload hx hb dX10_put_35 (lv_at hl 0 rfl) ?_
  refine lv_iconst (v := nI 2) hx hb dX10_put_37 (by decide) ?_
  refine k_iadd hx hb dX10_put_38 ?_
  refine lv_iload_n hx hb dX10_put_39 rfl (lv_at hl 4 rfl) ?_
  refine k_iast (n := 600) (i := (11 + (4 * ml.length)) + 2) (x := p2) (w' := (wX10 q10 cI cJ cB (upd (upd (upd st_10 (11 + (4 * ml.length)) a) ((11 + (4 * ml.length)) + 1) b) ((11 + (4 * ml.length)) + 2) p2) kept_10 undoable_10 newest_10 tape_10 taped_10 marks_10 order_10 reach_10 heapOf_10 rows_10 x_10 overs_10 costs_10 ways_10 digits_10 beaten_10 walks_10)) hx hb hKW hP hD hS 1 0 rfl rfl (by omega) (by omega) dX10_put_40 rfl (fun H locs hP hD hS => ?_)
  refine lv_aload_n hx hb dX10_put_41 rfl (lv_at hl 1 rfl) ?_
  refine k_get (ci := 10) (v := .ref (q10 1)) (C := RX10) (Tb := TX10) (N := 18) hx hb hts hu_10 hown hKW hP 0 rfl rfl 0 (by decide) hf_7 rfl rfl dX10_put_42 ?_
  refine lv_iload hx hb dX10_put_45 (lv_at hl 0 rfl) ?_
  refine lv_iconst (v := nI 3) hx hb dX10_put_47 (by decide) ?_
  refine k_iadd hx hb dX10_put_48 ?_
  refine lv_iload hx hb dX10_put_49 (lv_at hl 5 rfl) ?_
  refine k_iast (n := 600) (i := (11 + (4 * ml.length)) + 3) (x := q2) (w' := (wX10 q10 cI cJ cB (upd (upd (upd (upd st_10 (11 + (4 * ml.length)) a) ((11 + (4 * ml.length)) + 1) b) ((11 + (4 * ml.length)) + 2) p2) ((11 + (4 * ml.length)) + 3) q2) kept_10 undoable_10 newest_10 tape_10 taped_10 marks_10 order_10 reach_10 heapOf_10 rows_10 x_10 overs_10 costs_10 ways_10 digits_10 beaten_10 walks_10)) hx hb hKW hP hD hS 1 0 rfl rfl (by omega) (by omega) dX10_put_51 rfl (fun H locs hP hD hS => ?_)
  refine lv_aload_n hx hb dX10_put_52 rfl (lv_at hl 1 rfl) ?_
  refine k_get (ci := 10) (v := .ref (q10 1)) (C := RX10) (Tb := TX10) (N := 18) hx hb hts hu_10 hown hKW hP 0 rfl rfl 0 (by decide) hf_7 rfl rfl dX10_put_53 ?_
  refine lv_iconst (v := nI 1) hx hb dX10_put_56 (by decide) ?_
  refine lv_dup2_11 hx hb dX10_put_57 rfl rfl ?_
  refine k_iald (n := 600) (i := 1) hx hb hKW hP 1 0 rfl rfl (by omega) (by omega) dX10_put_58 ?_
  refine k_top (y := nI ml.length) (by simp (disch := omega) only [pk_us, pk_un]; exact hR.2.1) ?_
  refine lv_iconst (v := nI 1) hx hb dX10_put_59 (by decide) ?_
  refine k_iadd hx hb dX10_put_60 ?_
  refine k_iast (n := 600) (i := 1) (x := nI (ml.length + 1)) (w' := (wX10 q10 cI cJ cB (upd (upd (upd (upd (upd st_10 (11 + (4 * ml.length)) a) ((11 + (4 * ml.length)) + 1) b) ((11 + (4 * ml.length)) + 2) p2) ((11 + (4 * ml.length)) + 3) q2) 1 (nI (ml.length + 1))) kept_10 undoable_10 newest_10 tape_10 taped_10 marks_10 order_10 reach_10 heapOf_10 rows_10 x_10 overs_10 costs_10 ways_10 digits_10 beaten_10 walks_10)) hx hb hKW hP hD hS 1 0 rfl rfl (by omega) (by omega) dX10_put_61 rfl (fun H locs hP hD hS => ?_)
  subst hQ; subst hAe
  exact W.vret hx hb hr (fun t ht _ => ⟨⟨(), rfl, trivial, by rw [ht]; exact hP, hD⟩, hS.F ht⟩) hS.2.2 dX10_put_62
def rmX10_meet : Room := { frames := 3, cells := 0, slots := 0, locals := 65 }
set_option maxHeartbeats 4000000 in
set_option maxRecDepth 100000 in
theorem c_X10_meet (l : Launch) (D : va_G) (cI cJ cB : ClassId) (q10 : Nat → Nat) (st_10 : Nat → Int32) (kept_10 : Nat → Int32) (tape_10 : Nat → Int32) (taped_10 : Int32) (marks_10 : Nat → Int32) (order_10 : Nat → Int32) (reach_10 : Nat → Int32) (heapOf_10 : Nat → Int32) (rows_10 : Nat → Int64) (x_10 : Nat → Int64) (overs_10 : Nat → Int32) (costs_10 : Nat → Int32) (ways_10 : Nat → Int32) (digits_10 : Nat → Int32) (beaten_10 : Nat → Int32) (walks_10 : Nat → Int32) (n : Nat) (ml : List Mt) (nx : List (Nat × Nat)) (ks : List Nat) (rr : Int32 × Int32 × Int32) (w : Nat) (u : Nat) (a : Int32) (b : Int32) (p2 : Int32) (q2 : Int32) (hR : RS st_10 n ml nx ks rr) (hV : VS n ml nx ks) (hw40 : w < 40) (hu40 : u ≤ 40) : ∀ sz, Met l yX10_meet wsX10_meet rmX10_meet (va_Pc [.ref (q10 0), .int a, .int b, .int p2, .int q2] (PW D (kT cI cJ cB) sz (wX10 q10 cI cJ cB st_10 kept_10 (nI u) (nI w) tape_10 taped_10 marks_10 order_10 reach_10 heapOf_10 rows_10 x_10 overs_10 costs_10 ways_10 digits_10 beaten_10 walks_10))) (va_Qi (S := (Nat → Int32) × (Nat → Int32) × Int32 × Int32) (fun r uu => match uu with | (st_10', kept_10', undoable_10', newest_10') => (meetOK n ml a b p2 q2 → r = nI (ml.length + 1) ∧ RS st_10' n (ml ++ [mkM a b p2 q2]) nx ks rr ∧ ActD st_10 kept_10 w u kept_10' newest_10' undoable_10') ∧ (¬ meetOK n ml a b p2 q2 → r = -1 ∧ NoD st_10 kept_10 w u st_10' kept_10' newest_10' undoable_10')) (QW D sz (wX10 q10 cI cJ cB st_10 kept_10 (nI u) (nI w) tape_10 taped_10 marks_10 order_10 reach_10 heapOf_10 rows_10 x_10 overs_10 costs_10 ways_10 digits_10 beaten_10 walks_10) (fun uu => match uu with | (st_10', kept_10', undoable_10', newest_10') => (wX10 q10 cI cJ cB st_10' kept_10' undoable_10' newest_10' tape_10 taped_10 marks_10 order_10 reach_10 heapOf_10 rows_10 x_10 overs_10 costs_10 ways_10 digits_10 beaten_10 walks_10))) (va_A (wX10 q10 cI cJ cB st_10 kept_10 (nI u) (nI w) tape_10 taped_10 marks_10 order_10 reach_10 heapOf_10 rows_10 x_10 overs_10 costs_10 ways_10 digits_10 beaten_10 walks_10) sz)) 0 0 (va_A (wX10 q10 cI cJ cB st_10 kept_10 (nI u) (nI w) tape_10 taped_10 marks_10 order_10 reach_10 heapOf_10 rows_10 x_10 overs_10 costs_10 ways_10 digits_10 beaten_10 walks_10) sz) := by
  intro sz
  refine Met.ofW (cc := cX10_meet) (maxL := 5) (ret := (some .int)) (by decide) rfl ?_
  intro p e s m args below meth c s₁ B hml hv
  obtain ⟨hav, hsz, hP, hKW, hD0⟩ := hv
  have hx := B.exec
  have hb := B.bytes
  have hr := B.returns
  have hts := atoms_spec (ws := wsX10_meet) B.pre
  have hown : s.vm.findClass RX10 = some m.cls := findClass_of_methodNamed B.named
  have hlocks := B.notSynchronized
  subst hsz
  have hD := hD0.self (sz := s.heap.size)
  obtain ⟨A, hAe⟩ : ∃ A : Nat → Prop, A = va_A (wX10 q10 cI cJ cB st_10 kept_10 (nI u) (nI w) tape_10 taped_10 marks_10 order_10 reach_10 heapOf_10 rows_10 x_10 overs_10 costs_10 ways_10 digits_10 beaten_10 walks_10) s.heap.size := ⟨_, rfl⟩
  rw [← hAe] at hD
  have hA : ∀ q : Nat, s.heap.size ≤ q → A q := fun q h => by rw [hAe]; exact Or.inr h
  have hS : va_S A s.heap s.heap [] := va_S.rf
  refine k_gen (fun Q hQ => ?_)
  have hl := lv_entry ([.ref (q10 0), .int a, .int b, .int p2, .int q2]) (n := 5) (Nat.le_of_ble_eq_true rfl)
  refine k_entry hav (lg_entry_eq ..) ?_
  generalize (lg_sl ([.ref (q10 0), .int a, .int b, .int p2, .int q2]) ++ List.replicate (5 - (lg_sl ([.ref (q10 0), .int a, .int b, .int p2, .int q2])).length) Slot.unset).toArray = ls at hl ⊢
  have hl : lv_has ls 5 [(0, .ref (q10 0)), (1, .int a), (2, .int b), (3, .int p2), (4, .int q2)] := hl
  have hu_10 : ∀ w ∈ u_ws RX10 TX10 18, w ∈ wsX10_meet := by decide +kernel
  have hf_7 : Cond.fieldLink RX10 7 "MeetingRanksModel" "st" "[I" ∈ wsX10_meet := by decide +kernel
  have hn1 := hV.1
  have hn10 := hV.2.1
  have hm120 := hV.2.2.1
  have hx40 := hV.2.2.2.2.1
  have hk4 := hV.2.2.2.2.2.2.1
  refine lv_aload_n hx hb dX10_meet_0 rfl (lv_at hl 0 rfl) ?_
  refine lv_iload_n hx hb dX10_meet_1 rfl (lv_at hl 1 rfl) ?_
  refine lv_iload_n hx hb dX10_meet_2 rfl (lv_at hl 2 rfl) ?_
  refine lv_iload_n hx hb dX10_meet_3 rfl (lv_at hl 3 rfl) ?_
  refine lv_iload hx hb dX10_meet_4 (lv_at hl 4 rfl) ?_
  have hs_6 : kSplit (wX10 q10 cI cJ cB st_10 kept_10 (nI u) (nI w) tape_10 taped_10 marks_10 order_10 reach_10 heapOf_10 rows_10 x_10 overs_10 costs_10 ways_10 digits_10 beaten_10 walks_10) (wX10 q10 cI cJ cB st_10 kept_10 (nI u) (nI w) tape_10 taped_10 marks_10 order_10 reach_10 heapOf_10 rows_10 x_10 overs_10 costs_10 ways_10 digits_10 beaten_10 walks_10) ([] : va_W) [0, 1, 2, 3, 4, 5, 6, 7, 8, 9, 10, 11, 12, 13, 14, 15] [] := ⟨rfl, rfl, rfl, rfl, rfl, by decide⟩
  refine kc_i hP hD hS hA hs_6 (kV (As := [.int a, .int b, .int p2, .int q2]) (rest := []) hx hb hml hown hts hKW hP hD hs_6 (c_X10_canMeet l D cI cJ cB q10 st_10 kept_10 (nI u) (nI w) tape_10 taped_10 marks_10 order_10 reach_10 heapOf_10 rows_10 x_10 overs_10 costs_10 ways_10 digits_10 beaten_10 walks_10 n ml nx ks rr a b p2 q2 (by first | assumption | omega) (by first | assumption | omega)) (cwV 4 hts gX10_meet_X10_canMeet rfl rfl rfl (by decide +kernel) ⟨Nat.le_of_ble_eq_true rfl, Nat.le_of_ble_eq_true rfl⟩) 0 10 rfl rfl rfl rfl hl.1 rfl (Nat.le_of_ble_eq_true rfl) dX10_meet_6 ⟨Nat.zero_le _, Nat.zero_le _⟩) (fun r_6 u_6 H locs hw_6 hP hD hS => ?_)
  have er_6 := hw_6
  subst er_6
  have hP : va_P D vwCl (wX10 q10 cI cJ cB st_10 kept_10 (nI u) (nI w) tape_10 taped_10 marks_10 order_10 reach_10 heapOf_10 rows_10 x_10 overs_10 costs_10 ways_10 digits_10 beaten_10 walks_10) H := hP.sub (ws' := (wX10 q10 cI cJ cB st_10 kept_10 (nI u) (nI w) tape_10 taped_10 marks_10 order_10 reach_10 heapOf_10 rows_10 x_10 overs_10 costs_10 ways_10 digits_10 beaten_10 walks_10)) [0, 1, 2, 3, 4, 5, 6, 7, 8, 9, 10, 11, 12, 13, 14, 15] rfl
  have hD : va_D A (wX10 q10 cI cJ cB st_10 kept_10 (nI u) (nI w) tape_10 taped_10 marks_10 order_10 reach_10 heapOf_10 rows_10 x_10 overs_10 costs_10 ways_10 digits_10 beaten_10 walks_10) := hD.sub (ws' := (wX10 q10 cI cJ cB st_10 kept_10 (nI u) (nI w) tape_10 taped_10 marks_10 order_10 reach_10 heapOf_10 rows_10 x_10 overs_10 costs_10 ways_10 digits_10 beaten_10 walks_10)) [0, 1, 2, 3, 4, 5, 6, 7, 8, 9, 10, 11, 12, 13, 14, 15] (by decide) rfl
  refine lv_if_ne (tgt := 14) hx hb dX10_meet_9 (by decide) (fun c_9 => ?_) (fun c_9 => ?_)
  · skip
    have c_9 := k_b1 c_9
    refine lv_aload_n hx hb dX10_meet_14 rfl (lv_at hl 0 rfl) ?_
    have hs_15 : kSplit (wX10 q10 cI cJ cB st_10 kept_10 (nI u) (nI w) tape_10 taped_10 marks_10 order_10 reach_10 heapOf_10 rows_10 x_10 overs_10 costs_10 ways_10 digits_10 beaten_10 walks_10) (wX10 q10 cI cJ cB st_10 kept_10 (nI u) (nI w) tape_10 taped_10 marks_10 order_10 reach_10 heapOf_10 rows_10 x_10 overs_10 costs_10 ways_10 digits_10 beaten_10 walks_10) ([] : va_W) [0, 1, 2, 3, 4, 5, 6, 7, 8, 9, 10, 11, 12, 13, 14, 15] [] := ⟨rfl, rfl, rfl, rfl, rfl, by decide⟩
    refine kc_v hP hD hS hA hs_15 (kV (As := []) (rest := []) hx hb hml hown hts hKW hP hD hs_15 (c_X10_act l D cI cJ cB q10 st_10 kept_10 tape_10 taped_10 marks_10 order_10 reach_10 heapOf_10 rows_10 x_10 overs_10 costs_10 ways_10 digits_10 beaten_10 walks_10 w u (by first | assumption | omega) (by first | assumption | omega)) (cwV 0 hts gX10_meet_X10_act rfl rfl rfl (by decide +kernel) ⟨Nat.le_of_ble_eq_true rfl, Nat.le_of_ble_eq_true rfl⟩) 0 10 rfl rfl rfl rfl hl.1 rfl (Nat.le_of_ble_eq_true rfl) dX10_meet_15 ⟨Nat.zero_le _, Nat.zero_le _⟩) (fun u_15 H locs hw_15 hP hD hS => ?_)
    obtain ⟨kept_10_15, undoable_10_15, newest_10_15⟩ := u_15
    obtain ⟨e_kept_10_15, e_undoable_10_15, e_newest_10_15⟩ := hw_15
    subst e_kept_10_15 e_undoable_10_15 e_newest_10_15
    have hP : va_P D vwCl (wX10 q10 cI cJ cB st_10 (fb_put kept_10 st_10 (600 * ((w + 1) % 40)) 600) (nI (if u < 40 then u + 1 else u)) (nI ((w + 1) % 40)) tape_10 taped_10 marks_10 order_10 reach_10 heapOf_10 rows_10 x_10 overs_10 costs_10 ways_10 digits_10 beaten_10 walks_10) H := hP.sub (ws' := (wX10 q10 cI cJ cB st_10 (fb_put kept_10 st_10 (600 * ((w + 1) % 40)) 600) (nI (if u < 40 then u + 1 else u)) (nI ((w + 1) % 40)) tape_10 taped_10 marks_10 order_10 reach_10 heapOf_10 rows_10 x_10 overs_10 costs_10 ways_10 digits_10 beaten_10 walks_10)) [0, 1, 2, 3, 4, 5, 6, 7, 8, 9, 10, 11, 12, 13, 14, 15] rfl
    have hD : va_D A (wX10 q10 cI cJ cB st_10 (fb_put kept_10 st_10 (600 * ((w + 1) % 40)) 600) (nI (if u < 40 then u + 1 else u)) (nI ((w + 1) % 40)) tape_10 taped_10 marks_10 order_10 reach_10 heapOf_10 rows_10 x_10 overs_10 costs_10 ways_10 digits_10 beaten_10 walks_10) := hD.sub (ws' := (wX10 q10 cI cJ cB st_10 (fb_put kept_10 st_10 (600 * ((w + 1) % 40)) 600) (nI (if u < 40 then u + 1 else u)) (nI ((w + 1) % 40)) tape_10 taped_10 marks_10 order_10 reach_10 heapOf_10 rows_10 x_10 overs_10 costs_10 ways_10 digits_10 beaten_10 walks_10)) [0, 1, 2, 3, 4, 5, 6, 7, 8, 9, 10, 11, 12, 13, 14, 15] (by decide) rfl
    refine lv_aload_n hx hb dX10_meet_18 rfl (lv_at hl 0 rfl) ?_
    refine lv_iload_n hx hb dX10_meet_19 rfl (lv_at hl 1 rfl) ?_
    refine lv_iload_n hx hb dX10_meet_20 rfl (lv_at hl 2 rfl) ?_
    refine lv_iload_n hx hb dX10_meet_21 rfl (lv_at hl 3 rfl) ?_
    refine lv_iload hx hb dX10_meet_22 (lv_at hl 4 rfl) ?_
    have hs_24 : kSplit (wX10 q10 cI cJ cB st_10 (fb_put kept_10 st_10 (600 * ((w + 1) % 40)) 600) (nI (if u < 40 then u + 1 else u)) (nI ((w + 1) % 40)) tape_10 taped_10 marks_10 order_10 reach_10 heapOf_10 rows_10 x_10 overs_10 costs_10 ways_10 digits_10 beaten_10 walks_10) (wX10 q10 cI cJ cB st_10 (fb_put kept_10 st_10 (600 * ((w + 1) % 40)) 600) (nI (if u < 40 then u + 1 else u)) (nI ((w + 1) % 40)) tape_10 taped_10 marks_10 order_10 reach_10 heapOf_10 rows_10 x_10 overs_10 costs_10 ways_10 digits_10 beaten_10 walks_10) ([] : va_W) [0, 1, 2, 3, 4, 5, 6, 7, 8, 9, 10, 11, 12, 13, 14, 15] [] := ⟨rfl, rfl, rfl, rfl, rfl, by decide⟩
    refine kc_v hP hD hS hA hs_24 (kV (As := [.int a, .int b, .int p2, .int q2]) (rest := []) hx hb hml hown hts hKW hP hD hs_24 (c_X10_put l D cI cJ cB q10 st_10 (fb_put kept_10 st_10 (600 * ((w + 1) % 40)) 600) (nI (if u < 40 then u + 1 else u)) (nI ((w + 1) % 40)) tape_10 taped_10 marks_10 order_10 reach_10 heapOf_10 rows_10 x_10 overs_10 costs_10 ways_10 digits_10 beaten_10 walks_10 n ml nx ks rr a b p2 q2 (by first | assumption | omega) (by first | assumption | omega) c_9.1) (cwV 4 hts gX10_meet_X10_put rfl rfl rfl (by decide +kernel) ⟨Nat.le_of_ble_eq_true rfl, Nat.le_of_ble_eq_true rfl⟩) 0 10 rfl rfl rfl rfl hl.1 rfl (Nat.le_of_ble_eq_true rfl) dX10_meet_24 ⟨Nat.zero_le _, Nat.zero_le _⟩) (fun u_24 H locs hw_24 hP hD hS => ?_)
    have hP : va_P D vwCl (wX10 q10 cI cJ cB (upd (upd (upd (upd (upd st_10 (11 + (4 * ml.length)) a) ((11 + (4 * ml.length)) + 1) b) ((11 + (4 * ml.length)) + 2) p2) ((11 + (4 * ml.length)) + 3) q2) 1 (nI (ml.length + 1))) (fb_put kept_10 st_10 (600 * ((w + 1) % 40)) 600) (nI (if u < 40 then u + 1 else u)) (nI ((w + 1) % 40)) tape_10 taped_10 marks_10 order_10 reach_10 heapOf_10 rows_10 x_10 overs_10 costs_10 ways_10 digits_10 beaten_10 walks_10) H := hP.sub (ws' := (wX10 q10 cI cJ cB (upd (upd (upd (upd (upd st_10 (11 + (4 * ml.length)) a) ((11 + (4 * ml.length)) + 1) b) ((11 + (4 * ml.length)) + 2) p2) ((11 + (4 * ml.length)) + 3) q2) 1 (nI (ml.length + 1))) (fb_put kept_10 st_10 (600 * ((w + 1) % 40)) 600) (nI (if u < 40 then u + 1 else u)) (nI ((w + 1) % 40)) tape_10 taped_10 marks_10 order_10 reach_10 heapOf_10 rows_10 x_10 overs_10 costs_10 ways_10 digits_10 beaten_10 walks_10)) [0, 1, 2, 3, 4, 5, 6, 7, 8, 9, 10, 11, 12, 13, 14, 15] rfl
    have hD : va_D A (wX10 q10 cI cJ cB (upd (upd (upd (upd (upd st_10 (11 + (4 * ml.length)) a) ((11 + (4 * ml.length)) + 1) b) ((11 + (4 * ml.length)) + 2) p2) ((11 + (4 * ml.length)) + 3) q2) 1 (nI (ml.length + 1))) (fb_put kept_10 st_10 (600 * ((w + 1) % 40)) 600) (nI (if u < 40 then u + 1 else u)) (nI ((w + 1) % 40)) tape_10 taped_10 marks_10 order_10 reach_10 heapOf_10 rows_10 x_10 overs_10 costs_10 ways_10 digits_10 beaten_10 walks_10) := hD.sub (ws' := (wX10 q10 cI cJ cB (upd (upd (upd (upd (upd st_10 (11 + (4 * ml.length)) a) ((11 + (4 * ml.length)) + 1) b) ((11 + (4 * ml.length)) + 2) p2) ((11 + (4 * ml.length)) + 3) q2) 1 (nI (ml.length + 1))) (fb_put kept_10 st_10 (600 * ((w + 1) % 40)) 600) (nI (if u < 40 then u + 1 else u)) (nI ((w + 1) % 40)) tape_10 taped_10 marks_10 order_10 reach_10 heapOf_10 rows_10 x_10 overs_10 costs_10 ways_10 digits_10 beaten_10 walks_10)) [0, 1, 2, 3, 4, 5, 6, 7, 8, 9, 10, 11, 12, 13, 14, 15] (by decide) rfl
    refine lv_aload_n hx hb dX10_meet_27 rfl (lv_at hl 0 rfl) ?_
    refine k_get (ci := 10) (v := .ref (q10 1)) (C := RX10) (Tb := TX10) (N := 18) hx hb hts hu_10 hown hKW hP 0 rfl rfl 0 (by decide) hf_7 rfl rfl dX10_meet_28 ?_
    refine lv_iconst (v := nI 1) hx hb dX10_meet_31 (by decide) ?_
    refine k_iald (n := 600) (i := 1) hx hb hKW hP 1 0 rfl rfl (by omega) (by omega) dX10_meet_32 ?_
    refine k_top (y := nI (ml.length + 1)) (pk_us) ?_
    subst hQ; subst hAe
    exact W.iret (v := nI (ml.length + 1)) hx hb hr (fun t ht _ => ⟨⟨nI (ml.length + 1), (upd (upd (upd (upd (upd st_10 (11 + (4 * ml.length)) a) ((11 + (4 * ml.length)) + 1) b) ((11 + (4 * ml.length)) + 2) p2) ((11 + (4 * ml.length)) + 3) q2) 1 (nI (ml.length + 1)), fb_put kept_10 st_10 (600 * ((w + 1) % 40)) 600, nI (if u < 40 then u + 1 else u), nI ((w + 1) % 40)), rfl, ⟨fun _ => ⟨rfl, RS.meet hR hV c_9, ⟨rfl, rfl, rfl⟩⟩, fun h => absurd c_9 h⟩, by rw [ht]; exact hP, hD⟩, hS.F ht⟩) hS.2.2 dX10_meet_33
  · skip
    have c_9 := k_b0 c_9
    refine lv_iconst (v := (-1)) hx hb dX10_meet_12 (by decide) ?_
    subst hQ; subst hAe
    exact W.iret (v := (-1)) hx hb hr (fun t ht _ => ⟨⟨(-1), (st_10, kept_10, nI u, nI w), rfl, ⟨fun h => absurd h c_9, fun _ => ⟨rfl, ⟨rfl, rfl, rfl, rfl⟩⟩⟩, by rw [ht]; exact hP, hD⟩, hS.F ht⟩) hS.2.2 dX10_meet_13
def rmX10_meeting : Room := { frames := 0, cells := 0, slots := 0, locals := 0 }
set_option maxHeartbeats 4000000 in
set_option maxRecDepth 100000 in
theorem c_X10_meeting (l : Launch) (D : va_G) (cI cJ cB : ClassId) (q10 : Nat → Nat) (st_10 : Nat → Int32) (kept_10 : Nat → Int32) (undoable_10 : Int32) (newest_10 : Int32) (tape_10 : Nat → Int32) (taped_10 : Int32) (marks_10 : Nat → Int32) (order_10 : Nat → Int32) (reach_10 : Nat → Int32) (heapOf_10 : Nat → Int32) (rows_10 : Nat → Int64) (x_10 : Nat → Int64) (overs_10 : Nat → Int32) (costs_10 : Nat → Int32) (ways_10 : Nat → Int32) (digits_10 : Nat → Int32) (beaten_10 : Nat → Int32) (walks_10 : Nat → Int32) (n : Nat) (ml : List Mt) (nx : List (Nat × Nat)) (ks : List Nat) (rr : Int32 × Int32 × Int32) (k : Int32) (what : Int32) (hR : RS st_10 n ml nx ks rr) (hV : VS n ml nx ks) : ∀ sz, Met l yX10_meeting wsX10_meeting rmX10_meeting (va_Pc [.ref (q10 0), .int k, .int what] (PW D (kT cI cJ cB) sz (wX10 q10 cI cJ cB st_10 kept_10 undoable_10 newest_10 tape_10 taped_10 marks_10 order_10 reach_10 heapOf_10 rows_10 x_10 overs_10 costs_10 ways_10 digits_10 beaten_10 walks_10))) (va_Qi (S := Unit) (fun r _ => r = if kIn k ml.length ∧ kIn what 4 then st_10 (11 + 4 * k.toInt.toNat + what.toInt.toNat) else -1) (QW D sz (wX10 q10 cI cJ cB st_10 kept_10 undoable_10 newest_10 tape_10 taped_10 marks_10 order_10 reach_10 heapOf_10 rows_10 x_10 overs_10 costs_10 ways_10 digits_10 beaten_10 walks_10) (fun _ => (wX10 q10 cI cJ cB st_10 kept_10 undoable_10 newest_10 tape_10 taped_10 marks_10 order_10 reach_10 heapOf_10 rows_10 x_10 overs_10 costs_10 ways_10 digits_10 beaten_10 walks_10))) (va_A (wX10 q10 cI cJ cB st_10 kept_10 undoable_10 newest_10 tape_10 taped_10 marks_10 order_10 reach_10 heapOf_10 rows_10 x_10 overs_10 costs_10 ways_10 digits_10 beaten_10 walks_10) sz)) 0 0 (va_A (wX10 q10 cI cJ cB st_10 kept_10 undoable_10 newest_10 tape_10 taped_10 marks_10 order_10 reach_10 heapOf_10 rows_10 x_10 overs_10 costs_10 ways_10 digits_10 beaten_10 walks_10) sz) := by
  intro sz
  refine Met.ofW (cc := cX10_meeting) (maxL := 3) (ret := (some .int)) (by decide) rfl ?_
  intro p e s m args below meth c s₁ B hml hv
  obtain ⟨hav, hsz, hP, hKW, hD0⟩ := hv
  have hx := B.exec
  have hb := B.bytes
  have hr := B.returns
  have hts := atoms_spec (ws := wsX10_meeting) B.pre
  have hown : s.vm.findClass RX10 = some m.cls := findClass_of_methodNamed B.named
  have hlocks := B.notSynchronized
  subst hsz
  have hD := hD0.self (sz := s.heap.size)
  obtain ⟨A, hAe⟩ : ∃ A : Nat → Prop, A = va_A (wX10 q10 cI cJ cB st_10 kept_10 undoable_10 newest_10 tape_10 taped_10 marks_10 order_10 reach_10 heapOf_10 rows_10 x_10 overs_10 costs_10 ways_10 digits_10 beaten_10 walks_10) s.heap.size := ⟨_, rfl⟩
  rw [← hAe] at hD
  have hA : ∀ q : Nat, s.heap.size ≤ q → A q := fun q h => by rw [hAe]; exact Or.inr h
  have hS : va_S A s.heap s.heap [] := va_S.rf
  refine k_gen (fun Q hQ => ?_)
  have hl := lv_entry ([.ref (q10 0), .int k, .int what]) (n := 3) (Nat.le_of_ble_eq_true rfl)
  refine k_entry hav (lg_entry_eq ..) ?_
  generalize (lg_sl ([.ref (q10 0), .int k, .int what]) ++ List.replicate (3 - (lg_sl ([.ref (q10 0), .int k, .int what])).length) Slot.unset).toArray = ls at hl ⊢
  have hl : lv_has ls 3 [(0, .ref (q10 0)), (1, .int k), (2, .int what)] := hl
  have hu_10 : ∀ w ∈ u_ws RX10 TX10 18, w ∈ wsX10_meeting := by decide +kernel
  have hf_7 : Cond.fieldLink RX10 7 "MeetingRanksModel" "st" "[I" ∈ wsX10_meeting := by decide +kernel
  have hn1 := hV.1
  have hn10 := hV.2.1
  have hm120 := hV.2.2.1
  have hx40 := hV.2.2.2.2.1
  have hk4 := hV.2.2.2.2.2.2.1
  refine lv_iload_n hx hb dX10_meeting_0 rfl (lv_at hl 1 rfl) ?_
  refine lv_if_lt (tgt := 23) hx hb dX10_meeting_1 (by decide) (fun c_1 => ?_) (fun c_1 => ?_)
  · skip
    refine lv_iconst (v := (-1)) hx hb dX10_meeting_23 (by decide) ?_
    refine lv_goto (tgt := 40) hx hb dX10_meeting_24 (by decide) ?_
    subst hQ; subst hAe
    exact W.iret (v := (-1)) hx hb hr (fun t ht _ => ⟨⟨(-1), (), rfl, by first | (rw [if_pos ⟨(kIn_nI (by omega)).mpr (by omega), (kIn_nI (by omega)).mpr (by omega)⟩, k_tt (by omega), k_tt (by omega)]; done) | exact (if_neg (fun z => kIn_nle (m := 3) (by decide) c_20 z.2)).symm | exact (if_neg (fun z => kIn_lo c_15 z.2)).symm | exact (if_neg (fun z => kIn_hi (by omega) c_11 z.1)).symm | exact (if_neg (fun z => kIn_lo c_1 z.1)).symm, by rw [ht]; exact hP, hD⟩, hS.F ht⟩) hS.2.2 dX10_meeting_40
  · skip
    refine lv_iload_n hx hb dX10_meeting_4 rfl (lv_at hl 1 rfl) ?_
    refine lv_aload_n hx hb dX10_meeting_5 rfl (lv_at hl 0 rfl) ?_
    refine k_get (ci := 10) (v := .ref (q10 1)) (C := RX10) (Tb := TX10) (N := 18) hx hb hts hu_10 hown hKW hP 0 rfl rfl 0 (by decide) hf_7 rfl rfl dX10_meeting_6 ?_
    refine lv_iconst (v := nI 1) hx hb dX10_meeting_9 (by decide) ?_
    refine k_iald (n := 600) (i := 1) hx hb hKW hP 1 0 rfl rfl (by omega) (by omega) dX10_meeting_10 ?_
    refine k_top (y := nI ml.length) (hR.2.1) ?_
    refine lv_icmp_ge (tgt := 23) hx hb dX10_meeting_11 (by decide) (fun c_11 => ?_) (fun c_11 => ?_)
    · skip
      refine lv_iconst (v := (-1)) hx hb dX10_meeting_23 (by decide) ?_
      refine lv_goto (tgt := 40) hx hb dX10_meeting_24 (by decide) ?_
      subst hQ; subst hAe
      exact W.iret (v := (-1)) hx hb hr (fun t ht _ => ⟨⟨(-1), (), rfl, by first | (rw [if_pos ⟨(kIn_nI (by omega)).mpr (by omega), (kIn_nI (by omega)).mpr (by omega)⟩, k_tt (by omega), k_tt (by omega)]; done) | exact (if_neg (fun z => kIn_nle (m := 3) (by decide) c_20 z.2)).symm | exact (if_neg (fun z => kIn_lo c_15 z.2)).symm | exact (if_neg (fun z => kIn_hi (by omega) c_11 z.1)).symm | exact (if_neg (fun z => kIn_lo c_1 z.1)).symm, by rw [ht]; exact hP, hD⟩, hS.F ht⟩) hS.2.2 dX10_meeting_40
    · skip
      refine lv_iload_n hx hb dX10_meeting_14 rfl (lv_at hl 2 rfl) ?_
      refine lv_if_lt (tgt := 23) hx hb dX10_meeting_15 (by decide) (fun c_15 => ?_) (fun c_15 => ?_)
      · skip
        refine lv_iconst (v := (-1)) hx hb dX10_meeting_23 (by decide) ?_
        refine lv_goto (tgt := 40) hx hb dX10_meeting_24 (by decide) ?_
        subst hQ; subst hAe
        exact W.iret (v := (-1)) hx hb hr (fun t ht _ => ⟨⟨(-1), (), rfl, by first | (rw [if_pos ⟨(kIn_nI (by omega)).mpr (by omega), (kIn_nI (by omega)).mpr (by omega)⟩, k_tt (by omega), k_tt (by omega)]; done) | exact (if_neg (fun z => kIn_nle (m := 3) (by decide) c_20 z.2)).symm | exact (if_neg (fun z => kIn_lo c_15 z.2)).symm | exact (if_neg (fun z => kIn_hi (by omega) c_11 z.1)).symm | exact (if_neg (fun z => kIn_lo c_1 z.1)).symm, by rw [ht]; exact hP, hD⟩, hS.F ht⟩) hS.2.2 dX10_meeting_40
      · skip
        refine lv_iload_n hx hb dX10_meeting_18 rfl (lv_at hl 2 rfl) ?_
        refine lv_iconst (v := nI 3) hx hb dX10_meeting_19 (by decide) ?_
        refine lv_icmp_le (tgt := 27) hx hb dX10_meeting_20 (by decide) (fun c_20 => ?_) (fun c_20 => ?_)
        · skip
          obtain ⟨w, hw4, rfl⟩ := kIn_nat (kIn_le' (m := 3) (by decide) c_15 c_20)
          obtain ⟨j, hj, rfl⟩ := kIn_nat (kIn_of (by omega) c_1 c_11)
          refine lv_aload_n hx hb dX10_meeting_27 rfl (lv_at hl 0 rfl) ?_
          refine k_get (ci := 10) (v := .ref (q10 1)) (C := RX10) (Tb := TX10) (N := 18) hx hb hts hu_10 hown hKW hP 0 rfl rfl 0 (by decide) hf_7 rfl rfl dX10_meeting_28 ?_
          refine lv_bipush (v := nI 11) hx hb dX10_meeting_31 (by decide) ?_
          refine lv_iconst (v := nI 4) hx hb dX10_meeting_33 (by decide) ?_
          refine lv_iload_n hx hb dX10_meeting_34 rfl (lv_at hl 1 rfl) ?_
          refine k_imul hx hb dX10_meeting_35 ?_
          refine k_iadd hx hb dX10_meeting_36 ?_
          refine lv_iload_n hx hb dX10_meeting_37 rfl (lv_at hl 2 rfl) ?_
          refine k_iadd hx hb dX10_meeting_38 ?_
          refine k_iald (n := 600) (i := (11 + (4 * j)) + w) hx hb hKW hP 1 0 rfl rfl (by omega) (by omega) dX10_meeting_39 ?_
          subst hQ; subst hAe
          exact W.iret (v := st_10 ((11 + (4 * j)) + w)) hx hb hr (fun t ht _ => ⟨⟨st_10 ((11 + (4 * j)) + w), (), rfl, by first | (rw [if_pos ⟨(kIn_nI (by omega)).mpr (by omega), (kIn_nI (by omega)).mpr (by omega)⟩, k_tt (by omega), k_tt (by omega)]; done) | exact (if_neg (fun z => kIn_nle (m := 3) (by decide) c_20 z.2)).symm | exact (if_neg (fun z => kIn_lo c_15 z.2)).symm | exact (if_neg (fun z => kIn_hi (by omega) c_11 z.1)).symm | exact (if_neg (fun z => kIn_lo c_1 z.1)).symm, by rw [ht]; exact hP, hD⟩, hS.F ht⟩) hS.2.2 dX10_meeting_40
        · skip
          refine lv_iconst (v := (-1)) hx hb dX10_meeting_23 (by decide) ?_
          refine lv_goto (tgt := 40) hx hb dX10_meeting_24 (by decide) ?_
          subst hQ; subst hAe
          exact W.iret (v := (-1)) hx hb hr (fun t ht _ => ⟨⟨(-1), (), rfl, by first | (rw [if_pos ⟨(kIn_nI (by omega)).mpr (by omega), (kIn_nI (by omega)).mpr (by omega)⟩, k_tt (by omega), k_tt (by omega)]; done) | exact (if_neg (fun z => kIn_nle (m := 3) (by decide) c_20 z.2)).symm | exact (if_neg (fun z => kIn_lo c_15 z.2)).symm | exact (if_neg (fun z => kIn_hi (by omega) c_11 z.1)).symm | exact (if_neg (fun z => kIn_lo c_1 z.1)).symm, by rw [ht]; exact hP, hD⟩, hS.F ht⟩) hS.2.2 dX10_meeting_40
def rmX10_isPoint : Room := { frames := 0, cells := 0, slots := 0, locals := 0 }
set_option maxHeartbeats 4000000 in
set_option maxRecDepth 100000 in
theorem c_X10_isPoint (l : Launch) (D : va_G) (cI cJ cB : ClassId) (x : Int32) : ∀ sz, Met l yX10_isPoint wsX10_isPoint rmX10_isPoint (va_Pc [.int x] (PW D (kT cI cJ cB) sz ([] : va_W))) (va_Qi (S := Unit) (fun r _ => r = if -10 ≤ x.toInt ∧ x.toInt ≤ 10 then 1 else 0) (QW D sz ([] : va_W) (fun _ => ([] : va_W))) (va_A ([] : va_W) sz)) 0 0 (va_A ([] : va_W) sz) := by
  intro sz
  refine Met.ofW (cc := cX10_isPoint) (maxL := 1) (ret := (some .boolean)) (by decide) rfl ?_
  intro p e s m args below meth c s₁ B hml hv
  obtain ⟨hav, hsz, hP, hKW, hD0⟩ := hv
  have hx := B.exec
  have hb := B.bytes
  have hr := B.returns
  have hts := atoms_spec (ws := wsX10_isPoint) B.pre
  have hown : s.vm.findClass RX10 = some m.cls := findClass_of_methodNamed B.named
  have hlocks := B.notSynchronized
  subst hsz
  have hD := hD0.self (sz := s.heap.size)
  obtain ⟨A, hAe⟩ : ∃ A : Nat → Prop, A = va_A ([] : va_W) s.heap.size := ⟨_, rfl⟩
  rw [← hAe] at hD
  have hA : ∀ q : Nat, s.heap.size ≤ q → A q := fun q h => by rw [hAe]; exact Or.inr h
  have hS : va_S A s.heap s.heap [] := va_S.rf
  refine k_gen (fun Q hQ => ?_)
  have hl := lv_entry ([.int x]) (n := 1) (Nat.le_of_ble_eq_true rfl)
  refine k_entry hav (lg_entry_eq ..) ?_
  generalize (lg_sl ([.int x]) ++ List.replicate (1 - (lg_sl ([.int x])).length) Slot.unset).toArray = ls at hl ⊢
  have hl : lv_has ls 1 [(0, .int x)] := hl
  refine lv_iload_n hx hb dX10_isPoint_0 rfl (lv_at hl 0 rfl) ?_
  refine lv_bipush (v := (-10)) hx hb dX10_isPoint_1 (by decide) ?_
  refine lv_icmp_lt (tgt := 16) hx hb dX10_isPoint_3 (by decide) (fun c_3 => ?_) (fun c_3 => ?_)
  · skip
    refine lv_iconst (v := nI 0) hx hb dX10_isPoint_16 (by decide) ?_
    subst hQ; subst hAe
    exact W.zret (v := nI 0) (ty := .boolean) hx hb hr (by decide) (fun t ht _ => ⟨⟨nI 0, (), rfl, by first | exact k_if1 (ptOK_of c_3 c_9) | exact k_if0 (ptOK_lo c_3) | exact k_if0 (ptOK_hi c_9), by rw [ht]; exact hP, hD⟩, hS.F ht⟩) hS.2.2 dX10_isPoint_17
  · skip
    refine lv_iload_n hx hb dX10_isPoint_6 rfl (lv_at hl 0 rfl) ?_
    refine lv_bipush (v := nI 10) hx hb dX10_isPoint_7 (by decide) ?_
    refine lv_icmp_gt (tgt := 16) hx hb dX10_isPoint_9 (by decide) (fun c_9 => ?_) (fun c_9 => ?_)
    · skip
      refine lv_iconst (v := nI 0) hx hb dX10_isPoint_16 (by decide) ?_
      subst hQ; subst hAe
      exact W.zret (v := nI 0) (ty := .boolean) hx hb hr (by decide) (fun t ht _ => ⟨⟨nI 0, (), rfl, by first | exact k_if1 (ptOK_of c_3 c_9) | exact k_if0 (ptOK_lo c_3) | exact k_if0 (ptOK_hi c_9), by rw [ht]; exact hP, hD⟩, hS.F ht⟩) hS.2.2 dX10_isPoint_17
    · skip
      refine lv_iconst (v := nI 1) hx hb dX10_isPoint_12 (by decide) ?_
      refine lv_goto (tgt := 17) hx hb dX10_isPoint_13 (by decide) ?_
      subst hQ; subst hAe
      exact W.zret (v := nI 1) (ty := .boolean) hx hb hr (by decide) (fun t ht _ => ⟨⟨nI 1, (), rfl, by first | exact k_if1 (ptOK_of c_3 c_9) | exact k_if0 (ptOK_lo c_3) | exact k_if0 (ptOK_hi c_9), by rw [ht]; exact hP, hD⟩, hS.F ht⟩) hS.2.2 dX10_isPoint_17
def rmX10_rule : Room := { frames := 1, cells := 0, slots := 0, locals := 21 }
set_option maxHeartbeats 4000000 in
set_option maxRecDepth 100000 in
theorem c_X10_rule (l : Launch) (D : va_G) (cI cJ cB : ClassId) (q10 : Nat → Nat) (st_10 : Nat → Int32) (kept_10 : Nat → Int32) (tape_10 : Nat → Int32) (taped_10 : Int32) (marks_10 : Nat → Int32) (order_10 : Nat → Int32) (reach_10 : Nat → Int32) (heapOf_10 : Nat → Int32) (rows_10 : Nat → Int64) (x_10 : Nat → Int64) (overs_10 : Nat → Int32) (costs_10 : Nat → Int32) (ways_10 : Nat → Int32) (digits_10 : Nat → Int32) (beaten_10 : Nat → Int32) (walks_10 : Nat → Int32) (n : Nat) (ml : List Mt) (nx : List (Nat × Nat)) (ks : List Nat) (rr : Int32 × Int32 × Int32) (w : Nat) (u : Nat) (a : Int32) (b : Int32) (c2 : Int32) (hR : RS st_10 n ml nx ks rr) (hV : VS n ml nx ks) (hw40 : w < 40) (hu40 : u ≤ 40) : ∀ sz, Met l yX10_rule wsX10_rule rmX10_rule (va_Pc [.ref (q10 0), .int a, .int b, .int c2] (PW D (kT cI cJ cB) sz (wX10 q10 cI cJ cB st_10 kept_10 (nI u) (nI w) tape_10 taped_10 marks_10 order_10 reach_10 heapOf_10 rows_10 x_10 overs_10 costs_10 ways_10 digits_10 beaten_10 walks_10))) (va_Qi (S := (Nat → Int32) × (Nat → Int32) × Int32 × Int32) (fun r uu => match uu with | (st_10', kept_10', undoable_10', newest_10') => ((ptOK a ∧ ptOK b ∧ ptOK c2) → r = nI 1 ∧ RS st_10' n ml nx ks (a, b, c2) ∧ ActD st_10 kept_10 w u kept_10' newest_10' undoable_10') ∧ (¬ (ptOK a ∧ ptOK b ∧ ptOK c2) → r = nI 0 ∧ NoD st_10 kept_10 w u st_10' kept_10' newest_10' undoable_10')) (QW D sz (wX10 q10 cI cJ cB st_10 kept_10 (nI u) (nI w) tape_10 taped_10 marks_10 order_10 reach_10 heapOf_10 rows_10 x_10 overs_10 costs_10 ways_10 digits_10 beaten_10 walks_10) (fun uu => match uu with | (st_10', kept_10', undoable_10', newest_10') => (wX10 q10 cI cJ cB st_10' kept_10' undoable_10' newest_10' tape_10 taped_10 marks_10 order_10 reach_10 heapOf_10 rows_10 x_10 overs_10 costs_10 ways_10 digits_10 beaten_10 walks_10))) (va_A (wX10 q10 cI cJ cB st_10 kept_10 (nI u) (nI w) tape_10 taped_10 marks_10 order_10 reach_10 heapOf_10 rows_10 x_10 overs_10 costs_10 ways_10 digits_10 beaten_10 walks_10) sz)) 0 0 (va_A (wX10 q10 cI cJ cB st_10 kept_10 (nI u) (nI w) tape_10 taped_10 marks_10 order_10 reach_10 heapOf_10 rows_10 x_10 overs_10 costs_10 ways_10 digits_10 beaten_10 walks_10) sz) := by
  intro sz
  refine Met.ofW (cc := cX10_rule) (maxL := 4) (ret := (some .boolean)) (by decide) rfl ?_
  intro p e s m args below meth c s₁ B hml hv
  obtain ⟨hav, hsz, hP, hKW, hD0⟩ := hv
  have hx := B.exec
  have hb := B.bytes
  have hr := B.returns
  have hts := atoms_spec (ws := wsX10_rule) B.pre
  have hown : s.vm.findClass RX10 = some m.cls := findClass_of_methodNamed B.named
  have hlocks := B.notSynchronized
  subst hsz
  have hD := hD0.self (sz := s.heap.size)
  obtain ⟨A, hAe⟩ : ∃ A : Nat → Prop, A = va_A (wX10 q10 cI cJ cB st_10 kept_10 (nI u) (nI w) tape_10 taped_10 marks_10 order_10 reach_10 heapOf_10 rows_10 x_10 overs_10 costs_10 ways_10 digits_10 beaten_10 walks_10) s.heap.size := ⟨_, rfl⟩
  rw [← hAe] at hD
  have hA : ∀ q : Nat, s.heap.size ≤ q → A q := fun q h => by rw [hAe]; exact Or.inr h
  have hS : va_S A s.heap s.heap [] := va_S.rf
  refine k_gen (fun Q hQ => ?_)
  have hl := lv_entry ([.ref (q10 0), .int a, .int b, .int c2]) (n := 4) (Nat.le_of_ble_eq_true rfl)
  refine k_entry hav (lg_entry_eq ..) ?_
  generalize (lg_sl ([.ref (q10 0), .int a, .int b, .int c2]) ++ List.replicate (4 - (lg_sl ([.ref (q10 0), .int a, .int b, .int c2])).length) Slot.unset).toArray = ls at hl ⊢
  have hl : lv_has ls 4 [(0, .ref (q10 0)), (1, .int a), (2, .int b), (3, .int c2)] := hl
  have hu_10 : ∀ w ∈ u_ws RX10 TX10 18, w ∈ wsX10_rule := by decide +kernel
  have hf_7 : Cond.fieldLink RX10 7 "MeetingRanksModel" "st" "[I" ∈ wsX10_rule := by decide +kernel
  have hn1 := hV.1
  have hn10 := hV.2.1
  have hm120 := hV.2.2.1
  have hx40 := hV.2.2.2.2.1
  have hk4 := hV.2.2.2.2.2.2.1
  refine lv_iload_n hx hb dX10_rule_0 rfl (lv_at hl 1 rfl) ?_
  have hs_1 : kSplit (wX10 q10 cI cJ cB st_10 kept_10 (nI u) (nI w) tape_10 taped_10 marks_10 order_10 reach_10 heapOf_10 rows_10 x_10 overs_10 costs_10 ways_10 digits_10 beaten_10 walks_10) ([] : va_W) (wX10 q10 cI cJ cB st_10 kept_10 (nI u) (nI w) tape_10 taped_10 marks_10 order_10 reach_10 heapOf_10 rows_10 x_10 overs_10 costs_10 ways_10 digits_10 beaten_10 walks_10) [] [0, 1, 2, 3, 4, 5, 6, 7, 8, 9, 10, 11, 12, 13, 14, 15] := ⟨rfl, rfl, rfl, rfl, rfl, by decide⟩
  refine kc_i hP hD hS hA hs_1 (kS (As := [.int a]) (rest := []) hx hb hml hown hts hKW hP hD hs_1 (c_X10_isPoint l D cI cJ cB a) (va_cwS 1 hts gX10_rule_X10_isPoint rfl rfl rfl (by decide +kernel) ⟨Nat.le_of_ble_eq_true rfl, Nat.le_of_ble_eq_true rfl⟩) rfl hl.1 rfl (Nat.le_of_ble_eq_true rfl) dX10_rule_1 ⟨Nat.zero_le _, Nat.zero_le _⟩) (fun r_1 u_1 H locs hw_1 hP hD hS => ?_)
  have er_1 := hw_1
  subst er_1
  have hP : va_P D vwCl (wX10 q10 cI cJ cB st_10 kept_10 (nI u) (nI w) tape_10 taped_10 marks_10 order_10 reach_10 heapOf_10 rows_10 x_10 overs_10 costs_10 ways_10 digits_10 beaten_10 walks_10) H := hP.sub (ws' := (wX10 q10 cI cJ cB st_10 kept_10 (nI u) (nI w) tape_10 taped_10 marks_10 order_10 reach_10 heapOf_10 rows_10 x_10 overs_10 costs_10 ways_10 digits_10 beaten_10 walks_10)) [0, 1, 2, 3, 4, 5, 6, 7, 8, 9, 10, 11, 12, 13, 14, 15] rfl
  have hD : va_D A (wX10 q10 cI cJ cB st_10 kept_10 (nI u) (nI w) tape_10 taped_10 marks_10 order_10 reach_10 heapOf_10 rows_10 x_10 overs_10 costs_10 ways_10 digits_10 beaten_10 walks_10) := hD.sub (ws' := (wX10 q10 cI cJ cB st_10 kept_10 (nI u) (nI w) tape_10 taped_10 marks_10 order_10 reach_10 heapOf_10 rows_10 x_10 overs_10 costs_10 ways_10 digits_10 beaten_10 walks_10)) [0, 1, 2, 3, 4, 5, 6, 7, 8, 9, 10, 11, 12, 13, 14, 15] (by decide) rfl
  refine lv_if_eq (tgt := 21) hx hb dX10_rule_4 (by decide) (fun c_4 => ?_) (fun c_4 => ?_)
  · skip
    have c_4 := k_b0 c_4
    refine lv_iconst (v := nI 0) hx hb dX10_rule_21 (by decide) ?_
    subst hQ; subst hAe
    exact W.zret (v := nI 0) (ty := .boolean) hx hb hr (by decide) (fun t ht _ => ⟨⟨nI 0, (st_10, kept_10, nI u, nI w), rfl, ⟨fun h => absurd h (fun z => by first | exact c_4 z.1 | exact c_11 z.2.1 | exact c_18 z.2.2), fun _ => ⟨rfl, ⟨rfl, rfl, rfl, rfl⟩⟩⟩, by rw [ht]; exact hP, hD⟩, hS.F ht⟩) hS.2.2 dX10_rule_22
  · skip
    have c_4 := k_b1 c_4
    refine lv_iload_n hx hb dX10_rule_7 rfl (lv_at hl 2 rfl) ?_
    have hs_8 : kSplit (wX10 q10 cI cJ cB st_10 kept_10 (nI u) (nI w) tape_10 taped_10 marks_10 order_10 reach_10 heapOf_10 rows_10 x_10 overs_10 costs_10 ways_10 digits_10 beaten_10 walks_10) ([] : va_W) (wX10 q10 cI cJ cB st_10 kept_10 (nI u) (nI w) tape_10 taped_10 marks_10 order_10 reach_10 heapOf_10 rows_10 x_10 overs_10 costs_10 ways_10 digits_10 beaten_10 walks_10) [] [0, 1, 2, 3, 4, 5, 6, 7, 8, 9, 10, 11, 12, 13, 14, 15] := ⟨rfl, rfl, rfl, rfl, rfl, by decide⟩
    refine kc_i hP hD hS hA hs_8 (kS (As := [.int b]) (rest := []) hx hb hml hown hts hKW hP hD hs_8 (c_X10_isPoint l D cI cJ cB b) (va_cwS 1 hts gX10_rule_X10_isPoint rfl rfl rfl (by decide +kernel) ⟨Nat.le_of_ble_eq_true rfl, Nat.le_of_ble_eq_true rfl⟩) rfl hl.1 rfl (Nat.le_of_ble_eq_true rfl) dX10_rule_8 ⟨Nat.zero_le _, Nat.zero_le _⟩) (fun r_8 u_8 H locs hw_8 hP hD hS => ?_)
    have er_8 := hw_8
    subst er_8
    have hP : va_P D vwCl (wX10 q10 cI cJ cB st_10 kept_10 (nI u) (nI w) tape_10 taped_10 marks_10 order_10 reach_10 heapOf_10 rows_10 x_10 overs_10 costs_10 ways_10 digits_10 beaten_10 walks_10) H := hP.sub (ws' := (wX10 q10 cI cJ cB st_10 kept_10 (nI u) (nI w) tape_10 taped_10 marks_10 order_10 reach_10 heapOf_10 rows_10 x_10 overs_10 costs_10 ways_10 digits_10 beaten_10 walks_10)) [0, 1, 2, 3, 4, 5, 6, 7, 8, 9, 10, 11, 12, 13, 14, 15] rfl
    have hD : va_D A (wX10 q10 cI cJ cB st_10 kept_10 (nI u) (nI w) tape_10 taped_10 marks_10 order_10 reach_10 heapOf_10 rows_10 x_10 overs_10 costs_10 ways_10 digits_10 beaten_10 walks_10) := hD.sub (ws' := (wX10 q10 cI cJ cB st_10 kept_10 (nI u) (nI w) tape_10 taped_10 marks_10 order_10 reach_10 heapOf_10 rows_10 x_10 overs_10 costs_10 ways_10 digits_10 beaten_10 walks_10)) [0, 1, 2, 3, 4, 5, 6, 7, 8, 9, 10, 11, 12, 13, 14, 15] (by decide) rfl
    refine lv_if_eq (tgt := 21) hx hb dX10_rule_11 (by decide) (fun c_11 => ?_) (fun c_11 => ?_)
    · skip
      have c_11 := k_b0 c_11
      refine lv_iconst (v := nI 0) hx hb dX10_rule_21 (by decide) ?_
      subst hQ; subst hAe
      exact W.zret (v := nI 0) (ty := .boolean) hx hb hr (by decide) (fun t ht _ => ⟨⟨nI 0, (st_10, kept_10, nI u, nI w), rfl, ⟨fun h => absurd h (fun z => by first | exact c_4 z.1 | exact c_11 z.2.1 | exact c_18 z.2.2), fun _ => ⟨rfl, ⟨rfl, rfl, rfl, rfl⟩⟩⟩, by rw [ht]; exact hP, hD⟩, hS.F ht⟩) hS.2.2 dX10_rule_22
    · skip
      have c_11 := k_b1 c_11
      refine lv_iload_n hx hb dX10_rule_14 rfl (lv_at hl 3 rfl) ?_
      have hs_15 : kSplit (wX10 q10 cI cJ cB st_10 kept_10 (nI u) (nI w) tape_10 taped_10 marks_10 order_10 reach_10 heapOf_10 rows_10 x_10 overs_10 costs_10 ways_10 digits_10 beaten_10 walks_10) ([] : va_W) (wX10 q10 cI cJ cB st_10 kept_10 (nI u) (nI w) tape_10 taped_10 marks_10 order_10 reach_10 heapOf_10 rows_10 x_10 overs_10 costs_10 ways_10 digits_10 beaten_10 walks_10) [] [0, 1, 2, 3, 4, 5, 6, 7, 8, 9, 10, 11, 12, 13, 14, 15] := ⟨rfl, rfl, rfl, rfl, rfl, by decide⟩
      refine kc_i hP hD hS hA hs_15 (kS (As := [.int c2]) (rest := []) hx hb hml hown hts hKW hP hD hs_15 (c_X10_isPoint l D cI cJ cB c2) (va_cwS 1 hts gX10_rule_X10_isPoint rfl rfl rfl (by decide +kernel) ⟨Nat.le_of_ble_eq_true rfl, Nat.le_of_ble_eq_true rfl⟩) rfl hl.1 rfl (Nat.le_of_ble_eq_true rfl) dX10_rule_15 ⟨Nat.zero_le _, Nat.zero_le _⟩) (fun r_15 u_15 H locs hw_15 hP hD hS => ?_)
      have er_15 := hw_15
      subst er_15
      have hP : va_P D vwCl (wX10 q10 cI cJ cB st_10 kept_10 (nI u) (nI w) tape_10 taped_10 marks_10 order_10 reach_10 heapOf_10 rows_10 x_10 overs_10 costs_10 ways_10 digits_10 beaten_10 walks_10) H := hP.sub (ws' := (wX10 q10 cI cJ cB st_10 kept_10 (nI u) (nI w) tape_10 taped_10 marks_10 order_10 reach_10 heapOf_10 rows_10 x_10 overs_10 costs_10 ways_10 digits_10 beaten_10 walks_10)) [0, 1, 2, 3, 4, 5, 6, 7, 8, 9, 10, 11, 12, 13, 14, 15] rfl
      have hD : va_D A (wX10 q10 cI cJ cB st_10 kept_10 (nI u) (nI w) tape_10 taped_10 marks_10 order_10 reach_10 heapOf_10 rows_10 x_10 overs_10 costs_10 ways_10 digits_10 beaten_10 walks_10) := hD.sub (ws' := (wX10 q10 cI cJ cB st_10 kept_10 (nI u) (nI w) tape_10 taped_10 marks_10 order_10 reach_10 heapOf_10 rows_10 x_10 overs_10 costs_10 ways_10 digits_10 beaten_10 walks_10)) [0, 1, 2, 3, 4, 5, 6, 7, 8, 9, 10, 11, 12, 13, 14, 15] (by decide) rfl
      refine lv_if_ne (tgt := 23) hx hb dX10_rule_18 (by decide) (fun c_18 => ?_) (fun c_18 => ?_)
      · skip
        have c_18 := k_b1 c_18
        refine lv_aload_n hx hb dX10_rule_23 rfl (lv_at hl 0 rfl) ?_
        have hs_24 : kSplit (wX10 q10 cI cJ cB st_10 kept_10 (nI u) (nI w) tape_10 taped_10 marks_10 order_10 reach_10 heapOf_10 rows_10 x_10 overs_10 costs_10 ways_10 digits_10 beaten_10 walks_10) (wX10 q10 cI cJ cB st_10 kept_10 (nI u) (nI w) tape_10 taped_10 marks_10 order_10 reach_10 heapOf_10 rows_10 x_10 overs_10 costs_10 ways_10 digits_10 beaten_10 walks_10) ([] : va_W) [0, 1, 2, 3, 4, 5, 6, 7, 8, 9, 10, 11, 12, 13, 14, 15] [] := ⟨rfl, rfl, rfl, rfl, rfl, by decide⟩
        refine kc_v hP hD hS hA hs_24 (kV (As := []) (rest := []) hx hb hml hown hts hKW hP hD hs_24 (c_X10_act l D cI cJ cB q10 st_10 kept_10 tape_10 taped_10 marks_10 order_10 reach_10 heapOf_10 rows_10 x_10 overs_10 costs_10 ways_10 digits_10 beaten_10 walks_10 w u (by first | assumption | omega) (by first | assumption | omega)) (cwV 0 hts gX10_rule_X10_act rfl rfl rfl (by decide +kernel) ⟨Nat.le_of_ble_eq_true rfl, Nat.le_of_ble_eq_true rfl⟩) 0 10 rfl rfl rfl rfl hl.1 rfl (Nat.le_of_ble_eq_true rfl) dX10_rule_24 ⟨Nat.zero_le _, Nat.zero_le _⟩) (fun u_24 H locs hw_24 hP hD hS => ?_)
        obtain ⟨kept_10_24, undoable_10_24, newest_10_24⟩ := u_24
        obtain ⟨e_kept_10_24, e_undoable_10_24, e_newest_10_24⟩ := hw_24
        subst e_kept_10_24 e_undoable_10_24 e_newest_10_24
        have hP : va_P D vwCl (wX10 q10 cI cJ cB st_10 (fb_put kept_10 st_10 (600 * ((w + 1) % 40)) 600) (nI (if u < 40 then u + 1 else u)) (nI ((w + 1) % 40)) tape_10 taped_10 marks_10 order_10 reach_10 heapOf_10 rows_10 x_10 overs_10 costs_10 ways_10 digits_10 beaten_10 walks_10) H := hP.sub (ws' := (wX10 q10 cI cJ cB st_10 (fb_put kept_10 st_10 (600 * ((w + 1) % 40)) 600) (nI (if u < 40 then u + 1 else u)) (nI ((w + 1) % 40)) tape_10 taped_10 marks_10 order_10 reach_10 heapOf_10 rows_10 x_10 overs_10 costs_10 ways_10 digits_10 beaten_10 walks_10)) [0, 1, 2, 3, 4, 5, 6, 7, 8, 9, 10, 11, 12, 13, 14, 15] rfl
        have hD : va_D A (wX10 q10 cI cJ cB st_10 (fb_put kept_10 st_10 (600 * ((w + 1) % 40)) 600) (nI (if u < 40 then u + 1 else u)) (nI ((w + 1) % 40)) tape_10 taped_10 marks_10 order_10 reach_10 heapOf_10 rows_10 x_10 overs_10 costs_10 ways_10 digits_10 beaten_10 walks_10) := hD.sub (ws' := (wX10 q10 cI cJ cB st_10 (fb_put kept_10 st_10 (600 * ((w + 1) % 40)) 600) (nI (if u < 40 then u + 1 else u)) (nI ((w + 1) % 40)) tape_10 taped_10 marks_10 order_10 reach_10 heapOf_10 rows_10 x_10 overs_10 costs_10 ways_10 digits_10 beaten_10 walks_10)) [0, 1, 2, 3, 4, 5, 6, 7, 8, 9, 10, 11, 12, 13, 14, 15] (by decide) rfl
        refine lv_aload_n hx hb dX10_rule_27 rfl (lv_at hl 0 rfl) ?_
        refine k_get (ci := 10) (v := .ref (q10 1)) (C := RX10) (Tb := TX10) (N := 18) hx hb hts hu_10 hown hKW hP 0 rfl rfl 0 (by decide) hf_7 rfl rfl dX10_rule_28 ?_
        refine lv_iconst (v := nI 4) hx hb dX10_rule_31 (by decide) ?_
        refine lv_iload_n hx hb dX10_rule_32 rfl (lv_at hl 1 rfl) ?_
        refine k_iast (n := 600) (i := 4) (x := a) (w' := (wX10 q10 cI cJ cB (upd st_10 4 a) (fb_put kept_10 st_10 (600 * ((w + 1) % 40)) 600) (nI (if u < 40 then u + 1 else u)) (nI ((w + 1) % 40)) tape_10 taped_10 marks_10 order_10 reach_10 heapOf_10 rows_10 x_10 overs_10 costs_10 ways_10 digits_10 beaten_10 walks_10)) hx hb hKW hP hD hS 1 0 rfl rfl (by omega) (by omega) dX10_rule_33 rfl (fun H locs hP hD hS => ?_)
        refine lv_aload_n hx hb dX10_rule_34 rfl (lv_at hl 0 rfl) ?_
        refine k_get (ci := 10) (v := .ref (q10 1)) (C := RX10) (Tb := TX10) (N := 18) hx hb hts hu_10 hown hKW hP 0 rfl rfl 0 (by decide) hf_7 rfl rfl dX10_rule_35 ?_
        refine lv_iconst (v := nI 5) hx hb dX10_rule_38 (by decide) ?_
        refine lv_iload_n hx hb dX10_rule_39 rfl (lv_at hl 2 rfl) ?_
        refine k_iast (n := 600) (i := 5) (x := b) (w' := (wX10 q10 cI cJ cB (upd (upd st_10 4 a) 5 b) (fb_put kept_10 st_10 (600 * ((w + 1) % 40)) 600) (nI (if u < 40 then u + 1 else u)) (nI ((w + 1) % 40)) tape_10 taped_10 marks_10 order_10 reach_10 heapOf_10 rows_10 x_10 overs_10 costs_10 ways_10 digits_10 beaten_10 walks_10)) hx hb hKW hP hD hS 1 0 rfl rfl (by omega) (by omega) dX10_rule_40 rfl (fun H locs hP hD hS => ?_)
        refine lv_aload_n hx hb dX10_rule_41 rfl (lv_at hl 0 rfl) ?_
        refine k_get (ci := 10) (v := .ref (q10 1)) (C := RX10) (Tb := TX10) (N := 18) hx hb hts hu_10 hown hKW hP 0 rfl rfl 0 (by decide) hf_7 rfl rfl dX10_rule_42 ?_
        refine lv_bipush (v := nI 6) hx hb dX10_rule_45 (by decide) ?_
        refine lv_iload_n hx hb dX10_rule_47 rfl (lv_at hl 3 rfl) ?_
        refine k_iast (n := 600) (i := 6) (x := c2) (w' := (wX10 q10 cI cJ cB (upd (upd (upd st_10 4 a) 5 b) 6 c2) (fb_put kept_10 st_10 (600 * ((w + 1) % 40)) 600) (nI (if u < 40 then u + 1 else u)) (nI ((w + 1) % 40)) tape_10 taped_10 marks_10 order_10 reach_10 heapOf_10 rows_10 x_10 overs_10 costs_10 ways_10 digits_10 beaten_10 walks_10)) hx hb hKW hP hD hS 1 0 rfl rfl (by omega) (by omega) dX10_rule_48 rfl (fun H locs hP hD hS => ?_)
        refine lv_iconst (v := nI 1) hx hb dX10_rule_49 (by decide) ?_
        subst hQ; subst hAe
        exact W.zret (v := nI 1) (ty := .boolean) hx hb hr (by decide) (fun t ht _ => ⟨⟨nI 1, (upd (upd (upd st_10 4 a) 5 b) 6 c2, fb_put kept_10 st_10 (600 * ((w + 1) % 40)) 600, nI (if u < 40 then u + 1 else u), nI ((w + 1) % 40)), rfl, ⟨fun _ => ⟨rfl, hR.rl hk4 a b c2, ⟨rfl, rfl, rfl⟩⟩, fun h => absurd ⟨c_4, c_11, c_18⟩ h⟩, by rw [ht]; exact hP, hD⟩, hS.F ht⟩) hS.2.2 dX10_rule_50
      · skip
        have c_18 := k_b0 c_18
        refine lv_iconst (v := nI 0) hx hb dX10_rule_21 (by decide) ?_
        subst hQ; subst hAe
        exact W.zret (v := nI 0) (ty := .boolean) hx hb hr (by decide) (fun t ht _ => ⟨⟨nI 0, (st_10, kept_10, nI u, nI w), rfl, ⟨fun h => absurd h (fun z => by first | exact c_4 z.1 | exact c_11 z.2.1 | exact c_18 z.2.2), fun _ => ⟨rfl, ⟨rfl, rfl, rfl, rfl⟩⟩⟩, by rw [ht]; exact hP, hD⟩, hS.F ht⟩) hS.2.2 dX10_rule_22
def rmX10_tie : Room := { frames := 1, cells := 0, slots := 0, locals := 21 }
set_option maxHeartbeats 4000000 in
set_option maxRecDepth 100000 in
theorem c_X10_tie (l : Launch) (D : va_G) (cI cJ cB : ClassId) (q10 : Nat → Nat) (st_10 : Nat → Int32) (kept_10 : Nat → Int32) (tape_10 : Nat → Int32) (taped_10 : Int32) (marks_10 : Nat → Int32) (order_10 : Nat → Int32) (reach_10 : Nat → Int32) (heapOf_10 : Nat → Int32) (rows_10 : Nat → Int64) (x_10 : Nat → Int64) (overs_10 : Nat → Int32) (costs_10 : Nat → Int32) (ways_10 : Nat → Int32) (digits_10 : Nat → Int32) (beaten_10 : Nat → Int32) (walks_10 : Nat → Int32) (n : Nat) (ml : List Mt) (nx : List (Nat × Nat)) (ks : List Nat) (rr : Int32 × Int32 × Int32) (w : Nat) (u : Nat) (k : Int32) (hR : RS st_10 n ml nx ks rr) (hV : VS n ml nx ks) (hw40 : w < 40) (hu40 : u ≤ 40) : ∀ sz, Met l yX10_tie wsX10_tie rmX10_tie (va_Pc [.ref (q10 0), .int k] (PW D (kT cI cJ cB) sz (wX10 q10 cI cJ cB st_10 kept_10 (nI u) (nI w) tape_10 taped_10 marks_10 order_10 reach_10 heapOf_10 rows_10 x_10 overs_10 costs_10 ways_10 digits_10 beaten_10 walks_10))) (va_Qi (S := (Nat → Int32) × (Nat → Int32) × Int32 × Int32) (fun r uu => match uu with | (st_10', kept_10', undoable_10', newest_10') => ((ks.length < 4 ∧ kIn k 6) → r = nI (ks.length + 1) ∧ RS st_10' n ml nx (ks ++ [k.toInt.toNat]) rr ∧ ActD st_10 kept_10 w u kept_10' newest_10' undoable_10') ∧ (¬ (ks.length < 4 ∧ kIn k 6) → r = -1 ∧ NoD st_10 kept_10 w u st_10' kept_10' newest_10' undoable_10')) (QW D sz (wX10 q10 cI cJ cB st_10 kept_10 (nI u) (nI w) tape_10 taped_10 marks_10 order_10 reach_10 heapOf_10 rows_10 x_10 overs_10 costs_10 ways_10 digits_10 beaten_10 walks_10) (fun uu => match uu with | (st_10', kept_10', undoable_10', newest_10') => (wX10 q10 cI cJ cB st_10' kept_10' undoable_10' newest_10' tape_10 taped_10 marks_10 order_10 reach_10 heapOf_10 rows_10 x_10 overs_10 costs_10 ways_10 digits_10 beaten_10 walks_10))) (va_A (wX10 q10 cI cJ cB st_10 kept_10 (nI u) (nI w) tape_10 taped_10 marks_10 order_10 reach_10 heapOf_10 rows_10 x_10 overs_10 costs_10 ways_10 digits_10 beaten_10 walks_10) sz)) 0 0 (va_A (wX10 q10 cI cJ cB st_10 kept_10 (nI u) (nI w) tape_10 taped_10 marks_10 order_10 reach_10 heapOf_10 rows_10 x_10 overs_10 costs_10 ways_10 digits_10 beaten_10 walks_10) sz) := by
  intro sz
  refine Met.ofW (cc := cX10_tie) (maxL := 2) (ret := (some .int)) (by decide) rfl ?_
  intro p e s m args below meth c s₁ B hml hv
  obtain ⟨hav, hsz, hP, hKW, hD0⟩ := hv
  have hx := B.exec
  have hb := B.bytes
  have hr := B.returns
  have hts := atoms_spec (ws := wsX10_tie) B.pre
  have hown : s.vm.findClass RX10 = some m.cls := findClass_of_methodNamed B.named
  have hlocks := B.notSynchronized
  subst hsz
  have hD := hD0.self (sz := s.heap.size)
  obtain ⟨A, hAe⟩ : ∃ A : Nat → Prop, A = va_A (wX10 q10 cI cJ cB st_10 kept_10 (nI u) (nI w) tape_10 taped_10 marks_10 order_10 reach_10 heapOf_10 rows_10 x_10 overs_10 costs_10 ways_10 digits_10 beaten_10 walks_10) s.heap.size := ⟨_, rfl⟩
  rw [← hAe] at hD
  have hA : ∀ q : Nat, s.heap.size ≤ q → A q := fun q h => by rw [hAe]; exact Or.inr h
  have hS : va_S A s.heap s.heap [] := va_S.rf
  refine k_gen (fun Q hQ => ?_)
  have hl := lv_entry ([.ref (q10 0), .int k]) (n := 2) (Nat.le_of_ble_eq_true rfl)
  refine k_entry hav (lg_entry_eq ..) ?_
  generalize (lg_sl ([.ref (q10 0), .int k]) ++ List.replicate (2 - (lg_sl ([.ref (q10 0), .int k])).length) Slot.unset).toArray = ls at hl ⊢
  have hl : lv_has ls 2 [(0, .ref (q10 0)), (1, .int k)] := hl
  have hu_10 : ∀ w ∈ u_ws RX10 TX10 18, w ∈ wsX10_tie := by decide +kernel
  have hf_7 : Cond.fieldLink RX10 7 "MeetingRanksModel" "st" "[I" ∈ wsX10_tie := by decide +kernel
  have hn1 := hV.1
  have hn10 := hV.2.1
  have hm120 := hV.2.2.1
  have hx40 := hV.2.2.2.2.1
  have hk4 := hV.2.2.2.2.2.2.1
  refine lv_aload_n hx hb dX10_tie_0 rfl (lv_at hl 0 rfl) ?_
  refine k_get (ci := 10) (v := .ref (q10 1)) (C := RX10) (Tb := TX10) (N := 18) hx hb hts hu_10 hown hKW hP 0 rfl rfl 0 (by decide) hf_7 rfl rfl dX10_tie_1 ?_
  refine lv_iconst (v := nI 3) hx hb dX10_tie_4 (by decide) ?_
  refine k_iald (n := 600) (i := 3) hx hb hKW hP 1 0 rfl rfl (by omega) (by omega) dX10_tie_5 ?_
  refine k_top (y := nI ks.length) (hR.2.2.2.1) ?_
  refine lv_iconst (v := nI 4) hx hb dX10_tie_6 (by decide) ?_
  refine lv_icmp_eq (tgt := 19) hx hb dX10_tie_7 (by decide) (fun c_7 => ?_) (fun c_7 => ?_)
  · skip
    have c_7 := k_eq (by omega) (by omega) c_7
    refine lv_iconst (v := (-1)) hx hb dX10_tie_19 (by decide) ?_
    subst hQ; subst hAe
    exact W.iret (v := (-1)) hx hb hr (fun t ht _ => ⟨⟨(-1), (st_10, kept_10, nI u, nI w), rfl, ⟨fun h => absurd h (fun z => by first | omega | exact kIn_lo c_11 z.2 | exact kIn_nle (m := 5) (by decide) c_16 z.2), fun _ => ⟨rfl, ⟨rfl, rfl, rfl, rfl⟩⟩⟩, by rw [ht]; exact hP, hD⟩, hS.F ht⟩) hS.2.2 dX10_tie_20
  · skip
    have c_7 := k_eq_n (by omega) (by omega) c_7
    refine lv_iload_n hx hb dX10_tie_10 rfl (lv_at hl 1 rfl) ?_
    refine lv_if_lt (tgt := 19) hx hb dX10_tie_11 (by decide) (fun c_11 => ?_) (fun c_11 => ?_)
    · skip
      refine lv_iconst (v := (-1)) hx hb dX10_tie_19 (by decide) ?_
      subst hQ; subst hAe
      exact W.iret (v := (-1)) hx hb hr (fun t ht _ => ⟨⟨(-1), (st_10, kept_10, nI u, nI w), rfl, ⟨fun h => absurd h (fun z => by first | omega | exact kIn_lo c_11 z.2 | exact kIn_nle (m := 5) (by decide) c_16 z.2), fun _ => ⟨rfl, ⟨rfl, rfl, rfl, rfl⟩⟩⟩, by rw [ht]; exact hP, hD⟩, hS.F ht⟩) hS.2.2 dX10_tie_20
    · skip
      refine lv_iload_n hx hb dX10_tie_14 rfl (lv_at hl 1 rfl) ?_
      refine lv_iconst (v := nI 5) hx hb dX10_tie_15 (by decide) ?_
      refine lv_icmp_le (tgt := 21) hx hb dX10_tie_16 (by decide) (fun c_16 => ?_) (fun c_16 => ?_)
      · skip
        obtain ⟨j, hj, rfl⟩ := kIn_nat (kIn_le' (m := 5) (by decide) c_11 c_16)
        refine lv_aload_n hx hb dX10_tie_21 rfl (lv_at hl 0 rfl) ?_
        have hs_22 : kSplit (wX10 q10 cI cJ cB st_10 kept_10 (nI u) (nI w) tape_10 taped_10 marks_10 order_10 reach_10 heapOf_10 rows_10 x_10 overs_10 costs_10 ways_10 digits_10 beaten_10 walks_10) (wX10 q10 cI cJ cB st_10 kept_10 (nI u) (nI w) tape_10 taped_10 marks_10 order_10 reach_10 heapOf_10 rows_10 x_10 overs_10 costs_10 ways_10 digits_10 beaten_10 walks_10) ([] : va_W) [0, 1, 2, 3, 4, 5, 6, 7, 8, 9, 10, 11, 12, 13, 14, 15] [] := ⟨rfl, rfl, rfl, rfl, rfl, by decide⟩
        refine kc_v hP hD hS hA hs_22 (kV (As := []) (rest := []) hx hb hml hown hts hKW hP hD hs_22 (c_X10_act l D cI cJ cB q10 st_10 kept_10 tape_10 taped_10 marks_10 order_10 reach_10 heapOf_10 rows_10 x_10 overs_10 costs_10 ways_10 digits_10 beaten_10 walks_10 w u (by first | assumption | omega) (by first | assumption | omega)) (cwV 0 hts gX10_tie_X10_act rfl rfl rfl (by decide +kernel) ⟨Nat.le_of_ble_eq_true rfl, Nat.le_of_ble_eq_true rfl⟩) 0 10 rfl rfl rfl rfl hl.1 rfl (Nat.le_of_ble_eq_true rfl) dX10_tie_22 ⟨Nat.zero_le _, Nat.zero_le _⟩) (fun u_22 H locs hw_22 hP hD hS => ?_)
        obtain ⟨kept_10_22, undoable_10_22, newest_10_22⟩ := u_22
        obtain ⟨e_kept_10_22, e_undoable_10_22, e_newest_10_22⟩ := hw_22
        subst e_kept_10_22 e_undoable_10_22 e_newest_10_22
        have hP : va_P D vwCl (wX10 q10 cI cJ cB st_10 (fb_put kept_10 st_10 (600 * ((w + 1) % 40)) 600) (nI (if u < 40 then u + 1 else u)) (nI ((w + 1) % 40)) tape_10 taped_10 marks_10 order_10 reach_10 heapOf_10 rows_10 x_10 overs_10 costs_10 ways_10 digits_10 beaten_10 walks_10) H := hP.sub (ws' := (wX10 q10 cI cJ cB st_10 (fb_put kept_10 st_10 (600 * ((w + 1) % 40)) 600) (nI (if u < 40 then u + 1 else u)) (nI ((w + 1) % 40)) tape_10 taped_10 marks_10 order_10 reach_10 heapOf_10 rows_10 x_10 overs_10 costs_10 ways_10 digits_10 beaten_10 walks_10)) [0, 1, 2, 3, 4, 5, 6, 7, 8, 9, 10, 11, 12, 13, 14, 15] rfl
        have hD : va_D A (wX10 q10 cI cJ cB st_10 (fb_put kept_10 st_10 (600 * ((w + 1) % 40)) 600) (nI (if u < 40 then u + 1 else u)) (nI ((w + 1) % 40)) tape_10 taped_10 marks_10 order_10 reach_10 heapOf_10 rows_10 x_10 overs_10 costs_10 ways_10 digits_10 beaten_10 walks_10) := hD.sub (ws' := (wX10 q10 cI cJ cB st_10 (fb_put kept_10 st_10 (600 * ((w + 1) % 40)) 600) (nI (if u < 40 then u + 1 else u)) (nI ((w + 1) % 40)) tape_10 taped_10 marks_10 order_10 reach_10 heapOf_10 rows_10 x_10 overs_10 costs_10 ways_10 digits_10 beaten_10 walks_10)) [0, 1, 2, 3, 4, 5, 6, 7, 8, 9, 10, 11, 12, 13, 14, 15] (by decide) rfl
        refine lv_aload_n hx hb dX10_tie_25 rfl (lv_at hl 0 rfl) ?_
        refine k_get (ci := 10) (v := .ref (q10 1)) (C := RX10) (Tb := TX10) (N := 18) hx hb hts hu_10 hown hKW hP 0 rfl rfl 0 (by decide) hf_7 rfl rfl dX10_tie_26 ?_
        refine lv_bipush (v := nI 7) hx hb dX10_tie_29 (by decide) ?_
        refine lv_aload_n hx hb dX10_tie_31 rfl (lv_at hl 0 rfl) ?_
        refine k_get (ci := 10) (v := .ref (q10 1)) (C := RX10) (Tb := TX10) (N := 18) hx hb hts hu_10 hown hKW hP 0 rfl rfl 0 (by decide) hf_7 rfl rfl dX10_tie_32 ?_
        refine lv_iconst (v := nI 3) hx hb dX10_tie_35 (by decide) ?_
        refine k_iald (n := 600) (i := 3) hx hb hKW hP 1 0 rfl rfl (by omega) (by omega) dX10_tie_36 ?_
        refine k_top (y := nI ks.length) (hR.2.2.2.1) ?_
        refine k_iadd hx hb dX10_tie_37 ?_
        refine lv_iload_n hx hb dX10_tie_38 rfl (lv_at hl 1 rfl) ?_
        refine k_iast (n := 600) (i := 7 + ks.length) (x := nI j) (w' := (wX10 q10 cI cJ cB (upd st_10 (7 + ks.length) (nI j)) (fb_put kept_10 st_10 (600 * ((w + 1) % 40)) 600) (nI (if u < 40 then u + 1 else u)) (nI ((w + 1) % 40)) tape_10 taped_10 marks_10 order_10 reach_10 heapOf_10 rows_10 x_10 overs_10 costs_10 ways_10 digits_10 beaten_10 walks_10)) hx hb hKW hP hD hS 1 0 rfl rfl (by omega) (by omega) dX10_tie_39 rfl (fun H locs hP hD hS => ?_)
        refine lv_aload_n hx hb dX10_tie_40 rfl (lv_at hl 0 rfl) ?_
        refine k_get (ci := 10) (v := .ref (q10 1)) (C := RX10) (Tb := TX10) (N := 18) hx hb hts hu_10 hown hKW hP 0 rfl rfl 0 (by decide) hf_7 rfl rfl dX10_tie_41 ?_
        refine lv_iconst (v := nI 3) hx hb dX10_tie_44 (by decide) ?_
        refine lv_dup2_11 hx hb dX10_tie_45 rfl rfl ?_
        refine k_iald (n := 600) (i := 3) hx hb hKW hP 1 0 rfl rfl (by omega) (by omega) dX10_tie_46 ?_
        refine k_top (y := nI ks.length) (by simp (disch := omega) only [pk_us, pk_un]; exact hR.2.2.2.1) ?_
        refine lv_iconst (v := nI 1) hx hb dX10_tie_47 (by decide) ?_
        refine k_iadd hx hb dX10_tie_48 ?_
        refine k_iast (n := 600) (i := 3) (x := nI (ks.length + 1)) (w' := (wX10 q10 cI cJ cB (upd (upd st_10 (7 + ks.length) (nI j)) 3 (nI (ks.length + 1))) (fb_put kept_10 st_10 (600 * ((w + 1) % 40)) 600) (nI (if u < 40 then u + 1 else u)) (nI ((w + 1) % 40)) tape_10 taped_10 marks_10 order_10 reach_10 heapOf_10 rows_10 x_10 overs_10 costs_10 ways_10 digits_10 beaten_10 walks_10)) hx hb hKW hP hD hS 1 0 rfl rfl (by omega) (by omega) dX10_tie_49 rfl (fun H locs hP hD hS => ?_)
        refine lv_aload_n hx hb dX10_tie_50 rfl (lv_at hl 0 rfl) ?_
        refine k_get (ci := 10) (v := .ref (q10 1)) (C := RX10) (Tb := TX10) (N := 18) hx hb hts hu_10 hown hKW hP 0 rfl rfl 0 (by decide) hf_7 rfl rfl dX10_tie_51 ?_
        refine lv_iconst (v := nI 3) hx hb dX10_tie_54 (by decide) ?_
        refine k_iald (n := 600) (i := 3) hx hb hKW hP 1 0 rfl rfl (by omega) (by omega) dX10_tie_55 ?_
        refine k_top (y := nI (ks.length + 1)) (pk_us) ?_
        subst hQ; subst hAe
        exact W.iret (v := nI (ks.length + 1)) hx hb hr (fun t ht _ => ⟨⟨nI (ks.length + 1), (upd (upd st_10 (7 + ks.length) (nI j)) 3 (nI (ks.length + 1)), fb_put kept_10 st_10 (600 * ((w + 1) % 40)) 600, nI (if u < 40 then u + 1 else u), nI ((w + 1) % 40)), rfl, ⟨fun _ => ⟨rfl, by rw [k_tt (by omega)]; exact hR.tie (by omega) j, ⟨rfl, rfl, rfl⟩⟩, fun h => absurd ⟨by omega, (kIn_nI (by omega)).mpr hj⟩ h⟩, by rw [ht]; exact hP, hD⟩, hS.F ht⟩) hS.2.2 dX10_tie_56
      · skip
        refine lv_iconst (v := (-1)) hx hb dX10_tie_19 (by decide) ?_
        subst hQ; subst hAe
        exact W.iret (v := (-1)) hx hb hr (fun t ht _ => ⟨⟨(-1), (st_10, kept_10, nI u, nI w), rfl, ⟨fun h => absurd h (fun z => by first | omega | exact kIn_lo c_11 z.2 | exact kIn_nle (m := 5) (by decide) c_16 z.2), fun _ => ⟨rfl, ⟨rfl, rfl, rfl, rfl⟩⟩⟩, by rw [ht]; exact hP, hD⟩, hS.F ht⟩) hS.2.2 dX10_tie_20
def rmX10_ties : Room := { frames := 1, cells := 0, slots := 0, locals := 21 }
set_option maxHeartbeats 4000000 in
set_option maxRecDepth 100000 in
theorem c_X10_ties (l : Launch) (D : va_G) (cI cJ cB : ClassId) (q10 : Nat → Nat) (st_10 : Nat → Int32) (kept_10 : Nat → Int32) (tape_10 : Nat → Int32) (taped_10 : Int32) (marks_10 : Nat → Int32) (order_10 : Nat → Int32) (reach_10 : Nat → Int32) (heapOf_10 : Nat → Int32) (rows_10 : Nat → Int64) (x_10 : Nat → Int64) (overs_10 : Nat → Int32) (costs_10 : Nat → Int32) (ways_10 : Nat → Int32) (digits_10 : Nat → Int32) (beaten_10 : Nat → Int32) (walks_10 : Nat → Int32) (n : Nat) (ml : List Mt) (nx : List (Nat × Nat)) (ks : List Nat) (rr : Int32 × Int32 × Int32) (w : Nat) (u : Nat) (hR : RS st_10 n ml nx ks rr) (hV : VS n ml nx ks) (hw40 : w < 40) (hu40 : u ≤ 40) : ∀ sz, Met l yX10_ties wsX10_ties rmX10_ties (va_Pc [.ref (q10 0)] (PW D (kT cI cJ cB) sz (wX10 q10 cI cJ cB st_10 kept_10 (nI u) (nI w) tape_10 taped_10 marks_10 order_10 reach_10 heapOf_10 rows_10 x_10 overs_10 costs_10 ways_10 digits_10 beaten_10 walks_10))) (va_Qi (S := (Nat → Int32) × (Nat → Int32) × Int32 × Int32) (fun r uu => match uu with | (st_10', kept_10', undoable_10', newest_10') => r = nI ks.length ∧ RS st_10' n ml nx [] rr ∧ ActD st_10 kept_10 w u kept_10' newest_10' undoable_10') (QW D sz (wX10 q10 cI cJ cB st_10 kept_10 (nI u) (nI w) tape_10 taped_10 marks_10 order_10 reach_10 heapOf_10 rows_10 x_10 overs_10 costs_10 ways_10 digits_10 beaten_10 walks_10) (fun uu => match uu with | (st_10', kept_10', undoable_10', newest_10') => (wX10 q10 cI cJ cB st_10' kept_10' undoable_10' newest_10' tape_10 taped_10 marks_10 order_10 reach_10 heapOf_10 rows_10 x_10 overs_10 costs_10 ways_10 digits_10 beaten_10 walks_10))) (va_A (wX10 q10 cI cJ cB st_10 kept_10 (nI u) (nI w) tape_10 taped_10 marks_10 order_10 reach_10 heapOf_10 rows_10 x_10 overs_10 costs_10 ways_10 digits_10 beaten_10 walks_10) sz)) 0 0 (va_A (wX10 q10 cI cJ cB st_10 kept_10 (nI u) (nI w) tape_10 taped_10 marks_10 order_10 reach_10 heapOf_10 rows_10 x_10 overs_10 costs_10 ways_10 digits_10 beaten_10 walks_10) sz) := by
  intro sz
  refine Met.ofW (cc := cX10_ties) (maxL := 2) (ret := (some .int)) (by decide) rfl ?_
  intro p e s m args below meth c s₁ B hml hv
  obtain ⟨hav, hsz, hP, hKW, hD0⟩ := hv
  have hx := B.exec
  have hb := B.bytes
  have hr := B.returns
  have hts := atoms_spec (ws := wsX10_ties) B.pre
  have hown : s.vm.findClass RX10 = some m.cls := findClass_of_methodNamed B.named
  have hlocks := B.notSynchronized
  subst hsz
  have hD := hD0.self (sz := s.heap.size)
  obtain ⟨A, hAe⟩ : ∃ A : Nat → Prop, A = va_A (wX10 q10 cI cJ cB st_10 kept_10 (nI u) (nI w) tape_10 taped_10 marks_10 order_10 reach_10 heapOf_10 rows_10 x_10 overs_10 costs_10 ways_10 digits_10 beaten_10 walks_10) s.heap.size := ⟨_, rfl⟩
  rw [← hAe] at hD
  have hA : ∀ q : Nat, s.heap.size ≤ q → A q := fun q h => by rw [hAe]; exact Or.inr h
  have hS : va_S A s.heap s.heap [] := va_S.rf
  refine k_gen (fun Q hQ => ?_)
  have hl := lv_entry ([.ref (q10 0)]) (n := 2) (Nat.le_of_ble_eq_true rfl)
  refine k_entry hav (lg_entry_eq ..) ?_
  generalize (lg_sl ([.ref (q10 0)]) ++ List.replicate (2 - (lg_sl ([.ref (q10 0)])).length) Slot.unset).toArray = ls at hl ⊢
  have hl : lv_has ls 2 [(0, .ref (q10 0))] := hl
  have hu_10 : ∀ w ∈ u_ws RX10 TX10 18, w ∈ wsX10_ties := by decide +kernel
  have hf_7 : Cond.fieldLink RX10 7 "MeetingRanksModel" "st" "[I" ∈ wsX10_ties := by decide +kernel
  have hn1 := hV.1
  have hn10 := hV.2.1
  have hm120 := hV.2.2.1
  have hx40 := hV.2.2.2.2.1
  have hk4 := hV.2.2.2.2.2.2.1
  refine lv_aload_n hx hb dX10_ties_0 rfl (lv_at hl 0 rfl) ?_
  refine k_get (ci := 10) (v := .ref (q10 1)) (C := RX10) (Tb := TX10) (N := 18) hx hb hts hu_10 hown hKW hP 0 rfl rfl 0 (by decide) hf_7 rfl rfl dX10_ties_1 ?_
  refine lv_iconst (v := nI 3) hx hb dX10_ties_4 (by decide) ?_
  refine k_iald (n := 600) (i := 3) hx hb hKW hP 1 0 rfl rfl (by omega) (by omega) dX10_ties_5 ?_
  refine k_top (y := nI ks.length) (hR.2.2.2.1) ?_
  refine lv_istore_n (lv' := [(1, .int (nI ks.length)), (0, .ref (q10 0))]) hx hb dX10_ties_6 rfl hl (by decide) rfl (fun ls hl => ?_)
  refine lv_aload_n hx hb dX10_ties_7 rfl (lv_at hl 1 rfl) ?_
  have hs_8 : kSplit (wX10 q10 cI cJ cB st_10 kept_10 (nI u) (nI w) tape_10 taped_10 marks_10 order_10 reach_10 heapOf_10 rows_10 x_10 overs_10 costs_10 ways_10 digits_10 beaten_10 walks_10) (wX10 q10 cI cJ cB st_10 kept_10 (nI u) (nI w) tape_10 taped_10 marks_10 order_10 reach_10 heapOf_10 rows_10 x_10 overs_10 costs_10 ways_10 digits_10 beaten_10 walks_10) ([] : va_W) [0, 1, 2, 3, 4, 5, 6, 7, 8, 9, 10, 11, 12, 13, 14, 15] [] := ⟨rfl, rfl, rfl, rfl, rfl, by decide⟩
  refine kc_v hP hD hS hA hs_8 (kV (As := []) (rest := []) hx hb hml hown hts hKW hP hD hs_8 (c_X10_act l D cI cJ cB q10 st_10 kept_10 tape_10 taped_10 marks_10 order_10 reach_10 heapOf_10 rows_10 x_10 overs_10 costs_10 ways_10 digits_10 beaten_10 walks_10 w u (by first | assumption | omega) (by first | assumption | omega)) (cwV 0 hts gX10_ties_X10_act rfl rfl rfl (by decide +kernel) ⟨Nat.le_of_ble_eq_true rfl, Nat.le_of_ble_eq_true rfl⟩) 0 10 rfl rfl rfl rfl hl.1 rfl (Nat.le_of_ble_eq_true rfl) dX10_ties_8 ⟨Nat.zero_le _, Nat.zero_le _⟩) (fun u_8 H locs hw_8 hP hD hS => ?_)
  obtain ⟨kept_10_8, undoable_10_8, newest_10_8⟩ := u_8
  obtain ⟨e_kept_10_8, e_undoable_10_8, e_newest_10_8⟩ := hw_8
  subst e_kept_10_8 e_undoable_10_8 e_newest_10_8
  have hP : va_P D vwCl (wX10 q10 cI cJ cB st_10 (fb_put kept_10 st_10 (600 * ((w + 1) % 40)) 600) (nI (if u < 40 then u + 1 else u)) (nI ((w + 1) % 40)) tape_10 taped_10 marks_10 order_10 reach_10 heapOf_10 rows_10 x_10 overs_10 costs_10 ways_10 digits_10 beaten_10 walks_10) H := hP.sub (ws' := (wX10 q10 cI cJ cB st_10 (fb_put kept_10 st_10 (600 * ((w + 1) % 40)) 600) (nI (if u < 40 then u + 1 else u)) (nI ((w + 1) % 40)) tape_10 taped_10 marks_10 order_10 reach_10 heapOf_10 rows_10 x_10 overs_10 costs_10 ways_10 digits_10 beaten_10 walks_10)) [0, 1, 2, 3, 4, 5, 6, 7, 8, 9, 10, 11, 12, 13, 14, 15] rfl
  have hD : va_D A (wX10 q10 cI cJ cB st_10 (fb_put kept_10 st_10 (600 * ((w + 1) % 40)) 600) (nI (if u < 40 then u + 1 else u)) (nI ((w + 1) % 40)) tape_10 taped_10 marks_10 order_10 reach_10 heapOf_10 rows_10 x_10 overs_10 costs_10 ways_10 digits_10 beaten_10 walks_10) := hD.sub (ws' := (wX10 q10 cI cJ cB st_10 (fb_put kept_10 st_10 (600 * ((w + 1) % 40)) 600) (nI (if u < 40 then u + 1 else u)) (nI ((w + 1) % 40)) tape_10 taped_10 marks_10 order_10 reach_10 heapOf_10 rows_10 x_10 overs_10 costs_10 ways_10 digits_10 beaten_10 walks_10)) [0, 1, 2, 3, 4, 5, 6, 7, 8, 9, 10, 11, 12, 13, 14, 15] (by decide) rfl
  refine lv_aload_n hx hb dX10_ties_11 rfl (lv_at hl 1 rfl) ?_
  refine k_get (ci := 10) (v := .ref (q10 1)) (C := RX10) (Tb := TX10) (N := 18) hx hb hts hu_10 hown hKW hP 0 rfl rfl 0 (by decide) hf_7 rfl rfl dX10_ties_12 ?_
  refine lv_iconst (v := nI 3) hx hb dX10_ties_15 (by decide) ?_
  refine lv_iconst (v := nI 0) hx hb dX10_ties_16 (by decide) ?_
  refine k_iast (n := 600) (i := 3) (x := nI 0) (w' := (wX10 q10 cI cJ cB (upd st_10 3 (nI 0)) (fb_put kept_10 st_10 (600 * ((w + 1) % 40)) 600) (nI (if u < 40 then u + 1 else u)) (nI ((w + 1) % 40)) tape_10 taped_10 marks_10 order_10 reach_10 heapOf_10 rows_10 x_10 overs_10 costs_10 ways_10 digits_10 beaten_10 walks_10)) hx hb hKW hP hD hS 1 0 rfl rfl (by omega) (by omega) dX10_ties_17 rfl (fun H locs hP hD hS => ?_)
  refine lv_iload_n hx hb dX10_ties_18 rfl (lv_at hl 0 rfl) ?_
  subst hQ; subst hAe
  exact W.iret (v := nI ks.length) hx hb hr (fun t ht _ => ⟨⟨nI ks.length, (upd st_10 3 (nI 0), fb_put kept_10 st_10 (600 * ((w + 1) % 40)) 600, nI (if u < 40 then u + 1 else u), nI ((w + 1) % 40)), rfl, ⟨rfl, hR.tie0, ⟨rfl, rfl, rfl⟩⟩, by rw [ht]; exact hP, hD⟩, hS.F ht⟩) hS.2.2 dX10_ties_19
def rmX10_next : Room := { frames := 2, cells := 0, slots := 0, locals := 41 }
set_option maxHeartbeats 4000000 in
set_option maxRecDepth 100000 in
theorem c_X10_next (l : Launch) (D : va_G) (cI cJ cB : ClassId) (q10 : Nat → Nat) (st_10 : Nat → Int32) (kept_10 : Nat → Int32) (tape_10 : Nat → Int32) (taped_10 : Int32) (marks_10 : Nat → Int32) (order_10 : Nat → Int32) (reach_10 : Nat → Int32) (heapOf_10 : Nat → Int32) (rows_10 : Nat → Int64) (x_10 : Nat → Int64) (overs_10 : Nat → Int32) (costs_10 : Nat → Int32) (ways_10 : Nat → Int32) (digits_10 : Nat → Int32) (beaten_10 : Nat → Int32) (walks_10 : Nat → Int32) (n : Nat) (ml : List Mt) (nx : List (Nat × Nat)) (ks : List Nat) (rr : Int32 × Int32 × Int32) (w : Nat) (u : Nat) (a : Int32) (b : Int32) (hR : RS st_10 n ml nx ks rr) (hV : VS n ml nx ks) (hw40 : w < 40) (hu40 : u ≤ 40) : ∀ sz, Met l yX10_next wsX10_next rmX10_next (va_Pc [.ref (q10 0), .int a, .int b] (PW D (kT cI cJ cB) sz (wX10 q10 cI cJ cB st_10 kept_10 (nI u) (nI w) tape_10 taped_10 marks_10 order_10 reach_10 heapOf_10 rows_10 x_10 overs_10 costs_10 ways_10 digits_10 beaten_10 walks_10))) (va_Qi (S := (Nat → Int32) × (Nat → Int32) × Int32 × Int32) (fun r uu => match uu with | (st_10', kept_10', undoable_10', newest_10') => (nextOK n nx a b → r = nI (nx.length + 1) ∧ RS st_10' n ml (nx ++ [(a.toInt.toNat, b.toInt.toNat)]) ks rr ∧ ActD st_10 kept_10 w u kept_10' newest_10' undoable_10') ∧ (¬ nextOK n nx a b → r = -1 ∧ NoD st_10 kept_10 w u st_10' kept_10' newest_10' undoable_10')) (QW D sz (wX10 q10 cI cJ cB st_10 kept_10 (nI u) (nI w) tape_10 taped_10 marks_10 order_10 reach_10 heapOf_10 rows_10 x_10 overs_10 costs_10 ways_10 digits_10 beaten_10 walks_10) (fun uu => match uu with | (st_10', kept_10', undoable_10', newest_10') => (wX10 q10 cI cJ cB st_10' kept_10' undoable_10' newest_10' tape_10 taped_10 marks_10 order_10 reach_10 heapOf_10 rows_10 x_10 overs_10 costs_10 ways_10 digits_10 beaten_10 walks_10))) (va_A (wX10 q10 cI cJ cB st_10 kept_10 (nI u) (nI w) tape_10 taped_10 marks_10 order_10 reach_10 heapOf_10 rows_10 x_10 overs_10 costs_10 ways_10 digits_10 beaten_10 walks_10) sz)) 0 0 (va_A (wX10 q10 cI cJ cB st_10 kept_10 (nI u) (nI w) tape_10 taped_10 marks_10 order_10 reach_10 heapOf_10 rows_10 x_10 overs_10 costs_10 ways_10 digits_10 beaten_10 walks_10) sz) := by
  intro sz
  refine Met.ofW (cc := cX10_next) (maxL := 3) (ret := (some .int)) (by decide) rfl ?_
  intro p e s m args below meth c s₁ B hml hv
  obtain ⟨hav, hsz, hP, hKW, hD0⟩ := hv
  have hx := B.exec
  have hb := B.bytes
  have hr := B.returns
  have hts := atoms_spec (ws := wsX10_next) B.pre
  have hown : s.vm.findClass RX10 = some m.cls := findClass_of_methodNamed B.named
  have hlocks := B.notSynchronized
  subst hsz
  have hD := hD0.self (sz := s.heap.size)
  obtain ⟨A, hAe⟩ : ∃ A : Nat → Prop, A = va_A (wX10 q10 cI cJ cB st_10 kept_10 (nI u) (nI w) tape_10 taped_10 marks_10 order_10 reach_10 heapOf_10 rows_10 x_10 overs_10 costs_10 ways_10 digits_10 beaten_10 walks_10) s.heap.size := ⟨_, rfl⟩
  rw [← hAe] at hD
  have hA : ∀ q : Nat, s.heap.size ≤ q → A q := fun q h => by rw [hAe]; exact Or.inr h
  have hS : va_S A s.heap s.heap [] := va_S.rf
  refine k_gen (fun Q hQ => ?_)
  have hl := lv_entry ([.ref (q10 0), .int a, .int b]) (n := 3) (Nat.le_of_ble_eq_true rfl)
  refine k_entry hav (lg_entry_eq ..) ?_
  generalize (lg_sl ([.ref (q10 0), .int a, .int b]) ++ List.replicate (3 - (lg_sl ([.ref (q10 0), .int a, .int b])).length) Slot.unset).toArray = ls at hl ⊢
  have hl : lv_has ls 3 [(0, .ref (q10 0)), (1, .int a), (2, .int b)] := hl
  have hu_10 : ∀ w ∈ u_ws RX10 TX10 18, w ∈ wsX10_next := by decide +kernel
  have hf_7 : Cond.fieldLink RX10 7 "MeetingRanksModel" "st" "[I" ∈ wsX10_next := by decide +kernel
  have hn1 := hV.1
  have hn10 := hV.2.1
  have hm120 := hV.2.2.1
  have hx40 := hV.2.2.2.2.1
  have hk4 := hV.2.2.2.2.2.2.1
  refine lv_aload_n hx hb dX10_next_0 rfl (lv_at hl 0 rfl) ?_
  refine k_get (ci := 10) (v := .ref (q10 1)) (C := RX10) (Tb := TX10) (N := 18) hx hb hts hu_10 hown hKW hP 0 rfl rfl 0 (by decide) hf_7 rfl rfl dX10_next_1 ?_
  refine lv_iconst (v := nI 2) hx hb dX10_next_4 (by decide) ?_
  refine k_iald (n := 600) (i := 2) hx hb hKW hP 1 0 rfl rfl (by omega) (by omega) dX10_next_5 ?_
  refine k_top (y := nI nx.length) (hR.2.2.1) ?_
  refine lv_bipush (v := nI 40) hx hb dX10_next_6 (by decide) ?_
  refine lv_icmp_eq (tgt := 32) hx hb dX10_next_8 (by decide) (fun c_8 => ?_) (fun c_8 => ?_)
  · skip
    have c_8 := k_eq (by omega) (by omega) c_8
    refine lv_iconst (v := (-1)) hx hb dX10_next_32 (by decide) ?_
    subst hQ; subst hAe
    exact W.iret (v := (-1)) hx hb hr (fun t ht _ => ⟨⟨(-1), (st_10, kept_10, nI u, nI w), rfl, ⟨fun h => absurd h (fun z => by obtain ⟨z1, z2, z3, z4⟩ := z; first | omega | exact c_16 z2 | exact c_24 z3 | exact z4 c_29), fun _ => ⟨rfl, ⟨rfl, rfl, rfl, rfl⟩⟩⟩, by rw [ht]; exact hP, hD⟩, hS.F ht⟩) hS.2.2 dX10_next_33
  · skip
    have c_8 := k_eq_n (by omega) (by omega) c_8
    refine lv_aload_n hx hb dX10_next_11 rfl (lv_at hl 0 rfl) ?_
    refine lv_iload_n hx hb dX10_next_12 rfl (lv_at hl 1 rfl) ?_
    have hs_13 : kSplit (wX10 q10 cI cJ cB st_10 kept_10 (nI u) (nI w) tape_10 taped_10 marks_10 order_10 reach_10 heapOf_10 rows_10 x_10 overs_10 costs_10 ways_10 digits_10 beaten_10 walks_10) (wX10 q10 cI cJ cB st_10 kept_10 (nI u) (nI w) tape_10 taped_10 marks_10 order_10 reach_10 heapOf_10 rows_10 x_10 overs_10 costs_10 ways_10 digits_10 beaten_10 walks_10) ([] : va_W) [0, 1, 2, 3, 4, 5, 6, 7, 8, 9, 10, 11, 12, 13, 14, 15] [] := ⟨rfl, rfl, rfl, rfl, rfl, by decide⟩
    refine kc_i hP hD hS hA hs_13 (kV (As := [.int a]) (rest := []) hx hb hml hown hts hKW hP hD hs_13 (c_X10_isPlayer l D cI cJ cB q10 st_10 kept_10 (nI u) (nI w) tape_10 taped_10 marks_10 order_10 reach_10 heapOf_10 rows_10 x_10 overs_10 costs_10 ways_10 digits_10 beaten_10 walks_10 n ml nx ks rr a (by first | assumption | omega) (by first | assumption | omega)) (cwV 1 hts gX10_next_X10_isPlayer rfl rfl rfl (by decide +kernel) ⟨Nat.le_of_ble_eq_true rfl, Nat.le_of_ble_eq_true rfl⟩) 0 10 rfl rfl rfl rfl hl.1 rfl (Nat.le_of_ble_eq_true rfl) dX10_next_13 ⟨Nat.zero_le _, Nat.zero_le _⟩) (fun r_13 u_13 H locs hw_13 hP hD hS => ?_)
    have er_13 := hw_13
    subst er_13
    have hP : va_P D vwCl (wX10 q10 cI cJ cB st_10 kept_10 (nI u) (nI w) tape_10 taped_10 marks_10 order_10 reach_10 heapOf_10 rows_10 x_10 overs_10 costs_10 ways_10 digits_10 beaten_10 walks_10) H := hP.sub (ws' := (wX10 q10 cI cJ cB st_10 kept_10 (nI u) (nI w) tape_10 taped_10 marks_10 order_10 reach_10 heapOf_10 rows_10 x_10 overs_10 costs_10 ways_10 digits_10 beaten_10 walks_10)) [0, 1, 2, 3, 4, 5, 6, 7, 8, 9, 10, 11, 12, 13, 14, 15] rfl
    have hD : va_D A (wX10 q10 cI cJ cB st_10 kept_10 (nI u) (nI w) tape_10 taped_10 marks_10 order_10 reach_10 heapOf_10 rows_10 x_10 overs_10 costs_10 ways_10 digits_10 beaten_10 walks_10) := hD.sub (ws' := (wX10 q10 cI cJ cB st_10 kept_10 (nI u) (nI w) tape_10 taped_10 marks_10 order_10 reach_10 heapOf_10 rows_10 x_10 overs_10 costs_10 ways_10 digits_10 beaten_10 walks_10)) [0, 1, 2, 3, 4, 5, 6, 7, 8, 9, 10, 11, 12, 13, 14, 15] (by decide) rfl
    refine lv_if_eq (tgt := 32) hx hb dX10_next_16 (by decide) (fun c_16 => ?_) (fun c_16 => ?_)
    · skip
      have c_16 := k_b0 c_16
      refine lv_iconst (v := (-1)) hx hb dX10_next_32 (by decide) ?_
      subst hQ; subst hAe
      exact W.iret (v := (-1)) hx hb hr (fun t ht _ => ⟨⟨(-1), (st_10, kept_10, nI u, nI w), rfl, ⟨fun h => absurd h (fun z => by obtain ⟨z1, z2, z3, z4⟩ := z; first | omega | exact c_16 z2 | exact c_24 z3 | exact z4 c_29), fun _ => ⟨rfl, ⟨rfl, rfl, rfl, rfl⟩⟩⟩, by rw [ht]; exact hP, hD⟩, hS.F ht⟩) hS.2.2 dX10_next_33
    · skip
      have c_16 := k_b1 c_16
      refine lv_aload_n hx hb dX10_next_19 rfl (lv_at hl 0 rfl) ?_
      refine lv_iload_n hx hb dX10_next_20 rfl (lv_at hl 2 rfl) ?_
      have hs_21 : kSplit (wX10 q10 cI cJ cB st_10 kept_10 (nI u) (nI w) tape_10 taped_10 marks_10 order_10 reach_10 heapOf_10 rows_10 x_10 overs_10 costs_10 ways_10 digits_10 beaten_10 walks_10) (wX10 q10 cI cJ cB st_10 kept_10 (nI u) (nI w) tape_10 taped_10 marks_10 order_10 reach_10 heapOf_10 rows_10 x_10 overs_10 costs_10 ways_10 digits_10 beaten_10 walks_10) ([] : va_W) [0, 1, 2, 3, 4, 5, 6, 7, 8, 9, 10, 11, 12, 13, 14, 15] [] := ⟨rfl, rfl, rfl, rfl, rfl, by decide⟩
      refine kc_i hP hD hS hA hs_21 (kV (As := [.int b]) (rest := []) hx hb hml hown hts hKW hP hD hs_21 (c_X10_isPlayer l D cI cJ cB q10 st_10 kept_10 (nI u) (nI w) tape_10 taped_10 marks_10 order_10 reach_10 heapOf_10 rows_10 x_10 overs_10 costs_10 ways_10 digits_10 beaten_10 walks_10 n ml nx ks rr b (by first | assumption | omega) (by first | assumption | omega)) (cwV 1 hts gX10_next_X10_isPlayer rfl rfl rfl (by decide +kernel) ⟨Nat.le_of_ble_eq_true rfl, Nat.le_of_ble_eq_true rfl⟩) 0 10 rfl rfl rfl rfl hl.1 rfl (Nat.le_of_ble_eq_true rfl) dX10_next_21 ⟨Nat.zero_le _, Nat.zero_le _⟩) (fun r_21 u_21 H locs hw_21 hP hD hS => ?_)
      have er_21 := hw_21
      subst er_21
      have hP : va_P D vwCl (wX10 q10 cI cJ cB st_10 kept_10 (nI u) (nI w) tape_10 taped_10 marks_10 order_10 reach_10 heapOf_10 rows_10 x_10 overs_10 costs_10 ways_10 digits_10 beaten_10 walks_10) H := hP.sub (ws' := (wX10 q10 cI cJ cB st_10 kept_10 (nI u) (nI w) tape_10 taped_10 marks_10 order_10 reach_10 heapOf_10 rows_10 x_10 overs_10 costs_10 ways_10 digits_10 beaten_10 walks_10)) [0, 1, 2, 3, 4, 5, 6, 7, 8, 9, 10, 11, 12, 13, 14, 15] rfl
      have hD : va_D A (wX10 q10 cI cJ cB st_10 kept_10 (nI u) (nI w) tape_10 taped_10 marks_10 order_10 reach_10 heapOf_10 rows_10 x_10 overs_10 costs_10 ways_10 digits_10 beaten_10 walks_10) := hD.sub (ws' := (wX10 q10 cI cJ cB st_10 kept_10 (nI u) (nI w) tape_10 taped_10 marks_10 order_10 reach_10 heapOf_10 rows_10 x_10 overs_10 costs_10 ways_10 digits_10 beaten_10 walks_10)) [0, 1, 2, 3, 4, 5, 6, 7, 8, 9, 10, 11, 12, 13, 14, 15] (by decide) rfl
      refine lv_if_eq (tgt := 32) hx hb dX10_next_24 (by decide) (fun c_24 => ?_) (fun c_24 => ?_)
      · skip
        have c_24 := k_b0 c_24
        refine lv_iconst (v := (-1)) hx hb dX10_next_32 (by decide) ?_
        subst hQ; subst hAe
        exact W.iret (v := (-1)) hx hb hr (fun t ht _ => ⟨⟨(-1), (st_10, kept_10, nI u, nI w), rfl, ⟨fun h => absurd h (fun z => by obtain ⟨z1, z2, z3, z4⟩ := z; first | omega | exact c_16 z2 | exact c_24 z3 | exact z4 c_29), fun _ => ⟨rfl, ⟨rfl, rfl, rfl, rfl⟩⟩⟩, by rw [ht]; exact hP, hD⟩, hS.F ht⟩) hS.2.2 dX10_next_33
      · skip
        have c_24 := k_b1 c_24
        refine lv_iload_n hx hb dX10_next_27 rfl (lv_at hl 1 rfl) ?_
        refine lv_iload_n hx hb dX10_next_28 rfl (lv_at hl 2 rfl) ?_
        refine lv_icmp_ne (tgt := 34) hx hb dX10_next_29 (by decide) (fun c_29 => ?_) (fun c_29 => ?_)
        · skip
          have hok : nextOK n nx a b := ⟨by omega, c_16, c_24, c_29⟩
          obtain ⟨a, ha, rfl⟩ := kIn_nat c_16
          obtain ⟨b, hb2, rfl⟩ := kIn_nat c_24
          refine lv_aload_n hx hb dX10_next_34 rfl (lv_at hl 0 rfl) ?_
          have hs_35 : kSplit (wX10 q10 cI cJ cB st_10 kept_10 (nI u) (nI w) tape_10 taped_10 marks_10 order_10 reach_10 heapOf_10 rows_10 x_10 overs_10 costs_10 ways_10 digits_10 beaten_10 walks_10) (wX10 q10 cI cJ cB st_10 kept_10 (nI u) (nI w) tape_10 taped_10 marks_10 order_10 reach_10 heapOf_10 rows_10 x_10 overs_10 costs_10 ways_10 digits_10 beaten_10 walks_10) ([] : va_W) [0, 1, 2, 3, 4, 5, 6, 7, 8, 9, 10, 11, 12, 13, 14, 15] [] := ⟨rfl, rfl, rfl, rfl, rfl, by decide⟩
          refine kc_v hP hD hS hA hs_35 (kV (As := []) (rest := []) hx hb hml hown hts hKW hP hD hs_35 (c_X10_act l D cI cJ cB q10 st_10 kept_10 tape_10 taped_10 marks_10 order_10 reach_10 heapOf_10 rows_10 x_10 overs_10 costs_10 ways_10 digits_10 beaten_10 walks_10 w u (by first | assumption | omega) (by first | assumption | omega)) (cwV 0 hts gX10_next_X10_act rfl rfl rfl (by decide +kernel) ⟨Nat.le_of_ble_eq_true rfl, Nat.le_of_ble_eq_true rfl⟩) 0 10 rfl rfl rfl rfl hl.1 rfl (Nat.le_of_ble_eq_true rfl) dX10_next_35 ⟨Nat.zero_le _, Nat.zero_le _⟩) (fun u_35 H locs hw_35 hP hD hS => ?_)
          obtain ⟨kept_10_35, undoable_10_35, newest_10_35⟩ := u_35
          obtain ⟨e_kept_10_35, e_undoable_10_35, e_newest_10_35⟩ := hw_35
          subst e_kept_10_35 e_undoable_10_35 e_newest_10_35
          have hP : va_P D vwCl (wX10 q10 cI cJ cB st_10 (fb_put kept_10 st_10 (600 * ((w + 1) % 40)) 600) (nI (if u < 40 then u + 1 else u)) (nI ((w + 1) % 40)) tape_10 taped_10 marks_10 order_10 reach_10 heapOf_10 rows_10 x_10 overs_10 costs_10 ways_10 digits_10 beaten_10 walks_10) H := hP.sub (ws' := (wX10 q10 cI cJ cB st_10 (fb_put kept_10 st_10 (600 * ((w + 1) % 40)) 600) (nI (if u < 40 then u + 1 else u)) (nI ((w + 1) % 40)) tape_10 taped_10 marks_10 order_10 reach_10 heapOf_10 rows_10 x_10 overs_10 costs_10 ways_10 digits_10 beaten_10 walks_10)) [0, 1, 2, 3, 4, 5, 6, 7, 8, 9, 10, 11, 12, 13, 14, 15] rfl
          have hD : va_D A (wX10 q10 cI cJ cB st_10 (fb_put kept_10 st_10 (600 * ((w + 1) % 40)) 600) (nI (if u < 40 then u + 1 else u)) (nI ((w + 1) % 40)) tape_10 taped_10 marks_10 order_10 reach_10 heapOf_10 rows_10 x_10 overs_10 costs_10 ways_10 digits_10 beaten_10 walks_10) := hD.sub (ws' := (wX10 q10 cI cJ cB st_10 (fb_put kept_10 st_10 (600 * ((w + 1) % 40)) 600) (nI (if u < 40 then u + 1 else u)) (nI ((w + 1) % 40)) tape_10 taped_10 marks_10 order_10 reach_10 heapOf_10 rows_10 x_10 overs_10 costs_10 ways_10 digits_10 beaten_10 walks_10)) [0, 1, 2, 3, 4, 5, 6, 7, 8, 9, 10, 11, 12, 13, 14, 15] (by decide) rfl
          refine lv_aload_n hx hb dX10_next_38 rfl (lv_at hl 0 rfl) ?_
          refine k_get (ci := 10) (v := .ref (q10 1)) (C := RX10) (Tb := TX10) (N := 18) hx hb hts hu_10 hown hKW hP 0 rfl rfl 0 (by decide) hf_7 rfl rfl dX10_next_39 ?_
          refine lv_sipush (v := nI 491) hx hb dX10_next_42 (by decide) ?_
          refine lv_iconst (v := nI 2) hx hb dX10_next_45 (by decide) ?_
          refine lv_aload_n hx hb dX10_next_46 rfl (lv_at hl 0 rfl) ?_
          refine k_get (ci := 10) (v := .ref (q10 1)) (C := RX10) (Tb := TX10) (N := 18) hx hb hts hu_10 hown hKW hP 0 rfl rfl 0 (by decide) hf_7 rfl rfl dX10_next_47 ?_
          refine lv_iconst (v := nI 2) hx hb dX10_next_50 (by decide) ?_
          refine k_iald (n := 600) (i := 2) hx hb hKW hP 1 0 rfl rfl (by omega) (by omega) dX10_next_51 ?_
          refine k_top (y := nI nx.length) (hR.2.2.1) ?_
          refine k_imul hx hb dX10_next_52 ?_
          refine k_iadd hx hb dX10_next_53 ?_
          refine lv_iload_n hx hb dX10_next_54 rfl (lv_at hl 1 rfl) ?_
          refine k_iast (n := 600) (i := 491 + (2 * nx.length)) (x := nI a) (w' := (wX10 q10 cI cJ cB (upd st_10 (491 + (2 * nx.length)) (nI a)) (fb_put kept_10 st_10 (600 * ((w + 1) % 40)) 600) (nI (if u < 40 then u + 1 else u)) (nI ((w + 1) % 40)) tape_10 taped_10 marks_10 order_10 reach_10 heapOf_10 rows_10 x_10 overs_10 costs_10 ways_10 digits_10 beaten_10 walks_10)) hx hb hKW hP hD hS 1 0 rfl rfl (by omega) (by omega) dX10_next_55 rfl (fun H locs hP hD hS => ?_)
          refine lv_aload_n hx hb dX10_next_56 rfl (lv_at hl 0 rfl) ?_
          refine k_get (ci := 10) (v := .ref (q10 1)) (C := RX10) (Tb := TX10) (N := 18) hx hb hts hu_10 hown hKW hP 0 rfl rfl 0 (by decide) hf_7 rfl rfl dX10_next_57 ?_
          refine lv_sipush (v := nI 491) hx hb dX10_next_60 (by decide) ?_
          refine lv_iconst (v := nI 2) hx hb dX10_next_63 (by decide) ?_
          refine lv_aload_n hx hb dX10_next_64 rfl (lv_at hl 0 rfl) ?_
          refine k_get (ci := 10) (v := .ref (q10 1)) (C := RX10) (Tb := TX10) (N := 18) hx hb hts hu_10 hown hKW hP 0 rfl rfl 0 (by decide) hf_7 rfl rfl dX10_next_65 ?_
          refine lv_iconst (v := nI 2) hx hb dX10_next_68 (by decide) ?_
          refine k_iald (n := 600) (i := 2) hx hb hKW hP 1 0 rfl rfl (by omega) (by omega) dX10_next_69 ?_
          refine k_top (y := nI nx.length) (by simp (disch := omega) only [pk_us, pk_un]; exact hR.2.2.1) ?_
          refine k_imul hx hb dX10_next_70 ?_
          refine k_iadd hx hb dX10_next_71 ?_
          refine lv_iconst (v := nI 1) hx hb dX10_next_72 (by decide) ?_
          refine k_iadd hx hb dX10_next_73 ?_
          refine lv_iload_n hx hb dX10_next_74 rfl (lv_at hl 2 rfl) ?_
          refine k_iast (n := 600) (i := (491 + (2 * nx.length)) + 1) (x := nI b) (w' := (wX10 q10 cI cJ cB (upd (upd st_10 (491 + (2 * nx.length)) (nI a)) ((491 + (2 * nx.length)) + 1) (nI b)) (fb_put kept_10 st_10 (600 * ((w + 1) % 40)) 600) (nI (if u < 40 then u + 1 else u)) (nI ((w + 1) % 40)) tape_10 taped_10 marks_10 order_10 reach_10 heapOf_10 rows_10 x_10 overs_10 costs_10 ways_10 digits_10 beaten_10 walks_10)) hx hb hKW hP hD hS 1 0 rfl rfl (by omega) (by omega) dX10_next_75 rfl (fun H locs hP hD hS => ?_)
          refine lv_aload_n hx hb dX10_next_76 rfl (lv_at hl 0 rfl) ?_
          refine k_get (ci := 10) (v := .ref (q10 1)) (C := RX10) (Tb := TX10) (N := 18) hx hb hts hu_10 hown hKW hP 0 rfl rfl 0 (by decide) hf_7 rfl rfl dX10_next_77 ?_
          refine lv_iconst (v := nI 2) hx hb dX10_next_80 (by decide) ?_
          refine lv_dup2_11 hx hb dX10_next_81 rfl rfl ?_
          refine k_iald (n := 600) (i := 2) hx hb hKW hP 1 0 rfl rfl (by omega) (by omega) dX10_next_82 ?_
          refine k_top (y := nI nx.length) (by simp (disch := omega) only [pk_us, pk_un]; exact hR.2.2.1) ?_
          refine lv_iconst (v := nI 1) hx hb dX10_next_83 (by decide) ?_
          refine k_iadd hx hb dX10_next_84 ?_
          refine k_iast (n := 600) (i := 2) (x := nI (nx.length + 1)) (w' := (wX10 q10 cI cJ cB (upd (upd (upd st_10 (491 + (2 * nx.length)) (nI a)) ((491 + (2 * nx.length)) + 1) (nI b)) 2 (nI (nx.length + 1))) (fb_put kept_10 st_10 (600 * ((w + 1) % 40)) 600) (nI (if u < 40 then u + 1 else u)) (nI ((w + 1) % 40)) tape_10 taped_10 marks_10 order_10 reach_10 heapOf_10 rows_10 x_10 overs_10 costs_10 ways_10 digits_10 beaten_10 walks_10)) hx hb hKW hP hD hS 1 0 rfl rfl (by omega) (by omega) dX10_next_85 rfl (fun H locs hP hD hS => ?_)
          refine lv_aload_n hx hb dX10_next_86 rfl (lv_at hl 0 rfl) ?_
          refine k_get (ci := 10) (v := .ref (q10 1)) (C := RX10) (Tb := TX10) (N := 18) hx hb hts hu_10 hown hKW hP 0 rfl rfl 0 (by decide) hf_7 rfl rfl dX10_next_87 ?_
          refine lv_iconst (v := nI 2) hx hb dX10_next_90 (by decide) ?_
          refine k_iald (n := 600) (i := 2) hx hb hKW hP 1 0 rfl rfl (by omega) (by omega) dX10_next_91 ?_
          refine k_top (y := nI (nx.length + 1)) (pk_us) ?_
          subst hQ; subst hAe
          exact W.iret (v := nI (nx.length + 1)) hx hb hr (fun t ht _ => ⟨⟨nI (nx.length + 1), (upd (upd (upd st_10 (491 + (2 * nx.length)) (nI a)) ((491 + (2 * nx.length)) + 1) (nI b)) 2 (nI (nx.length + 1)), fb_put kept_10 st_10 (600 * ((w + 1) % 40)) 600, nI (if u < 40 then u + 1 else u), nI ((w + 1) % 40)), rfl, ⟨fun _ => ⟨rfl, by rw [k_tt (by omega), k_tt (by omega)]; exact hR.nxt hm120 hk4 a b, ⟨rfl, rfl, rfl⟩⟩, fun h => absurd hok h⟩, by rw [ht]; exact hP, hD⟩, hS.F ht⟩) hS.2.2 dX10_next_92
        · skip
          refine lv_iconst (v := (-1)) hx hb dX10_next_32 (by decide) ?_
          subst hQ; subst hAe
          exact W.iret (v := (-1)) hx hb hr (fun t ht _ => ⟨⟨(-1), (st_10, kept_10, nI u, nI w), rfl, ⟨fun h => absurd h (fun z => by obtain ⟨z1, z2, z3, z4⟩ := z; first | omega | exact c_16 z2 | exact c_24 z3 | exact z4 c_29), fun _ => ⟨rfl, ⟨rfl, rfl, rfl, rfl⟩⟩⟩, by rw [ht]; exact hP, hD⟩, hS.F ht⟩) hS.2.2 dX10_next_33
def rmX10_drop : Room := { frames := 1, cells := 0, slots := 0, locals := 21 }
set_option maxHeartbeats 4000000 in
set_option maxRecDepth 100000 in
theorem c_X10_drop (l : Launch) (D : va_G) (cI cJ cB : ClassId) (q10 : Nat → Nat) (st_10 : Nat → Int32) (kept_10 : Nat → Int32) (tape_10 : Nat → Int32) (taped_10 : Int32) (marks_10 : Nat → Int32) (order_10 : Nat → Int32) (reach_10 : Nat → Int32) (heapOf_10 : Nat → Int32) (rows_10 : Nat → Int64) (x_10 : Nat → Int64) (overs_10 : Nat → Int32) (costs_10 : Nat → Int32) (ways_10 : Nat → Int32) (digits_10 : Nat → Int32) (beaten_10 : Nat → Int32) (walks_10 : Nat → Int32) (n : Nat) (ml : List Mt) (nx : List (Nat × Nat)) (ks : List Nat) (rr : Int32 × Int32 × Int32) (w : Nat) (u : Nat) (k : Int32) (hR : RS st_10 n ml nx ks rr) (hV : VS n ml nx ks) (hw40 : w < 40) (hu40 : u ≤ 40) : ∀ sz, Met l yX10_drop wsX10_drop rmX10_drop (va_Pc [.ref (q10 0), .int k] (PW D (kT cI cJ cB) sz (wX10 q10 cI cJ cB st_10 kept_10 (nI u) (nI w) tape_10 taped_10 marks_10 order_10 reach_10 heapOf_10 rows_10 x_10 overs_10 costs_10 ways_10 digits_10 beaten_10 walks_10))) (va_Qi (S := (Nat → Int32) × (Nat → Int32) × Int32 × Int32) (fun r uu => match uu with | (st_10', kept_10', undoable_10', newest_10') => (kIn k ml.length → r = nI 1 ∧ RS st_10' n (ml.eraseIdx k.toInt.toNat) nx ks rr ∧ ActD st_10 kept_10 w u kept_10' newest_10' undoable_10') ∧ (¬ kIn k ml.length → r = nI 0 ∧ NoD st_10 kept_10 w u st_10' kept_10' newest_10' undoable_10')) (QW D sz (wX10 q10 cI cJ cB st_10 kept_10 (nI u) (nI w) tape_10 taped_10 marks_10 order_10 reach_10 heapOf_10 rows_10 x_10 overs_10 costs_10 ways_10 digits_10 beaten_10 walks_10) (fun uu => match uu with | (st_10', kept_10', undoable_10', newest_10') => (wX10 q10 cI cJ cB st_10' kept_10' undoable_10' newest_10' tape_10 taped_10 marks_10 order_10 reach_10 heapOf_10 rows_10 x_10 overs_10 costs_10 ways_10 digits_10 beaten_10 walks_10))) (va_A (wX10 q10 cI cJ cB st_10 kept_10 (nI u) (nI w) tape_10 taped_10 marks_10 order_10 reach_10 heapOf_10 rows_10 x_10 overs_10 costs_10 ways_10 digits_10 beaten_10 walks_10) sz)) 0 0 (va_A (wX10 q10 cI cJ cB st_10 kept_10 (nI u) (nI w) tape_10 taped_10 marks_10 order_10 reach_10 heapOf_10 rows_10 x_10 overs_10 costs_10 ways_10 digits_10 beaten_10 walks_10) sz) := by
  intro sz
  refine Met.ofW (cc := cX10_drop) (maxL := 3) (ret := (some .boolean)) (by decide) rfl ?_
  intro p e s m args below meth c s₁ B hml hv
  obtain ⟨hav, hsz, hP, hKW, hD0⟩ := hv
  have hx := B.exec
  have hb := B.bytes
  have hr := B.returns
  have hts := atoms_spec (ws := wsX10_drop) B.pre
  have hown : s.vm.findClass RX10 = some m.cls := findClass_of_methodNamed B.named
  have hlocks := B.notSynchronized
  subst hsz
  have hD := hD0.self (sz := s.heap.size)
  obtain ⟨A, hAe⟩ : ∃ A : Nat → Prop, A = va_A (wX10 q10 cI cJ cB st_10 kept_10 (nI u) (nI w) tape_10 taped_10 marks_10 order_10 reach_10 heapOf_10 rows_10 x_10 overs_10 costs_10 ways_10 digits_10 beaten_10 walks_10) s.heap.size := ⟨_, rfl⟩
  rw [← hAe] at hD
  have hA : ∀ q : Nat, s.heap.size ≤ q → A q := fun q h => by rw [hAe]; exact Or.inr h
  have hS : va_S A s.heap s.heap [] := va_S.rf
  refine k_gen (fun Q hQ => ?_)
  have hl := lv_entry ([.ref (q10 0), .int k]) (n := 3) (Nat.le_of_ble_eq_true rfl)
  refine k_entry hav (lg_entry_eq ..) ?_
  generalize (lg_sl ([.ref (q10 0), .int k]) ++ List.replicate (3 - (lg_sl ([.ref (q10 0), .int k])).length) Slot.unset).toArray = ls at hl ⊢
  have hl : lv_has ls 3 [(0, .ref (q10 0)), (1, .int k)] := hl
  have hu_10 : ∀ w ∈ u_ws RX10 TX10 18, w ∈ wsX10_drop := by decide +kernel
  have hf_7 : Cond.fieldLink RX10 7 "MeetingRanksModel" "st" "[I" ∈ wsX10_drop := by decide +kernel
  have hn1 := hV.1
  have hn10 := hV.2.1
  have hm120 := hV.2.2.1
  have hx40 := hV.2.2.2.2.1
  have hk4 := hV.2.2.2.2.2.2.1
  refine lv_iload_n hx hb dX10_drop_0 rfl (lv_at hl 1 rfl) ?_
  refine lv_if_lt (tgt := 14) hx hb dX10_drop_1 (by decide) (fun c_1 => ?_) (fun c_1 => ?_)
  · skip
    refine lv_iconst (v := nI 0) hx hb dX10_drop_14 (by decide) ?_
    subst hQ; subst hAe
    exact W.zret (v := nI 0) (ty := .boolean) hx hb hr (by decide) (fun t ht _ => ⟨⟨nI 0, (st_10, kept_10, nI u, nI w), rfl, ⟨fun h => absurd h (by first | exact kIn_lo c_1 | exact kIn_nlt (by omega) c_11), fun _ => ⟨rfl, ⟨rfl, rfl, rfl, rfl⟩⟩⟩, by rw [ht]; exact hP, hD⟩, hS.F ht⟩) hS.2.2 dX10_drop_15
  · skip
    refine lv_iload_n hx hb dX10_drop_4 rfl (lv_at hl 1 rfl) ?_
    refine lv_aload_n hx hb dX10_drop_5 rfl (lv_at hl 0 rfl) ?_
    refine k_get (ci := 10) (v := .ref (q10 1)) (C := RX10) (Tb := TX10) (N := 18) hx hb hts hu_10 hown hKW hP 0 rfl rfl 0 (by decide) hf_7 rfl rfl dX10_drop_6 ?_
    refine lv_iconst (v := nI 1) hx hb dX10_drop_9 (by decide) ?_
    refine k_iald (n := 600) (i := 1) hx hb hKW hP 1 0 rfl rfl (by omega) (by omega) dX10_drop_10 ?_
    refine k_top (y := nI ml.length) (hR.2.1) ?_
    refine lv_icmp_lt (tgt := 16) hx hb dX10_drop_11 (by decide) (fun c_11 => ?_) (fun c_11 => ?_)
    · skip
      obtain ⟨k, hk, rfl⟩ := kIn_nat (kIn_lt (by omega) c_1 c_11)
      refine lv_aload_n hx hb dX10_drop_16 rfl (lv_at hl 0 rfl) ?_
      have hs_17 : kSplit (wX10 q10 cI cJ cB st_10 kept_10 (nI u) (nI w) tape_10 taped_10 marks_10 order_10 reach_10 heapOf_10 rows_10 x_10 overs_10 costs_10 ways_10 digits_10 beaten_10 walks_10) (wX10 q10 cI cJ cB st_10 kept_10 (nI u) (nI w) tape_10 taped_10 marks_10 order_10 reach_10 heapOf_10 rows_10 x_10 overs_10 costs_10 ways_10 digits_10 beaten_10 walks_10) ([] : va_W) [0, 1, 2, 3, 4, 5, 6, 7, 8, 9, 10, 11, 12, 13, 14, 15] [] := ⟨rfl, rfl, rfl, rfl, rfl, by decide⟩
      refine kc_v hP hD hS hA hs_17 (kV (As := []) (rest := []) hx hb hml hown hts hKW hP hD hs_17 (c_X10_act l D cI cJ cB q10 st_10 kept_10 tape_10 taped_10 marks_10 order_10 reach_10 heapOf_10 rows_10 x_10 overs_10 costs_10 ways_10 digits_10 beaten_10 walks_10 w u (by first | assumption | omega) (by first | assumption | omega)) (cwV 0 hts gX10_drop_X10_act rfl rfl rfl (by decide +kernel) ⟨Nat.le_of_ble_eq_true rfl, Nat.le_of_ble_eq_true rfl⟩) 0 10 rfl rfl rfl rfl hl.1 rfl (Nat.le_of_ble_eq_true rfl) dX10_drop_17 ⟨Nat.zero_le _, Nat.zero_le _⟩) (fun u_17 H locs hw_17 hP hD hS => ?_)
      obtain ⟨kept_10_17, undoable_10_17, newest_10_17⟩ := u_17
      obtain ⟨e_kept_10_17, e_undoable_10_17, e_newest_10_17⟩ := hw_17
      subst e_kept_10_17 e_undoable_10_17 e_newest_10_17
      have hP : va_P D vwCl (wX10 q10 cI cJ cB st_10 (fb_put kept_10 st_10 (600 * ((w + 1) % 40)) 600) (nI (if u < 40 then u + 1 else u)) (nI ((w + 1) % 40)) tape_10 taped_10 marks_10 order_10 reach_10 heapOf_10 rows_10 x_10 overs_10 costs_10 ways_10 digits_10 beaten_10 walks_10) H := hP.sub (ws' := (wX10 q10 cI cJ cB st_10 (fb_put kept_10 st_10 (600 * ((w + 1) % 40)) 600) (nI (if u < 40 then u + 1 else u)) (nI ((w + 1) % 40)) tape_10 taped_10 marks_10 order_10 reach_10 heapOf_10 rows_10 x_10 overs_10 costs_10 ways_10 digits_10 beaten_10 walks_10)) [0, 1, 2, 3, 4, 5, 6, 7, 8, 9, 10, 11, 12, 13, 14, 15] rfl
      have hD : va_D A (wX10 q10 cI cJ cB st_10 (fb_put kept_10 st_10 (600 * ((w + 1) % 40)) 600) (nI (if u < 40 then u + 1 else u)) (nI ((w + 1) % 40)) tape_10 taped_10 marks_10 order_10 reach_10 heapOf_10 rows_10 x_10 overs_10 costs_10 ways_10 digits_10 beaten_10 walks_10) := hD.sub (ws' := (wX10 q10 cI cJ cB st_10 (fb_put kept_10 st_10 (600 * ((w + 1) % 40)) 600) (nI (if u < 40 then u + 1 else u)) (nI ((w + 1) % 40)) tape_10 taped_10 marks_10 order_10 reach_10 heapOf_10 rows_10 x_10 overs_10 costs_10 ways_10 digits_10 beaten_10 walks_10)) [0, 1, 2, 3, 4, 5, 6, 7, 8, 9, 10, 11, 12, 13, 14, 15] (by decide) rfl
      refine lv_bipush (v := nI 11) hx hb dX10_drop_20 (by decide) ?_
      refine lv_iconst (v := nI 4) hx hb dX10_drop_22 (by decide) ?_
      refine lv_iload_n hx hb dX10_drop_23 rfl (lv_at hl 1 rfl) ?_
      refine k_imul hx hb dX10_drop_24 ?_
      refine k_iadd hx hb dX10_drop_25 ?_
      refine lv_istore_n (lv' := [(2, .int (nI (11 + (4 * k)))), (0, .ref (q10 0)), (1, .int (nI k))]) hx hb dX10_drop_26 rfl hl (by decide) rfl (fun ls hl => ?_)
      have hL_27 : ∀ (fu : Nat) (j : Nat) (hj1 : 11 + 4 * k ≤ j) (hj2 : j ≤ 11 + 4 * (ml.length - 1)), 491 - j < fu → ∀ (H : Heap) (locs : List Loc), va_P D vwCl (wX10 q10 cI cJ cB (drpF st_10 k ml.length j) (fb_put kept_10 st_10 (600 * ((w + 1) % 40)) 600) (nI (if u < 40 then u + 1 else u)) (nI ((w + 1) % 40)) tape_10 taped_10 marks_10 order_10 reach_10 heapOf_10 rows_10 x_10 overs_10 costs_10 ways_10 digits_10 beaten_10 walks_10) H → va_D A (wX10 q10 cI cJ cB (drpF st_10 k ml.length j) (fb_put kept_10 st_10 (600 * ((w + 1) % 40)) 600) (nI (if u < 40 then u + 1 else u)) (nI ((w + 1) % 40)) tape_10 taped_10 marks_10 order_10 reach_10 heapOf_10 rows_10 x_10 overs_10 costs_10 ways_10 digits_10 beaten_10 walks_10) → va_S A s.heap H locs → ∀ (ls : Array Slot), lv_has ls 3 [(0, .ref (q10 0)), (1, .int (nI k)), (2, .int (nI j))] → W p l e (headSpec wsX10_drop rmX10_drop).room s m args below meth c H locs 0 0 Q (F0 m 27 ls []) := by
        intro fu
        induction fu with
        | zero => intro j hj1 hj2 hfu; exact absurd hfu (Nat.not_lt_zero _)
        | succ fu ih_27 =>
          intro j hj1 hj2 hfu H locs hP hD hS ls hl
          refine lv_iload_n hx hb dX10_drop_27 rfl (lv_at hl 2 rfl) ?_
          refine lv_bipush (v := nI 11) hx hb dX10_drop_28 (by decide) ?_
          refine lv_iconst (v := nI 4) hx hb dX10_drop_30 (by decide) ?_
          refine lv_aload_n hx hb dX10_drop_31 rfl (lv_at hl 0 rfl) ?_
          refine k_get (ci := 10) (v := .ref (q10 1)) (C := RX10) (Tb := TX10) (N := 18) hx hb hts hu_10 hown hKW hP 0 rfl rfl 0 (by decide) hf_7 rfl rfl dX10_drop_32 ?_
          refine lv_iconst (v := nI 1) hx hb dX10_drop_35 (by decide) ?_
          refine k_iald (n := 600) (i := 1) hx hb hKW hP 1 0 rfl rfl (by omega) (by omega) dX10_drop_36 ?_
          refine k_top (y := nI ml.length) (by unfold drpF; rw [if_neg (by omega)]; exact hR.2.1) ?_
          refine lv_iconst (v := nI 1) hx hb dX10_drop_37 (by decide) ?_
          refine k_isub hx hb (by omega) dX10_drop_38 ?_
          refine k_imul hx hb dX10_drop_39 ?_
          refine k_iadd hx hb dX10_drop_40 ?_
          refine lv_icmp_ge (tgt := 64) hx hb dX10_drop_41 (by decide) (fun c_41 => ?_) (fun c_41 => ?_)
          · skip
            have c_41 := k_ge (by omega) (by omega) c_41
            obtain rfl : j = 11 + 4 * (ml.length - 1) := by omega
            refine lv_aload_n hx hb dX10_drop_64 rfl (lv_at hl 0 rfl) ?_
            refine k_get (ci := 10) (v := .ref (q10 1)) (C := RX10) (Tb := TX10) (N := 18) hx hb hts hu_10 hown hKW hP 0 rfl rfl 0 (by decide) hf_7 rfl rfl dX10_drop_65 ?_
            refine lv_iconst (v := nI 1) hx hb dX10_drop_68 (by decide) ?_
            refine lv_dup2_11 hx hb dX10_drop_69 rfl rfl ?_
            refine k_iald (n := 600) (i := 1) hx hb hKW hP 1 0 rfl rfl (by omega) (by omega) dX10_drop_70 ?_
            refine k_top (y := nI ml.length) (by unfold drpF; rw [if_neg (by omega)]; exact hR.2.1) ?_
            refine lv_iconst (v := nI 1) hx hb dX10_drop_71 (by decide) ?_
            refine k_isub hx hb (by omega) dX10_drop_72 ?_
            refine k_iast (n := 600) (i := 1) (x := nI (ml.length - 1)) (w' := (wX10 q10 cI cJ cB (upd (drpF st_10 k ml.length (11 + 4 * (ml.length - 1))) 1 (nI (ml.length - 1))) (fb_put kept_10 st_10 (600 * ((w + 1) % 40)) 600) (nI (if u < 40 then u + 1 else u)) (nI ((w + 1) % 40)) tape_10 taped_10 marks_10 order_10 reach_10 heapOf_10 rows_10 x_10 overs_10 costs_10 ways_10 digits_10 beaten_10 walks_10)) hx hb hKW hP hD hS 1 0 rfl rfl (by omega) (by omega) dX10_drop_73 rfl (fun H locs hP hD hS => ?_)
            refine lv_iconst (v := nI 1) hx hb dX10_drop_74 (by decide) ?_
            subst hQ; subst hAe
            exact W.zret (v := nI 1) (ty := .boolean) hx hb hr (by decide) (fun t ht _ => ⟨⟨nI 1, (upd (drpF st_10 k ml.length (11 + 4 * (ml.length - 1))) 1 (nI (ml.length - 1)), fb_put kept_10 st_10 (600 * ((w + 1) % 40)) 600, nI (if u < 40 then u + 1 else u), nI ((w + 1) % 40)), rfl, ⟨fun _ => ⟨rfl, by rw [k_tt (by omega)]; exact hR.drp hk4 hm120 hk, ⟨rfl, rfl, rfl⟩⟩, fun h => absurd ((kIn_nI (by omega)).mpr hk) h⟩, by rw [ht]; exact hP, hD⟩, hS.F ht⟩) hS.2.2 dX10_drop_75
          · skip
            have c_41 := k_ge_n (by omega) (by omega) c_41
            refine lv_aload_n hx hb dX10_drop_44 rfl (lv_at hl 0 rfl) ?_
            refine k_get (ci := 10) (v := .ref (q10 1)) (C := RX10) (Tb := TX10) (N := 18) hx hb hts hu_10 hown hKW hP 0 rfl rfl 0 (by decide) hf_7 rfl rfl dX10_drop_45 ?_
            refine lv_iload_n hx hb dX10_drop_48 rfl (lv_at hl 2 rfl) ?_
            refine lv_aload_n hx hb dX10_drop_49 rfl (lv_at hl 0 rfl) ?_
            refine k_get (ci := 10) (v := .ref (q10 1)) (C := RX10) (Tb := TX10) (N := 18) hx hb hts hu_10 hown hKW hP 0 rfl rfl 0 (by decide) hf_7 rfl rfl dX10_drop_50 ?_
            refine lv_iload_n hx hb dX10_drop_53 rfl (lv_at hl 2 rfl) ?_
            refine lv_iconst (v := nI 4) hx hb dX10_drop_54 (by decide) ?_
            refine k_iadd hx hb dX10_drop_55 ?_
            refine k_iald (n := 600) (i := j + 4) hx hb hKW hP 1 0 rfl rfl (by omega) (by omega) dX10_drop_56 ?_
            refine k_iast (n := 600) (i := j) (x := (drpF st_10 k ml.length j) (j + 4)) (w' := (wX10 q10 cI cJ cB (upd (drpF st_10 k ml.length j) j ((drpF st_10 k ml.length j) (j + 4))) (fb_put kept_10 st_10 (600 * ((w + 1) % 40)) 600) (nI (if u < 40 then u + 1 else u)) (nI ((w + 1) % 40)) tape_10 taped_10 marks_10 order_10 reach_10 heapOf_10 rows_10 x_10 overs_10 costs_10 ways_10 digits_10 beaten_10 walks_10)) hx hb hKW hP hD hS 1 0 rfl rfl (by omega) (by omega) dX10_drop_57 rfl (fun H locs hP hD hS => ?_)
            refine lv_iinc (v := nI (j + 1)) (lv' := [(2, .int (nI (j + 1))), (0, .ref (q10 0)), (1, .int (nI k))]) hx hb dX10_drop_58 hl (k := 2) rfl (nI_add _ _) (by decide) rfl (fun ls hl => ?_)
            refine lv_goto (tgt := 27) hx hb dX10_drop_61 (by decide) ?_
            rw [drpF_s (by omega)] at hP hD
            exact ih_27 _ (by omega) (by omega) (by omega) _ _ hP hD hS ls (lv_sub hl [1, 2, 0] rfl)
      exact hL_27 _ _ (by omega) (by omega) (Nat.lt_succ_self _) _ _ (by rw [drpF_0]; exact hP) (by rw [drpF_0]; exact hD) hS ls (lv_sub hl [1, 2, 0] rfl)
    · skip
      refine lv_iconst (v := nI 0) hx hb dX10_drop_14 (by decide) ?_
      subst hQ; subst hAe
      exact W.zret (v := nI 0) (ty := .boolean) hx hb hr (by decide) (fun t ht _ => ⟨⟨nI 0, (st_10, kept_10, nI u, nI w), rfl, ⟨fun h => absurd h (by first | exact kIn_lo c_1 | exact kIn_nlt (by omega) c_11), fun _ => ⟨rfl, ⟨rfl, rfl, rfl, rfl⟩⟩⟩, by rw [ht]; exact hP, hD⟩, hS.F ht⟩) hS.2.2 dX10_drop_15
