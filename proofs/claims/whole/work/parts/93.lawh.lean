/-! the law: what is known all along, and the way back to the loop -/
theorem k_sld {p : Program} {l : Launch} {e : Env} {R : Room} {s : State} {m : MethodId} {args : Array Value} {below : List Frame} {meth : Method} {c : Code} {cc : ByteArray} {A : Nat → Prop} {H0 H : Heap} {locs : List Loc} {cells slots : Nat} {Q : State → Prop} {pc : Nat} {ls : Array Slot} {rest : List Value} (hx : p.tables.exec = Jvm.exec) (hb : c.code = cc) {b L : Nat} {xs : Nat → Int32} (hX : va_X b L xs s H0) (hbl : b < H0.size) (hbA : ¬ A b) (hS : va_S A H0 H locs) {i : Nat} (hi : i < L) (hL : L < 2 ^ 31) (hdg : decode cc pc = .ok (.iaload, 1))
    (kk : W p l e R s m args below meth c H locs cells slots Q (F0 m (pc + 1) ls (.int (xs i) :: rest))) : W p l e R s m args below meth c H locs cells slots Q (F0 m pc ls (.int (nI i) :: .ref b :: rest)) :=
  va_sld hx hb hX hbl hbA hS (vp_in_nI hi hL) hdg (by rw [nI_clamp (by omega)]; exact kk)
/-- the room used so far: the row of walks not made yet, or made -/
def RmS (lw cc sc : Nat) : Prop := (lw = 0 ∧ cc = 45 ∧ sc = 42566) ∨ (lw = 10240 ∧ cc = 46 ∧ sc = 52806)
theorem RmS.fit {lw cc sc : Nat} (h : RmS lw cc sc) : cc ≤ room_1.cells ∧ sc ≤ room_1.slots := by
  have h1 : room_1.cells = 600000 := rfl
  have h2 : room_1.slots = 7302250 := rfl
  rw [h1, h2]
  rcases h with ⟨-, h3, h4⟩ | ⟨-, h3, h4⟩ <;> omega
theorem RmS.cost {lw cc sc : Nat} (h : RmS lw cc sc) : ∃ mc ms, CW lw mc ms ∧ RmS 10240 (cc + mc) (sc + ms) := by
  rcases h with ⟨h1, h2, h3⟩ | ⟨h1, h2, h3⟩
  · exact ⟨1, 10240, Or.inl ⟨h1, rfl, rfl⟩, Or.inr ⟨rfl, by omega, by omega⟩⟩
  · exact ⟨0, 0, Or.inr ⟨h1, rfl, rfl⟩, Or.inr ⟨rfl, by omega, by omega⟩⟩
theorem wX9_q {q9 q4 q7 q8 q0 q6 q3 q2 q5 q1 q1' : Nat → Nat} {cI cJ cB : ClassId} {x : Int32} (h : q1' 0 = q1 0) : wX9 q9 q4 q7 q8 q0 q6 q3 q2 q5 q1' cI cJ cB x = wX9 q9 q4 q7 q8 q0 q6 q3 q2 q5 q1 cI cJ cB x :=
  congrArg (fun z => ([(q9 0, .inr (9, [.ref (q4 0), .ref (q7 0), .ref (q8 0), .ref (q0 0), .ref (q6 0), .ref (q3 0), .ref (q2 0), .ref (q5 0), .ref z, .int x]))] : va_W)) h
def LA (p : Program) (s : State) (m : MethodId) (c : Code) (b L : Nat) (xs : Nat → Int32) (D : va_G) (cI cJ cB : ClassId) (A : Nat → Prop) : Prop := p.tables.exec = Jvm.exec ∧ c.code = code ∧ c.maxLocals = 4 ∧ s.vm.findClass RL = some m.cls ∧ (∀ w ∈ wsL_law, w.before #[.ref b] s = true) ∧ KW D (kT cI cJ cB) s ∧ (∀ q : Nat, s.heap.size ≤ q → A q) ∧ va_X b L xs s s.heap ∧ b < s.heap.size ∧ ¬ A b ∧ L ≤ 3072
abbrev Back (p : Program) (l : Launch) (e : Env) (s : State) (m : MethodId) (below : List Frame) (meth : Method) (c : Code) (b : Nat) (D : va_G) (cI cJ cB : ClassId) (q9 q4 q7 q8 q0 q6 q3 q2 q5 q10 : Nat → Nat) (A : Nat → Prop) (Q : State → Prop) (i : Nat) : Prop :=
  ∀ ⦃q1 : Nat → Nat⦄ ⦃cc sc : Nat⦄ ⦃n : Nat⦄ ⦃ml : List Mt⦄ ⦃nx : List (Nat × Nat)⦄ ⦃ks : List Nat⦄ ⦃rr : Int32 × Int32 × Int32⦄ ⦃hist : List Tt⦄ ⦃al : List Ac⦄ ⦃e2 : Nat⦄ ⦃w : Nat⦄ ⦃zt : Nat⦄ ⦃ch : Nat⦄ ⦃parts_4 : Nat → Int32⦄ ⦃wins_4 : Nat → Int32⦄ ⦃draws_4 : Nat → Int32⦄ ⦃points_4 : Nat → Int32⦄ ⦃bytes_7 : Nat → Int32⦄ ⦃games_8 : Nat → Int32⦄ ⦃excess_8 : Nat → Int32⦄ ⦃parts_0 : Nat → Int32⦄ ⦃kinds_6 : Nat → Int32⦄ ⦃keys_6 : Nat → Int32⦄ ⦃places_6 : Nat → Int32⦄ ⦃reached_3 : Nat → Int32⦄ ⦃heapNumbers_3 : Nat → Int32⦄ ⦃cells_2 : Nat → Int64⦄ ⦃determinant_2 : Int64⦄ ⦃least_5 : Nat → Int32⦄ ⦃many_5 : Nat → Int32⦄ ⦃seenChanges_5 : Int32⦄ ⦃seenPlayers_5 : Int32⦄ ⦃beaten_1 : Nat → Int32⦄ ⦃unused_1 : Nat → Int32⦄ ⦃ways_1 : Nat → Int32⦄ ⦃lw_1 : Nat⦄ ⦃st_10 : Nat → Int32⦄ ⦃kept_10 : Nat → Int32⦄ ⦃tape_10 : Nat → Int32⦄ ⦃marks_10 : Nat → Int32⦄ ⦃order_10 : Nat → Int32⦄ ⦃reach_10 : Nat → Int32⦄ ⦃heapOf_10 : Nat → Int32⦄ ⦃rows_10 : Nat → Int64⦄ ⦃x_10 : Nat → Int64⦄ ⦃overs_10 : Nat → Int32⦄ ⦃costs_10 : Nat → Int32⦄ ⦃ways_10 : Nat → Int32⦄ ⦃digits_10 : Nat → Int32⦄ ⦃beaten_10 : Nat → Int32⦄ ⦃walks_10 : Nat → Int32⦄, RmS lw_1 cc sc → INV (i + 6) n ml nx ks rr hist al e2 w zt ch parts_4 wins_4 draws_4 points_4 bytes_7 games_8 parts_0 kinds_6 least_5 many_5 seenChanges_5 seenPlayers_5 st_10 kept_10 tape_10 → ∀ (H : Heap) (locs : List Loc), va_P D vwCl (wX9 q9 q4 q7 q8 q0 q6 q3 q2 q5 q1 cI cJ cB (nI n) ++ wX4 q4 cI cJ cB parts_4 wins_4 draws_4 points_4 (nI ml.length) (nI ch) ++ wX7 q7 cI cJ cB bytes_7 (nI zt) ++ wX8 q8 cI cJ cB games_8 excess_8 (nI nx.length) ++ wX0 q0 cI cJ cB parts_0 (nI e2) (nI hist.length) ++ wX6 q6 cI cJ cB kinds_6 keys_6 places_6 (nI ks.length) rr.1 rr.2.1 rr.2.2 ++ wX3 q3 cI cJ cB reached_3 heapNumbers_3 ++ wX2 q2 cI cJ cB cells_2 determinant_2 ++ wX5 q5 cI cJ cB least_5 many_5 seenChanges_5 seenPlayers_5 ++ wX1 q1 cI cJ cB beaten_1 unused_1 ways_1 lw_1 ++ wX10 q10 cI cJ cB st_10 kept_10 (nI hist.length) (nI w) tape_10 (nI zt) marks_10 order_10 reach_10 heapOf_10 rows_10 x_10 overs_10 costs_10 ways_10 digits_10 beaten_10 walks_10) H → va_D A (wX9 q9 q4 q7 q8 q0 q6 q3 q2 q5 q1 cI cJ cB (nI n) ++ wX4 q4 cI cJ cB parts_4 wins_4 draws_4 points_4 (nI ml.length) (nI ch) ++ wX7 q7 cI cJ cB bytes_7 (nI zt) ++ wX8 q8 cI cJ cB games_8 excess_8 (nI nx.length) ++ wX0 q0 cI cJ cB parts_0 (nI e2) (nI hist.length) ++ wX6 q6 cI cJ cB kinds_6 keys_6 places_6 (nI ks.length) rr.1 rr.2.1 rr.2.2 ++ wX3 q3 cI cJ cB reached_3 heapNumbers_3 ++ wX2 q2 cI cJ cB cells_2 determinant_2 ++ wX5 q5 cI cJ cB least_5 many_5 seenChanges_5 seenPlayers_5 ++ wX1 q1 cI cJ cB beaten_1 unused_1 ways_1 lw_1 ++ wX10 q10 cI cJ cB st_10 kept_10 (nI hist.length) (nI w) tape_10 (nI zt) marks_10 order_10 reach_10 heapOf_10 rows_10 x_10 overs_10 costs_10 ways_10 digits_10 beaten_10 walks_10) → va_S A s.heap H locs → ∀ (ls : Array Slot), lv_has ls 4 [(0, .ref b), (1, .ref (q9 0)), (2, .ref (q10 0)), (3, .int (nI i))] → W p l e room_1 s m #[.ref b] below meth c H locs cc sc Q (F0 m 930 ls [])
theorem lenA {α : Type} {l : List α} {x : α} : l.length + 1 = (l ++ [x]).length := by rw [List.length_append]; rfl
theorem VS_n {n : Nat} {ml : List Mt} {nx : List (Nat × Nat)} {ks : List Nat} (h : VS n ml nx ks) (hn : n < 10) : VS (n + 1) ml nx ks := by
  obtain ⟨h1, h2, h3, h4, h5, h6, h7, h8⟩ := h
  exact ⟨by omega, by omega, h3, fun x hx => okM_up (h4 x hx) (by omega), h5, fun x hx => ⟨by have := (h6 x hx).1; omega, by have := (h6 x hx).2.1; omega, (h6 x hx).2.2⟩, h7, h8⟩
theorem VST_at {t : Tt} {hist : List Tt} (h : VST t) (h2 : ∀ x ∈ hist, VST x) : ∀ j, j ≤ hist.length → VST (tAt t hist j) := by
  intro j hj
  cases j with
  | zero => exact h
  | succ j =>
    have e : hist[j]? = some (tAt t hist (j + 1)) := by
      unfold tAt
      rw [List.getD_cons_succ, List.getD_eq_getElem?_getD, List.getElem?_eq_getElem (by omega)]; rfl
    exact h2 _ (List.mem_of_getElem? e)
section UAS
variable {n : Nat} {ml r : List Mt} {nx : List (Nat × Nat)} {ks : List Nat} {rr : Int32 × Int32 × Int32} {v1 v2 v3 v4 v5 : Int32}
theorem UA_player : UA (a6 (nI 0) v1 v2 v3 v4 v5) (n + 1, ml, nx, ks, rr) (n, ml, nx, ks, rr) := Or.inl ⟨nI_0, rfl⟩
theorem UA_sheet (h : r.length = (ml ++ r).length - ml.length) : UA (a6 (nI 1) (nI ((ml ++ r).length - ml.length)) v2 v3 v4 v5) (n, ml ++ r, nx, ks, rr) (n, ml, nx, ks, rr) :=
  Or.inr (Or.inl ⟨by show nI 1 = 1; decide, _, rfl, by show (ml ++ r).length - ml.length ≤ (ml ++ r).length; omega, by show (n, ml, nx, ks, rr) = (n, (ml ++ r).take _, nx, ks, rr); rw [take_pre]⟩)
theorem UA_meet {x : Mt} : UA (a6 (nI 1) (nI 1) v2 v3 v4 v5) (n, ml ++ [x], nx, ks, rr) (n, ml, nx, ks, rr) := by
  have := UA_sheet (n := n) (ml := ml) (r := [x]) (nx := nx) (ks := ks) (rr := rr) (v2 := v2) (v3 := v3) (v4 := v4) (v5 := v5) (by rw [List.length_append]; show 1 = ml.length + 1 - ml.length; omega)
  rw [List.length_append, show ml.length + [x].length - ml.length = 1 by show ml.length + 1 - ml.length = 1; omega] at this; exact this
theorem UA_drop {k : Nat} (hV : VS n ml nx ks) (hk : k < ml.length) : UA (a6 (nI 2) (nI k) (nI (mg ml k).1) (nI (mg ml k).2.1) (nI (mg ml k).2.2.1) (nI (mg ml k).2.2.2)) (n, ml.eraseIdx k, nx, ks, rr) (n, ml, nx, ks, rr) := by
  have e := List.length_eraseIdx_of_lt hk
  have h3 := hV.2.2.1
  exact Or.inr (Or.inr (Or.inl ⟨by show nI 2 = 2; decide, k, mg ml k, rfl, by show k ≤ (ml.eraseIdx k).length; omega, by show (ml.eraseIdx k).length < 120; omega, okM_up (hV.m hk) hV.2.1, rfl, rfl, rfl, rfl, by show (n, ml, nx, ks, rr) = (n, (ml.eraseIdx k).insertIdx k (mg ml k), nx, ks, rr); rw [era_ins hk]⟩))
theorem UA_next {x y : Nat} (hx : x < 10) (hy : y < 10) (hxy : x ≠ y) : UA (a6 (nI 3) (nI x) (nI y) v3 v4 v5) (n, ml, nx ++ [(x, y)], ks, rr) (n, ml, nx, ks, rr) :=
  Or.inr (Or.inr (Or.inr (Or.inl ⟨by show nI 3 = 3; decide, x, y, rfl, rfl, hx, hy, hxy, rfl⟩)))
theorem UA_rule {r2 : Int32 × Int32 × Int32} : UA (a6 (nI 4) rr.1 rr.2.1 rr.2.2 v4 v5) (n, ml, nx, ks, r2) (n, ml, nx, ks, rr) :=
  Or.inr (Or.inr (Or.inr (Or.inr (Or.inl ⟨by show nI 4 = 4; decide, rfl⟩))))
theorem UA_tie {k : Nat} : UA (a6 (nI 5) v1 v2 v3 v4 v5) (n, ml, nx, ks ++ [k], rr) (n, ml, nx, ks, rr) :=
  Or.inr (Or.inr (Or.inr (Or.inr (Or.inr (Or.inl ⟨by show nI 5 = 5; decide, k, rfl⟩)))))
theorem UA_ties {f : Nat → Int32} (h : KD f ks) (hk : ks.length ≤ 4) : UA (a6 (nI 6) (nI ks.length) (if 0 < ks.length then f 0 else -1) (if 1 < ks.length then f 1 else -1) (if 2 < ks.length then f 2 else -1) (if 3 < ks.length then f 3 else -1)) (n, ml, nx, [], rr) (n, ml, nx, ks, rr) := by
  refine Or.inr (Or.inr (Or.inr (Or.inr (Or.inr (Or.inr ⟨by show nI 6 = 6; decide, rfl, hk, fun j hj => ?_, rfl⟩)))))
  have hj2 : j < ks.length := hj
  rcases (show j = 0 ∨ j = 1 ∨ j = 2 ∨ j = 3 by omega) with rfl | rfl | rfl | rfl
  · exact (if_pos hj2).trans (h 0 hj2)
  · exact (if_pos hj2).trans (h 1 hj2)
  · exact (if_pos hj2).trans (h 2 hj2)
  · exact (if_pos hj2).trans (h 3 hj2)
end UAS
