/-! numbers under comparisons -/
theorem k_eq {a b : Nat} (ha : a < 2 ^ 31) (hb : b < 2 ^ 31) (h : nI a = nI b) : a = b := (nI_eq ha hb).mp h
theorem k_eq_n {a b : Nat} (ha : a < 2 ^ 31) (hb : b < 2 ^ 31) (h : ¬ nI a = nI b) : ¬ a = b := fun z => h ((nI_eq ha hb).mpr z)
theorem k_ne {a b : Nat} (ha : a < 2 ^ 31) (hb : b < 2 ^ 31) (h : ¬ nI a = nI b) : ¬ a = b := k_eq_n ha hb h
theorem k_ne_n {a b : Nat} (ha : a < 2 ^ 31) (hb : b < 2 ^ 31) (h : nI a = nI b) : a = b := k_eq ha hb h
theorem k_lt {a b : Nat} (ha : a < 2 ^ 31) (hb : b < 2 ^ 31) (h : nI a < nI b) : a < b := (nI_ltI ha hb).mp h
theorem k_lt_n {a b : Nat} (ha : a < 2 ^ 31) (hb : b < 2 ^ 31) (h : ¬ nI a < nI b) : b ≤ a := Nat.not_lt.mp (fun z => h ((nI_ltI ha hb).mpr z))
theorem k_ge {a b : Nat} (ha : a < 2 ^ 31) (hb : b < 2 ^ 31) (h : nI b ≤ nI a) : b ≤ a := (nI_leI hb ha).mp h
theorem k_ge_n {a b : Nat} (ha : a < 2 ^ 31) (hb : b < 2 ^ 31) (h : ¬ nI b ≤ nI a) : a < b := Nat.not_le.mp (fun z => h ((nI_leI hb ha).mpr z))
theorem k_gt {a b : Nat} (ha : a < 2 ^ 31) (hb : b < 2 ^ 31) (h : nI b < nI a) : b < a := (nI_ltI hb ha).mp h
theorem k_gt_n {a b : Nat} (ha : a < 2 ^ 31) (hb : b < 2 ^ 31) (h : ¬ nI b < nI a) : a ≤ b := Nat.not_lt.mp (fun z => h ((nI_ltI hb ha).mpr z))
theorem k_le {a b : Nat} (ha : a < 2 ^ 31) (hb : b < 2 ^ 31) (h : nI a ≤ nI b) : a ≤ b := (nI_leI ha hb).mp h
theorem k_le_n {a b : Nat} (ha : a < 2 ^ 31) (hb : b < 2 ^ 31) (h : ¬ nI a ≤ nI b) : b < a := Nat.not_le.mp (fun z => h ((nI_leI ha hb).mpr z))
theorem k0_eq {a : Nat} (ha : a < 2 ^ 31) (h : nI a = 0) : a = 0 := k_eq ha (by decide) (h.trans nI_0.symm)
theorem k0_eq_n {a : Nat} (ha : a < 2 ^ 31) (h : ¬ nI a = 0) : ¬ a = 0 := fun z => h (by rw [z]; exact nI_0)
theorem k0_ne {a : Nat} (ha : a < 2 ^ 31) (h : ¬ nI a = 0) : ¬ a = 0 := k0_eq_n ha h
theorem k0_ne_n {a : Nat} (ha : a < 2 ^ 31) (h : nI a = 0) : a = 0 := k0_eq ha h
theorem k0_lt {a : Nat} (ha : a < 2 ^ 31) (h : nI a < 0) : False := nI_pos ha h
theorem k0_lt_n {a : Nat} (_ : a < 2 ^ 31) (_ : ¬ nI a < 0) : True := trivial
theorem k0_ge {a : Nat} (_ : a < 2 ^ 31) (_ : 0 ≤ nI a) : True := trivial
theorem k0_ge_n {a : Nat} (ha : a < 2 ^ 31) (h : ¬ 0 ≤ nI a) : False := h (nI_pos' ha)
theorem k0_gt {a : Nat} (ha : a < 2 ^ 31) (h : 0 < nI a) : 0 < a := k_lt (by decide) ha (by rw [nI_0]; exact h)
theorem k0_gt_n {a : Nat} (ha : a < 2 ^ 31) (h : ¬ 0 < nI a) : a = 0 := Nat.le_zero.mp (k_lt_n (by decide) ha (by rw [nI_0]; exact h))
theorem k0_le {a : Nat} (ha : a < 2 ^ 31) (h : nI a ≤ 0) : a = 0 := Nat.le_zero.mp (k_le ha (by decide) (by rw [nI_0]; exact h))
theorem k0_le_n {a : Nat} (ha : a < 2 ^ 31) (h : ¬ nI a ≤ 0) : 0 < a := k_le_n ha (by decide) (by rw [nI_0]; exact h)
/-- an index that may be any int -/
abbrev kIn (x : Int32) (n : Nat) : Prop := 0 ≤ x.toInt ∧ x.toInt < (n : Int)
theorem kIn_nat {x : Int32} {n : Nat} (h : kIn x n) : ∃ j : Nat, j < n ∧ x = nI j := by
  have h3 := Int32.toInt_lt x
  obtain ⟨j, hj, rfl⟩ := nI_of (x := x) (fun z => by rw [Int32.lt_iff_toInt_lt] at z; have : (0 : Int32).toInt = 0 := rfl; omega)
  unfold kIn at h; rw [nI_toInt hj] at h
  exact ⟨j, by omega, rfl⟩
theorem kIn_nI {j n : Nat} (hj : j < 2 ^ 31) : kIn (nI j) n ↔ j < n := by
  unfold kIn; rw [nI_toInt hj]; omega
theorem kIn_lo {x : Int32} {n : Nat} (h : x < 0) : ¬ kIn x n := fun z => by
  rw [Int32.lt_iff_toInt_lt] at h; have : (0 : Int32).toInt = 0 := rfl; have := z.1; omega
theorem kIn_hi {x : Int32} {n : Nat} (hn : n < 2 ^ 31) (h : nI n ≤ x) : ¬ kIn x n := fun z => by
  rw [Int32.le_iff_toInt_le, nI_toInt hn] at h; have := z.2; omega
theorem kIn_of {x : Int32} {n : Nat} (hn : n < 2 ^ 31) (h0 : ¬ x < 0) (h : ¬ nI n ≤ x) : kIn x n := by
  rw [Int32.lt_iff_toInt_lt] at h0; rw [Int32.le_iff_toInt_le, nI_toInt hn] at h
  have : (0 : Int32).toInt = 0 := rfl
  constructor <;> omega
theorem k_tt {j : Nat} (hj : j < 2 ^ 31) : (nI j).toInt.toNat = j := by rw [nI_toInt hj]; rfl
theorem k_lc_lt {x y : Int64} (h : lg_cmp x y < 0) : x < y := by
  unfold lg_cmp at h; split at h
  · exact absurd h (by decide)
  · split at h
    · exact absurd h (by decide)
    · rename_i h1 h2; rw [Int64.lt_iff_toInt_lt]; rw [gt_iff_lt, Int64.lt_iff_toInt_lt] at h1
      have : x.toInt ≠ y.toInt := fun z => h2 (Int64.toInt_inj.mp z)
      omega
theorem k_lc_lt_n {x y : Int64} (h : ¬ lg_cmp x y < 0) : y ≤ x := by
  unfold lg_cmp at h; split at h
  · rename_i h1; rw [gt_iff_lt, Int64.lt_iff_toInt_lt] at h1; rw [Int64.le_iff_toInt_le]; omega
  · split at h
    · rename_i h1 h2; rw [h2, Int64.le_iff_toInt_le]; omega
    · exact absurd (by decide) h
theorem k_lc_ge {x y : Int64} (h : 0 ≤ lg_cmp x y) : y ≤ x := (lg_cmp_ge x y).mp h
theorem k_lc_ge_n {x y : Int64} (h : ¬ 0 ≤ lg_cmp x y) : ¬ y ≤ x := fun z => h ((lg_cmp_ge x y).mpr z)
theorem k_lc_le {x y : Int64} (h : lg_cmp x y ≤ 0) : x ≤ y := (lg_cmp_le x y).mp h
theorem k_lc_le_n {x y : Int64} (h : ¬ lg_cmp x y ≤ 0) : ¬ x ≤ y := fun z => h ((lg_cmp_le x y).mpr z)
theorem k_lc_eq {x y : Int64} (h : lg_cmp x y = 0) : x = y := by
  unfold lg_cmp at h; split at h
  · exact absurd h (by decide)
  · split at h
    · assumption
    · exact absurd h (by decide)
theorem k_lc_self (x : Int64) : lg_cmp x x = 0 := by
  unfold lg_cmp; rw [if_neg (by rw [gt_iff_lt, Int64.lt_iff_toInt_lt]; omega), if_pos rfl]
theorem k_lc_eq_n {x y : Int64} (h : ¬ lg_cmp x y = 0) : ¬ x = y := fun z => h (by rw [z]; exact k_lc_self y)
theorem k_lc_ne {x y : Int64} (h : ¬ lg_cmp x y = 0) : ¬ x = y := k_lc_eq_n h
theorem k_lc_ne_n {x y : Int64} (h : lg_cmp x y = 0) : x = y := k_lc_eq h
section KB
variable {p : Program} {l : Launch} {e : Env} {R : Room} {s : State} {m : MethodId} {args : Array Value} {below : List Frame} {meth : Method} {c : Code} {H : Heap} {locs : List Loc} {cells slots : Nat} {Q : State → Prop} {pc : Nat} {ls : Array Slot} {rest : List Value} {A : Nat → Prop} {D : va_G} {T : List (ClassId × FieldType)}
theorem k_bast {cc : ByteArray} {a : Nat} {ws w' : va_W} (hx : p.tables.exec = Jvm.exec) (hb : c.code = cc) (hK : KW D T s) (hP : va_P D vwCl ws H) (hD : va_D A ws) (hS : va_S A s.heap H locs) (q0 t0 : Nat) {cA : ClassId} {n : Nat} {f : Nat → Int32} (ha : ws[q0]? = some (a, .inl (cA, n, .inl f))) (ht : T[t0]? = some (cA, .byte)) {i : Nat} {x : Int32} (hin : i < n) (hn : n < 2 ^ 31) (hx8 : vp_nar .byte x = x) (hdg : decode cc pc = .ok (.bastore, 1)) (hw : ws.set q0 (a, .inl (cA, n, .inl (upd f i x))) = w')
    (kk : ∀ (H1 : Heap) (locs1 : List Loc), va_P D vwCl w' H1 → va_D A w' → va_S A s.heap H1 locs1 → W p l e R s m args below meth c H1 locs1 cells slots Q (F0 m (pc + 1) ls rest)) : W p l e R s m args below meth c H locs cells slots Q (F0 m pc ls (.int x :: .int (nI i) :: .ref a :: rest)) := by
  refine va_bast hx hb hK.1 hP hD hS q0 t0 ha ht (vp_in_nI hin hn) hdg (fun H1 locs1 h1 h2 h3 => ?_)
  rw [nI_clamp (by omega), hx8, hw] at h1 h2
  exact kk H1 locs1 h1 h2 h3
theorem k_entry {av : List Value} {n : Nat} {g : JFrame} (hav : args = av.toArray) (h : entryFrame m av.toArray n = g) (k : W p l e R s m args below meth c H locs cells slots Q g) : W p l e R s m args below meth c H locs cells slots Q (entryFrame m args n) := by
  subst hav; rw [h]; exact k
end KB
/-! the worlds -/
abbrev wX0 (q0 : Nat → Nat) (cI cJ cB : ClassId) (parts_0 : Nat → Int32) (end_0 : Int32) (size_0 : Int32) : va_W := [(q0 0, .inr (0, [.ref (q0 1), .int end_0, .int size_0])), (q0 1, .inl (cI, 240, .inl parts_0))]
abbrev wX1 (q1 : Nat → Nat) (cI cJ cB : ClassId) (beaten_1 : Nat → Int32) (unused_1 : Nat → Int32) (ways_1 : Nat → Int32) (lw_1 : Nat) : va_W := [(q1 0, .inr (1, [.ref (q1 1), .ref (q1 2), .ref (q1 3)])), (q1 1, .inl (cI, 10, .inl beaten_1)), (q1 2, .inl (cI, 100, .inl unused_1)), (q1 3, .inl (cI, lw_1, .inl ways_1))]
abbrev wX2 (q2 : Nat → Nat) (cI cJ cB : ClassId) (cells_2 : Nat → Int64) (determinant_2 : Int64) : va_W := [(q2 0, .inr (2, [.ref (q2 1), .long determinant_2])), (q2 1, .inl (cJ, 30, .inr (.inl cells_2)))]
abbrev wX3 (q3 : Nat → Nat) (cI cJ cB : ClassId) (reached_3 : Nat → Int32) (heapNumbers_3 : Nat → Int32) : va_W := [(q3 0, .inr (3, [.ref (q3 1), .ref (q3 2)])), (q3 1, .inl (cI, 10, .inl reached_3)), (q3 2, .inl (cI, 10, .inl heapNumbers_3))]
abbrev wX4 (q4 : Nat → Nat) (cI cJ cB : ClassId) (parts_4 : Nat → Int32) (wins_4 : Nat → Int32) (draws_4 : Nat → Int32) (points_4 : Nat → Int32) (count_4 : Int32) (changes_4 : Int32) : va_W := [(q4 0, .inr (4, [.ref (q4 1), .ref (q4 2), .ref (q4 3), .ref (q4 4), .int count_4, .int changes_4])), (q4 1, .inl (cI, 480, .inl parts_4)), (q4 2, .inl (cI, 100, .inl wins_4)), (q4 3, .inl (cI, 100, .inl draws_4)), (q4 4, .inl (cI, 100, .inl points_4))]
abbrev wX5 (q5 : Nat → Nat) (cI cJ cB : ClassId) (least_5 : Nat → Int32) (many_5 : Nat → Int32) (seenChanges_5 : Int32) (seenPlayers_5 : Int32) : va_W := [(q5 0, .inr (5, [.ref (q5 1), .ref (q5 2), .int seenChanges_5, .int seenPlayers_5])), (q5 1, .inl (cI, 1024, .inl least_5)), (q5 2, .inl (cI, 1024, .inl many_5))]
abbrev wX6 (q6 : Nat → Nat) (cI cJ cB : ClassId) (kinds_6 : Nat → Int32) (keys_6 : Nat → Int32) (places_6 : Nat → Int32) (kindCount_6 : Int32) (worthWon_6 : Int32) (worthDrawn_6 : Int32) (worthLost_6 : Int32) : va_W := [(q6 0, .inr (6, [.ref (q6 1), .ref (q6 2), .ref (q6 3), .int kindCount_6, .int worthWon_6, .int worthDrawn_6, .int worthLost_6])), (q6 1, .inl (cI, 4, .inl kinds_6)), (q6 2, .inl (cI, 50, .inl keys_6)), (q6 3, .inl (cI, 10, .inl places_6))]
abbrev wX7 (q7 : Nat → Nat) (cI cJ cB : ClassId) (bytes_7 : Nat → Int32) (size_7 : Int32) : va_W := [(q7 0, .inr (7, [.ref (q7 1), .int size_7])), (q7 1, .inl (cB, 480, .inl bytes_7))]
abbrev wX8 (q8 : Nat → Nat) (cI cJ cB : ClassId) (games_8 : Nat → Int32) (excess_8 : Nat → Int32) (count_8 : Int32) : va_W := [(q8 0, .inr (8, [.ref (q8 1), .ref (q8 2), .int count_8])), (q8 1, .inl (cI, 100, .inl games_8)), (q8 2, .inl (cI, 1024, .inl excess_8))]
abbrev wX9 (q9 : Nat → Nat) (q4 q7 q8 q0 q6 q3 q2 q5 q1 : Nat → Nat) (cI cJ cB : ClassId) (players_9 : Int32) : va_W := [(q9 0, .inr (9, [.ref (q4 0), .ref (q7 0), .ref (q8 0), .ref (q0 0), .ref (q6 0), .ref (q3 0), .ref (q2 0), .ref (q5 0), .ref (q1 0), .int players_9]))]
abbrev wX10 (q10 : Nat → Nat) (cI cJ cB : ClassId) (st_10 : Nat → Int32) (kept_10 : Nat → Int32) (undoable_10 : Int32) (newest_10 : Int32) (tape_10 : Nat → Int32) (taped_10 : Int32) (marks_10 : Nat → Int32) (order_10 : Nat → Int32) (reach_10 : Nat → Int32) (heapOf_10 : Nat → Int32) (rows_10 : Nat → Int64) (x_10 : Nat → Int64) (overs_10 : Nat → Int32) (costs_10 : Nat → Int32) (ways_10 : Nat → Int32) (digits_10 : Nat → Int32) (beaten_10 : Nat → Int32) (walks_10 : Nat → Int32) : va_W := [(q10 0, .inr (10, [.ref (q10 1), .ref (q10 2), .int undoable_10, .int newest_10, .ref (q10 3), .int taped_10, .ref (q10 4), .ref (q10 5), .ref (q10 6), .ref (q10 7), .ref (q10 8), .ref (q10 9), .ref (q10 10), .ref (q10 11), .ref (q10 12), .ref (q10 13), .ref (q10 14), .ref (q10 15)])), (q10 1, .inl (cI, 600, .inl st_10)), (q10 2, .inl (cI, 24000, .inl kept_10)), (q10 3, .inl (cI, 480, .inl tape_10)), (q10 4, .inl (cI, 50, .inl marks_10)), (q10 5, .inl (cI, 10, .inl order_10)), (q10 6, .inl (cI, 10, .inl reach_10)), (q10 7, .inl (cI, 10, .inl heapOf_10)), (q10 8, .inl (cJ, 36, .inr (.inl rows_10))), (q10 9, .inl (cJ, 6, .inr (.inl x_10))), (q10 10, .inl (cI, 100, .inl overs_10)), (q10 11, .inl (cI, 1024, .inl costs_10)), (q10 12, .inl (cI, 1024, .inl ways_10)), (q10 13, .inl (cI, 10, .inl digits_10)), (q10 14, .inl (cI, 10, .inl beaten_10)), (q10 15, .inl (cI, 10240, .inl walks_10))]
abbrev wX99 (q99 : Nat → Nat) (cI cJ cB : ClassId) (len_99 : Nat) (row_99 : Nat → Int32) : va_W := [(q99 0, .inl (cI, len_99, .inl row_99))]
theorem kIn_lt {x : Int32} {n : Nat} (hn : n < 2 ^ 31) (h0 : ¬ x < 0) (h : x < nI n) : kIn x n := by
  rw [Int32.lt_iff_toInt_lt] at h0; rw [Int32.lt_iff_toInt_lt, nI_toInt hn] at h
  have : (0 : Int32).toInt = 0 := rfl
  constructor <;> omega
theorem kIn_nlt {x : Int32} {n : Nat} (hn : n < 2 ^ 31) (h : ¬ x < nI n) : ¬ kIn x n := fun z => by
  rw [Int32.lt_iff_toInt_lt, nI_toInt hn] at h; have := z.2; omega
theorem k_sm : ∀ n, n < 32 → ((nI n &&& 31).toBitVec.smod 32).toNat = n := by decide +kernel
theorem k_shr {S i : Nat} (hS : S < 2 ^ 31) (hi : i < 31) : nI S >>> (nI i &&& 31) = nI (S / 2 ^ i) := pk_shrN hS _ i (k_sm i (by omega))
theorem k_shr_lt {S i : Nat} (hS : S < 2 ^ 31) : S / 2 ^ i < 2 ^ 31 := Nat.lt_of_le_of_lt (Nat.div_le_self _ _) hS
theorem k_and1 (a : Nat) (h : a < 2 ^ 31) : nI a &&& nI 1 = nI (a % 2) := pk_andN (by omega) 1 (by decide)
theorem k_shl1 {n : Nat} (hn : n < 31) : nI 1 <<< (nI n &&& 31) = nI (2 ^ n) := by
  have h := pk_shlN (n := 1) (nI n &&& 31) n (k_sm n (by omega)) (by rw [Nat.one_mul]; exact Nat.pow_lt_pow_right (by decide) (by omega))
  rw [h, Nat.one_mul]
theorem k_bit_t {S i : Nat} (h : ¬ S / 2 ^ i % 2 = 0) : (if S.testBit i = true then (1 : Int32) else 0) = nI 1 := by
  rw [if_pos]; · rfl
  · rw [Nat.testBit_eq_decide_div_mod_eq]; exact decide_eq_true (by omega)
theorem k_bit_f {S i : Nat} (h : S / 2 ^ i % 2 = 0) : (if S.testBit i = true then (1 : Int32) else 0) = nI 0 := by
  rw [if_neg]; · rfl
  · rw [Nat.testBit_eq_decide_div_mod_eq, decide_eq_true_eq]; omega
theorem k_if1 {P : Prop} [Decidable P] (h : P) : nI 1 = (if P then (1 : Int32) else 0) := (if_pos h).symm
theorem k_if0 {P : Prop} [Decidable P] (h : ¬ P) : nI 0 = (if P then (1 : Int32) else 0) := (if_neg h).symm
