/-! what holds of both sides between two calls -/
theorem ans_best {ml : List Mt} {n : Nat} {le mn : Nat → Int32} {r r' : Int32} (hn : n ≤ 10) (hm : ml.length ≤ 120) (h : RowOK ml n le mn (2 ^ n) ∧ r = le (2 ^ n - 1)) (h' : ∃ cs ws, FilOK ml n cs ws 0 ∧ r' = cs 0) : r = r' := by
  obtain ⟨cs, ws, g1, g2⟩ := h'
  rw [h.2, g2]; exact (row_best hn hm h.1 g1).1
theorem ans_rows {ml : List Mt} {n : Nat} {le mn : Nat → Int32} {r r' : Int32} (hn : n ≤ 10) (hm : ml.length ≤ 120) (h : RowOK ml n le mn (2 ^ n) ∧ r = mn (2 ^ n - 1)) (h' : ∃ cs ws, FilOK ml n cs ws 0 ∧ r' = ws 0) : r = r' := by
  obtain ⟨cs, ws, g1, g2⟩ := h'
  rw [h.2, g2]; exact (row_best hn hm h.1 g1).2
theorem ans_first {ml : List Mt} {n : Nat} {le mn : Nat → Int32} {r r' : Int64} (hn : n ≤ 10) (hm : ml.length ≤ 120) (h : RowOK ml n le mn (2 ^ n) ∧ r = (rwF (hdF ml n le) (2 ^ n - 1) n).1) (h' : ∃ cs ws, FilOK ml n cs ws 0 ∧ r' = (rwG (hdG ml n cs) n).1) : r = r' := by
  obtain ⟨cs, ws, g1, g2⟩ := h'
  rw [h.2, g2]; exact (row_go hn hm h.1 g1 n (Nat.le_refl _)).1
abbrev WhyP (ml : List Mt) (nx : List (Nat × Nat)) (n p : Nat) (e9 : Nat → Int32) (a9 : Nat) : Prop := (a9 = 0 ∧ EXc ml nx n p e9 (2 ^ n) ∧ noP p e9 (2 ^ n)) ∨ (0 < a9 ∧ a9 < 2 ^ n ∧ EXc ml nx n p e9 (a9 + 1) ∧ ¬ a9.testBit p = true ∧ 0 < e9 a9 ∧ noP p e9 a9)
theorem ans_why {ml : List Mt} {nx : List (Nat × Nat)} {n : Nat} {x r : Int32} (hn : n ≤ 10) (hok : ∀ x ∈ ml, okM n x) (hnx : ∀ x ∈ nx, x.1 < n ∧ x.2 < n ∧ x.1 ≠ x.2) (h : ∃ (e9 : Nat → Int32) (a9 : Nat), r = (if kIn x n then nI a9 else -1) ∧ (kIn x n → WhyP ml nx n x.toInt.toNat e9 a9)) : r = if kIn x n then nI (whyF ml nx n x.toInt.toNat) else -1 := by
  obtain ⟨e9, a9, h1, h2⟩ := h
  rw [h1]
  by_cases c : kIn x n
  · rw [if_pos c, if_pos c, why_eq hn hok hnx (h2 c)]
  · rw [if_neg c, if_neg c]
theorem ans_may {ml : List Mt} {nx : List (Nat × Nat)} {n : Nat} {x r : Int32} (hn : n ≤ 10) (hok : ∀ x ∈ ml, okM n x) (hnx : ∀ x ∈ nx, x.1 < n ∧ x.2 < n ∧ x.1 ≠ x.2) (h : ∃ (e9 : Nat → Int32) (a9 : Nat), r = (if kIn x n then (if a9 = 0 then 1 else 0) else -1) ∧ (kIn x n → WhyP ml nx n x.toInt.toNat e9 a9)) : r = if kIn x n then (if whyF ml nx n x.toInt.toNat = 0 then 1 else 0) else -1 := by
  obtain ⟨e9, a9, h1, h2⟩ := h
  rw [h1]
  by_cases c : kIn x n
  · rw [if_pos c, if_pos c, why_eq hn hok hnx (h2 c)]
  · rw [if_neg c, if_neg c]
theorem ans_meeting {p w d t f : Nat → Int32} {n : Nat} {ml : List Mt} {nx : List (Nat × Nat)} {ks : List Nat} {rr : Int32 × Int32 × Int32} {k what : Int32} (hM : MR p w d t ml) (hR : RS f n ml nx ks rr) : (if kIn k ml.length ∧ kIn what 4 then p (k.toInt.toNat * 4 + what.toInt.toNat) else -1) = (if kIn k ml.length ∧ kIn what 4 then f (11 + 4 * k.toInt.toNat + what.toInt.toNat) else -1) := by
  by_cases c : kIn k ml.length ∧ kIn what 4
  · rw [if_pos c, if_pos c]
    obtain ⟨⟨c1, c2⟩, c3, c4⟩ := c
    have h1 := hM.1 k.toInt.toNat (by omega)
    have h2 := hR.2.2.2.2.2.2.2.2.1 k.toInt.toNat (by omega)
    rcases (show what.toInt.toNat = 0 ∨ what.toInt.toNat = 1 ∨ what.toInt.toNat = 2 ∨ what.toInt.toNat = 3 by omega) with q | q | q | q
    · rw [q]; exact h1.1.trans h2.1.symm
    · rw [q]; exact h1.2.1.trans h2.2.1.symm
    · rw [q]; exact h1.2.2.1.trans h2.2.2.1.symm
    · rw [q]; exact h1.2.2.2.trans h2.2.2.2.symm
  · rw [if_neg c, if_neg c]
def INV (i : Nat) (n : Nat) (ml : List Mt) (nx : List (Nat × Nat)) (ks : List Nat) (rr : Int32 × Int32 × Int32) (hist : List Tt) (al : List Ac) (e2 w zt ch : Nat) (parts_4 wins_4 draws_4 points_4 bytes_7 games_8 parts_0 kinds_6 least_5 many_5 : Nat → Int32) (seenChanges_5 seenPlayers_5 : Int32) (st_10 kept_10 tape_10 : Nat → Int32) : Prop :=
  VS n ml nx ks ∧ MR parts_4 wins_4 draws_4 points_4 ml ∧ TC games_8 nx ∧ KD kinds_6 ks ∧ RS st_10 n ml nx ks rr ∧ w < 40 ∧ e2 < 40 ∧ hist.length ≤ 40 ∧ KP kept_10 w hist ∧ (∀ x ∈ hist, VST x) ∧ al.length = hist.length ∧ AP parts_0 e2 al ∧
  (∀ j, j < hist.length → ∃ a, al[j]? = some a ∧ UA a (tAt (n, ml, nx, ks, rr) hist j) (tAt (n, ml, nx, ks, rr) hist (j + 1))) ∧ zt ≤ 480 ∧ (∀ j, j < zt → tape_10 j = bytes_7 j &&& nI 255) ∧ ch ≤ 4800 * i ∧ (seenChanges_5 = -1 ∨ ∃ sc, sc ≤ ch ∧ seenChanges_5 = nI sc) ∧ (∀ k, k ≤ 10 → seenChanges_5 = nI ch → seenPlayers_5 = nI k → RowOK ml k least_5 many_5 (2 ^ k))
section INVS
variable {i n : Nat} {ml : List Mt} {nx : List (Nat × Nat)} {ks : List Nat} {rr : Int32 × Int32 × Int32} {hist : List Tt} {al : List Ac} {e2 w zt ch : Nat} {parts_4 wins_4 draws_4 points_4 bytes_7 games_8 parts_0 kinds_6 least_5 many_5 : Nat → Int32} {seenChanges_5 seenPlayers_5 : Int32} {st_10 kept_10 tape_10 : Nat → Int32}
theorem INV_q (h : INV i n ml nx ks rr hist al e2 w zt ch parts_4 wins_4 draws_4 points_4 bytes_7 games_8 parts_0 kinds_6 least_5 many_5 seenChanges_5 seenPlayers_5 st_10 kept_10 tape_10) : INV (i + 6) n ml nx ks rr hist al e2 w zt ch parts_4 wins_4 draws_4 points_4 bytes_7 games_8 parts_0 kinds_6 least_5 many_5 seenChanges_5 seenPlayers_5 st_10 kept_10 tape_10 := by
  obtain ⟨h1, h2, h3, h4, h5, h6, h7, h8, h9, h10, h11, h12, h13, h14, h15, h16, h17, h18⟩ := h
  exact ⟨h1, h2, h3, h4, h5, h6, h7, h8, h9, h10, h11, h12, h13, h14, h15, by omega, h17, h18⟩
/-- the rows are known anew -/
theorem INV_row {le mn : Nat → Int32} (h : INV i n ml nx ks rr hist al e2 w zt ch parts_4 wins_4 draws_4 points_4 bytes_7 games_8 parts_0 kinds_6 least_5 many_5 seenChanges_5 seenPlayers_5 st_10 kept_10 tape_10) (hr : RowOK ml n le mn (2 ^ n)) : INV (i + 6) n ml nx ks rr hist al e2 w zt ch parts_4 wins_4 draws_4 points_4 bytes_7 games_8 parts_0 kinds_6 le mn (nI ch) (nI n) st_10 kept_10 tape_10 := by
  obtain ⟨h1, h2, h3, h4, h5, h6, h7, h8, h9, h10, h11, h12, h13, h14, h15, h16, h17, h18⟩ := h
  refine ⟨h1, h2, h3, h4, h5, h6, h7, h8, h9, h10, h11, h12, h13, h14, h15, by omega, Or.inr ⟨ch, Nat.le_refl _, rfl⟩, fun k hk _ e => ?_⟩
  have hn := h1.2.1
  have : n = k := k_eq (by omega) (by omega) e
  subst this; exact hr
theorem lenH {t : Tt} {hist : List Tt} (h : hist.length ≤ 40) : (if hist.length < 40 then hist.length + 1 else 40) = ((t :: hist).take 40).length := by
  rw [List.length_take, List.length_cons]; split <;> omega
theorem lenU {t : Tt} {hist : List Tt} (h : hist.length ≤ 40) : (if hist.length < 40 then hist.length + 1 else hist.length) = ((t :: hist).take 40).length := by
  rw [List.length_take, List.length_cons]; split <;> omega
def a6 (v0 v1 v2 v3 v4 v5 : Int32) : Ac := fun j => match j with | 0 => v0 | 1 => v1 | 2 => v2 | 3 => v3 | 4 => v4 | _ => v5
theorem AP_put {pa : Nat → Int32} {e : Nat} {al : List Ac} {v0 v1 v2 v3 v4 v5 : Int32} (he : e < 40) (h : AP pa e al) : AP (upd (upd (upd (upd (upd (upd pa (e * 6) v0) ((e * 6) + 1) v1) ((e * 6) + 2) v2) ((e * 6) + 3) v3) ((e * 6) + 4) v4) ((e * 6) + 5) v5) (if e = 39 then 0 else e + 1) ((a6 v0 v1 v2 v3 v4 v5 :: al).take 40) := by
  intro j a hj k hk
  have hj40 : j < 40 := by
    have := (List.getElem?_eq_some_iff.mp hj).1
    rw [List.length_take] at this; omega
  rw [List.getElem?_take_of_lt hj40] at hj
  cases j with
  | zero =>
    cases hj
    have e1 : ((if e = 39 then 0 else e + 1) + 39 - 0) % 40 = e := by split <;> omega
    rw [e1]
    rcases (show k = 0 ∨ k = 1 ∨ k = 2 ∨ k = 3 ∨ k = 4 ∨ k = 5 by omega) with rfl | rfl | rfl | rfl | rfl | rfl <;> simp (disch := omega) only [pk_us, pk_un, Nat.add_zero] <;> rfl
  | succ j =>
    have hj2 : al[j]? = some a := hj
    have e1 : ((if e = 39 then 0 else e + 1) + 39 - (j + 1)) % 40 = (e + 39 - j) % 40 := by split <;> omega
    have e3 : (e + 39 - j) % 40 ≠ e := by omega
    have e4 : ∀ q, q < 6 → (e + 39 - j) % 40 * 6 + k ≠ e * 6 + q := fun q hq => by omega
    rw [e1, pk_un (e4 5 (by omega)), pk_un (e4 4 (by omega)), pk_un (e4 3 (by omega)), pk_un (e4 2 (by omega)), pk_un (e4 1 (by omega)), pk_un (by have := e4 0 (by omega); omega)]
    exact h j a hj2 k hk
theorem ch_act {t u : Tt} {hist : List Tt} {al : List Ac} {a : Ac} (hl : al.length = hist.length) (hU : UA a u t) (h : ∀ j, j < hist.length → ∃ a, al[j]? = some a ∧ UA a (tAt t hist j) (tAt t hist (j + 1))) : ∀ j, j < ((t :: hist).take 40).length → ∃ b, ((a :: al).take 40)[j]? = some b ∧ UA b (tAt u ((t :: hist).take 40) j) (tAt u ((t :: hist).take 40) (j + 1)) := by
  intro j hj
  rw [List.length_take, List.length_cons] at hj
  rw [List.getElem?_take_of_lt (by omega)]
  have at1 : ∀ j, j < 40 → j ≤ hist.length → tAt u ((t :: hist).take 40) (j + 1) = tAt t hist j := fun j h1 h2 => by
    unfold tAt
    rw [List.getD_cons_succ, List.getD_eq_getElem?_getD, List.getD_eq_getElem?_getD, List.getElem?_take_of_lt h1, List.getElem?_eq_getElem (by rw [List.length_cons]; omega)]
    rfl
  cases j with
  | zero => exact ⟨a, rfl, by rw [at1 0 (by omega) (by omega)]; exact hU⟩
  | succ j =>
    obtain ⟨b, h1, h2⟩ := h j (by omega)
    exact ⟨b, h1, by rw [at1 j (by omega) (by omega), at1 (j + 1) (by omega) (by omega)]; exact h2⟩
/-- an act was done on both sides -/
theorem INV_act {n' : Nat} {ml' : List Mt} {nx' : List (Nat × Nat)} {ks' : List Nat} {rr' : Int32 × Int32 × Int32} {zt' d : Nat} {p' w' d' t' g' k' st' : Nat → Int32} {v0 v1 v2 v3 v4 v5 : Int32} (h : INV i n ml nx ks rr hist al e2 w zt ch parts_4 wins_4 draws_4 points_4 bytes_7 games_8 parts_0 kinds_6 least_5 many_5 seenChanges_5 seenPlayers_5 st_10 kept_10 tape_10) (hi : i ≤ 3072)
    (hV : VS n' ml' nx' ks') (hM : MR p' w' d' t' ml') (hT : TC g' nx') (hk : KD k' ks') (hR : RS st' n' ml' nx' ks' rr') (hU : UA (a6 v0 v1 v2 v3 v4 v5) (n', ml', nx', ks', rr') (n, ml, nx, ks, rr)) (hz : zt' ≤ zt) (hd : d ≤ 4800) (hd0 : d = 0 → ml' = ml) :
    INV (i + 6) n' ml' nx' ks' rr' (((n, ml, nx, ks, rr) :: hist).take 40) ((a6 v0 v1 v2 v3 v4 v5 :: al).take 40) (if e2 = 39 then 0 else e2 + 1) ((w + 1) % 40) zt' (ch + d) p' w' d' t' bytes_7 g' (upd (upd (upd (upd (upd (upd parts_0 (e2 * 6) v0) ((e2 * 6) + 1) v1) ((e2 * 6) + 2) v2) ((e2 * 6) + 3) v3) ((e2 * 6) + 4) v4) ((e2 * 6) + 5) v5) k' least_5 many_5 seenChanges_5 seenPlayers_5 st' (fb_put kept_10 st_10 (600 * ((w + 1) % 40)) 600) tape_10 := by
  obtain ⟨h1, h2, h3, h4, h5, h6, h7, h8, h9, h10, h11, h12, h13, h14, h15, h16, h17, h18⟩ := h
  refine ⟨hV, hM, hT, hk, hR, Nat.mod_lt _ (by decide), by split <;> omega, by rw [List.length_take]; omega, KP_act (t := (n, ml, nx, ks, rr)) h6 h9 h5 h1 h10, fun x hx => ?_, by rw [List.length_take, List.length_take, List.length_cons, List.length_cons, h11], AP_put h7 h12, ch_act h11 hU h13, by omega, fun j hj => h15 j (by omega), by omega, ?_, fun k hk2 e1 e3 => ?_⟩
  · rcases List.mem_cons.mp (List.mem_of_mem_take hx) with q | q
    · rw [q]; exact h1
    · exact h10 x q
  · rcases h17 with q | ⟨sc, q1, q2⟩
    · exact Or.inl q
    · exact Or.inr ⟨sc, by omega, q2⟩
  · by_cases c : d = 0
    · subst c
      rw [hd0 rfl]; exact h18 k hk2 e1 e3
    · exfalso
      rcases h17 with q | ⟨sc, q1, q2⟩
      · rw [q] at e1
        have : ¬ (-1 : Int32) < 0 := by rw [e1]; exact nI_pos (by omega)
        exact this (by decide)
      · rw [q2] at e1
        have := k_eq (by omega) (by omega) e1
        omega
/-- some acts were undone on both sides -/
theorem INV_undo {x d : Nat} {p' w' d' t' g' k' st' : Nat → Int32} (h : INV i n ml nx ks rr hist al e2 w zt ch parts_4 wins_4 draws_4 points_4 bytes_7 games_8 parts_0 kinds_6 least_5 many_5 seenChanges_5 seenPlayers_5 st_10 kept_10 tape_10) (hi : i ≤ 3072) (hx : x ≤ hist.length)
    (hM : MR p' w' d' t' (tAt (n, ml, nx, ks, rr) hist x).2.1) (hT : TC g' (tAt (n, ml, nx, ks, rr) hist x).2.2.1) (hk : KD k' (tAt (n, ml, nx, ks, rr) hist x).2.2.2.1) (hR : RST st' (tAt (n, ml, nx, ks, rr) hist x)) (hd : d ≤ 4800) (hd0 : d = 0 → (tAt (n, ml, nx, ks, rr) hist x).2.1 = ml) :
    INV (i + 6) (tAt (n, ml, nx, ks, rr) hist x).1 (tAt (n, ml, nx, ks, rr) hist x).2.1 (tAt (n, ml, nx, ks, rr) hist x).2.2.1 (tAt (n, ml, nx, ks, rr) hist x).2.2.2.1 (tAt (n, ml, nx, ks, rr) hist x).2.2.2.2 (hist.drop x) (al.drop x) ((e2 + 40 - x) % 40) ((w + 40 - x) % 40) zt (ch + d) p' w' d' t' bytes_7 g' parts_0 k' least_5 many_5 seenChanges_5 seenPlayers_5 st' kept_10 tape_10 := by
  obtain ⟨h1, h2, h3, h4, h5, h6, h7, h8, h9, h10, h11, h12, h13, h14, h15, h16, h17, h18⟩ := h
  have hVt : VST (tAt (n, ml, nx, ks, rr) hist x) := by
    cases x with
    | zero => exact h1
    | succ x =>
      have e : hist[x]? = some (tAt (n, ml, nx, ks, rr) hist (x + 1)) := by
        unfold tAt
        rw [List.getD_cons_succ, List.getD_eq_getElem?_getD, List.getElem?_eq_getElem (by omega)]; rfl
      exact h10 _ (List.mem_of_getElem? e)
  have tt : ∀ j, j ≤ hist.length - x → tAt (tAt (n, ml, nx, ks, rr) hist x) (hist.drop x) j = tAt (n, ml, nx, ks, rr) hist (x + j) := fun j hj => by
    cases j with
    | zero => rfl
    | succ j =>
      show ((tAt (n, ml, nx, ks, rr) hist x) :: hist.drop x).getD (j + 1) _ = ((n, ml, nx, ks, rr) :: hist).getD (x + j + 1) _
      rw [List.getD_cons_succ, List.getD_cons_succ, List.getD_eq_getElem?_getD, List.getD_eq_getElem?_getD, List.getElem?_drop, List.getElem?_eq_getElem (by omega)]
      rfl
  refine ⟨hVt, hM, hT, hk, hR, Nat.mod_lt _ (by decide), Nat.mod_lt _ (by decide), by rw [List.length_drop]; omega, fun j t hj => ?_, fun y hy => h10 y (List.mem_of_mem_drop hy), by rw [List.length_drop, List.length_drop, h11], fun j a hj k hk2 => ?_, fun j hj => ?_, h14, h15, by omega, ?_, fun k hk2 q1 q2 => ?_⟩
  · rw [List.getElem?_drop] at hj
    have hlt := (List.getElem?_eq_some_iff.mp hj).1
    have := h9 (x + j) t hj
    rw [show ((w + 40 - x) % 40 + 40 - j) % 40 = (w + 40 - (x + j)) % 40 by omega]; exact this
  · rw [List.getElem?_drop] at hj
    have hlt := (List.getElem?_eq_some_iff.mp hj).1
    have := h12 (x + j) a hj k hk2
    rw [show ((e2 + 40 - x) % 40 + 39 - j) % 40 = (e2 + 39 - (x + j)) % 40 by omega]; exact this
  · rw [List.length_drop] at hj
    obtain ⟨a, a1, a2⟩ := h13 (x + j) (by omega)
    refine ⟨a, by rw [List.getElem?_drop]; exact a1, ?_⟩
    show UA a (tAt (tAt (n, ml, nx, ks, rr) hist x) (hist.drop x) j) (tAt (tAt (n, ml, nx, ks, rr) hist x) (hist.drop x) (j + 1))
    rw [tt j (by omega), tt (j + 1) (by omega)]; exact a2
  · rcases h17 with q | ⟨sc, q1, q2⟩
    · exact Or.inl q
    · exact Or.inr ⟨sc, by omega, q2⟩
  · by_cases c : d = 0
    · subst c
      rw [hd0 rfl]; exact h18 k hk2 q1 q2
    · exfalso
      rcases h17 with q | ⟨sc, r1, r2⟩
      · rw [q] at q1
        have : ¬ (-1 : Int32) < 0 := by rw [q1]; exact nI_pos (by omega)
        exact this (by decide)
      · rw [r2] at q1
        have := k_eq (by omega) (by omega) q1
        omega
end INVS
/-! the tape -/
theorem byte_and (y : Int32) : y.toInt8.toInt32 &&& nI 255 = y &&& nI 255 := by
  apply Int32.toBitVec_inj.mp
  show (BitVec.signExtend 32 (BitVec.signExtend 8 y.toBitVec)) &&& (255#32) = y.toBitVec &&& (255#32)
  apply BitVec.eq_of_getLsbD_eq
  intro j hj
  rw [BitVec.getLsbD_and, BitVec.getLsbD_and]
  by_cases c : j < 8
  · rw [BitVec.getLsbD_signExtend, BitVec.getLsbD_signExtend]
    simp [c, hj]
  · have : (255#32).getLsbD j = false := by
      rw [show (255#32) = BitVec.ofNat 32 255 from rfl, BitVec.getLsbD_ofNat, Nat.testBit_lt_two_pow (Nat.lt_of_lt_of_le (show 255 < 2 ^ 8 by decide) (Nat.pow_le_pow_right (by decide) (by omega)))]
      simp
    rw [this, Bool.and_false, Bool.and_false]
theorem tp_tb {f g : Nat → Int32} {z : Nat} {x : Int32} (h : ∀ j, j < z → f j = g j &&& nI 255) : ∀ j, j < z + 1 + 1 + 1 + 1 → tp4 f z x j = tb4 g z x j &&& nI 255 := by
  intro j hj
  unfold tp4 tb4
  rcases (show j = z + 1 + 1 + 1 ∨ j = z + 1 + 1 ∨ j = z + 1 ∨ j = z ∨ j < z by omega) with rfl | rfl | rfl | rfl | q
  · rw [pk_us, pk_us, byte_and]
  · rw [pk_un (by omega), pk_us, pk_un (by omega), pk_us, byte_and]
  · rw [pk_un (by omega), pk_un (by omega), pk_us, pk_un (by omega), pk_un (by omega), pk_us, byte_and]
  · rw [pk_un (by omega), pk_un (by omega), pk_un (by omega), pk_us, pk_un (by omega), pk_un (by omega), pk_un (by omega), pk_us, byte_and]
  · rw [pk_un (by omega), pk_un (by omega), pk_un (by omega), pk_un (by omega), pk_un (by omega), pk_un (by omega), pk_un (by omega), pk_un (by omega)]
    exact h j q
theorem shL_congr {n N : Nat} {f g : Nat → Int32} (h : ∀ j, j < N → f j = g j) : ∀ (fl k : Nat) (ml : List Mt), shL n f N fl k ml = shL n g N fl k ml
  | 0, _, _ => rfl
  | fl + 1, k, ml => by
    unfold shL
    by_cases c : k + 4 ≤ N
    · rw [h k (by omega), h (k + 1) (by omega), h (k + 2) (by omega), h (k + 3) (by omega)]
      split
      · exact shL_congr h fl (k + 4) _
      · rfl
    · rw [if_neg (fun w => c w.1), if_neg (fun w => c w.1)]
theorem shL_pre {n N : Nat} {f : Nat → Int32} : ∀ (fl k : Nat) (ml : List Mt), ∃ r, shL n f N fl k ml = ml ++ r
  | 0, _, ml => ⟨[], (List.append_nil ml).symm⟩
  | fl + 1, k, ml => by
    unfold shL
    split
    · obtain ⟨r, hr⟩ := shL_pre (n := n) (N := N) (f := f) fl (k + 4) (ml ++ [mkM (f k) (f (k + 1)) (f (k + 2)) (f (k + 3))])
      exact ⟨_, by rw [hr, List.append_assoc]⟩
    · exact ⟨[], (List.append_nil ml).symm⟩
theorem shL_ok {n N : Nat} {f : Nat → Int32} {nx : List (Nat × Nat)} {ks : List Nat} : ∀ (fl k : Nat) (ml : List Mt), VS n ml nx ks → VS n (shL n f N fl k ml) nx ks
  | 0, _, _, h => h
  | fl + 1, k, ml, h => by
    unfold shL
    split
    · rename_i c; exact shL_ok fl (k + 4) _ (h.app (okM_mk h.2.1 c.2) c.2.1)
    · exact h
theorem take_pre {ml r : List Mt} : (ml ++ r).take ((ml ++ r).length - ((ml ++ r).length - ml.length)) = ml := by
  rw [List.length_append, show ml.length + r.length - (ml.length + r.length - ml.length) = ml.length by omega, List.take_left']
  rfl
theorem era_ins {ml : List Mt} {k : Nat} (h : k < ml.length) : (ml.eraseIdx k).insertIdx k (mg ml k) = ml := by
  induction ml generalizing k with
  | nil => exact absurd h (by simp)
  | cons x l ih =>
    cases k with
    | zero => simp [mg]
    | succ k =>
      have := ih (k := k) (by simp at h; omega)
      have e : mg (x :: l) (k + 1) = mg l k := by simp [mg]
      rw [e]; simp [this]
theorem VS_era {n : Nat} {ml : List Mt} {nx : List (Nat × Nat)} {ks : List Nat} (h : VS n ml nx ks) (k : Nat) : VS n (ml.eraseIdx k) nx ks := by
  obtain ⟨h1, h2, h3, h4, h5⟩ := h
  exact ⟨h1, h2, by have := List.length_eraseIdx_le ml k; omega, fun x hx => h4 x (List.mem_of_mem_eraseIdx hx), h5⟩
theorem VS_nx {n : Nat} {ml : List Mt} {nx : List (Nat × Nat)} {ks : List Nat} (h : VS n ml nx ks) {a b : Nat} (ha : a < n) (hb : b < n) (hab : a ≠ b) (hl : nx.length < 40) : VS n ml (nx ++ [(a, b)]) ks := by
  obtain ⟨h1, h2, h3, h4, h5, h6, h7, h8⟩ := h
  refine ⟨h1, h2, h3, h4, by rw [List.length_append]; show nx.length + 1 ≤ 40; omega, fun x hx => ?_, h7, h8⟩
  rcases List.mem_append.mp hx with q | q
  · exact h6 x q
  · rw [List.mem_singleton.mp q]; exact ⟨ha, hb, hab⟩
theorem VS_ks {n : Nat} {ml : List Mt} {nx : List (Nat × Nat)} {ks : List Nat} (h : VS n ml nx ks) {k : Nat} (hk : k < 6) (hl : ks.length < 4) : VS n ml nx (ks ++ [k]) := by
  obtain ⟨h1, h2, h3, h4, h5, h6, h7, h8⟩ := h
  refine ⟨h1, h2, h3, h4, h5, h6, by rw [List.length_append]; show ks.length + 1 ≤ 4; omega, fun x hx => ?_⟩
  rcases List.mem_append.mp hx with q | q
  · exact h8 x q
  · rw [List.mem_singleton.mp q]; exact hk
theorem VS_k0 {n : Nat} {ml : List Mt} {nx : List (Nat × Nat)} {ks : List Nat} (h : VS n ml nx ks) : VS n ml nx [] := by
  obtain ⟨h1, h2, h3, h4, h5, h6, h7, h8⟩ := h
  exact ⟨h1, h2, h3, h4, h5, h6, by simp, fun x hx => by cases hx⟩
