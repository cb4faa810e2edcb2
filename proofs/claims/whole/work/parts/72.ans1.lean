/-! the answers of score, number, table, tied are the same -/
abbrev LTc (ky : Nat → Int32) (c : Nat) : Nat → Nat → Bool := fun p q => decide (0 < cmpK ky p q 0 (1 + c))
abbrev LTr (mk : Nat → Int32) (c : Nat) : Nat → Nat → Bool := fun p q => ahd mk p q 0 (c + 1)
theorem LT_eq {n c : Nat} {ky mk : Nat → Int32} (h : KMR n c ky mk) : ∀ p q, p < n → q < n → LTc ky c p q = LTr mk c p q := fun p q hp hq => by
  show decide (0 < cmpK ky p q 0 (1 + c)) = ahd mk p q 0 (c + 1)
  rw [Nat.add_comm 1 c]; exact lt_eq h hp hq (by omega)
theorem ans_score {rr : Int32 × Int32 × Int32} {n : Nat} {ml : List Mt} {x : Int32} (hn : n ≤ 10) (hok : ∀ y ∈ ml, okM n y) : (if kIn x n then sI (wrF rr ml x.toInt.toNat) n else 0) = (if kIn x n then scF rr ml x.toInt.toNat 1023 else 0) := by
  rw [score_eq hn hok]
theorem ans_number {rr : Int32 × Int32 × Int32} {n : Nat} {ml : List Mt} {x kd r r' : Int32} (hn : n ≤ 10) (hok : ∀ y ∈ ml, okM n y) (h : ∃ ky : Nat → Int32, (∀ a, a < n → ky a = sI (wrF rr ml a) n) ∧ r = if kIn x n ∧ kIn kd 6 then sI (fun b => shF rr ml ky kd.toInt.toNat x.toInt.toNat b 1) n else 0)
    (h' : r' = if kIn x n ∧ kIn kd 6 then numF rr ml kd.toInt.toNat x.toInt.toNat (sc1 rr ml n x.toInt.toNat) else 0) : r = r' := by
  obtain ⟨ky, h1, h2⟩ := h
  rw [h2, h']
  by_cases c : kIn x n ∧ kIn kd 6
  · rw [if_pos c, if_pos c]
    obtain ⟨⟨a1, a2⟩, b1, b2⟩ := c
    have hky : ∀ b, b < n → ky b = scF rr ml b 1023 := fun b hb => by rw [h1 b hb]; exact score_eq hn hok
    refine num_eq hok hky (by omega) (fun _ b hb => ?_)
    rw [cmpK_0, bitsOf_bit, Bool.and_eq_true, decide_eq_true_eq, decide_eq_true_eq]
    refine ⟨fun H => ⟨hb, ?_⟩, fun H i hi1 hi2 => ?_⟩
    · have := H 0 (Nat.le_refl _) (by omega)
      rw [Nat.zero_mul, Nat.zero_add, Nat.zero_add, hky _ (by omega), hky b hb] at this; exact this.symm
    · obtain rfl : i = 0 := by omega
      rw [Nat.zero_mul, Nat.zero_add, Nat.zero_add, hky _ (by omega), hky b hb]; exact H.2.symm
  · rw [if_neg c, if_neg c]
theorem ans_table {rr : Int32 × Int32 × Int32} {n : Nat} {ml : List Mt} {ks : List Nat} {x r r' : Int32} (hn : n ≤ 10) (hok : ∀ y ∈ ml, okM n y) (hks : ∀ k ∈ ks, k < 6)
    (h : ∃ (ky : Nat → Int32) (o0 : Nat → Int32), (kIn x n → KM rr ml ks n ky ks.length) ∧ r = if kIn x n then ordF (LTc ky ks.length) o0 n x.toInt.toNat else -1)
    (h' : ∃ (mk : Nat → Int32) (o0 : Nat → Int32), GM rr ml ks n mk ks.length ∧ r' = if kIn x n then ordF (LTr mk ks.length) o0 n x.toInt.toNat else -1) : r = r' := by
  obtain ⟨ky, o, h1, h2⟩ := h
  obtain ⟨mk, o', g1, g2⟩ := h'
  rw [h2, g2]
  by_cases c : kIn x n
  · rw [if_pos c, if_pos c]
    have hK := keys_eq hn hok hks (h1 c) g1 ks.length (Nat.le_refl _)
    have := c.1
    have := c.2
    exact ord_same (by omega) (LT_eq hK) o o' n (Nat.le_refl _) _ (by omega)
  · rw [if_neg c, if_neg c]
theorem ans_tied {rr : Int32 × Int32 × Int32} {n : Nat} {ml : List Mt} {ks : List Nat} {x r r' : Int32} (hn : n ≤ 10) (hok : ∀ y ∈ ml, okM n y) (hks : ∀ k ∈ ks, k < 6)
    (h : ∃ (ky : Nat → Int32) (o0 : Nat → Int32), (kIn x (n - 1) → KM rr ml ks n ky ks.length) ∧ r = if kIn x (n - 1) ∧ cmpK ky (ordF (LTc ky ks.length) o0 n x.toInt.toNat).toInt.toNat (ordF (LTc ky ks.length) o0 n (x.toInt.toNat + 1)).toInt.toNat 0 (1 + ks.length) = 0 then 1 else 0)
    (h' : ∃ (mk : Nat → Int32) (o0 : Nat → Int32), GM rr ml ks n mk ks.length ∧ r' = if kIn x (n - 1) ∧ ahd mk (ordF (LTr mk ks.length) o0 n x.toInt.toNat).toInt.toNat (ordF (LTr mk ks.length) o0 n (x.toInt.toNat + 1)).toInt.toNat 0 (ks.length + 1) = false then 1 else 0) : r = r' := by
  obtain ⟨ky, o, h1, h2⟩ := h
  obtain ⟨mk, o', g1, g2⟩ := h'
  rw [h2, g2]
  by_cases c : kIn x (n - 1)
  · have hK := keys_eq hn hok hks (h1 c) g1 ks.length (Nat.le_refl _)
    have c1 := c.1
    have c2 := c.2
    rw [ord_same (by omega) (LT_eq hK) o o' n (Nat.le_refl _) _ (by omega), ord_same (by omega) (LT_eq hK) o o' n (Nat.le_refl _) _ (by omega)]
    have hs := ord_srt (lt := LTr mk ks.length) (n := n) (by omega) (fun p q hpq => ahd_asym hpq) o' n (Nat.le_refl _) x.toInt.toNat (by omega)
    obtain ⟨j1, hj1, e1⟩ := ordF_ok (LTr mk ks.length) o' n n (Nat.le_refl _) x.toInt.toNat (by omega)
    obtain ⟨j2, hj2, e2⟩ := ordF_ok (LTr mk ks.length) o' n n (Nat.le_refl _) (x.toInt.toNat + 1) (by omega)
    rw [e1, e2, k_tt (by omega), k_tt (by omega)] at hs
    rw [e1, e2, k_tt (by omega), k_tt (by omega)]
    have key : cmpK ky j1 j2 0 (1 + ks.length) = 0 ↔ ahd mk j1 j2 0 (ks.length + 1) = false := by
      rw [cmpK_0]
      refine ⟨fun H => ahd_all (fun i hi1 hi2 => ?_), fun H i hi1 hi2 => ?_⟩
      · rw [← hK i (by omega) j1 hj1, ← hK i (by omega) j2 hj2]; exact H i hi1 (by omega)
      · rw [hK i (by omega) j1 hj1, hK i (by omega) j2 hj2]; exact ahd_none H hs i hi1 (by omega)
    by_cases d : cmpK ky j1 j2 0 (1 + ks.length) = 0
    · rw [if_pos ⟨c, d⟩, if_pos ⟨c, key.mp d⟩]
    · rw [if_neg (fun z => d z.2), if_neg (fun z => d (key.mpr z.2))]
  · rw [if_neg (fun z => c z.1), if_neg (fun z => c z.1)]
