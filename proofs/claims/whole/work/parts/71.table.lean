/-! the table: the class's keys are the reference's marks, and both orders are one -/
theorem cmp3_0 {x y : Int32} : cmp3 x y = 0 ↔ x = y := by
  unfold cmp3
  by_cases h : x < y
  · rw [if_pos h]
    refine ⟨fun z => absurd z (by decide), fun z => ?_⟩
    rw [z, Int32.lt_iff_toInt_lt] at h; omega
  · rw [if_neg h]
    by_cases h2 : x = y
    · rw [if_pos h2]; exact ⟨fun _ => h2, fun _ => rfl⟩
    · rw [if_neg h2]; exact ⟨fun z => absurd z (by decide), fun z => absurd z h2⟩
theorem cmp3_p {x y : Int32} : 0 < cmp3 x y ↔ y < x := by
  unfold cmp3
  by_cases h : x < y
  · rw [if_pos h]
    refine ⟨fun z => absurd z (by decide), fun z => ?_⟩
    rw [Int32.lt_iff_toInt_lt] at h z; omega
  · rw [if_neg h]
    by_cases h2 : x = y
    · rw [if_pos h2]; refine ⟨fun z => absurd z (by decide), fun z => absurd (h2 ▸ z) (by rw [Int32.lt_iff_toInt_lt]; omega)⟩
    · rw [if_neg h2]; refine ⟨fun _ => ?_, fun _ => by decide⟩
      have : x.toInt ≠ y.toInt := fun z => h2 (Int32.toInt_inj.mp z)
      rw [Int32.lt_iff_toInt_lt] at h ⊢; omega
theorem cmpK_0 {ky : Nat → Int32} {x y : Nat} : ∀ {c j : Nat}, cmpK ky x y j c = 0 ↔ ∀ i, j ≤ i → i < j + c → ky (i * 10 + x) = ky (i * 10 + y)
  | 0, j => ⟨fun _ i h1 h2 => absurd h1 (by omega), fun _ => rfl⟩
  | c + 1, j => by
    unfold cmpK
    by_cases h : cmp3 (ky (j * 10 + x)) (ky (j * 10 + y)) = 0
    · rw [if_pos h, cmpK_0 (c := c) (j := j + 1)]
      refine ⟨fun H i h1 h2 => ?_, fun H i h1 h2 => H i (by omega) (by omega)⟩
      by_cases e : i = j
      · rw [e]; exact cmp3_0.mp h
      · exact H i (by omega) (by omega)
    · rw [if_neg h]
      exact ⟨fun z => absurd z h, fun H => absurd (cmp3_0.mpr (H j (Nat.le_refl _) (by omega))) h⟩
theorem sameB_t {mk : Nat → Int32} {q p : Nat} : ∀ {j : Nat}, sameB mk q p j = true ↔ ∀ i, i < j → mk (5 * q + i) = mk (5 * p + i)
  | 0 => ⟨fun _ i hi => absurd hi (Nat.not_lt_zero i), fun _ => rfl⟩
  | j + 1 => by
    unfold sameB
    rw [Bool.and_eq_true, sameB_t (j := j), decide_eq_true_eq]
    refine ⟨fun H i hi => ?_, fun H => ⟨fun i hi => H i (by omega), H j (by omega)⟩⟩
    by_cases e : i = j
    · rw [e]; exact H.2
    · exact H.1 i (by omega)
/-- keys and marks -/
def KMR (n c : Nat) (ky mk : Nat → Int32) : Prop := ∀ j, j ≤ c → ∀ p, p < n → ky (j * 10 + p) = mk (5 * p + j)
theorem keys_eq {rr : Int32 × Int32 × Int32} {ml : List Mt} {ks : List Nat} {n : Nat} {ky mk : Nat → Int32} (hn : n ≤ 10) (hok : ∀ x ∈ ml, okM n x) (hks : ∀ k ∈ ks, k < 6) (hK : KM rr ml ks n ky ks.length) (hG : GM rr ml ks n mk ks.length) : ∀ c, c ≤ ks.length → KMR n c ky mk
  | 0, _ => fun j hj p hp => by
    obtain rfl : j = 0 := by omega
    rw [Nat.zero_mul, Nat.zero_add, Nat.add_zero, hK.1 p hp, hG.1 p hp]
    exact score_eq hn hok
  | c + 1, hc => fun j hj p hp => by
    have ih := keys_eq hn hok hks hK hG c (by omega)
    by_cases e : j = c + 1
    · subst e
      rw [hK.2 c (by omega) p hp, hG.2 c (by omega) p hp]
      refine num_eq hok (fun b hb => by rw [hK.1 b hb]; exact score_eq hn hok) (hks _ (gD_mem (by omega))) (fun _ b hb => ?_)
      rw [cmpK_0, bitsOf_bit, Bool.and_eq_true, decide_eq_true_eq, sameB_t]
      refine ⟨fun H => ⟨hb, fun i hi => ?_⟩, fun H i h1 h2 => ?_⟩
      · rw [← ih i (by omega) b hb, ← ih i (by omega) p hp]; exact (H i (Nat.zero_le _) (by omega)).symm
      · rw [ih i (by omega) b hb, ih i (by omega) p hp]; exact (H.2 i (by omega)).symm
    · exact ih j (by omega) p hp
theorem lt_eq {n c : Nat} {ky mk : Nat → Int32} {p q : Nat} (h : KMR n c ky mk) (hp : p < n) (hq : q < n) : ∀ {k j : Nat}, j + k ≤ c + 1 → decide (0 < cmpK ky p q j k) = ahd mk p q j k
  | 0, j, _ => by show decide (0 < (0 : Int32)) = false; decide
  | k + 1, j, hj => by
    unfold cmpK ahd
    rw [← h j (by omega) p hp, ← h j (by omega) q hq]
    by_cases e : ky (j * 10 + p) = ky (j * 10 + q)
    · rw [if_pos (cmp3_0.mpr e), if_pos e]; exact lt_eq h hp hq (by omega)
    · rw [if_neg (fun z => e (cmp3_0.mp z)), if_neg e]
      exact decide_eq_decide.mpr cmp3_p
theorem ahd_asym {mk : Nat → Int32} {p q : Nat} : ∀ {k j : Nat}, ahd mk p q j k = true → ahd mk q p j k = false
  | 0, _, h => by cases h
  | k + 1, j, h => by
    unfold ahd at h ⊢
    by_cases e : mk (5 * p + j) = mk (5 * q + j)
    · rw [if_pos e] at h; rw [if_pos e.symm]; exact ahd_asym h
    · rw [if_neg e] at h; rw [if_neg (fun z => e z.symm)]
      have h := of_decide_eq_true h
      apply decide_eq_false
      rw [Int32.lt_iff_toInt_lt] at h ⊢; omega
theorem ahd_none {mk : Nat → Int32} {p q : Nat} : ∀ {k j : Nat}, ahd mk p q j k = false → ahd mk q p j k = false → ∀ i, j ≤ i → i < j + k → mk (5 * p + i) = mk (5 * q + i)
  | 0, j, _, _, i, h1, h2 => absurd h1 (by omega)
  | k + 1, j, h, h', i, h1, h2 => by
    unfold ahd at h h'
    by_cases e : mk (5 * p + j) = mk (5 * q + j)
    · rw [if_pos e] at h; rw [if_pos e.symm] at h'
      by_cases ei : i = j
      · rw [ei]; exact e
      · exact ahd_none h h' i (by omega) (by omega)
    · rw [if_neg e] at h; rw [if_neg (fun z => e z.symm)] at h'
      have h := of_decide_eq_false h
      have h' := of_decide_eq_false h'
      exfalso; apply e
      apply Int32.toInt_inj.mp
      rw [Int32.lt_iff_toInt_lt] at h h'; omega
theorem ahd_all {mk : Nat → Int32} {p q : Nat} : ∀ {k j : Nat}, (∀ i, j ≤ i → i < j + k → mk (5 * p + i) = mk (5 * q + i)) → ahd mk p q j k = false
  | 0, _, _ => rfl
  | k + 1, j, h => by
    unfold ahd
    rw [if_pos (h j (Nat.le_refl _) (by omega))]
    exact ahd_all (fun i h1 h2 => h i (by omega) (by omega))
/-- insertion, alike on both sides -/
theorem ins_same {lt lt' : Nat → Nat → Bool} {p n : Nat} (hn : n < 2 ^ 31) (hl : ∀ q, q < n → lt p q = lt' p q) : ∀ (a : Nat) (o o' : Nat → Int32) (m : Nat), a ≤ m → (∀ i, i < a → o i = o' i ∧ ∃ j, j < n ∧ o i = nI j) → (∀ i, a < i → i ≤ m → o i = o' i) → ∀ i, i ≤ m → insAt lt p a o i = insAt lt' p a o' i
  | 0, o, o', m, _, _, h2, i, hi => by
    unfold insAt
    by_cases e : i = 0
    · rw [e, pk_us, pk_us]
    · rw [pk_un e, pk_un e]; exact h2 i (by omega) hi
  | a + 1, o, o', m, ha, h1, h2, i, hi => by
    obtain ⟨e1, j, hj, ej⟩ := h1 a (by omega)
    unfold insAt
    rw [← e1, ej, k_tt (by omega), hl j hj]
    by_cases c : lt' p j = true
    · rw [if_pos c, if_pos c]
      refine ins_same hn hl a _ _ m (by omega) (fun i hi => ?_) (fun i hi hi2 => ?_) i hi
      · rw [pk_un (by omega), pk_un (by omega)]; exact h1 i (by omega)
      · by_cases e : i = a + 1
        · rw [e, pk_us, pk_us]
        · rw [pk_un e, pk_un e]; exact h2 i (by omega) hi2
    · rw [if_neg c, if_neg c]
      by_cases e : i = a + 1
      · rw [e, pk_us, pk_us]
      · rw [pk_un e, pk_un e]
        by_cases e2 : i < a + 1
        · exact (h1 i e2).1
        · exact h2 i (by omega) hi
theorem ord_same {lt lt' : Nat → Nat → Bool} {n : Nat} (hn : n < 2 ^ 31) (hl : ∀ p q, p < n → q < n → lt p q = lt' p q) (o o' : Nat → Int32) : ∀ p, p ≤ n → ∀ i, i < p → ordF lt o p i = ordF lt' o' p i
  | 0, _, i, hi => absurd hi (Nat.not_lt_zero i)
  | p + 1, hp, i, hi => by
    unfold ordF
    have hk := ordF_ok lt o n p (by omega)
    exact ins_same hn (fun q hq => hl p q (by omega) hq) p _ _ p (Nat.le_refl _) (fun j hj => ⟨ord_same hn hl o o' p (by omega) j hj, hk j hj⟩) (fun j h1 h2 => absurd h1 (by omega)) i (by omega)
/-- what stands in order -/
def srt (lt : Nat → Nat → Bool) (o : Nat → Int32) (m : Nat) : Prop := ∀ i, i + 1 < m → lt (o (i + 1)).toInt.toNat (o i).toInt.toNat = false
theorem ins_srt {lt : Nat → Nat → Bool} {p : Nat} (hp : p < 2 ^ 31) (hA : ∀ q, lt p q = true → lt q p = false) : ∀ (a : Nat) (o : Nat → Int32) (m : Nat), a ≤ m → srt lt o a → (∀ i, a < i → i + 1 ≤ m → lt (o (i + 1)).toInt.toNat (o i).toInt.toNat = false) → (a < m → lt (o (a + 1)).toInt.toNat p = false ∧ (0 < a → lt (o (a + 1)).toInt.toNat (o (a - 1)).toInt.toNat = false)) → srt lt (insAt lt p a o) (m + 1)
  | 0, o, m, _, _, h2, h3 => by
    intro i hi
    unfold insAt
    by_cases e : i = 0
    · rw [e, pk_us, pk_un (by omega), k_tt hp]; exact (h3 (by omega)).1
    · rw [pk_un (by omega), pk_un e]; exact h2 i (by omega) (by omega)
  | a + 1, o, m, ha, h1, h2, h3 => by
    unfold insAt
    by_cases c : lt p (o a).toInt.toNat = true
    · rw [if_pos c]
      refine ins_srt hp hA a _ m (by omega) (fun i hi => ?_) (fun i hi hi2 => ?_) (fun _ => ?_)
      · rw [pk_un (by omega), pk_un (by omega)]; exact h1 i (by omega)
      · by_cases e : i = a + 1
        · subst e
          rw [pk_us, pk_un (by omega)]
          have := (h3 (by omega)).2 (by omega)
          rwa [Nat.add_sub_cancel] at this
        · rw [pk_un (by omega), pk_un e]; exact h2 i (by omega) hi2
      · rw [pk_us]
        refine ⟨hA _ c, fun h0 => ?_⟩
        rw [pk_un (by omega)]
        have := h1 (a - 1) (by omega)
        rwa [show a - 1 + 1 = a by omega] at this
    · rw [if_neg c]
      intro i hi
      by_cases e : i = a + 1
      · subst e; rw [pk_us, pk_un (by omega), k_tt hp]; exact (h3 (by omega)).1
      · by_cases e2 : i = a
        · subst e2; rw [pk_us, pk_un (by omega), k_tt hp]; exact Bool.eq_false_iff.mpr c
        · rw [pk_un (by omega), pk_un e]
          by_cases e3 : i + 1 < a + 1
          · exact h1 i e3
          · exact h2 i (by omega) (by omega)
theorem ord_srt {lt : Nat → Nat → Bool} {n : Nat} (hn : n < 2 ^ 31) (hA : ∀ p q, lt p q = true → lt q p = false) (o : Nat → Int32) : ∀ p, p ≤ n → srt lt (ordF lt o p) p
  | 0, _ => fun i hi => absurd hi (Nat.not_lt_zero _)
  | p + 1, hp => by
    unfold ordF
    exact ins_srt (by omega) (hA p) p _ p (Nat.le_refl _) (ord_srt hn hA o p (by omega)) (fun i h1 h2 => absurd h1 (by omega)) (fun h => absurd h (Nat.lt_irrefl _))
