/-! the core, the champion: both sides answer the same -/
def Dom (bt : Nat → Nat) (n s : Nat) : Prop := ∀ p, p < n → s.testBit p = true → ∀ i, i < n → ¬ s.testBit i = true → (bt p).testBit i = true
theorem nI_zero {a : Nat} (h : a < 2 ^ 31) : nI a = 0 ↔ a = 0 := ⟨fun z => k0_eq h z, fun z => by rw [z]; rfl⟩
theorem dom1 {n s b : Nat} (hn : n ≤ 10) : nI (2 ^ n - 1) &&& (nI s ^^^ (-1)) &&& (nI b ^^^ (-1)) = 0 ↔ ∀ i, i < n → ¬ s.testBit i = true → b.testBit i = true := by
  have h2 := pow_le_1024 hn
  have h3 := Nat.two_pow_pos n
  rw [k_andn (by omega), k_andn (bits_lt (by omega)), nI_zero (Nat.lt_trans (bits_lt (by omega)) (by decide))]
  constructor
  · intro h i hi hs
    have h : anF (anF (2 ^ n - 1) s) b = 0 := h
    have e : (anF (anF (2 ^ n - 1) s) b).testBit i = false := by rw [h, Nat.zero_testBit]
    rw [bitsOf_bit, bitsOf_bit, Nat.testBit_two_pow_sub_one, Bool.eq_false_iff.mpr hs] at e
    cases hb : b.testBit i with
    | true => rfl
    | false => rw [hb] at e; simp [hi, show i < 10 by omega] at e
  · intro h
    apply Nat.eq_of_testBit_eq
    intro i
    rw [Nat.zero_testBit, bitsOf_bit, bitsOf_bit, Nat.testBit_two_pow_sub_one]
    by_cases hi : i < n
    · by_cases hs : s.testBit i = true
      · rw [hs]; simp
      · rw [h i hi hs]; simp
    · simp [hi]
theorem domB_t {bt : Nat → Nat} {n s : Nat} (hn : n ≤ 10) : ∀ {m : Nat}, domB bt n s m = true ↔ ∀ p, p < m → s.testBit p = true → ∀ i, i < n → ¬ s.testBit i = true → (bt p).testBit i = true
  | 0 => ⟨fun _ p hp => absurd hp (Nat.not_lt_zero p), fun _ => rfl⟩
  | m + 1 => by
    unfold domB
    rw [Bool.and_eq_true, domB_t hn (m := m), Bool.or_eq_true, decide_eq_true_eq, dom1 hn]
    constructor
    · intro ⟨h1, h2⟩ p hp hb
      by_cases e : p = m
      · subst e
        rcases h2 with q | q
        · rw [hb] at q; cases q
        · exact q
      · exact h1 p (by omega) hb
    · intro h
      refine ⟨fun p hp => h p (by omega), ?_⟩
      by_cases hb : s.testBit m = true
      · exact Or.inr (h m (by omega) hb)
      · left; rw [Bool.eq_false_iff.mpr hb]; rfl
theorem core_ok {bt : Nat → Nat} {n : Nat} (hn : n ≤ 10) (hn1 : 1 ≤ n) : ∀ s, s < 2 ^ n - 1 → coreF bt n s < 2 ^ n ∧ coreF bt n s ≠ 0 ∧ Dom bt n (coreF bt n s) ∧ pcF (coreF bt n s) 10 ≤ n ∧ ∀ t, 0 < t → t ≤ s → Dom bt n t → pcF (coreF bt n s) 10 ≤ pcF t 10
  | 0, _ => by
    have h1 : 2 ^ 1 ≤ 2 ^ n := Nat.pow_le_pow_right (by decide) hn1
    refine ⟨by show 2 ^ n - 1 < 2 ^ n; omega, by show 2 ^ n - 1 ≠ 0; omega, fun p hp hb i hi hs => absurd (all_bit hi) hs, ?_, fun t h1 h2 => absurd h1 (by omega)⟩
    show pcF (2 ^ n - 1) 10 ≤ n
    rw [pcF_all n (by omega)]; exact Nat.le_refl _
  | s + 1, hs => by
    obtain ⟨h1, h2, h3, h4, h5⟩ := core_ok (bt := bt) hn hn1 s (by omega)
    unfold coreF
    by_cases c : pcF (s + 1) 10 < pcF (coreF bt n s) 10 ∧ domB bt n (s + 1) n = true
    · rw [if_pos c]
      refine ⟨by omega, by omega, (domB_t hn).mp c.2, by omega, fun t ht1 ht2 ht3 => ?_⟩
      by_cases e : t = s + 1
      · rw [e]; exact Nat.le_refl _
      · have := h5 t ht1 (by omega) ht3; omega
    · rw [if_neg c]
      refine ⟨h1, h2, h3, h4, fun t ht1 ht2 ht3 => ?_⟩
      by_cases e : t = s + 1
      · subst e
        rcases Nat.lt_or_ge (pcF (s + 1) 10) (pcF (coreF bt n s) 10) with q | q
        · exact absurd ⟨q, (domB_t hn).mpr ht3⟩ c
        · exact q
      · exact h5 t ht1 (by omega) ht3
theorem cc_ok {lu : Nat → Nat} {all : Nat} (P : Nat → Prop) (ha : P all) : ∀ m, (∀ p, p < m → P (lu p)) → P (ccF lu all m) ∧ pcF (ccF lu all m) 10 ≤ pcF all 10 ∧ ∀ p, p < m → pcF (ccF lu all m) 10 ≤ pcF (lu p) 10
  | 0, _ => ⟨ha, Nat.le_refl _, fun p hp => absurd hp (Nat.not_lt_zero p)⟩
  | m + 1, h => by
    obtain ⟨h1, h2, h3⟩ := cc_ok (lu := lu) P ha m (fun p hp => h p (by omega))
    unfold ccF
    by_cases c : pcF (lu m) 10 < pcF (ccF lu all m) 10
    · rw [if_pos c]
      refine ⟨h m (by omega), by omega, fun p hp => ?_⟩
      by_cases e : p = m
      · rw [e]; exact Nat.le_refl _
      · have := h3 p (by omega); omega
    · rw [if_neg c]
      refine ⟨h1, h2, fun p hp => ?_⟩
      by_cases e : p = m
      · rw [e]; omega
      · exact h3 p (by omega)
theorem btF_bit {ml : List Mt} {n a b : Nat} : (btF ml n a).testBit b = true ↔ b < n ∧ ov ml b a < ov ml a b := by
  rw [bitsOf_bit, Bool.and_eq_true, decide_eq_true_eq, decide_eq_true_eq]
theorem nbF_bit {ml : List Mt} {n a b : Nat} (hn : n ≤ 10) : (nbF ml n a).testBit b = true ↔ b < n ∧ ¬ (btF ml n a).testBit b = true := by
  rw [bitsOf_bit, Nat.testBit_two_pow_sub_one]
  by_cases h : b < n
  · cases e : (btF ml n a).testBit b <;> simp [h, show b < 10 by omega]
  · simp [h]
theorem nbF_lt {ml : List Mt} {n a : Nat} (hn : n ≤ 10) : nbF ml n a < 2 ^ n := lt_of_bits (fun i hi => ((nbF_bit hn).mp hi).1)
theorem clo_dom {ml : List Mt} {n C : Nat} (hn : n ≤ 10) : clo (nbF ml n) n C ↔ Dom (btF ml n) n C := by
  constructor
  · intro h p hp hb i hi hs
    refine Classical.byContradiction (fun z => hs ?_)
    exact h p hp hb i ((nbF_bit hn).mpr ⟨hi, z⟩)
  · intro h a ha hb i hi
    obtain ⟨h1, h2⟩ := (nbF_bit hn).mp hi
    refine Classical.byContradiction (fun z => h2 ?_)
    exact h a ha hb i h1 z
theorem dom_chain {ml : List Mt} {n S T : Nat} (hS : Dom (btF ml n) n S) (hT : Dom (btF ml n) n T) (hSn : S < 2 ^ n) (hTn : T < 2 ^ n) : sub2 S T ∨ sub2 T S := by
  refine Classical.byContradiction (fun hc => ?_)
  obtain ⟨i, hi1, hi2⟩ : ∃ i, S.testBit i = true ∧ ¬ T.testBit i = true := Classical.byContradiction (fun z => hc (Or.inl (fun i hi => Classical.byContradiction (fun w => z ⟨i, hi, w⟩))))
  obtain ⟨j, hj1, hj2⟩ : ∃ j, T.testBit j = true ∧ ¬ S.testBit j = true := Classical.byContradiction (fun z => hc (Or.inr (fun i hi => Classical.byContradiction (fun w => z ⟨i, hi, w⟩))))
  have a1 := (btF_bit.mp (hS i (bit_lt hSn hi1) hi1 j (bit_lt hTn hj1) hj2)).2
  have a2 := (btF_bit.mp (hT j (bit_lt hTn hj1) hj1 i (bit_lt hSn hi1) hi2)).2
  omega
theorem sub2_pc {S T n : Nat} (hn : n ≤ 10) (hT : T < 2 ^ n) (h : sub2 S T) (hp : pcF T 10 ≤ pcF S 10) : S = T := by
  refine sub2_anti h (fun i hi => Classical.byContradiction (fun z => ?_))
  have := pc_lt h z hi 10 (Nat.lt_of_lt_of_le (bit_lt hT hi) hn)
  omega
theorem core_eq {ml : List Mt} {n : Nat} (hn1 : 1 ≤ n) (hn : n ≤ 10) : ccF (fun p => luR (nbF ml n) n (2 ^ p) n) (2 ^ n - 1) n = coreF (fun a => btF ml n a) n (2 ^ n - 2) := by
  have hp1 : 2 ^ 1 ≤ 2 ^ n := Nat.pow_le_pow_right (by decide) hn1
  obtain ⟨g1, g2, g3, g4, g5⟩ := core_ok (bt := fun a => btF ml n a) hn hn1 (2 ^ n - 2) (by omega)
  have lu_lt : ∀ p, p < n → luR (nbF ml n) n (2 ^ p) n < 2 ^ n := fun p hp => by
    rw [luR_it]; exact it_lt (Nat.pow_lt_pow_right (by decide) hp) (fun S hS => jc1_b (fun a => nbF_lt hn) hS n) n
  have lu_dom : ∀ p, p < n → Dom (btF ml n) n (luR (nbF ml n) n (2 ^ p) n) := fun p hp => by
    rw [luR_it]
    exact (clo_dom hn).mp (jc1_fix (it_fix (f := fun B => jc1 (nbF ml n) B n) hn (Nat.pow_lt_pow_right (by decide) hp) (by have := Nat.two_pow_pos p; omega) (fun S hS => jc1_b (fun a => nbF_lt hn) hS n) (fun S => jc1_sup _ S n)))
  have lu_ne : ∀ p, luR (nbF ml n) n (2 ^ p) n ≠ 0 := fun p z => by
    have h : (luR (nbF ml n) n (2 ^ p) n).testBit p = true := by
      rw [luR_it]; exact it_sup (fun S => jc1_sup _ S n) n p Nat.testBit_two_pow_self
    rw [z, Nat.zero_testBit] at h; cases h
  have all_dom : Dom (btF ml n) n (2 ^ n - 1) := fun p hp hb i hi hs => absurd (all_bit hi) hs
  obtain ⟨⟨c1, c2, c3⟩, c4, c5⟩ := cc_ok (lu := fun p => luR (nbF ml n) n (2 ^ p) n) (all := 2 ^ n - 1) (fun S => S < 2 ^ n ∧ S ≠ 0 ∧ Dom (btF ml n) n S) ⟨by omega, by omega, all_dom⟩ n (fun p hp => ⟨lu_lt p hp, lu_ne p, lu_dom p hp⟩)
  -- the least one by the reference is no larger than any that dominates
  have least : ∀ t, t < 2 ^ n → t ≠ 0 → Dom (btF ml n) n t → pcF (coreF (fun a => btF ml n a) n (2 ^ n - 2)) 10 ≤ pcF t 10 := fun t h1 h2 h3 => by
    by_cases e : t = 2 ^ n - 1
    · rw [e, pcF_all n (by omega)]; exact g4
    · exact g5 t (by omega) (by omega) h3
  obtain ⟨p, hp⟩ : ∃ p, (coreF (fun a => btF ml n a) n (2 ^ n - 2)).testBit p = true := Nat.exists_testBit_of_ne_zero g2
  have hpn := bit_lt g1 hp
  have hsub : sub2 (luR (nbF ml n) n (2 ^ p) n) (coreF (fun a => btF ml n a) n (2 ^ n - 2)) := by
    rw [luR_it]
    exact it_min (fun S hS => jc1_min ((clo_dom hn).mpr g3) hS n (Nat.le_refl _)) (sub2_pow hp) n
  have hle := pc_le hsub 10
  have h5 := c5 p hpn
  have h6 := least _ c1 c2 c3
  rcases dom_chain c3 g3 c1 g1 with q | q
  · exact sub2_pc hn g1 q h6
  · exact (sub2_pc hn c1 q (by omega)).symm
theorem champ_eq {ml : List Mt} {n : Nat} (hn1 : 1 ≤ n) (hn : n ≤ 10) (hok : ∀ x ∈ ml, okM n x) : srch (fun p => decide (btF ml n p ||| 2 ^ p = 2 ^ n - 1)) 0 n = srch (fun p => decide (pcF (btF ml n p) 10 = n - 1)) 0 n := by
  refine srch_congr (fun p _ hp => decide_eq_decide.mpr ?_)
  have hp : p < n := by omega
  have hself : ¬ (btF ml n p).testBit p = true := fun z => by have := (btF_bit.mp z).2; omega
  have hlt : (btF ml n p ||| 2 ^ p) < 2 ^ n := Nat.or_lt_two_pow (bitsOf_lt _ n) (Nat.pow_lt_pow_right (by decide) hp)
  have hpc := pcF_or hself 10
  rw [if_pos (by omega)] at hpc
  constructor
  · intro h
    rw [h, pcF_all n (by omega)] at hpc; omega
  · intro h
    refine sub2_pc hn (by have := Nat.two_pow_pos n; omega) (sub2_all hlt) ?_
    rw [pcF_all n (by omega)]; omega
