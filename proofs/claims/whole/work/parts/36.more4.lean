/-! the reference's cost and first -/
theorem or_div {S p k : Nat} : (S ||| 2 ^ p) / 2 ^ k % 2 = if k = p then 1 else S / 2 ^ k % 2 := by
  have h1 : (S ||| 2 ^ p).testBit k = decide ((S ||| 2 ^ p) / 2 ^ k % 2 = 1) := Nat.testBit_eq_decide_div_mod_eq
  rw [Nat.testBit_or, Nat.testBit_two_pow, Nat.testBit_eq_decide_div_mod_eq] at h1
  by_cases e : k = p
  · subst e
    rw [if_pos rfl]
    simp at h1
    exact h1
  · rw [if_neg e]
    have e2 : ¬ p = k := fun z => e z.symm
    simp [e2] at h1
    omega
theorem pcF_or {S p : Nat} (h : ¬ S.testBit p = true) : ∀ m, pcF (S ||| 2 ^ p) m = pcF S m + (if p < m then 1 else 0)
  | 0 => rfl
  | m + 1 => by
    have ih := pcF_or h m
    unfold pcF
    rw [ih, or_div]
    by_cases e : m = p
    · subst e
      have := tb_mod0.mp h
      rw [if_pos rfl, if_neg (by omega), if_pos (by omega)]; omega
    · rw [if_neg e]
      by_cases q : p < m
      · rw [if_pos q, if_pos (by omega)]; omega
      · rw [if_neg q, if_neg (by omega)]; omega
theorem pcF_all : ∀ n, n < 11 → pcF (2 ^ n - 1) 10 = n := by decide +kernel
theorem mnS_att {ok : Nat → Bool} {v w : Nat → Int32} : ∀ n, (∃ k, k < n ∧ ok k = true ∧ v k = (mnS ok v w n).1) ∨ ((mnS ok v w n).1 = nI 2147483647 ∧ ∀ k, k < n → ¬ ok k = true)
  | 0 => Or.inr ⟨rfl, fun k hk => absurd hk (Nat.not_lt_zero k)⟩
  | n + 1 => by
    unfold mnS
    by_cases e : ok n = true
    · rw [if_pos e]
      unfold mnT
      by_cases c1 : v n < (mnS ok v w n).1
      · rw [if_pos c1]; exact Or.inl ⟨n, by omega, e, rfl⟩
      · rw [if_neg c1]
        by_cases c2 : v n = (mnS ok v w n).1
        · rw [if_pos c2]; exact Or.inl ⟨n, by omega, e, c2⟩
        · rw [if_neg c2]
          rcases mnS_att (ok := ok) (v := v) (w := w) n with ⟨k, h1, h2, h3⟩ | ⟨h1, h2⟩
          · exact Or.inl ⟨k, by omega, h2, h3⟩
          · exfalso
            rw [h1] at c1 c2
            rw [Int32.lt_iff_toInt_lt] at c1
            have e1 : (nI 2147483647).toInt = 2147483647 := by decide
            have e2 := Int32.toInt_lt (v n)
            exact c2 (Int32.toInt_inj.mp (by omega))
    · rw [if_neg e]
      rcases mnS_att (ok := ok) (v := v) (w := w) n with ⟨k, h1, h2, h3⟩ | ⟨h1, h2⟩
      · exact Or.inl ⟨k, by omega, h2, h3⟩
      · refine Or.inr ⟨h1, fun k hk => ?_⟩
        by_cases q : k = n
        · rw [q]; exact e
        · exact h2 k (by omega)
/-- a set below all leaves one out -/
theorem free_of {n s : Nat} (h : s < 2 ^ n - 1) : ∃ p, p < n ∧ ¬ s.testBit p = true := by
  refine Classical.byContradiction (fun hc => ?_)
  have hall : ∀ p, p < n → s.testBit p = true := fun p hp => Classical.byContradiction (fun z => hc ⟨p, hp, z⟩)
  have : s = 2 ^ n - 1 := by
    apply Nat.eq_of_testBit_eq
    intro i
    rw [Nat.testBit_two_pow_sub_one]
    by_cases hi : i < n
    · rw [hall i hi]; simp [hi]
    · rw [Nat.testBit_lt_two_pow (Nat.lt_of_lt_of_le (show s < 2 ^ n by omega) (Nat.pow_le_pow_right (by decide) (by omega)))]; simp [hi]
  omega
abbrev hdP (ml : List Mt) (n : Nat) (cs : Nat → Int32) (s : Nat) : Nat → Bool := fun p => !s.testBit p && decide (bhI ml n p s + cs (s ||| 2 ^ p) = cs s)
theorem hd_some {ml : List Mt} {n s : Nat} {cs ws : Nat → Int32} (h : FilOK ml n cs ws 0) (hs : s < 2 ^ n - 1) : ∃ p, srch (hdP ml n cs s) 0 n = some p := by
  cases e : srch (hdP ml n cs s) 0 n with
  | some p => exact ⟨p, rfl⟩
  | none =>
    exfalso
    have hn := srch_none e
    have h1 := (h.2.2 s (Nat.zero_le _) hs).1
    rcases mnS_att (ok := fun p => !s.testBit p) (v := fun p => bhI ml n p s + cs (s ||| 2 ^ p)) (w := fun p => ws (s ||| 2 ^ p)) n with ⟨k, hk, ho, hv⟩ | ⟨-, hno⟩
    · have := hn k (Nat.zero_le _) (by omega)
      unfold hdP at this
      rw [show (!s.testBit k) = true from ho, Bool.true_and, decide_eq_false_iff_not] at this
      exact this (hv.trans h1.symm)
    · obtain ⟨p, hp, hb⟩ := free_of hs
      exact hno p hp (nb_t hb)
def hdG (ml : List Mt) (n : Nat) (cs : Nat → Int32) (s : Nat) : Nat := (srch (hdP ml n cs s) 0 n).getD 0
theorem hdG_eq {ml : List Mt} {n s p : Nat} {cs : Nat → Int32} (h : srch (hdP ml n cs s) 0 n = some p) : hdG ml n cs s = p := by
  unfold hdG; rw [h]; rfl
def rwG (hd : Nat → Nat) : Nat → Int64 × Nat
  | 0 => (0, 0)
  | k + 1 => (10 * (rwG hd k).1 + (nI (hd (rwG hd k).2)).toInt64, (rwG hd k).2 ||| 2 ^ hd (rwG hd k).2)
/-- after k steps the set has k of it -/
theorem rwG_set {ml : List Mt} {n : Nat} {cs ws : Nat → Int32} (hn : n ≤ 10) (h : FilOK ml n cs ws 0) : ∀ k, k ≤ n → (rwG (hdG ml n cs) k).2 < 2 ^ n ∧ pcF (rwG (hdG ml n cs) k).2 10 = k
  | 0, _ => ⟨Nat.two_pow_pos n, (by decide : pcF 0 10 = 0)⟩
  | k + 1, hk => by
    obtain ⟨h1, h2⟩ := rwG_set hn h k (by omega)
    have hne : (rwG (hdG ml n cs) k).2 ≠ 2 ^ n - 1 := fun z => by rw [z, pcF_all n (by omega)] at h2; omega
    obtain ⟨p, hp⟩ := hd_some h (show (rwG (hdG ml n cs) k).2 < 2 ^ n - 1 by omega)
    have hh : hdG ml n cs (rwG (hdG ml n cs) k).2 = p := hdG_eq hp
    obtain ⟨-, q2, q3, -⟩ := srch_some hp
    have hb : ¬ (rwG (hdG ml n cs) k).2.testBit p = true := by
      unfold hdP at q3
      rw [Bool.and_eq_true] at q3
      intro z; rw [z] at q3; exact Bool.false_ne_true q3.1
    show ((rwG (hdG ml n cs) k).2 ||| 2 ^ hdG ml n cs (rwG (hdG ml n cs) k).2) < 2 ^ n ∧ pcF ((rwG (hdG ml n cs) k).2 ||| 2 ^ hdG ml n cs (rwG (hdG ml n cs) k).2) 10 = k + 1
    rw [hh]
    refine ⟨Nat.or_lt_two_pow h1 (Nat.pow_lt_pow_right (by decide) (by omega)), ?_⟩
    rw [pcF_or hb, h2, if_pos (by omega)]
/-- digits of a row, from the last on: can it be a row -/
def coV (n : Nat) : Nat → Nat → Nat → Bool
  | 0, R, _ => decide (R = 0)
  | k + 1, R, B => !(decide (n ≤ R % 10) || B.testBit (R % 10)) && coV n k (R / 10) (B ||| 2 ^ (R % 10))
def coS (dg : Nat → Nat) (bh : Nat → Nat → Int32) : Nat → Int32 × Nat
  | 0 => (nI 0, 0)
  | k + 1 => ((coS dg bh k).1 + bh (dg k) (coS dg bh k).2, (coS dg bh k).2 ||| 2 ^ dg k)
abbrev dgF (R n k : Nat) : Nat := R / 10 ^ (n - 1 - k) % 10
theorem coS_lt {dg : Nat → Nat} {bh : Nat → Nat → Int32} : ∀ k, (∀ i, i < k → dg i < 10) → (coS dg bh k).2 < 1024
  | 0, _ => (by decide : 0 < 1024)
  | k + 1, h => Nat.or_lt_two_pow (n := 10) (coS_lt k (fun i hi => h i (by omega))) (Nat.pow_lt_pow_right (by decide) (h k (by omega)))
theorem pow10_div {R j : Nat} : R / 10 ^ j / 10 = R / 10 ^ (j + 1) := by rw [Nat.div_div_eq_div_mul, Nat.pow_succ]
theorem hdP_t {ml : List Mt} {n s p : Nat} {cs : Nat → Int32} (h1 : ¬ s.testBit p = true) (h2 : bhI ml n p s + cs (s ||| 2 ^ p) = cs s) : hdP ml n cs s p = true := by
  unfold hdP; rw [nb_t h1, Bool.true_and]; exact decide_eq_true h2
theorem coV_s {n k R B : Nat} : coV n (k + 1) R B = (!(decide (n ≤ R % 10) || B.testBit (R % 10)) && coV n k (R / 10) (B ||| 2 ^ (R % 10))) := rfl
theorem dg_step {R0 R n t : Nat} (hR : R = R0 / 10 ^ (n - t)) (ht : 1 ≤ t) (htn : t ≤ n) : dgF R0 n (t - 1) = R % 10 := by
  unfold dgF; rw [hR, show n - 1 - (t - 1) = n - t by omega]
theorem dg_next {R0 R n t : Nat} (hR : R = R0 / 10 ^ (n - t)) (ht : 1 ≤ t) (htn : t ≤ n) : R / 10 = R0 / 10 ^ (n - (t - 1)) := by
  rw [hR, pow10_div, show n - t + 1 = n - (t - 1) by omega]
theorem coV_0 {n R B : Nat} : coV n 0 R B = decide (R = 0) := rfl
