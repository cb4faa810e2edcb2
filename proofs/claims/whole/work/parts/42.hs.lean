/-! the class's heaps -/
def rA (ml : List Mt) (a : Nat) : Nat → Nat
  | 0 => 2 ^ a
  | b + 1 => if 0 < ov ml a b + dr ml a b then rA ml a b ||| 2 ^ b else rA ml a b
theorem rA_lt {ml : List Mt} {a : Nat} (ha : a < 10) : ∀ b, b ≤ 10 → rA ml a b < 1024
  | 0, _ => p2_1024 ha
  | b + 1, h => by
    have ih := rA_lt (ml := ml) ha b (by omega)
    unfold rA; split
    · exact or_1024 ih (p2_1024 (by omega))
    · exact ih
def ldB (R : Nat → Nat) (B p : Nat) : Nat → Bool
  | 0 => false
  | o + 1 => ldB R B p o || ((R o).testBit p && !(R p).testBit o && !B.testBit o)
theorem ldB_yes {R : Nat → Nat} {B p i : Nat} (e : ldB R B p i = true) : ∀ j, i ≤ j → ldB R B p j = true := by
  intro j hj
  induction j with
  | zero => obtain rfl : i = 0 := by omega
            exact e
  | succ j ih =>
    by_cases q : i = j + 1
    · rw [← q]; exact e
    · unfold ldB; rw [ih (by omega)]; rfl
theorem ld_1 {R : Nat → Nat} {B p o : Nat} (e : ldB R B p o = false) (c : ¬ (R o).testBit p = true) : ldB R B p (o + 1) = false := by
  unfold ldB; rw [e, Bool.eq_false_iff.mpr c]; rfl
theorem ld_2 {R : Nat → Nat} {B p o : Nat} (e : ldB R B p o = false) (c : (R p).testBit o = true) : ldB R B p (o + 1) = false := by
  unfold ldB; rw [e, c]; simp
theorem ld_3 {R : Nat → Nat} {B p o : Nat} (e : ldB R B p o = false) (c : B.testBit o = true) : ldB R B p (o + 1) = false := by
  unfold ldB; rw [e, c]; simp
theorem ld_4 {R : Nat → Nat} {B p o : Nat} (c1 : (R o).testBit p = true) (c2 : ¬ (R p).testBit o = true) (c3 : ¬ B.testBit o = true) : ldB R B p (o + 1) = true := by
  unfold ldB; rw [c1, Bool.eq_false_iff.mpr c2, Bool.eq_false_iff.mpr c3]; simp
abbrev luP (R : Nat → Nat) (n B : Nat) : Nat → Bool := fun p => !B.testBit p && !ldB R B p n
def luF (R : Nat → Nat) (n B : Nat) : Nat := (srch (luP R n B) 0 n).getD 0
theorem luF_lt {R : Nat → Nat} {n B : Nat} (hn : 0 < n) : luF R n B < n := by
  unfold luF
  cases h : srch (luP R n B) 0 n with
  | none => exact hn
  | some j => have := (srch_some h).2.1; show j < n; omega
abbrev mkB (R : Nat → Nat) (p : Nat) : Nat → Bool := fun o => (R o).testBit p && (R p).testBit o
def spF (R : Nat → Nat) (n : Nat) : Nat → Nat → Nat → (Nat → Int32) → Nat × (Nat → Int32)
  | 0, _, m, h => (m, h)
  | f + 1, B, m, h => if B = 2 ^ n - 1 then (m, h) else spF R n f (B ||| bitsOf (mkB R (luF R n B)) n) (m + 1) (hset R h (luF R n B) m n)
theorem spF_stop {R : Nat → Nat} {n f B m : Nat} {h : Nat → Int32} (e : B = 2 ^ n - 1) : spF R n f B m h = (m, h) := by
  cases f with
  | zero => rfl
  | succ f => show (if _ then _ else _) = _; rw [if_pos e]
theorem spF_go {R : Nat → Nat} {n f B m : Nat} {h : Nat → Int32} (e : ¬ B = 2 ^ n - 1) : spF R n (f + 1) B m h = spF R n f (B ||| bitsOf (mkB R (luF R n B)) n) (m + 1) (hset R h (luF R n B) m n) := by
  show (if _ then _ else _) = _; rw [if_neg e]
theorem or_2n {n a b : Nat} (ha : a < 2 ^ n) (hb : b < 2 ^ n) : a ||| b < 2 ^ n := Nat.or_lt_two_pow ha hb
theorem bits_n {P : Nat → Bool} {k : Nat} (h : ¬ P k = true) : bitsOf P k = bitsOf P (k + 1) := by
  show _ = bitsOf P k ||| (if P k = true then 2 ^ k else 0)
  rw [if_neg h, Nat.or_zero]
theorem bits_y {P : Nat → Bool} {k : Nat} (h : P k = true) : bitsOf P k ||| 2 ^ k = bitsOf P (k + 1) := by
  show _ = bitsOf P k ||| (if P k = true then 2 ^ k else 0)
  rw [if_pos h]
