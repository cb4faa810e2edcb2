/-! scores, numbers, the table: what the reference counts, meeting by meeting -/
section MO
variable {x y : Nat}
theorem mo_int (hx : x ≤ 99) (hy : y ≤ 99) : (nI x - nI y).toInt = (x : Int) - y := pk_sub_toInt (by omega) (by omega)
theorem k_negsub (a b : Int32) : -(a - b) = b - a := by grind
theorem mo_gt (hx : x ≤ 99) (hy : y ≤ 99) (h : 0 < nI x - nI y) : y < x := by
  rw [Int32.lt_iff_toInt_lt, mo_int hx hy] at h; have : (0 : Int32).toInt = 0 := rfl; omega
theorem mo_gt_n (hx : x ≤ 99) (hy : y ≤ 99) (h : ¬ 0 < nI x - nI y) : x ≤ y := by
  rw [Int32.lt_iff_toInt_lt, mo_int hx hy] at h; have : (0 : Int32).toInt = 0 := rfl; omega
theorem mo_lt (hx : x ≤ 99) (hy : y ≤ 99) (h : nI x - nI y < 0) : x < y := by
  rw [Int32.lt_iff_toInt_lt, mo_int hx hy] at h; have : (0 : Int32).toInt = 0 := rfl; omega
theorem mo_lt_n (hx : x ≤ 99) (hy : y ≤ 99) (h : ¬ nI x - nI y < 0) : y ≤ x := by
  rw [Int32.lt_iff_toInt_lt, mo_int hx hy] at h; have : (0 : Int32).toInt = 0 := rfl; omega
theorem mo_ge (hx : x ≤ 99) (hy : y ≤ 99) (h : 0 ≤ nI x - nI y) : y ≤ x := by
  rw [Int32.le_iff_toInt_le, mo_int hx hy] at h; have : (0 : Int32).toInt = 0 := rfl; omega
theorem mo_ge_n (hx : x ≤ 99) (hy : y ≤ 99) (h : ¬ 0 ≤ nI x - nI y) : x < y := by
  rw [Int32.le_iff_toInt_le, mo_int hx hy] at h; have : (0 : Int32).toInt = 0 := rfl; omega
theorem mo_le (hx : x ≤ 99) (hy : y ≤ 99) (h : nI x - nI y ≤ 0) : x ≤ y := by
  rw [Int32.le_iff_toInt_le, mo_int hx hy] at h; have : (0 : Int32).toInt = 0 := rfl; omega
theorem mo_le_n (hx : x ≤ 99) (hy : y ≤ 99) (h : ¬ nI x - nI y ≤ 0) : y < x := by
  rw [Int32.le_iff_toInt_le, mo_int hx hy] at h; have : (0 : Int32).toInt = 0 := rfl; omega
theorem mo_eq (hx : x ≤ 99) (hy : y ≤ 99) (h : nI x - nI y = 0) : x = y := by
  have := mo_int hx hy; rw [h] at this; have : (0 : Int32).toInt = 0 := rfl; omega
theorem mo_eq_n (_ : x ≤ 99) (_ : y ≤ 99) (h : ¬ nI x - nI y = 0) : ¬ x = y := fun z => h (by rw [z]; exact Int32.sub_self _)
theorem mo_ne (hx : x ≤ 99) (hy : y ≤ 99) (h : ¬ nI x - nI y = 0) : ¬ x = y := mo_eq_n hx hy h
theorem mo_ne_n (hx : x ≤ 99) (hy : y ≤ 99) (h : nI x - nI y = 0) : x = y := mo_eq hx hy h
end MO
/-- what a meeting of p to q is worth by the rule -/
def byX (rr : Int32 × Int32 × Int32) (p q : Nat) : Int32 := if q < p then rr.1 else if p < q then rr.2.2 else rr.2.1
/-- what a meeting adds to a score among those of a set -/
def scX (rr : Int32 × Int32 × Int32) (p S : Nat) (x : Mt) : Int32 :=
  (if x.1 = p ∧ S / 2 ^ x.2.1 % 2 = 1 then byX rr x.2.2.1 x.2.2.2 else 0) + (if x.2.1 = p ∧ S / 2 ^ x.1 % 2 = 1 then byX rr x.2.2.2 x.2.2.1 else 0)
abbrev scF (rr : Int32 × Int32 × Int32) (ml : List Mt) (p S : Nat) : Int32 := lsI (scX rr p S) ml
def ppX (p : Nat) (x : Mt) : Nat := if x.1 = p then x.2.2.1 else x.2.2.2
def pqX (p : Nat) (x : Mt) : Nat := if x.1 = p then x.2.2.2 else x.2.2.1
def foeX (p : Nat) (x : Mt) : Nat := if x.1 = p then x.2.1 else x.1
def nbX (rr : Int32 × Int32 × Int32) (ml : List Mt) (kind p : Nat) (x : Mt) : Int32 :=
  if x.1 = p ∨ x.2.1 = p then
    (if kind = 0 then (if pqX p x < ppX p x then 1 else 0)
    else if kind = 1 then nI (ppX p x) - nI (pqX p x)
    else if kind = 2 then nI (ppX p x)
    else if kind = 3 then scF rr ml (foeX p x) 1023
    else if pqX p x < ppX p x then 2 * scF rr ml (foeX p x) 1023 else if ppX p x = pqX p x then scF rr ml (foeX p x) 1023 else 0)
  else 0
def numF (rr : Int32 × Int32 × Int32) (ml : List Mt) (kind p S : Nat) : Int32 := if kind = 5 then scF rr ml p S else lsI (nbX rr ml kind p) ml
theorem ppX_le {n p : Nat} {x : Mt} (h : okM n x) : ppX p x ≤ 99 ∧ pqX p x ≤ 99 := by
  obtain ⟨-, -, -, h4, h5⟩ := h
  unfold ppX pqX; split <;> omega
theorem foeX_lt {n p : Nat} {x : Mt} (h : okM n x) : foeX p x < n := by
  obtain ⟨h1, h2, -⟩ := h
  unfold foeX; split <;> omega
/-- rows of bits -/
def bitsOf (P : Nat → Bool) : Nat → Nat
  | 0 => 0
  | n + 1 => bitsOf P n ||| (if P n then 2 ^ n else 0)
theorem bitsOf_lt (P : Nat → Bool) : ∀ n, bitsOf P n < 2 ^ n
  | 0 => by simp [bitsOf]
  | n + 1 => by
    have h := bitsOf_lt P n
    unfold bitsOf
    refine Nat.or_lt_two_pow (Nat.lt_of_lt_of_le h (Nat.pow_le_pow_right (by decide) (by omega))) ?_
    split
    · exact Nat.pow_lt_pow_right (by decide) (by omega)
    · exact Nat.two_pow_pos _
theorem bitsOf_bit (P : Nat → Bool) : ∀ n i, (bitsOf P n).testBit i = (decide (i < n) && P i)
  | 0, i => by simp [bitsOf]
  | n + 1, i => by
    unfold bitsOf
    rw [Nat.testBit_or, bitsOf_bit P n i]
    by_cases h : i = n
    · subst h
      cases hp : P i <;> simp [hp]
    · have e : (if P n = true then 2 ^ n else 0).testBit i = false := by
        split
        · rw [Nat.testBit_two_pow]; simp; omega
        · simp
      rw [e, Bool.or_false]
      by_cases h2 : i < n
      · simp [h2, show i < n + 1 by omega]
      · simp [h2, show ¬ i < n + 1 by omega]
theorem k_or (a b : Nat) : nI a ||| nI b = nI (a ||| b) := by
  apply Int32.toBitVec_inj.mp
  show (nI a).toBitVec ||| (nI b).toBitVec = (nI (a ||| b)).toBitVec
  unfold nI
  simp [Int32.toBitVec_ofNat', BitVec.ofNat_or]
/-- alike by the marks ahead of the j-th -/
def sameB (mk : Nat → Int32) (q p : Nat) : Nat → Bool
  | 0 => true
  | j + 1 => sameB mk q p j && decide (mk (5 * q + j) = mk (5 * p + j))
theorem sameB_no {mk : Nat → Int32} {q p i : Nat} (h : sameB mk q p i = false) : ∀ j, i ≤ j → sameB mk q p j = false := by
  intro j hj
  induction j with
  | zero => obtain rfl : i = 0 := by omega
            exact h
  | succ j ih =>
    by_cases e : i = j + 1
    · rw [← e]; exact h
    · unfold sameB; rw [ih (by omega)]; rfl
abbrev alk (mk : Nat → Int32) (n p j : Nat) : Nat := bitsOf (fun q => sameB mk q p j) n
/-- ahead by the first mark that tells, from the j-th on, c of them -/
def ahd (mk : Nat → Int32) (p q : Nat) : Nat → Nat → Bool
  | _, 0 => false
  | j, c + 1 => if mk (5 * p + j) = mk (5 * q + j) then ahd mk p q (j + 1) c else decide (mk (5 * q + j) < mk (5 * p + j))
/-- insertion: p comes to its place from at downward -/
def insAt (lt : Nat → Nat → Bool) (p : Nat) : Nat → (Nat → Int32) → (Nat → Int32)
  | 0, o => upd o 0 (nI p)
  | a + 1, o => if lt p (o a).toInt.toNat then insAt lt p a (upd o (a + 1) (o a)) else upd o (a + 1) (nI p)
def ordF (lt : Nat → Nat → Bool) (o : Nat → Int32) : Nat → (Nat → Int32)
  | 0 => o
  | p + 1 => insAt lt p p (ordF lt o p)
/-- the first m places hold numbers below m -/
def ordOK (o : Nat → Int32) (m : Nat) (c : Nat) : Prop := ∀ i, i < m → ∃ j, j < c ∧ o i = nI j
/-- all marks as they must be, up to the level v -/
def GM (rr : Int32 × Int32 × Int32) (ml : List Mt) (ks : List Nat) (n : Nat) (mk : Nat → Int32) (v : Nat) : Prop :=
  (∀ p, p < n → mk (5 * p) = scF rr ml p 1023) ∧ ∀ j, j < v → ∀ p, p < n → mk (5 * p + (j + 1)) = numF rr ml (ks.getD j 0) p (alk mk n p (j + 1))
