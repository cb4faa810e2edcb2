/-! heaps -/
def updN (f : Nat → Nat) (k v : Nat) : Nat → Nat := fun j => if j = k then v else f j
theorem un_s {f : Nat → Nat} {k v : Nat} : updN f k v k = v := if_pos rfl
theorem un_n {f : Nat → Nat} {k v j : Nat} (h : j ≠ k) : updN f k v j = f j := if_neg h
/-- a row of bits behind a row of ints -/
def RB (n : Nat) (f : Nat → Int32) (R : Nat → Nat) : Prop := ∀ x, x < n → f x = nI (R x) ∧ R x < 1024
theorem RB_upd {n k v : Nat} {f : Nat → Int32} {R : Nat → Nat} (h : RB n f R) (hv : v < 1024) : RB n (upd f k (nI v)) (updN R k v) := by
  intro x hx
  by_cases e : x = k
  · subst e; rw [pk_us, un_s]; exact ⟨rfl, hv⟩
  · rw [pk_un e, un_n e]; exact h x hx
theorem or_1024 {a b : Nat} (ha : a < 1024) (hb : b < 1024) : a ||| b < 1024 := Nat.or_lt_two_pow (n := 10) ha hb
theorem p2_1024 {a : Nat} (ha : a < 10) : 2 ^ a < 1024 := Nat.lt_of_le_of_lt (pow_lt_1024 ha) (by decide)
def rcA (x : Mt) (R : Nat → Nat) : Nat → Nat := if x.2.2.2 ≤ x.2.2.1 then updN R x.1 (R x.1 ||| 2 ^ x.2.1) else R
def rcB (x : Mt) (R : Nat → Nat) : Nat → Nat := if x.2.2.1 ≤ x.2.2.2 then updN R x.2.1 (R x.2.1 ||| 2 ^ x.1) else R
def rcF : List Mt → (Nat → Nat) → Nat → Nat
  | [], R => R
  | x :: l, R => rcF l (rcB x (rcA x R))
theorem rcF_app : ∀ (l r : List Mt) (R : Nat → Nat), rcF (l ++ r) R = rcF r (rcF l R)
  | [], _, _ => rfl
  | x :: l, r, R => rcF_app l r (rcB x (rcA x R))
theorem rcF_take {ml : List Mt} {k : Nat} (h : k < ml.length) (R : Nat → Nat) : rcF (ml.take (k + 1)) R = rcB (mg ml k) (rcA (mg ml k) (rcF (ml.take k) R)) := by
  rw [mg_take h, rcF_app]; rfl
abbrev rc0 : Nat → Nat := fun x => 2 ^ x
/-- the closure: by b, the first p; by the first b -/
def wStep (b p : Nat) (R : Nat → Nat) : Nat → Nat := if (R p).testBit b = true then updN R p (R p ||| R b) else R
def wA (b : Nat) (R : Nat → Nat) : Nat → Nat → Nat
  | 0 => R
  | p + 1 => wStep b p (wA b R p)
def wB (n : Nat) (R : Nat → Nat) : Nat → Nat → Nat
  | 0 => R
  | b + 1 => wA b (wB n R b) n
/-- led by none but such as have numbers: of the first c -/
def frB (R : Nat → Nat) (h : Nat → Int32) (p : Nat) : Nat → Bool
  | 0 => true
  | q + 1 => frB R h p q && (!decide (h q < 0) || !(R q).testBit p || (R p).testBit q)
theorem frB_no {R : Nat → Nat} {h : Nat → Int32} {p i : Nat} (e : frB R h p i = false) : ∀ j, i ≤ j → frB R h p j = false := by
  intro j hj
  induction j with
  | zero => obtain rfl : i = 0 := by omega
            exact e
  | succ j ih =>
    by_cases q : i = j + 1
    · rw [← q]; exact e
    · unfold frB; rw [ih (by omega)]; rfl
theorem fr_le {R : Nat → Nat} {h : Nat → Int32} {p i j : Nat} (e : frB R h p j = true) (hij : i ≤ j) : frB R h p i = true := by
  cases q : frB R h p i with
  | true => rfl
  | false => rw [frB_no q j hij] at e; exact absurd e Bool.false_ne_true
section FR
variable {R : Nat → Nat} {h : Nat → Int32} {p q : Nat}
theorem k_ge0 {x : Int32} (z : ¬ x < 0) : 0 ≤ x := by rw [Int32.le_iff_toInt_le]; rw [Int32.lt_iff_toInt_lt] at z; omega
theorem k_ge0' {x : Int32} (z : 0 ≤ x) : ¬ x < 0 := by rw [Int32.lt_iff_toInt_lt]; rw [Int32.le_iff_toInt_le] at z; omega
theorem fr_1 (e : frB R h p q = true) (c : 0 ≤ h q) : frB R h p (q + 1) = true := by
  unfold frB; rw [e, decide_eq_false (k_ge0' c)]; rfl
theorem fr_2 (e : frB R h p q = true) (c : ¬ (R q).testBit p = true) : frB R h p (q + 1) = true := by
  unfold frB; rw [e, Bool.eq_false_iff.mpr c]; simp
theorem fr_3 (e : frB R h p q = true) (c : (R p).testBit q = true) : frB R h p (q + 1) = true := by
  unfold frB; rw [e, c]; simp
theorem fr_4 (c1 : h q < 0) (c2 : (R q).testBit p = true) (c3 : ¬ (R p).testBit q = true) : ¬ frB R h p (q + 1) = true := by
  unfold frB; rw [decide_eq_true c1, c2, Bool.eq_false_iff.mpr c3]; simp
end FR
theorem k_neg {x : Int32} (z : ¬ 0 ≤ x) : x < 0 := by rw [Int32.lt_iff_toInt_lt]; rw [Int32.le_iff_toInt_le] at z; omega
