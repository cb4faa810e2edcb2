/-! who beats whom, who is joined; the tape -/
abbrev btF (ml : List Mt) (n a : Nat) : Nat := bitsOf (fun b => decide (ov ml b a < ov ml a b)) n
def pcF (S : Nat) : Nat → Nat
  | 0 => 0
  | k + 1 => pcF S k + S / 2 ^ k % 2
theorem pcF_le (S : Nat) : ∀ k, pcF S k ≤ k
  | 0 => Nat.le_refl _
  | k + 1 => by have := pcF_le S k; unfold pcF; omega
def oI (o : Option Nat) : Int32 := match o with
  | some p => nI p
  | none => -1
theorem bits_lt {P : Nat → Bool} {b : Nat} (hb : b ≤ 10) : bitsOf P b < 1024 := Nat.lt_of_lt_of_le (bitsOf_lt P b) (pow_le_1024 hb)
/-- joined: one meeting, all meetings, all rounds -/
def jn1 (x : Mt) (B : Nat) : Nat := if B &&& (2 ^ x.1 ||| 2 ^ x.2.1) = 0 then B else B ||| (2 ^ x.1 ||| 2 ^ x.2.1)
def jnL : List Mt → Nat → Nat
  | [], B => B
  | x :: l, B => jnL l (jn1 x B)
theorem jnL_app : ∀ (l r : List Mt) (B : Nat), jnL (l ++ r) B = jnL r (jnL l B)
  | [], _, _ => rfl
  | x :: l, r, B => jnL_app l r (jn1 x B)
theorem jnL_take {ml : List Mt} {k : Nat} (h : k < ml.length) (B : Nat) : jnL (ml.take (k + 1)) B = jn1 (mg ml k) (jnL (ml.take k) B) := by
  rw [mg_take h, jnL_app]; rfl
def jnR (ml : List Mt) : Nat → Nat
  | 0 => 1
  | j + 1 => jnL ml (jnR ml j)
theorem jn1_lt {n : Nat} {x : Mt} {B : Nat} (hx : okM n x) (hn : n ≤ 10) (hB : B < 1024) : jn1 x B < 1024 := by
  unfold jn1
  split
  · exact hB
  · have h1 := hx.1
    have h2 := hx.2.1
    exact Nat.or_lt_two_pow (n := 10) hB (Nat.or_lt_two_pow (n := 10) (Nat.pow_lt_pow_right (by decide) (by omega)) (Nat.pow_lt_pow_right (by decide) (by omega)))
theorem jnL_lt {n : Nat} (hn : n ≤ 10) : ∀ {l : List Mt} {B : Nat}, (∀ x ∈ l, okM n x) → B < 1024 → jnL l B < 1024
  | [], _, _, hB => hB
  | x :: l, B, h, hB => jnL_lt hn (l := l) (fun y hy => h y (List.mem_cons_of_mem _ hy)) (jn1_lt (h x List.mem_cons_self) hn hB)
theorem jnR_lt {n : Nat} (hn : n ≤ 10) {ml : List Mt} (h : ∀ x ∈ ml, okM n x) : ∀ j, jnR ml j < 1024
  | 0 => (by decide : 1 < 1024)
  | j + 1 => jnL_lt hn h (jnR_lt hn h j)
theorem k_and (a b : Nat) : nI a &&& nI b = nI (a &&& b) := by
  apply Int32.toBitVec_inj.mp
  show (nI a).toBitVec &&& (nI b).toBitVec = (nI (a &&& b)).toBitVec
  unfold nI
  simp [Int32.toBitVec_ofNat', BitVec.ofNat_and]
/-- four bytes of a number come on the tape -/
def tp4 (f : Nat → Int32) (z : Nat) (x : Int32) : Nat → Int32 := upd (upd (upd (upd f z ((x >>> (nI 24 &&& 31)) &&& nI 255)) (z + 1) ((x >>> (nI 16 &&& 31)) &&& nI 255)) (z + 1 + 1) ((x >>> (nI 8 &&& 31)) &&& nI 255)) (z + 1 + 1 + 1) ((x >>> (nI 0 &&& 31)) &&& nI 255)
theorem shL_stop {n N k f : Nat} {tp : Nat → Int32} {ml : List Mt} (h : ¬ (k + 4 ≤ N ∧ meetOK n ml (tp k) (tp (k + 1)) (tp (k + 2)) (tp (k + 3)))) : shL n tp N f k ml = ml := by
  cases f with
  | zero => rfl
  | succ f => show (if _ then _ else _) = _; rw [if_neg h]
theorem shL_go {n N k f : Nat} {tp : Nat → Int32} {ml : List Mt} (h : k + 4 ≤ N ∧ meetOK n ml (tp k) (tp (k + 1)) (tp (k + 2)) (tp (k + 3))) : shL n tp N (f + 1) k ml = shL n tp N f (k + 4) (ml ++ [mkM (tp k) (tp (k + 1)) (tp (k + 2)) (tp (k + 3))]) := by
  show (if _ then _ else _) = _; rw [if_pos h]
/-- the state j acts ago -/
def tAt (t : Tt) (hist : List Tt) (j : Nat) : Tt := (t :: hist).getD j t
theorem whyF_lt (ml : List Mt) (nx : List (Nat × Nat)) (n p : Nat) : whyF ml nx n p < 2 ^ n := by
  unfold whyF
  have h2 := Nat.two_pow_pos n
  cases h : srch (fun S => !S.testBit p && decide (0 < exF ml nx n p S)) 1 (2 ^ n - 1) with
  | none => exact h2
  | some j => have := (srch_some h).2.1; show j < 2 ^ n; omega
