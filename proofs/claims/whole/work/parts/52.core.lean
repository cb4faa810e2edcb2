/-! the class's core and walks -/
abbrev anF (A S : Nat) : Nat := bitsOf (fun b => A.testBit b && !S.testBit b) 10
theorem k_andn {A S : Nat} (hA : A < 1024) : nI A &&& (nI S ^^^ (-1)) = nI (anF A S) := by
  apply Int32.toBitVec_inj.mp
  apply BitVec.eq_of_getLsbD_eq
  intro j hj
  have e1 : ∀ z : Nat, (nI z).toBitVec.getLsbD j = z.testBit j := by
    intro z
    unfold nI
    rw [show (Int32.ofNat z).toBitVec = BitVec.ofNat 32 z from rfl, BitVec.getLsbD_ofNat]
    simp [hj]
  have e2 : (-1 : Int32).toBitVec.getLsbD j = true := by
    rw [show (-1 : Int32).toBitVec = BitVec.allOnes 32 by decide, BitVec.getLsbD_allOnes]; simp [hj]
  show ((nI A).toBitVec &&& ((nI S).toBitVec ^^^ (-1 : Int32).toBitVec)).getLsbD j = _
  rw [BitVec.getLsbD_and, BitVec.getLsbD_xor, e1, e1, e1, e2, bitsOf_bit]
  by_cases h : j < 10
  · simp [h]
  · rw [Nat.testBit_lt_two_pow (Nat.lt_of_lt_of_le hA (show 1024 ≤ 2 ^ j from Nat.pow_le_pow_right (show 0 < 2 by decide) (show 10 ≤ j by omega)))]; simp [h]
abbrev nbF (ml : List Mt) (n a : Nat) : Nat := anF (2 ^ n - 1) (btF ml n a)
def luR (fo : Nat → Nat) (n B0 : Nat) : Nat → Nat
  | 0 => B0
  | j + 1 => jc1 fo (luR fo n B0 j) n
theorem luR_lt {fo : Nat → Nat} {n B0 : Nat} (hB : B0 < 1024) (hf : ∀ a, fo a < 1024) : ∀ j, luR fo n B0 j < 1024
  | 0 => hB
  | j + 1 => jc1_lt (luR_lt hB hf j) hf n
def ccF (lu : Nat → Nat) (all : Nat) : Nat → Nat
  | 0 => all
  | p + 1 => if pcF (lu p) 10 < pcF (ccF lu all p) 10 then lu p else ccF lu all p
theorem ccF_lt {lu : Nat → Nat} {all : Nat} (ha : all < 1024) (hl : ∀ p, p < 10 → lu p < 1024) : ∀ p, p ≤ 10 → ccF lu all p < 1024
  | 0, _ => ha
  | p + 1, h => by
    unfold ccF; split
    · exact hl p (by omega)
    · exact ccF_lt ha hl p (by omega)
theorem ccF_y {lu : Nat → Nat} {all p : Nat} (h : pcF (lu p) 10 < pcF (ccF lu all p) 10) : lu p = ccF lu all (p + 1) := by
  show _ = (if _ then _ else _); rw [if_pos h]
theorem ccF_n {lu : Nat → Nat} {all p : Nat} (h : ¬ pcF (lu p) 10 < pcF (ccF lu all p) 10) : ccF lu all p = ccF lu all (p + 1) := by
  show _ = (if _ then _ else _); rw [if_neg h]
/-- walks go on from the last of a set -/
def gnS (op S : Nat) (m : Int32) (W : Nat → Int32) : Nat → (Nat → Int32)
  | 0 => W
  | k + 1 => if op.testBit k = true then upd (gnS op S m W k) ((S ||| 2 ^ k) * 10 + k) (gnS op S m W k ((S ||| 2 ^ k) * 10 + k) + m) else gnS op S m W k
def gnF (bt : Nat → Nat) (n S la : Nat) (W : Nat → Int32) : Nat → Int32 := if W (S * 10 + la) = 0 ∨ anF (bt la) S = 0 then W else gnS (anF (bt la) S) S (W (S * 10 + la)) W n
theorem gnS_y {op S k : Nat} {m : Int32} {W : Nat → Int32} (h : op.testBit k = true) : upd (gnS op S m W k) ((S ||| 2 ^ k) * 10 + k) (gnS op S m W k ((S ||| 2 ^ k) * 10 + k) + m) = gnS op S m W (k + 1) := by
  show _ = (if _ then _ else _); rw [if_pos h]
theorem gnS_n {op S k : Nat} {m : Int32} {W : Nat → Int32} (h : ¬ op.testBit k = true) : gnS op S m W k = gnS op S m W (k + 1) := by
  show _ = (if _ then _ else _); rw [if_neg h]
def wcI (W : Nat → Int32) : Nat → (Nat → Int32)
  | 0 => W
  | p + 1 => upd (wcI W p) (2 ^ p * 10 + p) (nI 1)
def wcL (bt : Nat → Nat) (n S : Nat) (W : Nat → Int32) : Nat → (Nat → Int32)
  | 0 => W
  | la + 1 => gnF bt n S la (wcL bt n S W la)
/-- behind the sets below s + 1 -/
def wcS (bt : Nat → Nat) (n : Nat) (W : Nat → Int32) : Nat → (Nat → Int32)
  | 0 => W
  | s + 1 => wcL bt n (s + 1) (wcS bt n W s) n
theorem cc_l {ls : Array Slot} {nL a b : Nat} {l1 l2 : List (Nat × Value)} (h : a = b) {i : Nat} (hl : lv_has ls nL (l1 ++ (i, .int (nI a)) :: l2)) : lv_has ls nL (l1 ++ (i, .int (nI b)) :: l2) := by rw [← h]; exact hl
