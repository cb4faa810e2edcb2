/-! the class: joined, the last ones taken away, who beats whom -/
abbrev foB (ml : List Mt) (n a : Nat) : Nat := bitsOf (fun b => decide (0 < ov ml a b + dr ml a b + ov ml b a)) n
def jc1 (fo : Nat → Nat) (B : Nat) : Nat → Nat
  | 0 => B
  | a + 1 => if (jc1 fo B a).testBit a = true then jc1 fo B a ||| fo a else jc1 fo B a
def jcR (fo : Nat → Nat) (n : Nat) : Nat → Nat
  | 0 => 1
  | j + 1 => jc1 fo (jcR fo n j) n
theorem jc1_lt {fo : Nat → Nat} {B : Nat} (hB : B < 1024) (hf : ∀ a, fo a < 1024) : ∀ a, jc1 fo B a < 1024
  | 0 => hB
  | a + 1 => by
    have ih := jc1_lt hB hf a
    unfold jc1; split
    · exact or_1024 ih (hf a)
    · exact ih
theorem jcR_lt {fo : Nat → Nat} {n : Nat} (hf : ∀ a, fo a < 1024) : ∀ j, jcR fo n j < 1024
  | 0 => (by decide : 1 < 1024)
  | j + 1 => jc1_lt (jcR_lt hf j) hf n
theorem jc1_y {fo : Nat → Nat} {B a : Nat} (h : (jc1 fo B a).testBit a = true) : jc1 fo B a ||| fo a = jc1 fo B (a + 1) := by
  show _ = (if _ then _ else _); rw [if_pos h]
theorem jc1_n {fo : Nat → Nat} {B a : Nat} (h : ¬ (jc1 fo B a).testBit a = true) : jc1 fo B a = jc1 fo B (a + 1) := by
  show _ = (if _ then _ else _); rw [if_neg h]
theorem era_last {l : List Mt} {k : Nat} (h : k + 1 ≤ l.length) : (l.take (k + 1)).eraseIdx k = l.take k := by
  rw [mg_take (by omega), List.eraseIdx_append_of_length_le (by rw [List.length_take]; omega)]
  rw [List.length_take, Nat.min_eq_left (by omega), Nat.sub_self]; simp
theorem okL_take {n k : Nat} {ml : List Mt} (h : okL n ml) : okL n (ml.take k) := ⟨h.1, by have := h.2.1; rw [List.length_take]; omega, fun x hx => h.2.2 x (List.mem_of_mem_take hx)⟩
theorem ch_step (c : Int32) (i : Nat) : c + nI i + nI 1 = c + nI (i + 1) := by rw [← nI_add, Int32.add_assoc]
