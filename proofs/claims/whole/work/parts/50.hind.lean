/-! who may come first, in the class -/
def lmN (ml : List Mt) (nx : List (Nat × Nat)) (n p : Nat) : Int32 := hpI ml n p + nI 2 * gwI nx n p (2 ^ n - 1)
def exN (ml : List Mt) (nx : List (Nat × Nat)) (n p : Nat) (e : Nat → Int32) (S : Nat) : Int32 := e (S &&& (S - 1)) + hpI ml n (tzF S) - lmN ml nx n p + nI 2 * gwI nx n (tzF S) (S &&& (S - 1))
def EXc (ml : List Mt) (nx : List (Nat × Nat)) (n p : Nat) (e : Nat → Int32) (m : Nat) : Prop := e 0 = nI 0 ∧ ∀ T, 0 < T → T < m → ¬ T.testBit p = true → e T = exN ml nx n p e T
def noP (p : Nat) (e : Nat → Int32) (m : Nat) : Prop := ∀ T, 0 < T → T < m → ¬ T.testBit p = true → ¬ 0 < e T
theorem and_lt {S : Nat} (h : 0 < S) : S &&& (S - 1) < S := Nat.lt_of_le_of_lt Nat.and_le_right (by omega)
theorem tzF_lt {S n : Nat} (h0 : 0 < S) (h : S < 2 ^ n) (hn : n ≤ 10) : tzF S < n := by
  obtain ⟨i, hi⟩ : ∃ i, S.testBit i = true := Nat.exists_testBit_of_ne_zero (by omega)
  have hin : i < n := by
    rcases Nat.lt_or_ge i n with q | q
    · exact q
    · rw [Nat.testBit_lt_two_pow (Nat.lt_of_lt_of_le h (Nat.pow_le_pow_right (by decide) q))] at hi; exact absurd hi Bool.false_ne_true
  unfold tzF
  cases e : srch (fun i => S.testBit i) 0 10 with
  | none => have := srch_none e i (Nat.zero_le _) (by omega); rw [hi] at this; exact absurd this.symm Bool.false_ne_true
  | some j =>
    show j < n
    obtain ⟨-, -, -, h4⟩ := srch_some e
    rcases Nat.lt_or_ge i j with q | q
    · have := h4 i (Nat.zero_le _) q; rw [hi] at this; exact absurd this.symm Bool.false_ne_true
    · omega
theorem EXc_upd {ml : List Mt} {nx : List (Nat × Nat)} {n p S : Nat} {e : Nat → Int32} (h0 : 0 < S) (h : EXc ml nx n p e S) : EXc ml nx n p (upd e S (exN ml nx n p e S)) (S + 1) := by
  refine ⟨by rw [pk_un (by omega)]; exact h.1, fun T hT hT2 hb => ?_⟩
  have hlt := and_lt hT
  have cg : exN ml nx n p (upd e S (exN ml nx n p e S)) T = exN ml nx n p e T := by
    unfold exN; rw [pk_un (by omega)]
  rw [cg]
  by_cases q : T = S
  · subst q; rw [pk_us]
  · rw [pk_un q]; exact h.2 T hT (by omega) hb
theorem EXc_skip {ml : List Mt} {nx : List (Nat × Nat)} {n p S : Nat} {e : Nat → Int32} (hb : S.testBit p = true) (h : EXc ml nx n p e S) : EXc ml nx n p e (S + 1) :=
  ⟨h.1, fun T hT hT2 hb2 => by by_cases q : T = S; (rw [q] at hb2; exact absurd hb hb2); (exact h.2 T hT (by omega) hb2)⟩
theorem noP_skip {p S : Nat} {e : Nat → Int32} (hb : S.testBit p = true) (h : noP p e S) : noP p e (S + 1) :=
  fun T hT hT2 hb2 => by by_cases q : T = S; (rw [q] at hb2; exact absurd hb hb2); (exact h T hT (by omega) hb2)
theorem noP_upd {p S : Nat} {e : Nat → Int32} {v : Int32} (hv : ¬ 0 < v) (h : noP p e S) : noP p (upd e S v) (S + 1) :=
  fun T hT hT2 hb2 => by by_cases q : T = S; (rw [q, pk_us]; exact hv); (rw [pk_un q]; exact h T hT (by omega) hb2)
theorem noP_upd0 {p S : Nat} {e : Nat → Int32} {v : Int32} (h : noP p e S) : noP p (upd e S v) S :=
  fun T hT hT2 hb2 => by rw [pk_un (by omega)]; exact h T hT (by omega) hb2
