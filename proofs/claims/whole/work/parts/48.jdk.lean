/-! the JDK's own -/
/-- the lowest of a set -/
def tzF (S : Nat) : Nat := (srch (fun i => S.testBit i) 0 10).getD 0
def flF (f : Nat → Int32) (v : Int32) (i : Nat) : Nat → Int32 := fun k => if k < i then v else f k
theorem flF_0 {f : Nat → Int32} {v : Int32} : flF f v 0 = f := funext fun k => if_neg (by omega)
theorem flF_s {f : Nat → Int32} {v : Int32} {i : Nat} : upd (flF f v i) i v = flF f v (i + 1) := by
  funext k
  by_cases e : k = i
  · subst e; rw [pk_us]; exact (if_pos (by omega)).symm
  · rw [pk_un e]; unfold flF
    by_cases c : k < i
    · rw [if_pos c, if_pos (by omega)]
    · rw [if_neg c, if_neg (by omega)]
