/-! the reference's rows, walks, and who may come first -/
section MQ
variable {x y : Nat}
theorem mq_int (hx : x < 2 ^ 30) (hy : y < 2 ^ 30) : (nI x - nI y).toInt = (x : Int) - y := pk_sub_toInt hx hy
theorem mq_lt (hx : x < 2 ^ 30) (hy : y < 2 ^ 30) (h : nI x - nI y < 0) : x < y := by
  rw [Int32.lt_iff_toInt_lt, mq_int hx hy] at h; have : (0 : Int32).toInt = 0 := rfl; omega
theorem mq_lt_n (hx : x < 2 ^ 30) (hy : y < 2 ^ 30) (h : ¬ nI x - nI y < 0) : y ≤ x := by
  rw [Int32.lt_iff_toInt_lt, mq_int hx hy] at h; have : (0 : Int32).toInt = 0 := rfl; omega
end MQ
theorem k_dec (x : Int32) : x + Int32.ofInt (-1) = x - nI 1 := by
  rw [show Int32.ofInt (-1) = (-1 : Int32) by decide, show nI 1 = (1 : Int32) from rfl]; grind
theorem tb_mod {S i : Nat} : S.testBit i = true ↔ S / 2 ^ i % 2 = 1 := by
  rw [Nat.testBit_eq_decide_div_mod_eq, decide_eq_true_eq]
theorem tb_mod0 {S i : Nat} : ¬ S.testBit i = true ↔ S / 2 ^ i % 2 = 0 := by rw [tb_mod]; omega
theorem ov_self {n : Nat} : ∀ {ml : List Mt} (a : Nat), (∀ x ∈ ml, okM n x) → ov ml a a = 0
  | [], _, _ => rfl
  | x :: l, a, h => by
    have h1 := h x List.mem_cons_self
    have h2 := ov_self (ml := l) a (fun y hy => h y (List.mem_cons_of_mem _ hy))
    show ovX a a x + lsN (ovX a a) l = 0
    rw [show lsN (ovX a a) l = 0 from h2, Nat.add_zero]
    unfold ovX
    rw [if_neg]
    have := h1.2.2.1
    omega
abbrev bhI (ml : List Mt) (n p S : Nat) : Int32 := sI (fun q => if S.testBit q = true then nI (ov ml p q) else 0) n
def OvOK (ml : List Mt) (n : Nat) (f : Nat → Int32) : Prop := ∀ a b, a < n → b < n → f (10 * a + b) = nI (ov ml a b)
/-- the reference's costs and ways, from the set m on -/
abbrev flS (ml : List Mt) (n : Nat) (cs ws : Nat → Int32) (s : Nat) : Int32 × Int32 := mnS (fun p => !s.testBit p) (fun p => bhI ml n p s + cs (s ||| 2 ^ p)) (fun p => ws (s ||| 2 ^ p)) n
def FilOK (ml : List Mt) (n : Nat) (cs ws : Nat → Int32) (m : Nat) : Prop := cs (2 ^ n - 1) = nI 0 ∧ ws (2 ^ n - 1) = nI 1 ∧ ∀ s, m ≤ s → s < 2 ^ n - 1 → cs s = (flS ml n cs ws s).1 ∧ ws s = (flS ml n cs ws s).2
theorem or_gt {s p : Nat} (h : ¬ s.testBit p = true) : s < s ||| 2 ^ p := by
  rcases Nat.lt_or_ge s (s ||| 2 ^ p) with q | q
  · exact q
  · have e : s ||| 2 ^ p = s := Nat.le_antisymm q Nat.left_le_or
    exact absurd (by rw [← e, Nat.testBit_or, Nat.testBit_two_pow_self, Bool.or_true]) h
theorem FilOK_prev {ml : List Mt} {n s : Nat} {cs ws f g : Nat → Int32} (hs : s < 2 ^ n - 1) (h : FilOK ml n cs ws (s + 1)) (h1 : ∀ i, i ≠ s → f i = cs i ∧ g i = ws i) (h2 : (f s, g s) = flS ml n cs ws s) : FilOK ml n f g s := by
  have cg : ∀ t, s ≤ t → flS ml n f g t = flS ml n cs ws t := by
    intro t ht
    refine mnS_congr (fun p _ hb => ?_)
    have hb2 : ¬ t.testBit p = true := by intro z; rw [z] at hb; exact Bool.false_ne_true hb
    have := or_gt hb2
    rw [(h1 (t ||| 2 ^ p) (by omega)).1, (h1 (t ||| 2 ^ p) (by omega)).2]; exact ⟨rfl, rfl⟩
  refine ⟨by rw [(h1 _ (by omega)).1]; exact h.1, by rw [(h1 _ (by omega)).2]; exact h.2.1, fun t ht ht2 => ?_⟩
  rw [cg t ht]
  by_cases e : t = s
  · subst e; rw [← h2]; exact ⟨rfl, rfl⟩
  · rw [(h1 t e).1, (h1 t e).2]; exact h.2.2 t (by omega) ht2
theorem mn_ref {v w c1 g1 c2 g2 z : Int32} (h : (c2, g2) = if v < c1 then (v, nI 0) else (c1, g1)) (hz : z = if v = c2 then w else nI 0) : (c2, g2 + z) = mnT v w (c1, g1) := by
  by_cases e : v = c2
  · rw [if_pos e] at hz; subst hz; exact mn_eq h e
  · rw [if_neg e] at hz; subst hz; rw [nI_0, Int32.add_zero]; exact mn_ne h e
/-- what a player has by a meeting -/
def hsX (p : Nat) (x : Mt) : Int32 := (if x.1 = p then (if x.2.2.2 < x.2.2.1 then nI 2 else if x.2.2.1 = x.2.2.2 then nI 1 else nI 0) else 0) + (if x.2.1 = p then (if x.2.2.1 < x.2.2.2 then nI 2 else if x.2.2.1 = x.2.2.2 then nI 1 else nI 0) else 0)
def lsQ (g : Nat × Nat → Int32) : List (Nat × Nat) → Int32
  | [] => 0
  | x :: l => g x + lsQ g l
theorem lsQ_app (g : Nat × Nat → Int32) : ∀ (l r : List (Nat × Nat)), lsQ g (l ++ r) = lsQ g l + lsQ g r
  | [], r => by simp [lsQ]
  | x :: l, r => by simp [lsQ, lsQ_app g l r, Int32.add_assoc]
theorem lsQ_take (g : Nat × Nat → Int32) {l : List (Nat × Nat)} {k : Nat} (h : k < l.length) : lsQ g (l.take (k + 1)) = lsQ g (l.take k) + g (l.getD k (0, 0)) := by
  have e : l.take (k + 1) = l.take k ++ [l.getD k (0, 0)] := by
    rw [List.take_add_one, List.getElem?_eq_getElem h]; simp [List.getD, h]
  rw [e, lsQ_app]; simp [lsQ]
/-- what a set must have more than it may -/
abbrev mstF (ml : List Mt) (nx : List (Nat × Nat)) (p : Nat) : Int32 := lsI (hsX p) ml + lsQ (fun x => if x.1 = p ∨ x.2 = p then nI 2 else nI 0) nx
abbrev exF (ml : List Mt) (nx : List (Nat × Nat)) (n p S : Nat) : Int32 := sI (fun q => if S.testBit q = true then lsI (hsX q) ml - mstF ml nx p else nI 0) n + lsQ (fun x => if S.testBit x.1 = true ∧ S.testBit x.2 = true then nI 2 else nI 0) nx
def whyF (ml : List Mt) (nx : List (Nat × Nat)) (n p : Nat) : Nat := (srch (fun S => !S.testBit p && decide (0 < exF ml nx n p S)) 1 (2 ^ n - 1)).getD 0
theorem nx_mem {l : List (Nat × Nat)} {k : Nat} (h : k < l.length) : l.getD k (0, 0) ∈ l := by
  rw [List.getD_eq_getElem?_getD, List.getElem?_eq_getElem h]; exact List.getElem_mem h
theorem nb_t {S p : Nat} (h : ¬ S.testBit p = true) : (!S.testBit p) = true := by rw [Bool.eq_false_iff.mpr h]; rfl
theorem nb_f {S p : Nat} (h : S.testBit p = true) : ¬ (!S.testBit p) = true := by rw [h]; exact Bool.false_ne_true
theorem wb_t {S p : Nat} {x : Int32} (h : ¬ S.testBit p = true) (h2 : 0 < x) : (!S.testBit p && decide (0 < x)) = true := by rw [nb_t h, decide_eq_true h2]; rfl
theorem wb_f {S p : Nat} {b : Bool} (h : S.testBit p = true) : ¬ (!S.testBit p && b) = true := by rw [h]; exact Bool.false_ne_true
