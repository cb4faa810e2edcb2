/-! THE STATE, as numbers and lists -/
/-- a meeting: a, b, p, q -/
abbrev Mt : Type := Nat × Nat × Nat × Nat
def okM (n : Nat) (x : Mt) : Prop := x.1 < n ∧ x.2.1 < n ∧ x.1 ≠ x.2.1 ∧ x.2.2.1 ≤ 99 ∧ x.2.2.2 ≤ 99
/-- what a meeting adds to the numbers of a pair -/
def ovX (a b : Nat) (x : Mt) : Nat := if (x.1 = a ∧ x.2.1 = b ∧ x.2.2.2 < x.2.2.1) ∨ (x.1 = b ∧ x.2.1 = a ∧ x.2.2.1 < x.2.2.2) then 1 else 0
def drX (a b : Nat) (x : Mt) : Nat := if ((x.1 = a ∧ x.2.1 = b) ∨ (x.1 = b ∧ x.2.1 = a)) ∧ x.2.2.1 = x.2.2.2 then 1 else 0
def ptX (a b : Nat) (x : Mt) : Nat := (if x.1 = a ∧ x.2.1 = b then x.2.2.1 else 0) + (if x.1 = b ∧ x.2.1 = a then x.2.2.2 else 0)
def lsN (g : Mt → Nat) : List Mt → Nat
  | [] => 0
  | x :: l => g x + lsN g l
def lsI (g : Mt → Int32) : List Mt → Int32
  | [] => 0
  | x :: l => g x + lsI g l
abbrev ov (ml : List Mt) (a b : Nat) : Nat := lsN (ovX a b) ml
abbrev dr (ml : List Mt) (a b : Nat) : Nat := lsN (drX a b) ml
abbrev pt (ml : List Mt) (a b : Nat) : Nat := lsN (ptX a b) ml
def mg (ml : List Mt) (k : Nat) : Mt := ml.getD k (0, 0, 0, 0)
theorem lsN_app (g : Mt → Nat) : ∀ (l r : List Mt), lsN g (l ++ r) = lsN g l + lsN g r
  | [], r => by simp [lsN]
  | x :: l, r => by simp [lsN, lsN_app g l r]; omega
theorem lsI_app (g : Mt → Int32) : ∀ (l r : List Mt), lsI g (l ++ r) = lsI g l + lsI g r
  | [], r => by simp [lsI]
  | x :: l, r => by simp [lsI, lsI_app g l r, Int32.add_assoc]
theorem mg_take {ml : List Mt} {k : Nat} (h : k < ml.length) : ml.take (k + 1) = ml.take k ++ [mg ml k] := by
  rw [List.take_add_one, List.getElem?_eq_getElem h]
  simp [mg, List.getD, h]
theorem lsN_take (g : Mt → Nat) {ml : List Mt} {k : Nat} (h : k < ml.length) : lsN g (ml.take (k + 1)) = lsN g (ml.take k) + g (mg ml k) := by
  rw [mg_take h, lsN_app]; simp [lsN]
theorem lsI_take (g : Mt → Int32) {ml : List Mt} {k : Nat} (h : k < ml.length) : lsI g (ml.take (k + 1)) = lsI g (ml.take k) + g (mg ml k) := by
  rw [mg_take h, lsI_app]; simp [lsI]
theorem mg_mem {ml : List Mt} {k : Nat} (h : k < ml.length) : mg ml k ∈ ml := by
  simp [mg, List.getD, h]
theorem lsN_ins (g : Mt → Nat) (x : Mt) : ∀ (l : List Mt) (k : Nat), k ≤ l.length → lsN g (l.insertIdx k x) = lsN g l + g x
  | l, 0, _ => by simp [lsN]; omega
  | [], k + 1, h => absurd h (by simp)
  | y :: l, k + 1, h => by
    have := lsN_ins g x l k (by simp at h; omega)
    simp [lsN, this]; omega
theorem lsN_del (g : Mt → Nat) : ∀ (l : List Mt) (k : Nat), k < l.length → lsN g (l.eraseIdx k) + g (mg l k) = lsN g l
  | [], k, h => absurd h (by simp)
  | x :: l, 0, _ => by simp [lsN, mg]; omega
  | x :: l, k + 1, h => by
    have := lsN_del g l k (by simp at h; omega)
    have e : mg (x :: l) (k + 1) = mg l k := by simp [mg]
    rw [e]; simp [lsN]; omega
theorem lsN_le (g : Mt → Nat) (c : Nat) : ∀ (l : List Mt), (∀ x, g x ≤ c) → lsN g l ≤ l.length * c
  | [], _ => by simp [lsN]
  | x :: l, h => by
    have h1 := lsN_le g c l h
    have h2 := h x
    simp [lsN, Nat.add_mul]; omega
theorem ovX_le (a b : Nat) (x : Mt) : ovX a b x ≤ 1 := by unfold ovX; split <;> omega
theorem drX_le (a b : Nat) (x : Mt) : drX a b x ≤ 1 := by unfold drX; split <;> omega
theorem ov_le (ml : List Mt) (a b : Nat) : ov ml a b ≤ ml.length := by have := lsN_le (ovX a b) 1 ml (ovX_le a b); show lsN (ovX a b) ml ≤ _; omega
theorem dr_le (ml : List Mt) (a b : Nat) : dr ml a b ≤ ml.length := by have := lsN_le (drX a b) 1 ml (drX_le a b); show lsN (drX a b) ml ≤ _; omega
/-- the class's cells for the meetings -/
def MR (p w d t : Nat → Int32) (ml : List Mt) : Prop :=
  (∀ k, k < ml.length → p (k * 4) = nI (mg ml k).1 ∧ p (k * 4 + 1) = nI (mg ml k).2.1 ∧ p (k * 4 + 2) = nI (mg ml k).2.2.1 ∧ p (k * 4 + 3) = nI (mg ml k).2.2.2) ∧
  (∀ a b, a < 10 → b < 10 → w (a * 10 + b) = nI (ov ml a b) ∧ d (a * 10 + b) = nI (dr ml a b) ∧ t (a * 10 + b) = nI (pt ml a b))
def okL (n : Nat) (ml : List Mt) : Prop := n ≤ 10 ∧ ml.length ≤ 120 ∧ ∀ x ∈ ml, okM n x
/-- the reference's row st -/
def RS (f : Nat → Int32) (n : Nat) (ml : List Mt) (nx : List (Nat × Nat)) (ks : List Nat) (r : Int32 × Int32 × Int32) : Prop :=
  f 0 = nI n ∧ f 1 = nI ml.length ∧ f 2 = nI nx.length ∧ f 3 = nI ks.length ∧ f 4 = r.1 ∧ f 5 = r.2.1 ∧ f 6 = r.2.2 ∧
  (∀ j, j < ks.length → f (7 + j) = nI (ks.getD j 0)) ∧
  (∀ k, k < ml.length → f (11 + 4 * k) = nI (mg ml k).1 ∧ f (11 + 4 * k + 1) = nI (mg ml k).2.1 ∧ f (11 + 4 * k + 2) = nI (mg ml k).2.2.1 ∧ f (11 + 4 * k + 3) = nI (mg ml k).2.2.2) ∧
  (∀ k, k < nx.length → f (491 + 2 * k) = nI (nx.getD k (0, 0)).1 ∧ f (491 + 2 * k + 1) = nI (nx.getD k (0, 0)).2)
def VS (n : Nat) (ml : List Mt) (nx : List (Nat × Nat)) (ks : List Nat) : Prop :=
  1 ≤ n ∧ n ≤ 10 ∧ ml.length ≤ 120 ∧ (∀ x ∈ ml, okM n x) ∧ nx.length ≤ 40 ∧ (∀ x ∈ nx, x.1 < n ∧ x.2 < n ∧ x.1 ≠ x.2) ∧ ks.length ≤ 4 ∧ ∀ k ∈ ks, k < 6
theorem VS.m {n : Nat} {ml : List Mt} {nx : List (Nat × Nat)} {ks : List Nat} (h : VS n ml nx ks) {k : Nat} (hk : k < ml.length) : okM n (mg ml k) := h.2.2.2.1 _ (mg_mem hk)
