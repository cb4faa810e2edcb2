/-! Beating -/
theorem k_minN {a b : Nat} (ha : a < 2 ^ 31) (hb : b < 2 ^ 31) : (if nI b < nI a then nI b else nI a) = nI (min a b) := by
  by_cases h : b < a
  · rw [if_pos (nI_lt h ha), Nat.min_eq_right (by omega)]
  · rw [if_neg (fun z => h (k_lt hb ha z)), Nat.min_eq_left (by omega)]
theorem ring_upd2 {n : Nat} {f : Nat → Int32} {o : Nat → Nat → Nat} {a b c k : Nat} (hO : ∀ x y, x < n → y < n → f (x * 10 + y) = nI (o x y)) (hn : n ≤ 10) (ha : a < n) (hb : b < n) (hc : c < n) (hab : a ≠ b) (hbc : b ≠ c) (hac : a ≠ c) (hk : k = ring3 o a b c) {x y : Nat} (hx : x < n) (hy : y < n) :
    upd (upd (upd f (a * 10 + b) (nI (o a b - k))) (b * 10 + c) (nI (o b c - k))) (c * 10 + a) (nI (o c a - k)) (x * 10 + y) = nI (ringO o a b c x y) := by
  unfold ringO
  subst hk
  by_cases e1 : x = a ∧ y = b
  · obtain ⟨rfl, rfl⟩ := e1
    rw [pk_un (by omega), pk_un (by omega), pk_us, if_pos (Or.inl ⟨rfl, rfl⟩)]
  · by_cases e2 : x = b ∧ y = c
    · obtain ⟨rfl, rfl⟩ := e2
      rw [pk_un (by omega), pk_us, if_pos (Or.inr (Or.inl ⟨rfl, rfl⟩))]
    · by_cases e3 : x = c ∧ y = a
      · obtain ⟨rfl, rfl⟩ := e3
        rw [pk_us, if_pos (Or.inr (Or.inr ⟨rfl, rfl⟩))]
      · rw [pk_un (by omega), pk_un (by omega), pk_un (by omega), if_neg (by omega)]
        exact hO x y hx hy
theorem ring3_rot (o : Nat → Nat → Nat) (a b c : Nat) : ring3 o b a c = ring3 o a c b := by unfold ring3; omega
theorem ringO_rot (o : Nat → Nat → Nat) (a b c : Nat) : ringO o b a c = ringO o a c b := by
  funext x y
  unfold ringO
  rw [ring3_rot]
  by_cases h : (x = b ∧ y = a) ∨ (x = a ∧ y = c) ∨ (x = c ∧ y = b)
  · rw [if_pos h, if_pos (by omega)]
  · rw [if_neg h, if_neg (by omega)]
