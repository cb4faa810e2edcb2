/-! rings in all, walks, the core -/
theorem ringO_le {o : Nat → Nat → Nat} {a b c : Nat} (h : ∀ x y, o x y ≤ 120) : ∀ x y, ringO o a b c x y ≤ 120 := by
  intro x y; unfold ringO; have := h x y; split <;> omega
theorem bd3_s {a b k c : Nat} {r : Nat × (Nat → Nat → Nat)} : bd3 a b (k + 1) c r = bd3 a b k (c + 1) (r.1 + (ring3 r.2 a b c + ring3 (ringO r.2 a b c) a c b), ringO (ringO r.2 a b c) a c b) := rfl
theorem bd2_s {n a k b : Nat} {r : Nat × (Nat → Nat → Nat)} : bd2 n a (k + 1) b r = bd2 n a k (b + 1) (bd3 a b (n - (b + 1)) (b + 1) r) := rfl
theorem bd1_s {n k a : Nat} {r : Nat × (Nat → Nat → Nat)} : bd1 n (k + 1) a r = bd1 n k (a + 1) (bd2 n a (n - (a + 1)) (a + 1) r) := rfl
theorem upd_tw (f : Nat → Int32) (i : Nat) (x y : Int32) : upd (upd f i x) i y = upd f i y := by
  funext k
  by_cases h : k = i
  · subst h; rw [pk_us, pk_us]
  · rw [pk_un h, pk_un h, pk_un h]
/-- walks of a set that end at p: the first q of those that may stand before it -/
def wkS (bt : Nat → Nat) (W : Nat → Int32) (s p : Nat) : Nat → Int32
  | 0 => if s = 2 ^ p then nI 1 else nI 0
  | q + 1 => wkS bt W s p q + (if ¬ q = p ∧ s.testBit q = true ∧ (bt q).testBit p = true then W (1024 * q + (s - 2 ^ p)) else nI 0)
def wkV (bt : Nat → Nat) (n : Nat) (W : Nat → Int32) (s p : Nat) : Int32 := if s.testBit p = true then wkS bt W s p n else (if s = 2 ^ p then nI 1 else nI 0)
theorem wkS_congr {bt : Nat → Nat} {W W' : Nat → Int32} {s p : Nat} (h : ∀ q, W (1024 * q + (s - 2 ^ p)) = W' (1024 * q + (s - 2 ^ p))) : ∀ q, wkS bt W s p q = wkS bt W' s p q
  | 0 => rfl
  | q + 1 => by unfold wkS; rw [wkS_congr h q, h q]
def WkOK (bt : Nat → Nat) (n : Nat) (W : Nat → Int32) (m : Nat) : Prop := ∀ s, 1 ≤ s → s < m → ∀ p, p < n → W (1024 * p + s) = wkV bt n W s p
theorem wkV_upd {bt : Nat → Nat} {n : Nat} {W : Nat → Int32} {s p s2 p2 : Nat} {v : Int32} (hs : s ≤ s2) (hs2 : s2 < 1024) (hs0 : 1 ≤ s) : wkV bt n (upd W (1024 * p2 + s2) v) s p = wkV bt n W s p := by
  unfold wkV
  by_cases hb : s.testBit p = true
  · rw [if_pos hb, if_pos hb]
    have h1 := two_le_of_bit hb
    have h2 := Nat.two_pow_pos p
    exact wkS_congr (fun q => pk_un (by omega)) n
  · rw [if_neg hb, if_neg hb]
theorem WkOK_upd {bt : Nat → Nat} {n : Nat} {W : Nat → Int32} {s2 p2 : Nat} {v : Int32} (hs2 : s2 < 1024) (h : WkOK bt n W s2) : WkOK bt n (upd W (1024 * p2 + s2) v) s2 := by
  intro s h1 h2 p hp
  rw [wkV_upd (by omega) hs2 h1, pk_un (by omega)]; exact h s h1 h2 p hp
/-- each of a set beats each outside it -/
def domB (bt : Nat → Nat) (n s : Nat) : Nat → Bool
  | 0 => true
  | p + 1 => domB bt n s p && (!s.testBit p || decide (nI (2 ^ n - 1) &&& (nI s ^^^ (-1)) &&& (nI (bt p) ^^^ (-1)) = 0))
def coreF (bt : Nat → Nat) (n : Nat) : Nat → Nat
  | 0 => 2 ^ n - 1
  | s + 1 => if pcF (s + 1) 10 < pcF (coreF bt n s) 10 ∧ domB bt n (s + 1) n = true then s + 1 else coreF bt n s
theorem coreF_lt (bt : Nat → Nat) (n : Nat) : ∀ s, s < 2 ^ n → coreF bt n s < 2 ^ n
  | 0, h => by show 2 ^ n - 1 < 2 ^ n; omega
  | s + 1, h => by
    unfold coreF
    split
    · exact h
    · exact coreF_lt bt n s (by omega)
theorem domB_no {bt : Nat → Nat} {n s i : Nat} (h : domB bt n s i = false) : ∀ j, i ≤ j → domB bt n s j = false := by
  intro j hj
  induction j with
  | zero => obtain rfl : i = 0 := by omega
            exact h
  | succ j ih =>
    by_cases e : i = j + 1
    · rw [← e]; exact h
    · unfold domB; rw [ih (by omega)]; rfl
theorem wk_last {W : Nat → Int32} {p s : Nat} {a v : Int32} (h : a = v) : sI (fun x => W (1024 * x + s)) p + v = sI (fun x => upd W (1024 * p + s) a (1024 * x + s)) (p + 1) := by
  show _ = sI (fun x => upd W (1024 * p + s) a (1024 * x + s)) p + upd W (1024 * p + s) a (1024 * p + s)
  rw [pk_us, h]
  exact congrArg (· + v) (sI_congr (fun i hi => (pk_un (by omega)).symm))
