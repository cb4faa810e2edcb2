/-! about, sheet, undo, rings -/
def aboF (x v0 v1 v2 v3 v4 v5 v6 : Int32) : Int32 := if x = 0 then v0 else if x = 1 then v1 else if x = 2 then v2 else if x = 3 then v3 else if x = 4 then v4 else if x = 5 then v5 else if x = 6 then v6 else -1
theorem abo_split (x : Int32) : x = 0 ∨ x = 1 ∨ x = 2 ∨ x = 3 ∨ x = 4 ∨ x = 5 ∨ x = 6 ∨ (x.toInt < 0 ∨ 6 < x.toInt) := by
  have e : ∀ y : Int32, x.toInt = y.toInt → x = y := fun y h => Int32.toInt_inj.mp h
  by_cases h : x.toInt < 0 ∨ 6 < x.toInt
  · exact Or.inr (Or.inr (Or.inr (Or.inr (Or.inr (Or.inr (Or.inr h))))))
  · have : x.toInt = 0 ∨ x.toInt = 1 ∨ x.toInt = 2 ∨ x.toInt = 3 ∨ x.toInt = 4 ∨ x.toInt = 5 ∨ x.toInt = 6 := by omega
    rcases this with q | q | q | q | q | q | q
    · exact Or.inl (e 0 q)
    · exact Or.inr (Or.inl (e 1 q))
    · exact Or.inr (Or.inr (Or.inl (e 2 q)))
    · exact Or.inr (Or.inr (Or.inr (Or.inl (e 3 q))))
    · exact Or.inr (Or.inr (Or.inr (Or.inr (Or.inl (e 4 q)))))
    · exact Or.inr (Or.inr (Or.inr (Or.inr (Or.inr (Or.inl (e 5 q))))))
    · exact Or.inr (Or.inr (Or.inr (Or.inr (Or.inr (Or.inr (Or.inl (e 6 q)))))))
theorem abo_out {x v0 v1 v2 v3 v4 v5 v6 : Int32} (h : x.toInt < 0 ∨ 6 < x.toInt) : aboF x v0 v1 v2 v3 v4 v5 v6 = -1 := by
  have e : ∀ y : Int32, 0 ≤ y.toInt ∧ y.toInt ≤ 6 → ¬ x = y := fun y hy z => by rw [z] at h; omega
  unfold aboF
  rw [if_neg (e 0 (by decide)), if_neg (e 1 (by decide)), if_neg (e 2 (by decide)), if_neg (e 3 (by decide)), if_neg (e 4 (by decide)), if_neg (e 5 (by decide)), if_neg (e 6 (by decide))]
theorem fb_put_s0 (f g : Nat → Int32) (n : Nat) : upd (fb_put f g 0 n) n (g n) = fb_put f g 0 (n + 1) := by
  have := fb_put_succ f g 0 n
  rw [Nat.zero_add] at this; exact this
theorem tAt_step {t : Tt} {hist : List Tt} {j w : Nat} {kept f : Nat → Int32} (hj : j < hist.length) (hK : KP kept w hist) (hV : ∀ x ∈ hist, VST x) : RST (fb_put f (fun i => kept (600 * ((w + 40 - j) % 40) + i)) 0 600) (tAt t hist (j + 1)) := by
  have e : hist[j]? = some (tAt t hist (j + 1)) := by
    unfold tAt
    rw [List.getD_cons_succ, List.getD_eq_getElem?_getD, List.getElem?_eq_getElem hj]; rfl
  refine RST_congr (hV _ (List.mem_of_getElem? e)) (fun k hk => ?_) (hK j _ e)
  rw [fb_put_in (by omega) (by omega)]; rfl
/-- meetings off the tape: what has come so far -/
def ShI (n : Nat) (ml : List Mt) (st kept : Nat → Int32) (w u : Nat) (mlc : List Mt) (stc kc : Nat → Int32) (wc uc : Nat) : Prop :=
  (mlc.length = ml.length ∧ mlc = ml ∧ stc = st ∧ kc = kept ∧ wc = w ∧ uc = u) ∨ (ml.length < mlc.length ∧ kc = fb_put kept st (600 * ((w + 1) % 40)) 600 ∧ wc = (w + 1) % 40 ∧ uc = if u < 40 then u + 1 else u)
/-- three that are used -/
def ring3 (o : Nat → Nat → Nat) (a b c : Nat) : Nat := min (o a b) (min (o b c) (o c a))
def ringO (o : Nat → Nat → Nat) (a b c : Nat) : Nat → Nat → Nat := fun x y => if (x = a ∧ y = b) ∨ (x = b ∧ y = c) ∨ (x = c ∧ y = a) then o x y - ring3 o a b c else o x y
theorem ring3_le (o : Nat → Nat → Nat) (a b c : Nat) : ring3 o a b c ≤ o a b ∧ ring3 o a b c ≤ o b c ∧ ring3 o a b c ≤ o c a := by unfold ring3; omega
/-- one more place of the third, of the second, of the first -/
def bd3 (a b : Nat) : Nat → Nat → Nat × (Nat → Nat → Nat) → Nat × (Nat → Nat → Nat)
  | 0, _, r => r
  | k + 1, c, r => bd3 a b k (c + 1) (r.1 + (ring3 r.2 a b c + ring3 (ringO r.2 a b c) a c b), ringO (ringO r.2 a b c) a c b)
def bd2 (n a : Nat) : Nat → Nat → Nat × (Nat → Nat → Nat) → Nat × (Nat → Nat → Nat)
  | 0, _, r => r
  | k + 1, b, r => bd2 n a k (b + 1) (bd3 a b (n - (b + 1)) (b + 1) r)
def bd1 (n : Nat) : Nat → Nat → Nat × (Nat → Nat → Nat) → Nat × (Nat → Nat → Nat)
  | 0, _, r => r
  | k + 1, a, r => bd1 n k (a + 1) (bd2 n a (n - (a + 1)) (a + 1) r)
theorem ring_upd {n : Nat} {f : Nat → Int32} {o : Nat → Nat → Nat} {a b c k : Nat} (hO : ∀ x y, x < n → y < n → f (10 * x + y) = nI (o x y)) (ho : ∀ x y, o x y ≤ 120) (ha : a < n) (hb : b < n) (hc : c < n) (hab : a ≠ b) (hbc : b ≠ c) (hac : a ≠ c) (hk : k = ring3 o a b c) {x y : Nat} (hx : x < n) (hy : y < n) (hn : n ≤ 10 := by assumption) :
    upd (upd (upd f (10 * a + b) (nI (o a b - k))) (10 * b + c) (nI (o b c - k))) (10 * c + a) (nI (o c a - k)) (10 * x + y) = nI (ringO o a b c x y) := by
  unfold ringO
  subst hk
  by_cases e1 : x = a ∧ y = b
  · obtain ⟨rfl, rfl⟩ := e1
    rw [pk_un (by omega), pk_un (by omega), pk_us, if_pos (Or.inl ⟨rfl, rfl⟩)]
  · by_cases e2 : x = b ∧ y = c
    · obtain ⟨rfl, rfl⟩ := e2
      rw [pk_un (by omega), pk_us, if_pos (Or.inr (Or.inl ⟨rfl, rfl⟩))]
    · by_cases e3 : x = c ∧ y = a
      · obtain ⟨rfl, rfl⟩ := e3
        rw [pk_us, if_pos (Or.inr (Or.inr ⟨rfl, rfl⟩))]
      · rw [pk_un (by omega), pk_un (by omega), pk_un (by omega), if_neg (by omega)]
        exact hO x y hx hy
