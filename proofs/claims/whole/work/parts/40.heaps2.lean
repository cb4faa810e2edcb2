def hset (R : Nat → Nat) (h : Nat → Int32) (p hp : Nat) (q : Nat) : Nat → Int32 := fun x => if x < q ∧ (R p).testBit x = true ∧ (R x).testBit p = true then nI hp else h x
theorem hset_0 {R : Nat → Nat} {h : Nat → Int32} {p hp : Nat} : hset R h p hp 0 = h := funext fun x => if_neg (by omega)
theorem hset_y {R : Nat → Nat} {h : Nat → Int32} {p hp q : Nat} (h1 : (R p).testBit q = true) (h2 : (R q).testBit p = true) : upd (hset R h p hp q) q (nI hp) = hset R h p hp (q + 1) := by
  funext x
  by_cases e : x = q
  · subst e; rw [pk_us]; exact (if_pos ⟨by omega, h1, h2⟩).symm
  · rw [pk_un e]; unfold hset
    by_cases c : x < q ∧ (R p).testBit x = true ∧ (R x).testBit p = true
    · rw [if_pos c, if_pos ⟨by omega, c.2⟩]
    · rw [if_neg c, if_neg (fun z => c ⟨by omega, z.2⟩)]
theorem hset_n {R : Nat → Nat} {h : Nat → Int32} {p hp q : Nat} (hn : ¬ ((R p).testBit q = true ∧ (R q).testBit p = true)) : hset R h p hp q = hset R h p hp (q + 1) := by
  funext x
  unfold hset
  by_cases c : x < q ∧ (R p).testBit x = true ∧ (R x).testBit p = true
  · rw [if_pos c, if_pos ⟨by omega, c.2⟩]
  · rw [if_neg c, if_neg (fun z => by by_cases e : x = q; (subst e; exact hn z.2); (exact c ⟨by omega, z.2⟩))]
abbrev nxP (R : Nat → Nat) (n : Nat) (h : Nat → Int32) : Nat → Bool := fun p => decide (h p < 0) && frB R h p n
def hpF (R : Nat → Nat) (n : Nat) : Nat → (Nat → Int32) → Nat → (Nat → Int32) × Nat
  | 0, h, hp => (h, hp)
  | f + 1, h, hp => match srch (nxP R n h) 0 n with
    | none => (h, hp)
    | some p => hpF R n f (hset R h p hp n) (hp + 1)
theorem hpF_none {R : Nat → Nat} {n f hp : Nat} {h : Nat → Int32} (e : srch (nxP R n h) 0 n = none) : hpF R n f h hp = (h, hp) := by
  cases f with
  | zero => rfl
  | succ f => unfold hpF; rw [e]
theorem hpF_some {R : Nat → Nat} {n f hp p : Nat} {h : Nat → Int32} (e : srch (nxP R n h) 0 n = some p) : hpF R n (f + 1) h hp = hpF R n f (hset R h p hp n) (hp + 1) := by
  conv => lhs; unfold hpF
  rw [e]
def negC (h : Nat → Int32) : Nat → Nat
  | 0 => 0
  | n + 1 => negC h n + (if h n < 0 then 1 else 0)
theorem negC_le (h : Nat → Int32) : ∀ n, negC h n ≤ n
  | 0 => Nat.le_refl _
  | n + 1 => by have := negC_le h n; unfold negC; split <;> omega
theorem negC_mono {h h' : Nat → Int32} : ∀ n, (∀ x, x < n → h' x < 0 → h x < 0) → negC h' n ≤ negC h n
  | 0, _ => Nat.le_refl _
  | n + 1, H => by
    have h1 := negC_mono n (fun x hx => H x (by omega))
    have h2 := H n (by omega)
    unfold negC
    by_cases c : h' n < 0
    · rw [if_pos c, if_pos (h2 c)]; omega
    · rw [if_neg c]; split <;> omega
theorem negC_less {h h' : Nat → Int32} {p : Nat} : ∀ n, p < n → (∀ x, x < n → h' x < 0 → h x < 0) → h p < 0 → ¬ h' p < 0 → negC h' n < negC h n
  | 0, hp, _, _, _ => absurd hp (Nat.not_lt_zero p)
  | n + 1, hp, H, c1, c2 => by
    unfold negC
    by_cases e : p = n
    · subst e
      have := negC_mono p (fun x hx => H x (by omega))
      rw [if_neg c2, if_pos c1]; omega
    · have h1 := negC_less n (by omega) (fun x hx => H x (by omega)) c1 c2
      have h2 := H n (by omega)
      by_cases c : h' n < 0
      · rw [if_pos c, if_pos (h2 c)]; omega
      · rw [if_neg c]; split <;> omega
theorem negC_hset {R : Nat → Nat} {h : Nat → Int32} {n p hp : Nat} (hp1 : p < n) (hself : (R p).testBit p = true) (hneg : h p < 0) (hb : hp < 2 ^ 31) : negC (hset R h p hp n) n < negC h n := by
  refine negC_less n hp1 (fun x hx c => ?_) hneg ?_
  · unfold hset at c
    by_cases q : x < n ∧ (R p).testBit x = true ∧ (R x).testBit p = true
    · rw [if_pos q] at c; exact absurd c (nI_pos hb)
    · rw [if_neg q] at c; exact c
  · unfold hset; rw [if_pos ⟨hp1, hself, hself⟩]; exact nI_pos hb
/-- each reaches itself, all along -/
def selfB (R : Nat → Nat) (n : Nat) : Prop := ∀ x, x < n → (R x).testBit x = true
theorem self_up {R : Nat → Nat} {n k v : Nat} (h : selfB R n) : selfB (updN R k (R k ||| v)) n := by
  intro x hx
  by_cases e : x = k
  · subst e; rw [un_s, Nat.testBit_or, h x hx]; rfl
  · rw [un_n e]; exact h x hx
theorem self_rc {n : Nat} : ∀ (l : List Mt) (R : Nat → Nat), selfB R n → selfB (rcF l R) n
  | [], _, h => h
  | x :: l, R, h => by
    refine self_rc l _ ?_
    unfold rcB rcA
    split
    · split
      · exact self_up (self_up h)
      · exact self_up h
    · split
      · exact self_up h
      · exact h
theorem self_wA {n b : Nat} {R : Nat → Nat} (h : selfB R n) : ∀ p, selfB (wA b R p) n
  | 0 => h
  | p + 1 => by
    have ih := self_wA (b := b) h p
    unfold wA wStep
    split
    · exact self_up ih
    · exact ih
theorem self_wB {n : Nat} {R : Nat → Nat} (h : selfB R n) : ∀ b, selfB (wB n R b) n
  | 0 => h
  | b + 1 => self_wA (self_wB h b) n
theorem self_0 {n : Nat} : selfB rc0 n := fun x _ => Nat.testBit_two_pow_self
abbrev RW (ml : List Mt) (n : Nat) : Nat → Nat := wB n (rcF ml rc0) n
theorem oI_none {v : Int32} {o : Option Nat} (h : v = oI o) (hv : v < 0) (hb : ∀ j, o = some j → j < 2 ^ 31) : o = none := by
  cases o with
  | none => rfl
  | some j => rw [h] at hv; exact absurd hv (nI_pos (hb j rfl))
theorem oI_some {v : Int32} {o : Option Nat} (h : v = oI o) (hv : ¬ v < 0) : ∃ j, o = some j ∧ v = nI j := by
  cases o with
  | none => rw [h] at hv; exact absurd (by decide) hv
  | some j => exact ⟨j, rfl, h⟩
theorem wStep_n {n b p : Nat} {f : Nat → Int32} {R : Nat → Nat} (h : RB n f (wA b R p)) (c : ¬ (wA b R p p).testBit b = true) : RB n f (wA b R (p + 1)) := by
  show RB n f (if (wA b R p p).testBit b = true then _ else _)
  rw [if_neg c]; exact h
theorem wStep_y {n b p : Nat} {f : Nat → Int32} {R : Nat → Nat} (h : RB n f (wA b R p)) (c : (wA b R p p).testBit b = true) (hv : (wA b R p p ||| wA b R p b) < 1024) : RB n (upd f p (nI (wA b R p p ||| wA b R p b))) (wA b R (p + 1)) := by
  show RB n _ (if (wA b R p p).testBit b = true then updN (wA b R p) p (wA b R p p ||| wA b R p b) else _)
  rw [if_pos c]; exact RB_upd h hv
