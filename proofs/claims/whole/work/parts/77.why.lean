/-! who may come first, or why not: both sides answer the same -/
theorem hs_eq {ml : List Mt} {n p : Nat} (hok : ∀ x ∈ ml, okM n x) : hpI ml n p = lsI (hsX p) ml := by
  have e0 : nI 0 = (0 : Int32) := rfl
  have e1 : nI 1 = (1 : Int32) := rfl
  refine (sum_ml (F := fun l b => nI 2 * nI (ov l p b) + nI (dr l p b)) (g := fun x b => nI 2 * nI (ovX p b x) + nI (drX p b x)) (fun b => by show nI 2 * nI 0 + nI 0 = 0; rw [e0]; grind) (fun x l b => by
    show nI 2 * nI (ovX p b x + lsN (ovX p b) l) + nI (drX p b x + lsN (drX p b) l) = _
    rw [← nI_add, ← nI_add]; grind) ml).trans (lsI_congr (fun x hx => ?_))
  have h := (hok x hx).2.2.1
  have hf := foeX_lt (p := p) (hok x hx)
  rw [sI_congr (g := fun b => if inX p x ∧ b = foeX p x then (if pqX p x < ppX p x then nI 2 else if ppX p x = pqX p x then nI 1 else nI 0) else 0) (fun b hb => by
    (try dsimp only); rw [ovX_f h, drX_f h]
    by_cases hc : inX p x ∧ b = foeX p x
    · rw [if_pos hc]
      rcases Nat.lt_trichotomy (pqX p x) (ppX p x) with q | q | q
      · rw [if_pos ⟨⟨hc.1, q⟩, hc.2⟩, if_neg (fun w => by omega), if_pos q, e0, e1]; grind
      · rw [if_neg (fun w => by omega), if_pos ⟨⟨hc.1, q.symm⟩, hc.2⟩, if_neg (by omega), if_pos q.symm, e0, e1]; grind
      · rw [if_neg (fun w => by omega), if_neg (fun w => by omega), if_neg (by omega), if_neg (by omega), e0]; grind
    · rw [if_neg hc, if_neg (fun w => hc ⟨w.1.1, w.2⟩), if_neg (fun w => hc ⟨w.1.1, w.2⟩), e0]; grind), sI_ite hf]
  unfold hsX
  by_cases h1 : x.1 = p
  · have h2 : ¬ x.2.1 = p := fun w => h (h1.trans w.symm)
    have e2 : ppX p x = x.2.2.1 := if_pos h1
    have e3 : pqX p x = x.2.2.2 := if_pos h1
    rw [if_pos (Or.inl h1), if_pos h1, if_neg h2, Int32.add_zero, e2, e3]
  · have e2 : ppX p x = x.2.2.2 := if_neg h1
    have e3 : pqX p x = x.2.2.1 := if_neg h1
    rw [if_neg h1, Int32.zero_add]
    by_cases h2 : x.2.1 = p
    · rw [if_pos (Or.inr h2), if_pos h2, e2, e3]
      by_cases c : x.2.2.1 < x.2.2.2
      · rw [if_pos c, if_pos c]
      · rw [if_neg c, if_neg c]
        by_cases d : x.2.2.1 = x.2.2.2
        · rw [if_pos d.symm, if_pos d]
        · rw [if_neg (fun w => d w.symm), if_neg d]
    · rw [if_neg (fun w => w.elim h1 h2), if_neg h2]
theorem lsQ_congr {g h : Nat × Nat → Int32} : ∀ {l : List (Nat × Nat)}, (∀ x ∈ l, g x = h x) → lsQ g l = lsQ h l
  | [], _ => rfl
  | x :: l, H => by unfold lsQ; rw [H x List.mem_cons_self, lsQ_congr (fun y hy => H y (List.mem_cons_of_mem _ hy))]
theorem lsQ_add {g h : Nat × Nat → Int32} : ∀ (l : List (Nat × Nat)), lsQ (fun x => g x + h x) l = lsQ g l + lsQ h l
  | [] => by simp [lsQ]
  | x :: l => by
    unfold lsQ; rw [lsQ_add l]
    rw [Int32.add_assoc, Int32.add_assoc]; congr 1
    rw [← Int32.add_assoc, ← Int32.add_assoc, Int32.add_comm (h x)]
/-- what two of a set have to play -/
abbrev pwX (p S : Nat) (x : Nat × Nat) : Int32 := if (x.1 = p ∧ S.testBit x.2 = true) ∨ (x.2 = p ∧ S.testBit x.1 = true) then nI 2 else nI 0
theorem sI_mul (c : Int32) (f : Nat → Int32) : ∀ n, sI (fun i => c * f i) n = c * sI f n
  | 0 => by show (0 : Int32) = c * 0; rw [Int32.mul_zero]
  | n + 1 => by unfold sI; rw [sI_mul c f n, Int32.mul_add]
theorem gw_eq {n p S : Nat} : ∀ {nx : List (Nat × Nat)}, (∀ x ∈ nx, x.1 < n ∧ x.2 < n ∧ x.1 ≠ x.2) → nI 2 * gwI nx n p S = lsQ (pwX p S) nx
  | [], _ => by
    show nI 2 * sI (fun o => if S.testBit o = true then nI 0 else 0) n = 0
    rw [sI_zero (fun i _ => by split <;> rfl), Int32.mul_zero]
  | x :: l, h => by
    obtain ⟨h1, h2, h3⟩ := h x List.mem_cons_self
    have ih := gw_eq (n := n) (p := p) (S := S) (nx := l) (fun y hy => h y (List.mem_cons_of_mem _ hy))
    have e : gwI (x :: l) n p S = sI (fun o => if S.testBit o = true then nI (gmX p o x) else 0) n + gwI l n p S := by
      show sI (fun o => if S.testBit o = true then nI (gmX p o x + lsP (gmX p o) l) else 0) n = _
      rw [← sI_add]
      refine sI_congr (fun o _ => ?_)
      (try dsimp only)
      by_cases c : S.testBit o = true
      · rw [if_pos c, if_pos c, if_pos c, nI_add]
      · rw [if_neg c, if_neg c, if_neg c, Int32.add_zero]
    rw [e, Int32.mul_add, ih]
    show _ = pwX p S x + lsQ (pwX p S) l
    congr 1
    have key : sI (fun o => if S.testBit o = true then nI (gmX p o x) else 0) n = if (x.1 = p ∧ S.testBit x.2 = true) ∨ (x.2 = p ∧ S.testBit x.1 = true) then nI 1 else nI 0 := by
      unfold gmX
      by_cases a : x.1 = p
      · have b : ¬ x.2 = p := fun w => h3 (a.trans w.symm)
        rw [sI_one (k := x.2) h2 (fun i _ hi => by
          (try dsimp only); split
          · rw [if_neg (fun w => w.elim (fun w => hi w.2.symm) (fun w => b w.2))]; rfl
          · rfl)]
        by_cases c : S.testBit x.2 = true
        · rw [if_pos c, if_pos (Or.inl ⟨a, rfl⟩), if_pos (Or.inl ⟨a, c⟩)]
        · rw [if_neg c, if_neg (fun w => w.elim (fun w => c w.2) (fun w => b w.1))]; rfl
      · by_cases b : x.2 = p
        · rw [sI_one (k := x.1) h1 (fun i _ hi => by
            (try dsimp only); split
            · rw [if_neg (fun w => w.elim (fun w => a w.1) (fun w => hi w.1.symm))]; rfl
            · rfl)]
          by_cases c : S.testBit x.1 = true
          · rw [if_pos c, if_pos (Or.inr ⟨rfl, b⟩), if_pos (Or.inr ⟨b, c⟩)]
          · rw [if_neg c, if_neg (fun w => w.elim (fun w => a w.1) (fun w => c w.2))]; rfl
        · rw [sI_zero (fun i _ => by
            (try dsimp only); split
            · rw [if_neg (fun w => w.elim (fun w => a w.1) (fun w => b w.2))]; rfl
            · rfl), if_neg (fun w => w.elim (fun w => a w.1) (fun w => b w.1))]; rfl
    rw [key]; unfold pwX
    by_cases c : (x.1 = p ∧ S.testBit x.2 = true) ∨ (x.2 = p ∧ S.testBit x.1 = true)
    · rw [if_pos c, if_pos c]; decide
    · rw [if_neg c, if_neg c]; decide
theorem lm_eq {ml : List Mt} {nx : List (Nat × Nat)} {n p : Nat} (hok : ∀ x ∈ ml, okM n x) (hnx : ∀ x ∈ nx, x.1 < n ∧ x.2 < n ∧ x.1 ≠ x.2) : lmN ml nx n p = mstF ml nx p := by
  unfold lmN
  rw [hs_eq hok, gw_eq hnx]
  show _ = lsI (hsX p) ml + lsQ (fun x => if x.1 = p ∨ x.2 = p then nI 2 else nI 0) nx
  congr 1
  refine lsQ_congr (fun x hx => ?_)
  obtain ⟨h1, h2, -⟩ := hnx x hx
  unfold pwX
  by_cases c : x.1 = p ∨ x.2 = p
  · rw [if_pos c, if_pos]
    exact c.elim (fun a => Or.inl ⟨a, all_bit h2⟩) (fun a => Or.inr ⟨a, all_bit h1⟩)
  · rw [if_neg c, if_neg (fun w => c (w.elim (fun w => Or.inl w.1) (fun w => Or.inr w.1)))]
set_option maxRecDepth 100000 in
theorem low_all : ∀ T, T < 1024 → 0 < T → T &&& (T - 1) = T - 2 ^ tzF T ∧ T.testBit (tzF T) = true := by decide +kernel
theorem ex_step {ml : List Mt} {nx : List (Nat × Nat)} {n p T low : Nat} (hok : ∀ x ∈ ml, okM n x) (hnx : ∀ x ∈ nx, x.1 < n ∧ x.2 < n ∧ x.1 ≠ x.2) (hl : low < n) (hb : T.testBit low = true) : exF ml nx n p T = exF ml nx n p (T - 2 ^ low) + hpI ml n low - lmN ml nx n p + nI 2 * gwI nx n low (T - 2 ^ low) := by
  rw [lm_eq hok hnx, hs_eq hok, gw_eq hnx]
  have hT : ∀ i, (T - 2 ^ low).testBit i = true ↔ T.testBit i = true ∧ ¬ low = i := fun i => by rw [tb_sub hb]; cases T.testBit i <;> simp
  have e1 : sI (fun q => if T.testBit q = true then lsI (hsX q) ml - mstF ml nx p else nI 0) n = sI (fun q => if (T - 2 ^ low).testBit q = true then lsI (hsX q) ml - mstF ml nx p else nI 0) n + (lsI (hsX low) ml - mstF ml nx p) := by
    refine sI_bump hl (fun i hi hne => ?_) ?_
    · by_cases c : T.testBit i = true
      · rw [if_pos c, if_pos ((hT i).mpr ⟨c, fun w => hne w.symm⟩)]
      · rw [if_neg c, if_neg (fun w => c ((hT i).mp w).1)]
    · rw [if_pos hb, if_neg (fun w => ((hT low).mp w).2 rfl), nI_0, Int32.zero_add]
  have e2 : lsQ (fun x => if T.testBit x.1 = true ∧ T.testBit x.2 = true then nI 2 else nI 0) nx = lsQ (fun x => if (T - 2 ^ low).testBit x.1 = true ∧ (T - 2 ^ low).testBit x.2 = true then nI 2 else nI 0) nx + lsQ (pwX low (T - 2 ^ low)) nx := by
    rw [← lsQ_add]
    refine lsQ_congr (fun x hx => ?_)
    obtain ⟨-, -, h3⟩ := hnx x hx
    (try dsimp only)
    unfold pwX
    by_cases c : T.testBit x.1 = true ∧ T.testBit x.2 = true
    · rw [if_pos c]
      by_cases a : x.1 = low
      · have a2 : ¬ low = x.2 := fun w => h3 (a.trans w)
        rw [if_neg (fun w => ((hT x.1).mp w.1).2 a.symm), if_pos (Or.inl ⟨a, (hT x.2).mpr ⟨c.2, a2⟩⟩), nI_0, Int32.zero_add]
      · have a' : ¬ low = x.1 := fun w => a w.symm
        by_cases b : x.2 = low
        · rw [if_neg (fun w => ((hT x.2).mp w.2).2 b.symm), if_pos (Or.inr ⟨b, (hT x.1).mpr ⟨c.1, a'⟩⟩), nI_0, Int32.zero_add]
        · rw [if_pos ⟨(hT x.1).mpr ⟨c.1, a'⟩, (hT x.2).mpr ⟨c.2, fun w => b w.symm⟩⟩, if_neg (fun w => w.elim (fun w => a w.1) (fun w => b w.1)), nI_0, Int32.add_zero]
    · rw [if_neg c, if_neg (fun w => c ⟨((hT x.1).mp w.1).1, ((hT x.2).mp w.2).1⟩), if_neg, nI_0, Int32.add_zero]
      rintro (w | w)
      · exact c ⟨by rw [w.1]; exact hb, ((hT x.2).mp w.2).1⟩
      · exact c ⟨((hT x.1).mp w.2).1, by rw [w.1]; exact hb⟩
  unfold exF
  rw [e1, e2]
  generalize sI (fun q => if (T - 2 ^ low).testBit q = true then lsI (hsX q) ml - mstF ml nx p else nI 0) n = A1
  generalize lsQ (fun x => if (T - 2 ^ low).testBit x.1 = true ∧ (T - 2 ^ low).testBit x.2 = true then nI 2 else nI 0) nx = A2
  generalize lsQ (pwX low (T - 2 ^ low)) nx = A3
  generalize lsI (hsX low) ml = A4
  generalize mstF ml nx p = A5
  clear e1 e2 hT hok hnx hl hb
  grind
theorem ex_eq {ml : List Mt} {nx : List (Nat × Nat)} {n p m : Nat} {e : Nat → Int32} (hn : n ≤ 10) (hok : ∀ x ∈ ml, okM n x) (hnx : ∀ x ∈ nx, x.1 < n ∧ x.2 < n ∧ x.1 ≠ x.2) (hm : m ≤ 2 ^ n) (h : EXc ml nx n p e m) : ∀ k T, T ≤ k → (T = 0 ∨ T < m) → ¬ T.testBit p = true → e T = exF ml nx n p T := by
  intro k
  have z0 : e 0 = exF ml nx n p 0 := by
    rw [h.1]
    show nI 0 = sI (fun q => if (0 : Nat).testBit q = true then _ else nI 0) n + lsQ (fun x => if (0 : Nat).testBit x.1 = true ∧ (0 : Nat).testBit x.2 = true then nI 2 else nI 0) nx
    rw [sI_zero (fun i _ => by rw [Nat.zero_testBit, if_neg (by decide)]; rfl), lsQ_congr (h := fun _ => 0) (fun x _ => by (try dsimp only); rw [Nat.zero_testBit, if_neg (fun w => by cases w.1)]; rfl), Int32.zero_add]
    induction nx with
    | nil => rfl
    | cons x l ih => show nI 0 = 0 + lsQ (fun _ => 0) l; rw [Int32.zero_add]; clear ih h hnx hok; induction l with
      | nil => rfl
      | cons y l ih => show nI 0 = 0 + lsQ (fun _ => 0) l; rw [Int32.zero_add]; exact ih
  induction k with
  | zero => intro T hT _ _; obtain rfl : T = 0 := by omega
            exact z0
  | succ k ih =>
    intro T hT hTm hb
    by_cases e0 : T = 0
    · subst e0; exact z0
    · have hTm : T < m := by omega
      have h2 := pow_le_1024 hn
      obtain ⟨l1, l2⟩ := low_all T (by omega) (by omega)
      have hlow : tzF T < n := tzF_lt (by omega) (by omega) hn
      have hp2 := Nat.two_pow_pos (tzF T)
      have hle := two_le_of_bit l2
      have hb2 : ¬ (T - 2 ^ tzF T).testBit p = true := fun w => by
        rw [tb_sub l2, Bool.and_eq_true] at w; exact hb w.1
      rw [h.2 T (by omega) hTm hb]
      unfold exN
      rw [l1, ih (T - 2 ^ tzF T) (by omega) (by omega) hb2, ex_step hok hnx hlow l2]
theorem why_eq {ml : List Mt} {nx : List (Nat × Nat)} {n p a9 : Nat} {e9 : Nat → Int32} (hn : n ≤ 10) (hok : ∀ x ∈ ml, okM n x) (hnx : ∀ x ∈ nx, x.1 < n ∧ x.2 < n ∧ x.1 ≠ x.2)
    (h : (a9 = 0 ∧ EXc ml nx n p e9 (2 ^ n) ∧ noP p e9 (2 ^ n)) ∨ (0 < a9 ∧ a9 < 2 ^ n ∧ EXc ml nx n p e9 (a9 + 1) ∧ ¬ a9.testBit p = true ∧ 0 < e9 a9 ∧ noP p e9 a9)) : a9 = whyF ml nx n p := by
  unfold whyF
  rcases h with ⟨h1, h2, h3⟩ | ⟨h1, h2, h3, h4, h5, h6⟩
  · cases es : srch (fun S => !S.testBit p && decide (0 < exF ml nx n p S)) 1 (2 ^ n - 1) with
    | none => exact h1
    | some j =>
      exfalso
      obtain ⟨j1, j2, j3, -⟩ := srch_some es
      rw [Bool.and_eq_true, decide_eq_true_eq] at j3
      have hb : ¬ j.testBit p = true := fun w => by rw [w] at j3; cases j3.1
      have hj : j < 2 ^ n := by omega
      have := ex_eq hn hok hnx (Nat.le_refl _) h2 j j (Nat.le_refl _) (Or.inr hj) hb
      exact h3 j (by omega) hj hb (by rw [this]; exact j3.2)
  · cases es : srch (fun S => !S.testBit p && decide (0 < exF ml nx n p S)) 1 (2 ^ n - 1) with
    | none =>
      exfalso
      have := srch_none es a9 h1 (by omega)
      rw [nb_t h4, Bool.true_and, decide_eq_false_iff_not] at this
      apply this
      rw [← ex_eq hn hok hnx (by omega) h3 a9 a9 (Nat.le_refl _) (Or.inr (by omega)) h4]; exact h5
    | some j =>
      obtain ⟨j1, j2, j3, j4⟩ := srch_some es
      rw [Bool.and_eq_true, decide_eq_true_eq] at j3
      have hb : ¬ j.testBit p = true := fun w => by rw [w] at j3; cases j3.1
      show a9 = j
      rcases Nat.lt_trichotomy a9 j with q | q | q
      · exfalso
        have := j4 a9 h1 q
        rw [nb_t h4, Bool.true_and, decide_eq_false_iff_not] at this
        apply this
        rw [← ex_eq hn hok hnx (by omega) h3 a9 a9 (Nat.le_refl _) (Or.inr (by omega)) h4]; exact h5
      · exact q
      · exfalso
        have := ex_eq hn hok hnx (by omega) h3 j j (Nat.le_refl _) (Or.inr (by omega)) hb
        exact h6 j (by omega) q hb (by rw [this]; exact j3.2)
