/-! sums by pairs and sums by meetings are the same -/
theorem sI_add (f g : Nat → Int32) : ∀ n, sI (fun i => f i + g i) n = sI f n + sI g n
  | 0 => by simp [sI]
  | n + 1 => by unfold sI; rw [sI_add f g n]; grind
theorem sI_zero {f : Nat → Int32} : ∀ {n : Nat}, (∀ i, i < n → f i = 0) → sI f n = 0
  | 0, _ => rfl
  | n + 1, h => by unfold sI; rw [sI_zero (fun i hi => h i (by omega)), h n (by omega)]; rfl
theorem sI_one {f : Nat → Int32} {k : Nat} : ∀ {n : Nat}, k < n → (∀ i, i < n → i ≠ k → f i = 0) → sI f n = f k
  | 0, hk, _ => absurd hk (Nat.not_lt_zero k)
  | n + 1, hk, h => by
    unfold sI
    by_cases e : k = n
    · subst e; rw [sI_zero (fun i hi => h i (by omega) (by omega)), Int32.zero_add]
    · rw [sI_one (n := n) (by omega) (fun i hi => h i (by omega)), h n (by omega) (fun z => e z.symm), Int32.add_zero]
theorem sI_ite {P : Prop} [Decidable P] {v : Int32} {n k : Nat} (hk : k < n) : sI (fun b => if P ∧ b = k then v else 0) n = if P then v else 0 := by
  rw [sI_one hk (fun i _ hi => if_neg (fun z => hi z.2))]
  by_cases h : P
  · rw [if_pos ⟨h, rfl⟩, if_pos h]
  · rw [if_neg (fun z => h z.1), if_neg h]
theorem sum_ml {F : List Mt → Nat → Int32} {g : Mt → Nat → Int32} {n : Nat} (h0 : ∀ b, F [] b = 0) (h1 : ∀ x l b, F (x :: l) b = g x b + F l b) : ∀ ml, sI (F ml) n = lsI (fun x => sI (g x) n) ml
  | [] => sI_zero (fun i _ => h0 i)
  | x :: l => by
    have e : sI (F (x :: l)) n = sI (fun b => g x b + F l b) n := sI_congr (fun b _ => h1 x l b)
    rw [e, sI_add, sum_ml h0 h1 l]; rfl
theorem lsI_congr {g h : Mt → Int32} : ∀ {ml : List Mt}, (∀ x ∈ ml, g x = h x) → lsI g ml = lsI h ml
  | [], _ => rfl
  | x :: l, H => by unfold lsI; rw [H x List.mem_cons_self, lsI_congr (fun y hy => H y (List.mem_cons_of_mem _ hy))]
abbrev inX (a : Nat) (x : Mt) : Prop := x.1 = a ∨ x.2.1 = a
section FOE
variable {a b : Nat} {x : Mt}
theorem ovX_f (h : x.1 ≠ x.2.1) : ovX a b x = if (inX a x ∧ pqX a x < ppX a x) ∧ b = foeX a x then 1 else 0 := by
  unfold ovX foeX pqX ppX inX; grind
theorem ovX_g (h : x.1 ≠ x.2.1) : ovX b a x = if (inX a x ∧ ppX a x < pqX a x) ∧ b = foeX a x then 1 else 0 := by
  unfold ovX foeX pqX ppX inX; grind
theorem drX_f (h : x.1 ≠ x.2.1) : drX a b x = if (inX a x ∧ ppX a x = pqX a x) ∧ b = foeX a x then 1 else 0 := by
  unfold drX foeX pqX ppX inX; grind
theorem ptX_f (h : x.1 ≠ x.2.1) : ptX a b x = if inX a x ∧ b = foeX a x then ppX a x else 0 := by
  unfold ptX foeX ppX inX; grind
theorem ptX_g (h : x.1 ≠ x.2.1) : ptX b a x = if inX a x ∧ b = foeX a x then pqX a x else 0 := by
  unfold ptX foeX pqX inX; grind
theorem scX_f {rr : Int32 × Int32 × Int32} {S : Nat} (h : x.1 ≠ x.2.1) : scX rr a S x = if inX a x ∧ S.testBit (foeX a x) = true then byX rr (ppX a x) (pqX a x) else 0 := by
  unfold scX inX
  by_cases h1 : x.1 = a
  · have h2 : ¬ x.2.1 = a := fun z => h (h1.trans z.symm)
    have e1 : foeX a x = x.2.1 := if_pos h1
    have e2 : ppX a x = x.2.2.1 := if_pos h1
    have e3 : pqX a x = x.2.2.2 := if_pos h1
    rw [e1, e2, e3, if_neg (c := x.2.1 = a ∧ _) (fun z => h2 z.1), Int32.add_zero]
    by_cases hb : S.testBit x.2.1 = true
    · rw [if_pos ⟨h1, tb_mod.mp hb⟩, if_pos ⟨Or.inl h1, hb⟩]
    · rw [if_neg (fun z => hb (tb_mod.mpr z.2)), if_neg (fun z => hb z.2)]
  · rw [if_neg (fun z => h1 z.1), Int32.zero_add]
    have e1 : foeX a x = x.1 := if_neg h1
    have e2 : ppX a x = x.2.2.2 := if_neg h1
    have e3 : pqX a x = x.2.2.1 := if_neg h1
    rw [e1, e2, e3]
    by_cases h2 : x.2.1 = a
    · by_cases hb : S.testBit x.1 = true
      · rw [if_pos ⟨h2, tb_mod.mp hb⟩, if_pos ⟨Or.inr h2, hb⟩]
      · rw [if_neg (fun z => hb (tb_mod.mpr z.2)), if_neg (fun z => hb z.2)]
    · rw [if_neg (fun z => h2 z.1), if_neg (fun z => z.1.elim h1 h2)]
end FOE
def wX (rr : Int32 × Int32 × Int32) (a : Nat) (x : Mt) (b : Nat) : Int32 := rr.1 * nI (ovX a b x) + rr.2.1 * nI (drX a b x) + rr.2.2 * nI (ovX b a x)
theorem wrF_cons {rr : Int32 × Int32 × Int32} {a b : Nat} {x : Mt} {l : List Mt} : wrF rr (x :: l) a b = wX rr a x b + wrF rr l a b := by
  unfold wrF wX
  show rr.1 * nI (ovX a b x + lsN (ovX a b) l) + rr.2.1 * nI (drX a b x + lsN (drX a b) l) + rr.2.2 * nI (ovX b a x + lsN (ovX b a) l) = _
  rw [← nI_add, ← nI_add, ← nI_add]; grind
theorem wrF_nil {rr : Int32 × Int32 × Int32} {a b : Nat} : wrF rr [] a b = 0 := by
  show rr.1 * nI 0 + rr.2.1 * nI 0 + rr.2.2 * nI 0 = 0
  rw [nI_0]; grind
theorem wX_f {rr : Int32 × Int32 × Int32} {a b : Nat} {x : Mt} (h : x.1 ≠ x.2.1) : wX rr a x b = if inX a x ∧ b = foeX a x then byX rr (ppX a x) (pqX a x) else 0 := by
  unfold wX byX
  rw [ovX_f h, ovX_g h, drX_f h]
  have e0 : nI 0 = (0 : Int32) := rfl
  have e1 : nI 1 = (1 : Int32) := rfl
  by_cases hc : inX a x ∧ b = foeX a x
  · rw [if_pos hc]
    rcases Nat.lt_trichotomy (pqX a x) (ppX a x) with q | q | q
    · rw [if_pos ⟨⟨hc.1, q⟩, hc.2⟩, if_neg (fun z => by omega), if_neg (fun z => by omega), if_pos q, e0, e1]; grind
    · rw [if_neg (fun z => by omega), if_pos ⟨⟨hc.1, q.symm⟩, hc.2⟩, if_neg (fun z => by omega), if_neg (by omega), if_neg (by omega), e0, e1]; grind
    · rw [if_neg (fun z => by omega), if_neg (fun z => by omega), if_pos ⟨⟨hc.1, q⟩, hc.2⟩, if_neg (by omega), if_pos q, e0, e1]; grind
  · rw [if_neg hc, if_neg (fun z => hc ⟨z.1.1, z.2⟩), if_neg (fun z => hc ⟨z.1.1, z.2⟩), if_neg (fun z => hc ⟨z.1.1, z.2⟩), e0]; grind
/-- a score among those of a set, by pairs -/
theorem scP_eq {rr : Int32 × Int32 × Int32} {n a S : Nat} {P : Nat → Prop} [DecidablePred P] {ml : List Mt} (hok : ∀ x ∈ ml, okM n x) (hP : ∀ b, b < n → (P b ↔ S.testBit b = true)) : sI (fun b => if P b then wrF rr ml a b else 0) n = scF rr ml a S := by
  have e := sum_ml (F := fun l b => if P b then wrF rr l a b else 0) (g := fun x b => if P b then wX rr a x b else 0) (n := n) (fun b => by (try dsimp only); split; exact wrF_nil; rfl) (fun x l b => by (try dsimp only); split; exact wrF_cons; rfl) ml
  refine e.trans (lsI_congr (fun x hx => ?_))
  have h := (hok x hx).2.2.1
  have hf : foeX a x < n := foeX_lt (hok x hx)
  rw [scX_f h]
  have e2 : sI (fun b => if P b then wX rr a x b else 0) n = sI (fun b => if (inX a x ∧ S.testBit (foeX a x) = true) ∧ b = foeX a x then byX rr (ppX a x) (pqX a x) else 0) n := sI_congr (fun b hb => by
    try dsimp only
    rw [wX_f h]
    by_cases hbf : b = foeX a x
    · subst hbf
      by_cases hq : P (foeX a x)
      · rw [if_pos hq]
        by_cases hi : inX a x
        · rw [if_pos ⟨hi, rfl⟩, if_pos ⟨⟨hi, (hP _ hb).mp hq⟩, rfl⟩]
        · rw [if_neg (fun z => hi z.1), if_neg (fun z => hi z.1.1)]
      · rw [if_neg hq, if_neg (fun z => hq ((hP _ hb).mpr z.1.2))]
    · rw [if_neg (c := _ ∧ b = foeX a x) (fun z => hbf z.2), if_neg (c := _ ∧ b = foeX a x) (fun z => hbf z.2)]; split <;> rfl)
  rw [e2]
  exact sI_ite hf
theorem tb_1023 {i : Nat} (h : i < 10) : (1023 : Nat).testBit i = true := by
  rw [show (1023 : Nat) = 2 ^ 10 - 1 by decide, Nat.testBit_two_pow_sub_one]; simp [h]
theorem score_eq {rr : Int32 × Int32 × Int32} {n a : Nat} {ml : List Mt} (hn : n ≤ 10) (hok : ∀ x ∈ ml, okM n x) : sI (wrF rr ml a) n = scF rr ml a 1023 := by
  rw [← scP_eq (P := fun _ => True) hok (fun b hb => ⟨fun _ => tb_1023 (by omega), fun _ => trivial⟩)]
  exact sI_congr (fun b _ => (if_pos trivial).symm)
/-- a number of a kind, by pairs; ky holds the scores -/
theorem num_eq {rr : Int32 × Int32 × Int32} {n a S kd row : Nat} {ml : List Mt} {ky : Nat → Int32} (hok : ∀ x ∈ ml, okM n x) (hky : ∀ b, b < n → ky b = scF rr ml b 1023) (hkd : kd < 6) (hP : kd = 5 → ∀ b, b < n → (cmpK ky a b 0 row = 0 ↔ S.testBit b = true)) : sI (fun b => shF rr ml ky kd a b row) n = numF rr ml kd a S := by
  have e0 : nI 0 = (0 : Int32) := rfl
  have e1 : nI 1 = (1 : Int32) := rfl
  have lc : ∀ (g : Mt → Nat → Nat) (x : Mt) (l : List Mt) (b : Nat), nI (lsN (fun y => g y b) (x :: l)) = nI (g x b) + nI (lsN (fun y => g y b) l) := fun g x l b => (nI_add _ _).symm
  rcases (show kd = 0 ∨ kd = 1 ∨ kd = 2 ∨ kd = 3 ∨ kd = 4 ∨ kd = 5 by omega) with rfl | rfl | rfl | rfl | rfl | rfl
  · show sI (fun b => nI (ov ml a b)) n = lsI (nbX rr ml 0 a) ml
    refine (sum_ml (F := fun l b => nI (ov l a b)) (g := fun x b => nI (ovX a b x)) (fun b => rfl) (fun x l b => lc (fun y b => ovX a b y) x l b) ml).trans (lsI_congr (fun x hx => ?_))
    have h := (hok x hx).2.2.1
    try dsimp only
    rw [sI_congr (g := fun b => if (inX a x ∧ pqX a x < ppX a x) ∧ b = foeX a x then 1 else 0) (fun b _ => by (try dsimp only); rw [ovX_f h]; split <;> rfl), sI_ite (foeX_lt (hok x hx))]
    unfold nbX
    by_cases hi : inX a x
    · rw [if_pos hi]
      by_cases c : pqX a x < ppX a x
      · rw [if_pos ⟨hi, c⟩]; simp [c]
      · rw [if_neg (fun z => c z.2)]; simp [c]
    · rw [if_neg (fun z => hi z.1), if_neg hi]
  · show sI (fun b => nI (pt ml a b) - nI (pt ml b a)) n = lsI (nbX rr ml 1 a) ml
    refine (sum_ml (F := fun l b => nI (pt l a b) - nI (pt l b a)) (g := fun x b => nI (ptX a b x) - nI (ptX b a x)) (fun b => by show nI 0 - nI 0 = 0; rw [e0]; rfl) (fun x l b => by
      show nI (ptX a b x + lsN (ptX a b) l) - nI (ptX b a x + lsN (ptX b a) l) = _
      rw [← nI_add, ← nI_add]; grind) ml).trans (lsI_congr (fun x hx => ?_))
    have h := (hok x hx).2.2.1
    try dsimp only
    rw [sI_congr (g := fun b => if inX a x ∧ b = foeX a x then nI (ppX a x) - nI (pqX a x) else 0) (fun b _ => by (try dsimp only); rw [ptX_f h, ptX_g h]; split; rfl; rw [e0]; rfl), sI_ite (foeX_lt (hok x hx))]
    rfl
  · show sI (fun b => nI (pt ml a b)) n = lsI (nbX rr ml 2 a) ml
    refine (sum_ml (F := fun l b => nI (pt l a b)) (g := fun x b => nI (ptX a b x)) (fun b => rfl) (fun x l b => lc (fun y b => ptX a b y) x l b) ml).trans (lsI_congr (fun x hx => ?_))
    have h := (hok x hx).2.2.1
    try dsimp only
    rw [sI_congr (g := fun b => if inX a x ∧ b = foeX a x then nI (ppX a x) else 0) (fun b _ => by (try dsimp only); rw [ptX_f h]; split; rfl; exact e0), sI_ite (foeX_lt (hok x hx))]
    rfl
  · show sI (fun b => (nI (ov ml a b) + nI (dr ml a b) + nI (ov ml b a)) * ky b) n = lsI (nbX rr ml 3 a) ml
    refine (sum_ml (F := fun l b => (nI (ov l a b) + nI (dr l a b) + nI (ov l b a)) * ky b) (g := fun x b => (nI (ovX a b x) + nI (drX a b x) + nI (ovX b a x)) * ky b) (fun b => by show (nI 0 + nI 0 + nI 0) * _ = 0; rw [e0]; grind) (fun x l b => by
      show (nI (ovX a b x + lsN (ovX a b) l) + nI (drX a b x + lsN (drX a b) l) + nI (ovX b a x + lsN (ovX b a) l)) * ky b = _
      rw [← nI_add, ← nI_add, ← nI_add]; grind) ml).trans (lsI_congr (fun x hx => ?_))
    have h := (hok x hx).2.2.1
    try dsimp only
    rw [sI_congr (g := fun b => if inX a x ∧ b = foeX a x then scF rr ml (foeX a x) 1023 else 0) (fun b hb => by
      (try dsimp only); rw [ovX_f h, ovX_g h, drX_f h]
      by_cases hc : inX a x ∧ b = foeX a x
      · rw [if_pos hc, hky b hb, ← hc.2]
        rcases Nat.lt_trichotomy (pqX a x) (ppX a x) with q | q | q
        · rw [if_pos ⟨⟨hc.1, q⟩, rfl⟩, if_neg (fun z => by omega), if_neg (fun z => by omega), e0, e1]; grind
        · rw [if_neg (fun z => by omega), if_pos ⟨⟨hc.1, q.symm⟩, rfl⟩, if_neg (fun z => by omega), e0, e1]; grind
        · rw [if_neg (fun z => by omega), if_neg (fun z => by omega), if_pos ⟨⟨hc.1, q⟩, rfl⟩, e0, e1]; grind
      · rw [if_neg hc, if_neg (fun z => hc ⟨z.1.1, z.2⟩), if_neg (fun z => hc ⟨z.1.1, z.2⟩), if_neg (fun z => hc ⟨z.1.1, z.2⟩), e0]; grind), sI_ite (foeX_lt (hok x hx))]
    rfl
  · show sI (fun b => (nI 2 * nI (ov ml a b) + nI (dr ml a b)) * ky b) n = lsI (nbX rr ml 4 a) ml
    refine (sum_ml (F := fun l b => (nI 2 * nI (ov l a b) + nI (dr l a b)) * ky b) (g := fun x b => (nI 2 * nI (ovX a b x) + nI (drX a b x)) * ky b) (fun b => by show (nI 2 * nI 0 + nI 0) * _ = 0; rw [e0]; grind) (fun x l b => by
      show (nI 2 * nI (ovX a b x + lsN (ovX a b) l) + nI (drX a b x + lsN (drX a b) l)) * ky b = _
      rw [← nI_add, ← nI_add]; grind) ml).trans (lsI_congr (fun x hx => ?_))
    have h := (hok x hx).2.2.1
    have e2 : nI 2 = (2 : Int32) := rfl
    try dsimp only
    rw [sI_congr (g := fun b => if inX a x ∧ b = foeX a x then (if pqX a x < ppX a x then 2 * scF rr ml (foeX a x) 1023 else if ppX a x = pqX a x then scF rr ml (foeX a x) 1023 else 0) else 0) (fun b hb => by
      (try dsimp only); rw [ovX_f h, drX_f h]
      by_cases hc : inX a x ∧ b = foeX a x
      · rw [if_pos hc, hky b hb, ← hc.2]
        rcases Nat.lt_trichotomy (pqX a x) (ppX a x) with q | q | q
        · rw [if_pos ⟨⟨hc.1, q⟩, rfl⟩, if_neg (fun z => by omega), if_pos q, e0, e1, e2]; grind
        · rw [if_neg (fun z => by omega), if_pos ⟨⟨hc.1, q.symm⟩, rfl⟩, if_neg (by omega), if_pos q.symm, e0, e1]; grind
        · rw [if_neg (fun z => by omega), if_neg (fun z => by omega), if_neg (by omega), if_neg (by omega), e0]; grind
      · rw [if_neg hc, if_neg (fun z => hc ⟨z.1.1, z.2⟩), if_neg (fun z => hc ⟨z.1.1, z.2⟩), e0]; grind), sI_ite (foeX_lt (hok x hx))]
    rfl
  · show sI (fun b => if cmpK ky a b 0 row = 0 then wrF rr ml a b else 0) n = scF rr ml a S
    exact scP_eq hok (hP rfl)
