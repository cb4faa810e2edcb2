/-! closures of sets of bits -/
abbrev sub2 (S T : Nat) : Prop := ∀ i, S.testBit i = true → T.testBit i = true
theorem sub2_refl (S : Nat) : sub2 S S := fun _ h => h
theorem sub2_trans {S T U : Nat} (h : sub2 S T) (g : sub2 T U) : sub2 S U := fun i hi => g i (h i hi)
theorem sub2_anti {S T : Nat} (h : sub2 S T) (g : sub2 T S) : S = T := Nat.eq_of_testBit_eq (fun i => by
  cases e : S.testBit i with
  | true => exact (h i e).symm
  | false => cases e2 : T.testBit i with
    | true => rw [g i e2] at e; exact absurd e (by decide)
    | false => rfl)
theorem sub2_or_l (S T : Nat) : sub2 S (S ||| T) := fun i h => by rw [Nat.testBit_or, h]; rfl
theorem sub2_or_r (S T : Nat) : sub2 T (S ||| T) := fun i h => by rw [Nat.testBit_or, h, Bool.or_true]
theorem sub2_or {S T U : Nat} (h : sub2 S U) (g : sub2 T U) : sub2 (S ||| T) U := fun i hi => by
  rw [Nat.testBit_or, Bool.or_eq_true] at hi; exact hi.elim (h i) (g i)
theorem sub2_pow {p U : Nat} (h : U.testBit p = true) : sub2 (2 ^ p) U := fun i hi => by
  rw [Nat.testBit_two_pow, decide_eq_true_eq] at hi; rw [← hi]; exact h
theorem pc_mod {S T k : Nat} (h : S.testBit k = true → T.testBit k = true) : S / 2 ^ k % 2 ≤ T / 2 ^ k % 2 := by
  rcases Nat.mod_two_eq_zero_or_one (S / 2 ^ k) with q | q
  · omega
  · have := tb_mod.mp (h (tb_mod.mpr q)); omega
theorem pc_le {S T : Nat} (h : sub2 S T) : ∀ k, pcF S k ≤ pcF T k
  | 0 => Nat.le_refl _
  | k + 1 => by unfold pcF; have := pc_le h k; have := pc_mod (h k); omega
theorem pc_lt {S T i : Nat} (h : sub2 S T) (h1 : ¬ S.testBit i = true) (h2 : T.testBit i = true) : ∀ k, i < k → pcF S k < pcF T k
  | 0, hk => absurd hk (Nat.not_lt_zero i)
  | k + 1, hk => by
    unfold pcF
    by_cases e : i = k
    · subst e
      have := pc_le h i
      have := tb_mod.mp h2
      have := tb_mod0.mp h1
      omega
    · have := pc_lt h h1 h2 k (by omega)
      have := pc_mod (h k)
      omega
theorem bit_lt {S n i : Nat} (hS : S < 2 ^ n) (h : S.testBit i = true) : i < n := by
  rcases Nat.lt_or_ge i n with q | q
  · exact q
  · rw [Nat.testBit_lt_two_pow (Nat.lt_of_lt_of_le hS (Nat.pow_le_pow_right (by decide) q))] at h; cases h
theorem lt_of_bits {S n : Nat} (h : ∀ i, S.testBit i = true → i < n) : S < 2 ^ n := Nat.lt_pow_two_of_testBit S (fun i hi => by
  cases e : S.testBit i with
  | true => have := h i e; omega
  | false => rfl)
theorem sub2_all {S n : Nat} (hS : S < 2 ^ n) : sub2 S (2 ^ n - 1) := fun i hi => by rw [Nat.testBit_two_pow_sub_one]; exact decide_eq_true (bit_lt hS hi)
theorem all_bit {n i : Nat} (h : i < n) : (2 ^ n - 1).testBit i = true := by rw [Nat.testBit_two_pow_sub_one]; exact decide_eq_true h
theorem pc_n {S n : Nat} (hn : n ≤ 10) (hS : S < 2 ^ n) : pcF S 10 ≤ n := by
  have := pc_le (sub2_all hS) 10
  rw [pcF_all n (by omega)] at this; exact this
/-- a step again and again -/
def itF (f : Nat → Nat) (B : Nat) : Nat → Nat
  | 0 => B
  | j + 1 => f (itF f B j)
theorem it_fix {f : Nat → Nat} {B n : Nat} (hn : n ≤ 10) (hB : B < 2 ^ n) (h0 : B ≠ 0) (hb : ∀ S, S < 2 ^ n → f S < 2 ^ n) (hi : ∀ S, sub2 S (f S)) : f (itF f B n) = itF f B n := by
  have hlt : ∀ j, itF f B j < 2 ^ n := fun j => by
    induction j with
    | zero => exact hB
    | succ j ih => exact hb _ ih
  have key : ∀ j, f (itF f B j) = itF f B j ∨ j + 1 ≤ pcF (itF f B j) 10 := fun j => by
    induction j with
    | zero =>
      right
      obtain ⟨i, hi2⟩ : ∃ i, B.testBit i = true := Nat.exists_testBit_of_ne_zero h0
      have := pc_lt (S := 0) (T := B) (i := i) (fun _ h => by rw [Nat.zero_testBit] at h; cases h) (by rw [Nat.zero_testBit]; decide) hi2 10 (Nat.lt_of_lt_of_le (bit_lt hB hi2) hn)
      show 1 ≤ pcF B 10
      omega
    | succ j ih =>
      show f (f (itF f B j)) = f (itF f B j) ∨ _
      rcases ih with q | q
      · left; rw [q, q]
      · by_cases e : f (itF f B j) = itF f B j
        · left; rw [e, e]
        · right
          obtain ⟨i, h1, h2⟩ : ∃ i, ¬ (itF f B j).testBit i = true ∧ (f (itF f B j)).testBit i = true := by
            refine Classical.byContradiction (fun hc => e ?_)
            exact sub2_anti (fun i h2 => Classical.byContradiction (fun h1 => hc ⟨i, h1, h2⟩)) (hi _)
          have := pc_lt (hi (itF f B j)) h1 h2 10 (Nat.lt_of_lt_of_le (bit_lt (hb _ (hlt j)) h2) hn)
          show j + 1 + 1 ≤ pcF (f (itF f B j)) 10
          omega
  rcases key n with q | q
  · exact q
  · have := pc_n hn (hlt n); omega
theorem it_lt {f : Nat → Nat} {B n : Nat} (hB : B < 2 ^ n) (hb : ∀ S, S < 2 ^ n → f S < 2 ^ n) : ∀ j, itF f B j < 2 ^ n
  | 0 => hB
  | j + 1 => hb _ (it_lt hB hb j)
theorem it_sup {f : Nat → Nat} {B : Nat} (hi : ∀ S, sub2 S (f S)) : ∀ j, sub2 B (itF f B j)
  | 0 => sub2_refl B
  | j + 1 => sub2_trans (it_sup hi j) (hi _)
theorem it_min {f : Nat → Nat} {B C : Nat} (hc : ∀ S, sub2 S C → sub2 (f S) C) (h : sub2 B C) : ∀ j, sub2 (itF f B j) C
  | 0 => h
  | j + 1 => hc _ (it_min hc h j)
/-- the class's step: each of the set brings its own -/
theorem jc1_sup (fo : Nat → Nat) (B : Nat) : ∀ a, sub2 B (jc1 fo B a)
  | 0 => sub2_refl B
  | a + 1 => by
    unfold jc1; split
    · exact sub2_trans (jc1_sup fo B a) (sub2_or_l _ _)
    · exact jc1_sup fo B a
theorem jc1_b {fo : Nat → Nat} {n : Nat} (hf : ∀ a, fo a < 2 ^ n) {B : Nat} (hB : B < 2 ^ n) : ∀ a, jc1 fo B a < 2 ^ n
  | 0 => hB
  | a + 1 => by
    unfold jc1; split
    · exact Nat.or_lt_two_pow (jc1_b hf hB a) (hf a)
    · exact jc1_b hf hB a
def clo (fo : Nat → Nat) (n C : Nat) : Prop := ∀ a, a < n → C.testBit a = true → sub2 (fo a) C
theorem jc1_min {fo : Nat → Nat} {n C : Nat} (hC : clo fo n C) {B : Nat} (hB : sub2 B C) : ∀ a, a ≤ n → sub2 (jc1 fo B a) C
  | 0, _ => hB
  | a + 1, ha => by
    have ih := jc1_min hC hB a (by omega)
    unfold jc1; split
    · rename_i h; exact sub2_or ih (hC a (by omega) (ih a h))
    · exact ih
theorem jc1_fix {fo : Nat → Nat} {n B : Nat} (h : jc1 fo B n = B) : clo fo n B := by
  have mono : ∀ k a, sub2 (jc1 fo B a) (jc1 fo B (a + k)) := fun k => by
    induction k with
    | zero => intro a; exact sub2_refl _
    | succ k ih =>
      intro a
      refine sub2_trans (ih a) ?_
      show sub2 _ (jc1 fo B (a + k + 1))
      conv => rhs; unfold jc1
      split
      · exact sub2_or_l _ _
      · exact sub2_refl _
  have same : ∀ a, a ≤ n → jc1 fo B a = B := fun a ha => by
    refine sub2_anti ?_ (jc1_sup fo B a)
    have := mono (n - a) a
    rw [show a + (n - a) = n by omega, h] at this; exact this
  intro a ha hb
  have e := same (a + 1) (by omega)
  unfold jc1 at e
  rw [same a (by omega), if_pos hb] at e
  rw [← e]; exact sub2_or_r _ _
theorem jcR_it (fo : Nat → Nat) (n : Nat) : ∀ j, jcR fo n j = itF (fun B => jc1 fo B n) 1 j
  | 0 => rfl
  | j + 1 => by show jc1 fo (jcR fo n j) n = jc1 fo _ n; rw [jcR_it fo n j]
theorem luR_it (fo : Nat → Nat) (n B : Nat) : ∀ j, luR fo n B j = itF (fun B => jc1 fo B n) B j
  | 0 => rfl
  | j + 1 => by show jc1 fo (luR fo n B j) n = jc1 fo _ n; rw [luR_it fo n B j]
theorem jnR_it (ml : List Mt) : ∀ j, jnR ml j = itF (jnL ml) 1 j
  | 0 => rfl
  | j + 1 => by show jnL ml (jnR ml j) = jnL ml _; rw [jnR_it ml j]
/-- the reference's step -/
theorem jn1_sup (x : Mt) (B : Nat) : sub2 B (jn1 x B) := by
  unfold jn1; split
  · exact sub2_refl _
  · exact sub2_or_l _ _
theorem jnL_sup : ∀ (l : List Mt) (B : Nat), sub2 B (jnL l B)
  | [], B => sub2_refl B
  | x :: l, B => sub2_trans (jn1_sup x B) (jnL_sup l (jn1 x B))
def cloM (ml : List Mt) (C : Nat) : Prop := ∀ x ∈ ml, (C.testBit x.1 = true ↔ C.testBit x.2.1 = true)
theorem and_pair {B a b : Nat} : B &&& (2 ^ a ||| 2 ^ b) = 0 ↔ ¬ B.testBit a = true ∧ ¬ B.testBit b = true := by
  constructor
  · intro h
    have e : ∀ i, (B &&& (2 ^ a ||| 2 ^ b)).testBit i = false := fun i => by rw [h, Nat.zero_testBit]
    refine ⟨fun z => ?_, fun z => ?_⟩
    · have := e a; rw [Nat.testBit_and, Nat.testBit_or, z, Nat.testBit_two_pow_self] at this; simp at this
    · have := e b; rw [Nat.testBit_and, Nat.testBit_or, z, Nat.testBit_two_pow_self] at this; simp at this
  · intro ⟨h1, h2⟩
    apply Nat.eq_of_testBit_eq
    intro i
    rw [Nat.zero_testBit, Nat.testBit_and, Nat.testBit_or, Nat.testBit_two_pow, Nat.testBit_two_pow]
    by_cases ea : a = i
    · subst ea; rw [Bool.eq_false_iff.mpr h1]; rfl
    · by_cases eb : b = i
      · subst eb; rw [Bool.eq_false_iff.mpr h2]; rfl
      · simp [ea, eb]
theorem jn1_min {x : Mt} {C B : Nat} (hC : C.testBit x.1 = true ↔ C.testBit x.2.1 = true) (h : sub2 B C) : sub2 (jn1 x B) C := by
  unfold jn1; split
  · exact h
  · rename_i hn
    have : C.testBit x.1 = true ∧ C.testBit x.2.1 = true := by
      by_cases h1 : B.testBit x.1 = true
      · exact ⟨h _ h1, hC.mp (h _ h1)⟩
      · by_cases h2 : B.testBit x.2.1 = true
        · exact ⟨hC.mpr (h _ h2), h _ h2⟩
        · exact absurd (and_pair.mpr ⟨h1, h2⟩) hn
    exact sub2_or h (sub2_or (sub2_pow this.1) (sub2_pow this.2))
theorem jnL_min {C : Nat} : ∀ {l : List Mt} {B : Nat}, cloM l C → sub2 B C → sub2 (jnL l B) C
  | [], _, _, h => h
  | x :: l, B, hC, h => jnL_min (l := l) (fun y hy => hC y (List.mem_cons_of_mem _ hy)) (jn1_min (hC x List.mem_cons_self) h)
theorem jnL_fix : ∀ {l : List Mt} {B : Nat}, jnL l B = B → cloM l B
  | [], _, _ => fun x hx => by cases hx
  | x :: l, B, h => by
    have e1 : jn1 x B = B := by
      refine sub2_anti ?_ (jn1_sup x B)
      have := jnL_sup l (jn1 x B)
      rw [show jnL l (jn1 x B) = B from h] at this; exact this
    have h2 : jnL l B = B := by
      have h' : jnL l (jn1 x B) = B := h
      rw [e1] at h'; exact h'
    intro y hy
    rcases List.mem_cons.mp hy with rfl | hy
    · unfold jn1 at e1
      by_cases c : B &&& (2 ^ y.1 ||| 2 ^ y.2.1) = 0
      · have := and_pair.mp c
        exact ⟨fun z => absurd z this.1, fun z => absurd z this.2⟩
      · rw [if_neg c] at e1
        have h1 : B.testBit y.1 = true := by rw [← e1, Nat.testBit_or, Nat.testBit_or, Nat.testBit_two_pow_self]; simp
        have h3 : B.testBit y.2.1 = true := by rw [← e1, Nat.testBit_or, Nat.testBit_or, Nat.testBit_two_pow_self]; simp
        exact ⟨fun _ => h3, fun _ => h1⟩
    · exact jnL_fix h2 y hy
theorem jnL_b {n : Nat} : ∀ {l : List Mt} {B : Nat}, (∀ x ∈ l, okM n x) → B < 2 ^ n → jnL l B < 2 ^ n
  | [], _, _, hB => hB
  | x :: l, B, h, hB => jnL_b (l := l) (fun y hy => h y (List.mem_cons_of_mem _ hy)) (by
    unfold jn1; split
    · exact hB
    · have h1 := (h x List.mem_cons_self).1
      have h2 := (h x List.mem_cons_self).2.1
      exact Nat.or_lt_two_pow hB (Nat.or_lt_two_pow (Nat.pow_lt_pow_right (by decide) h1) (Nat.pow_lt_pow_right (by decide) h2)))
theorem lsN_pos {g : Mt → Nat} : ∀ {l : List Mt}, 0 < lsN g l ↔ ∃ x ∈ l, 0 < g x
  | [] => ⟨fun h => absurd h (by show ¬ 0 < 0; omega), fun ⟨x, hx, _⟩ => by cases hx⟩
  | x :: l => by
    unfold lsN
    constructor
    · intro h
      by_cases c : 0 < g x
      · exact ⟨x, List.mem_cons_self, c⟩
      · obtain ⟨y, hy, h2⟩ := lsN_pos.mp (show 0 < lsN g l by omega)
        exact ⟨y, List.mem_cons_of_mem _ hy, h2⟩
    · intro ⟨y, hy, h2⟩
      rcases List.mem_cons.mp hy with rfl | hy
      · omega
      · have := lsN_pos.mpr ⟨y, hy, h2⟩; omega
theorem tm_pos {ml : List Mt} {a b : Nat} : 0 < ov ml a b + dr ml a b + ov ml b a ↔ ∃ x ∈ ml, (x.1 = a ∧ x.2.1 = b) ∨ (x.1 = b ∧ x.2.1 = a) := by
  constructor
  · intro h
    rcases (show 0 < ov ml a b ∨ 0 < dr ml a b ∨ 0 < ov ml b a by omega) with q | q | q
    · obtain ⟨x, hx, h2⟩ := lsN_pos.mp q
      refine ⟨x, hx, ?_⟩; unfold ovX at h2; split at h2
      · omega
      · omega
    · obtain ⟨x, hx, h2⟩ := lsN_pos.mp q
      refine ⟨x, hx, ?_⟩; unfold drX at h2; split at h2
      · rename_i c; exact c.1
      · omega
    · obtain ⟨x, hx, h2⟩ := lsN_pos.mp q
      refine ⟨x, hx, ?_⟩; unfold ovX at h2; split at h2
      · omega
      · omega
  · intro ⟨x, hx, h⟩
    rcases Nat.lt_trichotomy x.2.2.1 x.2.2.2 with q | q | q
    · rcases h with h | h
      · have : 0 < ov ml b a := lsN_pos.mpr ⟨x, hx, by unfold ovX; rw [if_pos (Or.inr ⟨h.1, h.2, q⟩)]; omega⟩
        omega
      · have : 0 < ov ml a b := lsN_pos.mpr ⟨x, hx, by unfold ovX; rw [if_pos (Or.inr ⟨h.1, h.2, q⟩)]; omega⟩
        omega
    · have : 0 < dr ml a b := lsN_pos.mpr ⟨x, hx, by unfold drX; rw [if_pos ⟨h, q⟩]; omega⟩
      omega
    · rcases h with h | h
      · have : 0 < ov ml a b := lsN_pos.mpr ⟨x, hx, by unfold ovX; rw [if_pos (Or.inl ⟨h.1, h.2, q⟩)]; omega⟩
        omega
      · have : 0 < ov ml b a := lsN_pos.mpr ⟨x, hx, by unfold ovX; rw [if_pos (Or.inl ⟨h.1, h.2, q⟩)]; omega⟩
        omega
theorem foB_bit {ml : List Mt} {n a b : Nat} : (foB ml n a).testBit b = true ↔ b < n ∧ ∃ x ∈ ml, (x.1 = a ∧ x.2.1 = b) ∨ (x.1 = b ∧ x.2.1 = a) := by
  rw [bitsOf_bit, Bool.and_eq_true, decide_eq_true_eq, decide_eq_true_eq, tm_pos]
theorem clo_iff {ml : List Mt} {n C : Nat} (hok : ∀ x ∈ ml, okM n x) : clo (foB ml n) n C ↔ cloM ml C := by
  constructor
  · intro h x hx
    obtain ⟨h1, h2, -⟩ := hok x hx
    exact ⟨fun z => h x.1 h1 z x.2.1 (foB_bit.mpr ⟨h2, x, hx, Or.inl ⟨rfl, rfl⟩⟩), fun z => h x.2.1 h2 z x.1 (foB_bit.mpr ⟨h1, x, hx, Or.inr ⟨rfl, rfl⟩⟩)⟩
  · intro h a _ ha b hb
    obtain ⟨-, x, hx, q⟩ := foB_bit.mp hb
    rcases q with ⟨q1, q2⟩ | ⟨q1, q2⟩
    · rw [← q2]; exact (h x hx).mp (by rw [q1]; exact ha)
    · rw [← q1]; exact (h x hx).mpr (by rw [q2]; exact ha)
/-- both sides join the same -/
theorem join_eq {ml : List Mt} {n : Nat} (hn1 : 1 ≤ n) (hn : n ≤ 10) (hok : ∀ x ∈ ml, okM n x) : jcR (foB ml n) n n = jnR ml n := by
  have h1 : (1 : Nat) < 2 ^ n := Nat.lt_of_lt_of_le (by decide) (Nat.pow_le_pow_right (show 0 < 2 by decide) hn1)
  have hf : ∀ a, foB ml n a < 2 ^ n := fun a => bitsOf_lt _ n
  have f1 := it_fix (f := fun B => jc1 (foB ml n) B n) hn h1 (by decide) (fun S hS => jc1_b hf hS n) (fun S => jc1_sup _ S n)
  have f2 := it_fix (f := jnL ml) hn h1 (by decide) (fun S hS => jnL_b hok hS) (fun S => jnL_sup ml S)
  rw [jcR_it, jnR_it]
  have c1 := jc1_fix f1
  have c2 := jnL_fix f2
  refine sub2_anti ?_ ?_
  · exact it_min (fun S hS => jc1_min ((clo_iff hok).mpr c2) hS n (Nat.le_refl _)) (it_sup (jnL_sup ml) n) n
  · exact it_min (fun S hS => jnL_min ((clo_iff hok).mp c1) hS) (it_sup (fun S => jc1_sup _ S n) n) n
