/-! elimination without fractions over the integers, of symmetric rows -/
theorem int_lt_or (x y : Int) : x < y ∨ y ≤ x := by omega
def sZ (f : Nat → Int) : Nat → Int
  | 0 => 0
  | n + 1 => sZ f n + f n
theorem sZ_congr {f g : Nat → Int} : ∀ {n : Nat}, (∀ i, i < n → f i = g i) → sZ f n = sZ g n
  | 0, _ => rfl
  | n + 1, h => by unfold sZ; rw [sZ_congr (fun i hi => h i (by omega)), h n (by omega)]
theorem sZ_add (f g : Nat → Int) : ∀ n, sZ (fun i => f i + g i) n = sZ f n + sZ g n
  | 0 => rfl
  | n + 1 => by unfold sZ; rw [sZ_add f g n]; omega
theorem sZ_sub (f g : Nat → Int) : ∀ n, sZ (fun i => f i - g i) n = sZ f n - sZ g n
  | 0 => rfl
  | n + 1 => by unfold sZ; rw [sZ_sub f g n]; omega
theorem sZ_mul (c : Int) (f : Nat → Int) : ∀ n, sZ (fun i => c * f i) n = c * sZ f n
  | 0 => (Int.mul_zero c).symm
  | n + 1 => by unfold sZ; rw [sZ_mul c f n, Int.mul_add]
theorem sZ_zero {f : Nat → Int} : ∀ {n : Nat}, (∀ i, i < n → f i = 0) → sZ f n = 0
  | 0, _ => rfl
  | n + 1, h => by unfold sZ; rw [sZ_zero (fun i hi => h i (by omega)), h n (by omega)]; rfl
theorem sZ_swap (f : Nat → Nat → Int) (n : Nat) : ∀ m, sZ (fun i => sZ (fun j => f i j) n) m = sZ (fun j => sZ (fun i => f i j) m) n
  | 0 => (sZ_zero (fun _ _ => rfl)).symm
  | m + 1 => by
    show sZ (fun i => sZ (fun j => f i j) n) m + sZ (fun j => f m j) n = sZ (fun j => sZ (fun i => f i j) m + f m j) n
    rw [sZ_swap f n m, sZ_add]
theorem sZ_cut {f : Nat → Int} {k : Nat} : ∀ {n : Nat}, k ≤ n → (∀ i, k ≤ i → i < n → f i = 0) → sZ f n = sZ f k
  | 0, hk, _ => by obtain rfl : k = 0 := by omega
                   rfl
  | n + 1, hk, h => by
    by_cases e : k = n + 1
    · rw [e]
    · unfold sZ
      rw [sZ_cut (n := n) (by omega) (fun i h1 h2 => h i h1 (by omega)), h n (by omega) (by omega)]
      cases k <;> simp [sZ]
theorem sZ_le {f g : Nat → Int} : ∀ {n : Nat}, (∀ i, i < n → f i ≤ g i) → sZ f n ≤ sZ g n
  | 0, _ => Int.le_refl _
  | n + 1, h => by unfold sZ; have := sZ_le (f := f) (g := g) (n := n) (fun i hi => h i (by omega)); have := h n (by omega); omega
theorem sZ_nn {f : Nat → Int} {n : Nat} (h : ∀ i, i < n → 0 ≤ f i) : 0 ≤ sZ f n := by
  have := sZ_le (f := fun _ => 0) (g := f) h
  rw [sZ_zero (fun _ _ => rfl)] at this; exact this
theorem sZ_mem {f : Nat → Int} {k : Nat} : ∀ {n : Nat}, (∀ i, i < n → 0 ≤ f i) → k < n → f k ≤ sZ f n
  | 0, _, hk => absurd hk (Nat.not_lt_zero k)
  | n + 1, h, hk => by
    unfold sZ
    by_cases e : k = n
    · subst e; have := sZ_nn (f := f) (n := k) (fun i hi => h i (by omega)); omega
    · have := sZ_mem (f := f) (k := k) (n := n) (fun i hi => h i (by omega)) (by omega); have := h n (by omega); omega
theorem sZ_bump {f g : Nat → Int} {k : Nat} {d : Int} : ∀ {n : Nat}, k < n → (∀ i, i < n → i ≠ k → g i = f i) → g k = f k + d → sZ g n = sZ f n + d
  | 0, hk, _, _ => absurd hk (Nat.not_lt_zero k)
  | n + 1, hk, h, hd => by
    unfold sZ
    by_cases e : k = n
    · subst e; rw [sZ_congr (fun i hi => h i (by omega) (by omega)), hd]; omega
    · rw [sZ_bump (n := n) (by omega) (fun i hi => h i (by omega)) hd, h n (by omega) (fun w => e w.symm)]; omega
/-- what holds behind k columns: C is the cofactors of the first k rows -/
def EI (A : Nat → Nat → Int) (m k : Nat) (C : Nat → Nat → Int) (d : Int) (g : Nat → Nat → Int) : Prop :=
  (∀ i, i < k → ∀ j, g i j = sZ (fun s => C i s * A s j) k) ∧
  (∀ i, k ≤ i → i < m → ∀ j, g i j = d * A i j - sZ (fun s => g s i * A s j) k) ∧
  (∀ i, i < k → ∀ s, s < k → C i s = C s i)
def SyA (A : Nat → Nat → Int) (m : Nat) : Prop := ∀ i, i < m → ∀ j, j < m → A i j = A j i
section ELIM
variable {A C C' g g' : Nat → Nat → Int} {m k : Nat} {d : Int}
theorem EI_sw (hA : SyA A m) (hk : k ≤ m) (h : EI A m k C d g) {r j : Nat} (hr : r < m) : sZ (fun i => A r i * g i j) k = sZ (fun s => g s r * A s j) k := by
  have e1 : sZ (fun i => A r i * g i j) k = sZ (fun i => sZ (fun s => A r i * (C i s * A s j)) k) k := sZ_congr (fun i hi => by rw [h.1 i hi j, sZ_mul])
  have e2 : sZ (fun s => g s r * A s j) k = sZ (fun s => sZ (fun i => A r i * (C i s * A s j)) k) k := sZ_congr (fun s hs => by
    rw [h.1 s hs r, Int.mul_comm, ← sZ_mul]
    refine sZ_congr (fun i hi => ?_)
    rw [h.2.2 s hs i hi, hA i (by omega) r hr]
    rw [Int.mul_comm (A s j), Int.mul_comm (C i s), Int.mul_assoc])
  rw [e1, e2, sZ_swap]
theorem EI_sym (hA : SyA A m) (hk : k ≤ m) (h : EI A m k C d g) {i l : Nat} (hi : k ≤ i) (him : i < m) (hl : k ≤ l) (hlm : l < m) : g i l = g l i := by
  rw [h.2.1 i hi him l, h.2.1 l hl hlm i, ← EI_sw hA hk h him, hA i him l hlm]
  congr 1
  refine sZ_congr (fun s hs => ?_)
  rw [hA i him s (by omega), Int.mul_comm]
/-- the quotients of the next step, above the pivot -/
theorem EI_up (h : EI A m k C d g) (hk : k < m) (hq : ∀ i, i < k → ∀ s, s < k → d * C' i s = g k k * C i s + g i k * g s k) {i : Nat} (hi : i < k) (j : Nat) : g k k * g i j - g i k * g k j = d * (sZ (fun s => C' i s * A s j) k - g i k * A k j) := by
  have e : d * sZ (fun s => C' i s * A s j) k = g k k * g i j + g i k * sZ (fun s => g s k * A s j) k := by
    rw [h.1 i hi j, ← sZ_mul, ← sZ_mul, ← sZ_mul, ← sZ_add]
    refine sZ_congr (fun s hs => ?_)
    rw [← Int.mul_assoc, hq i hi s hs, Int.add_mul, Int.mul_assoc, Int.mul_assoc]
  rw [h.2.1 k (Nat.le_refl _) hk j, Int.mul_sub, Int.mul_sub, e]
  have e2 : g i k * (d * A k j) = d * (g i k * A k j) := by rw [← Int.mul_assoc, Int.mul_comm (g i k) d, Int.mul_assoc]
  rw [e2]; omega
theorem EI_step (hA : SyA A m) (h : EI A m k C d g) (hk : k < m) (hd : d ≠ 0) (hq : ∀ i, i < k → ∀ s, s < k → d * C' i s = g k k * C i s + g i k * g s k) (hc1 : ∀ i, i < k → C' i k = 0 - g i k) (hc2 : ∀ s, s < k → C' k s = 0 - g s k) (hc3 : C' k k = d) (hg1 : ∀ j, g' k j = g k j) (hg2 : ∀ i, i < m → i ≠ k → ∀ j, d * g' i j = g k k * g i j - g i k * g k j) : EI A m (k + 1) C' (g k k) g' := by
  have up : ∀ i, i < k → ∀ j, g' i j = sZ (fun s => C' i s * A s j) k - g i k * A k j := fun i hi j => by
    have := hg2 i (by omega) (by omega) j
    rw [EI_up h hk hq hi j] at this
    exact Int.eq_of_mul_eq_mul_left hd this
  refine ⟨fun i hi j => ?_, fun i hi him j => ?_, fun i hi s hs => ?_⟩
  · show _ = sZ (fun s => C' i s * A s j) k + C' i k * A k j
    by_cases e : i = k
    · subst e
      rw [hg1, h.2.1 i (Nat.le_refl _) hk j, hc3, sZ_congr (f := fun s => C' i s * A s j) (g := fun s => (-1) * (g s i * A s j)) (fun s hs => by rw [hc2 s hs, Int.sub_mul, Int.zero_mul]; omega), sZ_mul]; omega
    · rw [up i (by omega) j, hc1 i (by omega), Int.sub_mul, Int.zero_mul]; omega
  · apply Int.eq_of_mul_eq_mul_left hd
    rw [hg2 i him (by omega) j]
    show _ = d * (g k k * A i j - (sZ (fun s => g' s i * A s j) k + g' k i * A k j))
    have e1 : d * sZ (fun s => g' s i * A s j) k = g k k * sZ (fun s => g s i * A s j) k - g k i * sZ (fun s => g s k * A s j) k := by
      rw [← sZ_mul, ← sZ_mul, ← sZ_mul, ← sZ_sub]
      refine sZ_congr (fun s hs => ?_)
      rw [← Int.mul_assoc, hg2 s (by omega) (by omega) i, Int.sub_mul, Int.mul_assoc, Int.mul_comm (g s k) (g k i), Int.mul_assoc]
    rw [hg1 i, Int.mul_sub, Int.mul_add, e1, h.2.1 i (by omega) him j, h.2.1 k (Nat.le_refl _) hk j, EI_sym hA (by omega) h (show k ≤ i by omega) him (Nat.le_refl _) hk]
    generalize sZ (fun s => g s i * A s j) k = X
    generalize sZ (fun s => g s k * A s j) k = Y
    generalize g k k = P
    generalize g k i = R
    generalize A i j = U
    generalize A k j = V
    rw [Int.mul_sub, Int.mul_sub]
    have a1 : P * (d * U) = d * (P * U) := by rw [← Int.mul_assoc, Int.mul_comm P d, Int.mul_assoc]
    have a2 : R * (d * V) = d * (R * V) := by rw [← Int.mul_assoc, Int.mul_comm R d, Int.mul_assoc]
    rw [a1, a2]; omega
  · by_cases e : i = k
    · subst e
      by_cases e2 : s = i
      · rw [e2]
      · rw [hc2 s (by omega), hc1 s (by omega)]
    · by_cases e2 : s = k
      · subst e2; rw [hc1 i (by omega), hc2 i (by omega)]
      · apply Int.eq_of_mul_eq_mul_left hd
        rw [hq i (by omega) s (by omega), hq s (by omega) i (by omega), h.2.2 i (by omega) s (by omega), Int.mul_comm (g i k)]
/-- all quotients are whole -/
theorem EI_dvd (hA : SyA A m) (h : EI A m k C d g) (hk : k < m) (hq : ∀ i, i < k → ∀ s, s < k → d * C' i s = g k k * C i s + g i k * g s k) {i : Nat} (him : i < m) (hik : i ≠ k) (j : Nat) : d ∣ g k k * g i j - g i k * g k j := by
  by_cases hi : i < k
  · exact ⟨_, EI_up h hk hq hi j⟩
  · have e1 : d * sZ (fun s => (sZ (fun t => C' s t * A t i) k - g s k * A k i) * A s j) k = g k k * sZ (fun s => g s i * A s j) k - g k i * sZ (fun s => g s k * A s j) k := by
      rw [← sZ_mul, ← sZ_mul, ← sZ_mul, ← sZ_sub]
      refine sZ_congr (fun s hs => ?_)
      rw [← Int.mul_assoc, ← EI_up h hk hq hs i, Int.sub_mul, Int.mul_assoc, Int.mul_comm (g s k) (g k i), Int.mul_assoc]
    refine ⟨g k k * A i j - sZ (fun s => (sZ (fun t => C' s t * A t i) k - g s k * A k i) * A s j) k - g k i * A k j, ?_⟩
    rw [Int.mul_sub, Int.mul_sub, e1, h.2.1 i (by omega) him j, h.2.1 k (Nat.le_refl _) hk j, EI_sym hA (by omega) h (show k ≤ i by omega) him (Nat.le_refl _) hk]
    generalize sZ (fun s => g s i * A s j) k = X
    generalize sZ (fun s => g s k * A s j) k = Y
    generalize g k k = P
    generalize g k i = R
    generalize A i j = U
    generalize A k j = V
    rw [Int.mul_sub, Int.mul_sub]
    have a1 : P * (d * U) = d * (P * U) := by rw [← Int.mul_assoc, Int.mul_comm P d, Int.mul_assoc]
    have a2 : R * (d * V) = d * (R * V) := by rw [← Int.mul_assoc, Int.mul_comm R d, Int.mul_assoc]
    rw [a1, a2]; omega
/-- signs, sums and sizes -/
def SI (A : Nat → Nat → Int) (m k : Nat) (d : Int) (g : Nat → Nat → Int) : Prop :=
  0 < d ∧ (∀ i, i < m → ∀ j, j < m → i ≠ j → g i j ≤ 0) ∧ (∀ i, i < m → 0 ≤ sZ (g i) m) ∧ (∀ i, i < m → g i i ≤ d * A i i) ∧ (∀ j, j < k → ∀ i, i < m → g i j = if i = j then d else 0) ∧ (∀ r, r < k → ∀ j, sZ (fun i => A r i * g i j) k = d * A r j)
/-- what is above 0 for each row but none -/
def PD (A : Nat → Nat → Int) (m : Nat) : Prop := ∀ c : Nat → Int, (∃ i, i < m ∧ c i ≠ 0) → 0 < sZ (fun r => c r * sZ (fun i => A r i * c i) m) m
theorem piv_pos (hA : SyA A m) (hP : PD A m) (hk : k < m) (h : EI A m k C d g) (hS : SI A m k d g) : 0 < g k k := by
  obtain ⟨s1, s2, s3, s4, s5, s6⟩ := hS
  have hQ := hP (fun i => if i < k then 0 - g i k else if i = k then d else 0) ⟨k, hk, by rw [if_neg (Nat.lt_irrefl _), if_pos rfl]; omega⟩
  have row : ∀ r, r < m → r ≤ k → sZ (fun i => A r i * (if i < k then 0 - g i k else if i = k then d else 0)) m = if r = k then g k k else 0 := fun r hr hrk => by
    rw [sZ_cut (k := k + 1) (by omega) (fun i h1 h2 => by rw [if_neg (by omega), if_neg (by omega), Int.mul_zero])]
    show sZ _ k + A r k * (if k < k then 0 - g k k else if k = k then d else 0) = _
    rw [if_neg (Nat.lt_irrefl _), if_pos rfl, sZ_congr (g := fun i => (-1) * (A r i * g i k)) (fun i hi => by rw [if_pos hi, Int.mul_sub, Int.mul_zero]; omega), sZ_mul]
    by_cases e : r = k
    · subst e
      rw [if_pos rfl, EI_sw hA (by omega) h hr, h.2.1 r (Nat.le_refl _) hk r, Int.mul_comm (A r r)]; omega
    · rw [if_neg e, s6 r (by omega) k, Int.mul_comm (A r k)]; omega
  rw [sZ_cut (k := k + 1) (by omega) (fun i h1 h2 => by rw [if_neg (by omega), if_neg (by omega), Int.zero_mul])] at hQ
  have hQ : 0 < sZ _ k + (if k < k then 0 - g k k else if k = k then d else 0) * sZ (fun i => A k i * (if i < k then 0 - g i k else if i = k then d else 0)) m := hQ
  rw [row k hk (Nat.le_refl _), if_pos rfl, if_neg (Nat.lt_irrefl _), if_pos rfl, sZ_zero (fun i hi => by rw [row i (by omega) (by omega), if_neg (c := i = k) (t := g k k) (show ¬ i = k by omega), Int.mul_zero])] at hQ
  rw [Int.zero_add] at hQ
  rcases int_lt_or 0 (g k k) with q | q
  · exact q
  · have := Int.mul_nonpos_of_nonneg_of_nonpos (show 0 ≤ d by omega) q
    omega
theorem SI_0 (hoff : ∀ i, i < m → ∀ j, j < m → i ≠ j → A i j ≤ 0) (hsum : ∀ i, i < m → 0 ≤ sZ (A i) m) : SI A m 0 1 A :=
  ⟨by decide, hoff, hsum, fun i _ => by rw [Int.one_mul]; exact Int.le_refl _, fun j hj => absurd hj (Nat.not_lt_zero j), fun r hr => absurd hr (Nat.not_lt_zero r)⟩
theorem dvd_le {d x y : Int} (hd : 0 < d) (h : d * x = y) (hy : y ≤ 0) : x ≤ 0 := by
  rcases int_lt_or 0 x with q | q
  · have := Int.mul_pos hd q; omega
  · exact q
theorem dvd_ge {d x y : Int} (hd : 0 < d) (h : d * x = y) (hy : 0 ≤ y) : 0 ≤ x := by
  rcases int_lt_or x 0 with q | q
  · have := Int.mul_neg_of_pos_of_neg hd q; omega
  · exact q
theorem nn_mul {x y : Int} (h1 : x ≤ 0) (h2 : y ≤ 0) : 0 ≤ x * y := Int.mul_nonneg_of_nonpos_of_nonpos h1 h2
theorem np_mul {x y : Int} (h1 : 0 ≤ x) (h2 : y ≤ 0) : x * y ≤ 0 := Int.mul_nonpos_of_nonneg_of_nonpos h1 h2
theorem SI_step (hA : SyA A m) (hk : k < m) (h : EI A m k C d g) (hS : SI A m k d g) (hp : 0 < g k k) (hg1 : ∀ j, g' k j = g k j) (hg2 : ∀ i, i < m → i ≠ k → ∀ j, d * g' i j = g k k * g i j - g i k * g k j) : SI A m (k + 1) (g k k) g' := by
  obtain ⟨s1, s2, s3, s4, s5, s6⟩ := hS
  refine ⟨hp, fun i hi j hj hij => ?_, fun i hi => ?_, fun i hi => ?_, fun j hj i hi => ?_, fun r hr j => ?_⟩
  · by_cases e : i = k
    · subst e; rw [hg1]; exact s2 i hi j hj hij
    · refine dvd_le s1 (hg2 i hi e j) ?_
      by_cases ej : j = k
      · subst ej; rw [Int.mul_comm]; omega
      · have a1 := np_mul (Int.le_of_lt hp) (s2 i hi j hj hij)
        have a2 := nn_mul (s2 i hi k hk e) (s2 k hk j hj (fun w => ej w.symm))
        omega
  · by_cases e : i = k
    · subst e; rw [sZ_congr (fun j _ => hg1 j)]; exact s3 i hi
    · have e1 : d * sZ (g' i) m = g k k * sZ (g i) m - g i k * sZ (g k) m := by
        rw [← sZ_mul, ← sZ_mul, ← sZ_mul, ← sZ_sub]
        exact sZ_congr (fun j _ => hg2 i hi e j)
      refine dvd_ge s1 e1 ?_
      have a1 := Int.mul_nonneg (Int.le_of_lt hp) (s3 i hi)
      have a2 := np_mul (s3 k hk) (s2 i hi k hk e)
      rw [Int.mul_comm (g i k)]; omega
  · by_cases e : i = k
    · subst e
      rw [hg1]
      have a1 := s4 i hi
      have : 0 < A i i := by
        rcases int_lt_or 0 (A i i) with q | q
        · exact q
        · have := np_mul (Int.le_of_lt s1) q; omega
      have a3 := Int.mul_le_mul_of_nonneg_left (show 1 ≤ A i i by omega) (Int.le_of_lt hp)
      rw [Int.mul_one] at a3; exact a3
    · have a1 := Int.mul_le_mul_of_nonneg_left (s4 i hi) (Int.le_of_lt hp)
      have a2 := nn_mul (s2 i hi k hk e) (s2 k hk i hi (fun w => e w.symm))
      have a3 := hg2 i hi e i
      have a4 : g k k * (d * A i i) = d * (g k k * A i i) := by rw [← Int.mul_assoc, Int.mul_comm (g k k) d, Int.mul_assoc]
      have a5 : d * g' i i ≤ d * (g k k * A i i) := by omega
      exact Int.le_of_mul_le_mul_left a5 s1
  · by_cases e : i = k
    · subst e
      rw [hg1]
      by_cases ej : j = i
      · subst ej; rw [if_pos rfl]
      · rw [if_neg (fun w => ej w.symm), s5 j (by omega) i hi, if_neg (fun w => ej w.symm)]
    · apply Int.eq_of_mul_eq_mul_left (show d ≠ 0 by omega)
      rw [hg2 i hi e j]
      by_cases ej : j = k
      · subst ej; rw [if_neg e, Int.mul_zero, Int.mul_comm]; omega
      · rw [s5 j (by omega) i hi, s5 j (by omega) k hk, if_neg (show ¬ k = j from fun w => ej w.symm), Int.mul_zero]
        by_cases eij : i = j
        · rw [if_pos eij, if_pos eij, Int.mul_comm]; omega
        · rw [if_neg eij, if_neg eij, Int.mul_zero, Int.mul_zero]; omega
  · show sZ (fun i => A r i * g' i j) k + A r k * g' k j = g k k * A r j
    apply Int.eq_of_mul_eq_mul_left (show d ≠ 0 by omega)
    have e1 : d * sZ (fun i => A r i * g' i j) k = g k k * sZ (fun i => A r i * g i j) k - g k j * sZ (fun i => A r i * g i k) k := by
      rw [← sZ_mul, ← sZ_mul, ← sZ_mul, ← sZ_sub]
      refine sZ_congr (fun i hi => ?_)
      have := hg2 i (by omega) (by omega) j
      rw [← Int.mul_assoc, Int.mul_comm d, Int.mul_assoc, this, Int.mul_sub]
      rw [← Int.mul_assoc, Int.mul_comm (A r i) (g k k), Int.mul_assoc, ← Int.mul_assoc (A r i), Int.mul_comm (A r i * g i k)]
    rw [Int.mul_add, e1, hg1]
    by_cases e : r = k
    · subst e
      have b1 : sZ (fun i => A r i * g i j) r = d * A r j - g r j := by rw [EI_sw hA (by omega) h hk, h.2.1 r (Nat.le_refl _) hk j]; omega
      have b2 : sZ (fun i => A r i * g i r) r = d * A r r - g r r := by rw [EI_sw hA (by omega) h hk, h.2.1 r (Nat.le_refl _) hk r]; omega
      rw [b1, b2, Int.mul_sub, Int.mul_sub]
      have c1 : g r r * (d * A r j) = d * (g r r * A r j) := by rw [← Int.mul_assoc, Int.mul_comm (g r r) d, Int.mul_assoc]
      have c2 : g r j * (d * A r r) = d * (A r r * g r j) := by rw [← Int.mul_assoc, Int.mul_comm (g r j) d, Int.mul_assoc, Int.mul_comm (g r j)]
      have c3 : g r j * g r r = g r r * g r j := Int.mul_comm _ _
      rw [c1, c2, c3]; omega
    · rw [s6 r (by omega) j, s6 r (by omega) k]
      have c1 : g k k * (d * A r j) = d * (g k k * A r j) := by rw [← Int.mul_assoc, Int.mul_comm (g k k) d, Int.mul_assoc]
      have c2 : g k j * (d * A r k) = d * (A r k * g k j) := by rw [← Int.mul_assoc, Int.mul_comm (g k j) d, Int.mul_assoc, Int.mul_comm (g k j)]
      rw [c1, c2]; omega
end ELIM
