/-! the longs hold the integers -/
theorem lI_div {x d q : Int} (hd : 0 < d) (hd2 : d < 2 ^ 63) (h : d * q = x) (h1 : -(2 ^ 63) < x) (h2 : x < 2 ^ 63) : Int64.ofInt x / Int64.ofInt d = Int64.ofInt q := by
  apply Int64.toInt_inj.mp
  have hx : (Int64.ofInt x).toInt = x := Int64.toInt_ofInt_of_le (by omega) h2
  have hdd : (Int64.ofInt d).toInt = d := Int64.toInt_ofInt_of_le (by omega) hd2
  have hne : Int64.ofInt x ≠ Int64.minValue := fun w => by
    have : (Int64.ofInt x).toInt = Int64.minValue.toInt := by rw [w]
    rw [hx, show Int64.minValue.toInt = -(2 ^ 63) by decide] at this; omega
  have hq : -(2 ^ 63) < q ∧ q < 2 ^ 63 := by
    rcases int_lt_or q 0 with c | c
    · have := Int.mul_le_mul_of_nonpos_right (show 1 ≤ d by omega) (Int.le_of_lt c)
      omega
    · have := Int.mul_le_mul_of_nonneg_right (show 1 ≤ d by omega) c
      omega
  rw [Int64.toInt_div_of_ne_left _ _ hne, hx, hdd, ← h, Int.mul_tdiv_cancel_left q (by omega), Int64.toInt_ofInt_of_le (by omega) hq.2]
/-- rows of longs and rows of integers, the columns below m and the right side cb -/
def RZ (c : Nat → Int64) (m cb : Nat) (g : Nat → Nat → Int) : Prop := ∀ i, i < m → ∀ j, (j < m ∨ j = cb) → c (6 * i + j) = Int64.ofInt (g i j)
theorem gj_sim {A : Nat → Nat → Int} {m cb k : Nat} {c : Nat → Int64} (hm : m ≤ cb) (hcb : cb ≤ 5) (hk : k < m) (hR : RZ c m cb (gZ A k).1) (hd : 0 < (gZ A k).2) (hd2 : (gZ A k).2 < 2 ^ 63) (he : ∀ i, i < m → i ≠ k → ∀ j, (gZ A k).2 * (gZ A (k + 1)).1 i j = (gZ A k).1 k k * (gZ A k).1 i j - (gZ A k).1 i k * (gZ A k).1 k j) (hb : ∀ i, i < m → i ≠ k → ∀ j, (j < m ∨ j = cb) → -(2 ^ 63) < (gZ A k).2 * (gZ A (k + 1)).1 i j ∧ (gZ A k).2 * (gZ A (k + 1)).1 i j < 2 ^ 63) : RZ (gjP c k cb (Int64.ofInt (gZ A k).2) m 0) m cb (gZ A (k + 1)).1 := by
  intro i hi j hj
  have hj5 : j ≤ cb := by omega
  unfold gjP
  by_cases e : i = k
  · subst e
    rw [if_neg (by omega), hR i hi j hj]
    show _ = Int64.ofInt (if i = i then _ else _)
    rw [if_pos rfl]
  · rw [if_pos (by omega), show (6 * i + j) / 6 = i by omega, show (6 * i + j) % 6 = j by omega]
    unfold gjE
    rw [hR k hk k (Or.inl hk), hR i hi j hj, hR i hi k (Or.inl hk), hR k hk j hj, ← Int64.ofInt_mul, ← Int64.ofInt_mul, ← Int64.ofInt_sub]
    have := hb i hi e j hj
    rw [he i hi e j] at this
    exact lI_div hd hd2 (he i hi e j) this.1 this.2
/-- what the sizes rest on: no row above 120 in itself, 240 in all; the right sides 23760 in all -/
def BdA (A : Nat → Nat → Int) (m cb : Nat) : Prop := (∀ i, i < m → A i i ≤ 120) ∧ sZ (fun i => A i i) m ≤ 240 ∧ sZ (fun i => ((A i cb).natAbs : Int)) m ≤ 23760
def pZ (a : Nat → Int) : Nat → Int
  | 0 => 1
  | k + 1 => pZ a k * a k
def eZ (a : Nat → Int) : Nat → Int
  | 0 => 0
  | k + 1 => a k * eZ a k + pZ a k
theorem pZ_nn {a : Nat → Int} : ∀ {k : Nat}, (∀ i, i < k → 0 ≤ a i) → 0 ≤ pZ a k
  | 0, _ => (by decide : (0 : Int) ≤ 1)
  | k + 1, h => Int.mul_nonneg (pZ_nn (fun i hi => h i (by omega))) (h k (by omega))
theorem eZ_nn {a : Nat → Int} : ∀ {k : Nat}, (∀ i, i < k → 0 ≤ a i) → 0 ≤ eZ a k
  | 0, _ => Int.le_refl _
  | k + 1, h => by
    have h1 := Int.mul_nonneg (h k (by omega)) (eZ_nn (a := a) (k := k) (fun i hi => h i (by omega)))
    have h2 := pZ_nn (a := a) (k := k) (fun i hi => h i (by omega))
    show 0 ≤ a k * eZ a k + pZ a k
    omega
theorem sZ_two {f : Nat → Int} {i j m : Nat} (hi : i < m) (hj : j < m) (hij : i ≠ j) (h : ∀ l, l < m → l ≠ i → f l ≤ 0) : sZ f m ≤ f i + f j := by
  have e : sZ f m ≤ sZ (fun l => if l = i then f i else if l = j then f j else 0) m := sZ_le (fun l hl => by
    by_cases e1 : l = i
    · rw [if_pos e1, e1]; exact Int.le_refl _
    · rw [if_neg e1]
      by_cases e2 : l = j
      · rw [if_pos e2, e2]; exact Int.le_refl _
      · rw [if_neg e2]; exact h l hl e1)
  have e2 : sZ (fun l => if l = i then f i else if l = j then f j else 0) m = sZ (fun l => if l = j then f j else 0) m + f i := sZ_bump hi (fun l _ hl => by rw [if_neg hl]) (by rw [if_pos rfl, if_neg hij]; omega)
  have e3 : sZ (fun l => if l = j then f j else 0) m = sZ (fun _ => 0) m + f j := sZ_bump hj (fun l _ hl => by rw [if_neg hl]) (by rw [if_pos rfl]; omega)
  rw [sZ_zero (f := fun _ => 0) (fun _ _ => rfl)] at e3
  omega
section BND
variable {A : Nat → Nat → Int} {m cb : Nat}
/-- an entry is no larger than the one on the diagonal -/
theorem row_abs {g : Nat → Nat → Int} {k : Nat} {d : Int} (hS : SI A m k d g) {i j : Nat} (hi : i < m) (hj : j < m) : ((g i j).natAbs : Int) ≤ g i i := by
  obtain ⟨s1, s2, s3, s4, s5, s6⟩ := hS
  by_cases e : i = j
  · subst e
    have h1 : sZ (g i) m ≤ sZ (fun l => if l = i then g i i else 0) m := sZ_le (fun l hl => by
      by_cases e1 : l = i
      · rw [if_pos e1, e1]; exact Int.le_refl _
      · rw [if_neg e1]; exact s2 i hi l hl (fun w => e1 w.symm))
    have h2 : sZ (fun l => if l = i then g i i else 0) m = sZ (fun _ => 0) m + g i i := sZ_bump hi (fun l _ hl => by rw [if_neg hl]) (by rw [if_pos rfl]; omega)
    rw [sZ_zero (f := fun _ => 0) (fun _ _ => rfl)] at h2
    have := s3 i hi
    omega
  · have h1 := sZ_two (f := g i) hi hj e (fun l hl hne => s2 i hi l hl (fun w => hne w.symm))
    have h2 := s3 i hi
    have h3 := s2 i hi j hj e
    omega
theorem diag_nn (h : OKA A m) {i : Nat} (hi : i < m) : 0 ≤ A i i := by
  have := row_abs (SI_0 h.2.2.2.1 h.2.2.2.2) hi hi
  omega
theorem d_le (h : OKA A m) : ∀ k, k ≤ m → (gZ A k).2 ≤ pZ (fun i => A i i) k
  | 0, _ => Int.le_refl _
  | k + 1, hk => by
    obtain ⟨h1, h2, -, -⟩ := gZ_ok h k (by omega)
    have ih := d_le h k (by omega)
    show (gZ A k).1 k k ≤ pZ (fun i => A i i) k * A k k
    have a1 := h2.2.2.2.1 k (by omega)
    have a2 := Int.mul_le_mul_of_nonneg_right ih (diag_nn h (show k < m by omega))
    omega
theorem nabs_mul (x y : Int) : ((x * y).natAbs : Int) = (x.natAbs : Int) * (y.natAbs : Int) := by rw [Int.natAbs_mul, Int.natCast_mul]
theorem nabs_sub (x y : Int) : ((x - y).natAbs : Int) ≤ (x.natAbs : Int) + (y.natAbs : Int) := by omega
theorem nabs_sum (f : Nat → Int) : ∀ n, ((sZ f n).natAbs : Int) ≤ sZ (fun i => ((f i).natAbs : Int)) n
  | 0 => Int.le_refl _
  | n + 1 => by
    have := nabs_sum f n
    show ((sZ f n + f n).natAbs : Int) ≤ sZ (fun i => ((f i).natAbs : Int)) n + ((f n).natAbs : Int)
    omega
/-- right sides below the pivot -/
theorem rhs_low (h : OKA A m) (hB : BdA A m cb) {k i : Nat} (hk : k ≤ m) (hki : k ≤ i) (hi : i < m) : (((gZ A k).1 i cb).natAbs : Int) ≤ (gZ A k).2 * 23760 := by
  obtain ⟨h1, h2, -, -⟩ := gZ_ok h k hk
  have hd := h2.1
  rw [h1.2.1 i hki hi cb]
  have a1 := nabs_sub ((gZ A k).2 * A i cb) (sZ (fun s => (gZ A k).1 s i * A s cb) k)
  have a2 := nabs_sum (fun s => (gZ A k).1 s i * A s cb) k
  have a3 : sZ (fun s => (((gZ A k).1 s i * A s cb).natAbs : Int)) k ≤ sZ (fun s => (gZ A k).2 * ((A s cb).natAbs : Int)) k := sZ_le (fun s hs => by
    rw [nabs_mul]
    have b1 := row_abs h2 (show s < m by omega) hi
    rw [h2.2.2.2.2.1 s hs s (by omega), if_pos rfl] at b1
    exact Int.mul_le_mul_of_nonneg_right b1 (by omega))
  rw [sZ_mul] at a3
  rw [nabs_mul] at a1
  have a4 : (((gZ A k).2).natAbs : Int) = (gZ A k).2 := by omega
  rw [a4] at a1
  -- the i-th and those below k are parts of all
  have a5 : sZ (fun s => ((A s cb).natAbs : Int)) k + ((A i cb).natAbs : Int) ≤ sZ (fun s => ((A s cb).natAbs : Int)) m := by
    have c1 : sZ (fun s => if s < k then ((A s cb).natAbs : Int) else if s = i then ((A i cb).natAbs : Int) else 0) m ≤ sZ (fun s => ((A s cb).natAbs : Int)) m := sZ_le (fun s _ => by
      split
      · exact Int.le_refl _
      · split
        · rename_i e; rw [e]; exact Int.le_refl _
        · omega)
    have c2 : sZ (fun s => if s < k then ((A s cb).natAbs : Int) else if s = i then ((A i cb).natAbs : Int) else 0) m = sZ (fun s => if s < k then ((A s cb).natAbs : Int) else 0) m + ((A i cb).natAbs : Int) := sZ_bump hi (fun s _ hs => by
        by_cases e : s < k
        · rw [if_pos e, if_pos e]
        · rw [if_neg e, if_neg e, if_neg hs]) (by rw [if_neg (by omega), if_pos rfl, if_neg (by omega)]; omega)
    have c3 : sZ (fun s => if s < k then ((A s cb).natAbs : Int) else 0) m = sZ (fun s => ((A s cb).natAbs : Int)) k := by
      rw [sZ_cut hk (fun s h1 _ => if_neg (by omega))]
      exact sZ_congr (fun s hs => if_pos hs)
    omega
  have a6 := hB.2.2
  have a7 : (gZ A k).2 * (sZ (fun s => ((A s cb).natAbs : Int)) k + ((A i cb).natAbs : Int)) ≤ (gZ A k).2 * 23760 := Int.mul_le_mul_of_nonneg_left (by omega) (by omega)
  rw [Int.mul_add] at a7
  omega
theorem alg1 (x1 x2 x3 x4 : Int) : x1 * (23760 * (x4 * x2 + x3)) = (x1 * x4) * (23760 * x2) + x1 * (x3 * 23760) := by grind
/-- right sides above the pivot; and what the step to the next comes to -/
theorem rhs_up (h : OKA A m) (hB : BdA A m cb) : ∀ k, k ≤ m → (∀ i, i < k → (((gZ A k).1 i cb).natAbs : Int) ≤ 23760 * eZ (fun i => A i i) k) ∧ (k < m → ∀ i, i < k → ((((gZ A k).2 * (gZ A (k + 1)).1 i cb)).natAbs : Int) ≤ (gZ A k).2 * (23760 * eZ (fun i => A i i) (k + 1))) := by
  intro k
  have next : ∀ k, k < m → (∀ i, i < k → (((gZ A k).1 i cb).natAbs : Int) ≤ 23760 * eZ (fun i => A i i) k) → ∀ i, i < k → ((((gZ A k).2 * (gZ A (k + 1)).1 i cb)).natAbs : Int) ≤ (gZ A k).2 * (23760 * eZ (fun i => A i i) (k + 1)) := fun k hk ih i hi => by
    obtain ⟨h1, h2, -, h4⟩ := gZ_ok h k (by omega)
    obtain ⟨p1, p2⟩ := h4 hk
    have hd := h2.1
    rw [p2 i (by omega) (by omega) cb]
    have a1 := nabs_sub ((gZ A k).1 k k * (gZ A k).1 i cb) ((gZ A k).1 i k * (gZ A k).1 k cb)
    rw [nabs_mul, nabs_mul] at a1
    have b1 := row_abs h2 (show i < m by omega) hk
    rw [h2.2.2.2.2.1 i hi i (by omega), if_pos rfl] at b1
    have b2 := rhs_low h hB (show k ≤ m by omega) (Nat.le_refl k) hk
    have b3 := ih i hi
    have b4 := h2.2.2.2.1 k hk
    have b5 := d_le h k (by omega)
    have hE := eZ_nn (a := fun i => A i i) (k := k) (fun j hj => diag_nn h (by omega))
    have hAk := diag_nn h hk
    have e1 : (((gZ A k).1 k k).natAbs : Int) = (gZ A k).1 k k := by omega
    rw [e1] at a1
    -- p |x| ≤ d a (23760 E)
    have c1 : (gZ A k).1 k k * (((gZ A k).1 i cb).natAbs : Int) ≤ ((gZ A k).2 * A k k) * (23760 * eZ (fun i => A i i) k) := by
      have c2 := Int.mul_le_mul_of_nonneg_left b3 (Int.le_of_lt p1)
      have c3 := Int.mul_le_mul_of_nonneg_right b4 (show 0 ≤ 23760 * eZ (fun i => A i i) k by omega)
      omega
    have c4 : (((gZ A k).1 i k).natAbs : Int) * (((gZ A k).1 k cb).natAbs : Int) ≤ (gZ A k).2 * (pZ (fun i => A i i) k * 23760) := by
      have c5 := Int.mul_le_mul_of_nonneg_right b1 (show 0 ≤ (((gZ A k).1 k cb).natAbs : Int) by omega)
      have c6 : (((gZ A k).1 k cb).natAbs : Int) ≤ pZ (fun i => A i i) k * 23760 := by omega
      have c7 := Int.mul_le_mul_of_nonneg_left c6 (Int.le_of_lt hd)
      omega
    show _ ≤ (gZ A k).2 * (23760 * (A k k * eZ (fun i => A i i) k + pZ (fun i => A i i) k))
    have c8 : (gZ A k).2 * (23760 * (A k k * eZ (fun i => A i i) k + pZ (fun i => A i i) k)) = ((gZ A k).2 * A k k) * (23760 * eZ (fun i => A i i) k) + (gZ A k).2 * (pZ (fun i => A i i) k * 23760) := by
      exact alg1 _ _ _ _
    omega
  induction k with
  | zero => intro _; exact ⟨fun i hi => absurd hi (Nat.not_lt_zero i), fun _ i hi => absurd hi (Nat.not_lt_zero i)⟩
  | succ k ih =>
    intro hk
    obtain ⟨i1, i2⟩ := ih (by omega)
    obtain ⟨h1, h2, -, h4⟩ := gZ_ok h k (by omega)
    have hd := h2.1
    have first : ∀ i, i < k + 1 → (((gZ A (k + 1)).1 i cb).natAbs : Int) ≤ 23760 * eZ (fun i => A i i) (k + 1) := fun i hi => by
      by_cases e : i = k
      · subst e
        have e1 : (gZ A (i + 1)).1 i cb = (gZ A i).1 i cb := if_pos rfl
        rw [e1]
        have b2 := rhs_low h hB (show i ≤ m by omega) (Nat.le_refl i) (by omega)
        have b5 := d_le h i (by omega)
        have hE := eZ_nn (a := fun i => A i i) (k := i) (fun j hj => diag_nn h (by omega))
        have hAk := Int.mul_nonneg (diag_nn h (show i < m by omega)) hE
        show _ ≤ 23760 * (A i i * eZ (fun i => A i i) i + pZ (fun i => A i i) i)
        omega
      · have c1 := i2 (by omega) i (by omega)
        rw [nabs_mul] at c1
        have e1 : (((gZ A k).2).natAbs : Int) = (gZ A k).2 := by omega
        rw [e1] at c1
        exact Int.le_of_mul_le_mul_left c1 hd
    exact ⟨first, fun hk2 => next (k + 1) hk2 first⟩
end BND
