theorem sZ_mono {a : Nat → Int} {m : Nat} (h0 : ∀ i, i < m → 0 ≤ a i) {k : Nat} (hk : k ≤ m) : sZ a k ≤ sZ a m := by
  have e : sZ (fun i => if i < k then a i else 0) m = sZ a k := by
    rw [sZ_cut hk (fun s h1 _ => if_neg (by omega))]
    exact sZ_congr (fun s hs => if_pos hs)
  rw [← e]
  exact sZ_le (fun i hi => by split; (exact Int.le_refl _); (exact h0 i hi))
theorem num_bd {a : Nat → Int} {m k : Nat} (hm : m ≤ 5) (hk : k < m) (h0 : ∀ i, i < m → 0 ≤ a i) (h1 : ∀ i, i < m → a i ≤ 120) (hs : sZ a m ≤ 240) : pZ a k * (pZ a (k + 1) * 120) < 2 ^ 63 ∧ (k + 1 < m → pZ a k * (pZ a (k + 1) * 23760) < 2 ^ 63) ∧ pZ a k * (23760 * eZ a (k + 1)) < 2 ^ 63 ∧ pZ a (k + 1) < 2 ^ 63 := by
  have hsum := sZ_mono h0 (show k + 1 ≤ m by omega)
  have q1 : pZ a 1 = a 0 := by show 1 * a 0 = a 0; omega
  have q2 : pZ a 2 = a 0 * a 1 := by show pZ a 1 * a 1 = _; rw [q1]
  have q3 : pZ a 3 = a 0 * a 1 * a 2 := by show pZ a 2 * a 2 = _; rw [q2]
  have q4 : pZ a 4 = a 0 * a 1 * a 2 * a 3 := by show pZ a 3 * a 3 = _; rw [q3]
  have q5 : pZ a 5 = a 0 * a 1 * a 2 * a 3 * a 4 := by show pZ a 4 * a 4 = _; rw [q4]
  have q0 : pZ a 0 = 1 := rfl
  have r1 : eZ a 1 = 1 := by show a 0 * 0 + 1 = 1; omega
  have r2 : eZ a 2 = a 1 + a 0 := by show a 1 * eZ a 1 + pZ a 1 = _; rw [r1, q1]; omega
  have r3 : eZ a 3 = a 2 * (a 1 + a 0) + a 0 * a 1 := by show a 2 * eZ a 2 + pZ a 2 = _; rw [r2, q2]
  have r4 : eZ a 4 = a 3 * (a 2 * (a 1 + a 0) + a 0 * a 1) + a 0 * a 1 * a 2 := by show a 3 * eZ a 3 + pZ a 3 = _; rw [r3, q3]
  have r5 : eZ a 5 = a 4 * (a 3 * (a 2 * (a 1 + a 0) + a 0 * a 1) + a 0 * a 1 * a 2) + a 0 * a 1 * a 2 * a 3 := by show a 4 * eZ a 4 + pZ a 4 = _; rw [r4, q4]
  have b0 := h0 0 (by omega)
  have c0 := h1 0 (by omega)
  by_cases k0 : k = 0
  · subst k0
    rw [q0, q1, r1]; omega
  · have b1 := h0 1 (by omega)
    have c1 := h1 1 (by omega)
    have p2 := mm_le b0 c0 b1 c1
    have n2 := Int.mul_nonneg b0 b1
    by_cases k1 : k = 1
    · subst k1
      rw [q1, q2, r2]
      have z1 := mm_le b0 c0 (show 0 ≤ a 0 * a 1 * 23760 by omega) (show a 0 * a 1 * 23760 ≤ 14400 * 23760 by omega)
      have z2 := mm_le b0 c0 (show 0 ≤ a 0 * a 1 * 120 by omega) (show a 0 * a 1 * 120 ≤ 14400 * 120 by omega)
      have z3 := mm_le b0 c0 (show 0 ≤ 23760 * (a 1 + a 0) by omega) (show 23760 * (a 1 + a 0) ≤ 23760 * 240 by omega)
      omega
    · have b2 := h0 2 (by omega)
      have c2 := h1 2 (by omega)
      have p3 := mm_le n2 (show a 0 * a 1 ≤ 14400 by omega) b2 c2
      have n3 := Int.mul_nonneg n2 b2
      have s3 := mm_le b2 c2 (show 0 ≤ a 1 + a 0 by omega) (show a 1 + a 0 ≤ 240 by omega)
      have t3 := Int.mul_nonneg b2 (show 0 ≤ a 1 + a 0 by omega)
      by_cases k2 : k = 2
      · subst k2
        rw [q2, q3, r3]
        have z1 := mm_le n2 (show a 0 * a 1 ≤ 14400 by omega) (show 0 ≤ a 0 * a 1 * a 2 * 23760 by omega) (show a 0 * a 1 * a 2 * 23760 ≤ 1728000 * 23760 by omega)
        have z2 := mm_le n2 (show a 0 * a 1 ≤ 14400 by omega) (show 0 ≤ a 0 * a 1 * a 2 * 120 by omega) (show a 0 * a 1 * a 2 * 120 ≤ 1728000 * 120 by omega)
        have z3 := mm_le n2 (show a 0 * a 1 ≤ 14400 by omega) (show 0 ≤ 23760 * (a 2 * (a 1 + a 0) + a 0 * a 1) by omega) (show 23760 * (a 2 * (a 1 + a 0) + a 0 * a 1) ≤ 23760 * 43200 by omega)
        omega
      · have b3 := h0 3 (by omega)
        have c3 := h1 3 (by omega)
        have n4 := Int.mul_nonneg n3 b3
        have t4 : a 0 + a 1 + (a 2 + a 3) ≤ 240 := by
          have := sZ_mono h0 (show 4 ≤ m by omega)
          have e : sZ a 4 = 0 + a 0 + a 1 + a 2 + a 3 := rfl
          omega
        have p4 := p4_le b0 b1 b2 b3 t4
        have s4 := mm_le b3 c3 (show 0 ≤ a 2 * (a 1 + a 0) + a 0 * a 1 by omega) (show a 2 * (a 1 + a 0) + a 0 * a 1 ≤ 43200 by omega)
        have t5 := Int.mul_nonneg b3 (show 0 ≤ a 2 * (a 1 + a 0) + a 0 * a 1 by omega)
        by_cases k3 : k = 3
        · subst k3
          rw [q3, q4, r4]
          have z1 := mm_le n3 (show a 0 * a 1 * a 2 ≤ 1728000 by omega) (show 0 ≤ a 0 * a 1 * a 2 * a 3 * 23760 by omega) (show a 0 * a 1 * a 2 * a 3 * 23760 ≤ 12960000 * 23760 by omega)
          have z2 := mm_le n3 (show a 0 * a 1 * a 2 ≤ 1728000 by omega) (show 0 ≤ a 0 * a 1 * a 2 * a 3 * 120 by omega) (show a 0 * a 1 * a 2 * a 3 * 120 ≤ 12960000 * 120 by omega)
          have z3 := mm_le n3 (show a 0 * a 1 * a 2 ≤ 1728000 by omega) (show 0 ≤ 23760 * (a 3 * (a 2 * (a 1 + a 0) + a 0 * a 1) + a 0 * a 1 * a 2) by omega) (show 23760 * (a 3 * (a 2 * (a 1 + a 0) + a 0 * a 1) + a 0 * a 1 * a 2) ≤ 23760 * 6912000 by omega)
          omega
        · obtain rfl : k = 4 := by omega
          have b4 := h0 4 (by omega)
          have c4 := h1 4 (by omega)
          have n5 := Int.mul_nonneg n4 b4
          have p5 := mm_le n4 p4 b4 c4
          have t6 : a 0 + a 1 + (a 2 + a 3) + a 4 ≤ 240 := by
            have e : sZ a 5 = 0 + a 0 + a 1 + a 2 + a 3 + a 4 := rfl
            have hsum : sZ a 5 ≤ sZ a m := hsum
            omega
          have pe := pe5_le b0 b1 b2 b3 b4 t6
          rw [q4, q5, r5]
          have z2 := mm_le n4 p4 (show 0 ≤ a 0 * a 1 * a 2 * a 3 * a 4 * 120 by omega) (show a 0 * a 1 * a 2 * a 3 * a 4 * 120 ≤ 1555200000 * 120 by omega)
          have e3 : a 0 * a 1 * a 2 * a 3 * (23760 * (a 4 * (a 3 * (a 2 * (a 1 + a 0) + a 0 * a 1) + a 0 * a 1 * a 2) + a 0 * a 1 * a 2 * a 3)) = 23760 * (a 0 * a 1 * a 2 * a 3 * (a 4 * (a 3 * (a 2 * (a 1 + a 0) + a 0 * a 1) + a 0 * a 1 * a 2) + a 0 * a 1 * a 2 * a 3)) := by rw [← Int.mul_assoc, Int.mul_comm _ 23760, Int.mul_assoc]
          rw [e3]
          refine ⟨by omega, fun h => absurd h (by omega), by omega, by omega⟩
section ALL
variable {A : Nat → Nat → Int} {m cb : Nat}
theorem step_bd (h : OKA A m) (hB : BdA A m cb) {k : Nat} (hk : k < m) : ∀ i, i < m → i ≠ k → ∀ j, (j < m ∨ j = cb) → -(2 ^ 63) < (gZ A k).2 * (gZ A (k + 1)).1 i j ∧ (gZ A k).2 * (gZ A (k + 1)).1 i j < 2 ^ 63 := by
  intro i hi hik j hj
  obtain ⟨n1, n2, n3, -⟩ := num_bd (a := fun i => A i i) h.1 hk (fun i hi => diag_nn h hi) hB.1 hB.2.1
  obtain ⟨h1, h2, -, h4⟩ := gZ_ok h k (by omega)
  obtain ⟨g1, g2, -, -⟩ := gZ_ok h (k + 1) (by omega)
  have hd := h2.1
  have hd' := g2.1
  have d1 := d_le h k (by omega)
  have d2 := d_le h (k + 1) (by omega)
  have pn := pZ_nn (a := fun i => A i i) (k := k + 1) (fun j hj => diag_nn h (by omega))
  have en := eZ_nn (a := fun i => A i i) (k := k + 1) (fun j hj => diag_nn h (by omega))
  have abs1 : (((gZ A k).2).natAbs : Int) = (gZ A k).2 := by omega
  have key : ((((gZ A k).2 * (gZ A (k + 1)).1 i j)).natAbs : Int) < 2 ^ 63 := by
    rcases hj with hj | hj
    · rw [nabs_mul, abs1]
      have a1 := row_abs g2 hi hj
      have a2 := g2.2.2.2.1 i hi
      have a3 := hB.1 i hi
      have a4 := Int.mul_le_mul_of_nonneg_left a3 (Int.le_of_lt hd')
      have a5 : (((gZ A (k + 1)).1 i j).natAbs : Int) ≤ pZ (fun i => A i i) (k + 1) * 120 := by omega
      have a6 := mm_le (Int.le_of_lt hd) d1 (show 0 ≤ (((gZ A (k + 1)).1 i j).natAbs : Int) by omega) a5
      omega
    · subst hj
      by_cases c : i < k
      · have a1 := (rhs_up h hB k (by omega)).2 hk i c
        have a2 := Int.mul_le_mul_of_nonneg_right d1 (show 0 ≤ 23760 * eZ (fun i => A i i) (k + 1) by omega)
        omega
      · rw [nabs_mul, abs1]
        have a1 := rhs_low h hB (show k + 1 ≤ m by omega) (show k + 1 ≤ i by omega) hi
        have a5 : (((gZ A (k + 1)).1 i j).natAbs : Int) ≤ pZ (fun i => A i i) (k + 1) * 23760 := by omega
        have a6 := mm_le (Int.le_of_lt hd) d1 (show 0 ≤ (((gZ A (k + 1)).1 i j).natAbs : Int) by omega) a5
        have a7 := n2 (by omega)
        omega
  omega
theorem gj_all (h : OKA A m) (hB : BdA A m cb) (hm : m ≤ cb) (hcb : cb ≤ 5) {c : Nat → Int64} (h0 : RZ c m cb A) : ∀ k, k ≤ m → RZ (gjR c m cb k).1 m cb (gZ A k).1 ∧ (gjR c m cb k).2 = Int64.ofInt (gZ A k).2 ∧ 0 < (gZ A k).2 ∧ (gZ A k).2 < 2 ^ 63
  | 0, _ => ⟨h0, rfl, by show (0 : Int) < 1; decide, by show (1 : Int) < 2 ^ 63; decide⟩
  | k + 1, hk => by
    obtain ⟨i1, i2, i3, i4⟩ := gj_all h hB hm hcb h0 k (by omega)
    obtain ⟨h1, h2, -, h4⟩ := gZ_ok h k (by omega)
    obtain ⟨p1, p2⟩ := h4 (by omega)
    obtain ⟨-, -, -, n4⟩ := num_bd (a := fun i => A i i) h.1 (show k < m by omega) (fun i hi => diag_nn h hi) hB.1 hB.2.1
    have d2 := d_le h (k + 1) hk
    have e : gjR c m cb (k + 1) = (gjP (gjR c m cb k).1 k cb (gjR c m cb k).2 m 0, (gjR c m cb k).1 (6 * k + k)) := rfl
    rw [e]
    refine ⟨?_, ?_, p1, by omega⟩
    · show RZ (gjP (gjR c m cb k).1 k cb (gjR c m cb k).2 m 0) m cb _
      rw [i2]
      exact gj_sim hm hcb (by omega) i1 i3 i4 p2 (step_bd h hB (by omega))
    · exact i1 k (by omega) k (Or.inl (by omega))
end ALL
