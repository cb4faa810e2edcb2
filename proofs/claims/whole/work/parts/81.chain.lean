/-! the cofactors go with the steps -/
def cK (A : Nat → Nat → Int) : Nat → Nat → Nat → Int := fun k => match k with | 0 => fun _ _ => 0 | 1 => cK1 A | 2 => cK2 A | 3 => cK3 A | 4 => cK4 A | _ => cK5 A
def dK (A : Nat → Nat → Int) : Nat → Int := fun k => match k with | 0 => dK0 A | 1 => dK1 A | 2 => dK2 A | 3 => dK3 A | _ => dK4 A
theorem nx1 {A g : Nat → Nat → Int} {m : Nat} {d : Int} (hk : 1 < m) (h : EI A m 1 (cK1 A) d g) (hd : d = dK1 A) : (∀ i, i < 1 → ∀ s, s < 1 → d * cK2 A i s = g 1 1 * cK1 A i s + g i 1 * g s 1) ∧ (∀ i, i < 1 → cK2 A i 1 = 0 - g i 1) ∧ (∀ s, s < 1 → cK2 A 1 s = 0 - g s 1) ∧ cK2 A 1 1 = d ∧ g 1 1 = dK2 A := by
  have gx : ∀ i, i < 1 → g i 1 = cK1 A i 0 * A 0 1 := fun i hi => by rw [h.1 i hi 1]; show 0 + cK1 A i 0 * A 0 1 = _; rw [Int.zero_add]
  have gk : g 1 1 = d * A 1 1 - (g 0 1 * A 0 1) := by rw [h.2.1 1 (Nat.le_refl _) hk 1]; show _ - (0 + g 0 1 * A 0 1) = _; rw [Int.zero_add]
  have q00 : d * cK2 A 0 0 = g 1 1 * cK1 A 0 0 + g 0 1 * g 0 1 := by rw [gk, gx 0 (by decide), hd]; exact cq1_00 (A 0 0) (A 0 1) (A 1 1)
  refine ⟨fun i hi s hs => ?_, fun i hi => ?_, fun s hs => ?_, ?_, ?_⟩
  · rcases (show i = 0 by omega) with rfl <;> rcases (show s = 0 by omega) with rfl
    · exact q00
  · rcases (show i = 0 by omega) with rfl
    · rw [gx 0 (by decide)]; exact cx1_0 (A 0 0) (A 0 1) (A 1 1)
  · rcases (show s = 0 by omega) with rfl
    · rw [gx 0 (by decide)]; exact cx1_0 (A 0 0) (A 0 1) (A 1 1)
  · rw [hd]; rfl
  · rw [gk, gx 0 (by decide), hd]; exact (cd1 (A 0 0) (A 0 1) (A 1 1)).symm
theorem nx2 {A g : Nat → Nat → Int} {m : Nat} {d : Int} (hk : 2 < m) (h : EI A m 2 (cK2 A) d g) (hd : d = dK2 A) : (∀ i, i < 2 → ∀ s, s < 2 → d * cK3 A i s = g 2 2 * cK2 A i s + g i 2 * g s 2) ∧ (∀ i, i < 2 → cK3 A i 2 = 0 - g i 2) ∧ (∀ s, s < 2 → cK3 A 2 s = 0 - g s 2) ∧ cK3 A 2 2 = d ∧ g 2 2 = dK3 A := by
  have gx : ∀ i, i < 2 → g i 2 = cK2 A i 0 * A 0 2 + cK2 A i 1 * A 1 2 := fun i hi => by rw [h.1 i hi 2]; show 0 + cK2 A i 0 * A 0 2 + cK2 A i 1 * A 1 2 = _; rw [Int.zero_add]
  have gk : g 2 2 = d * A 2 2 - (g 0 2 * A 0 2 + g 1 2 * A 1 2) := by rw [h.2.1 2 (Nat.le_refl _) hk 2]; show _ - (0 + g 0 2 * A 0 2 + g 1 2 * A 1 2) = _; rw [Int.zero_add]
  have q00 : d * cK3 A 0 0 = g 2 2 * cK2 A 0 0 + g 0 2 * g 0 2 := by rw [gk, gx 0 (by decide), gx 1 (by decide), hd]; exact cq2_00 (A 0 0) (A 0 1) (A 0 2) (A 1 1) (A 1 2) (A 2 2)
  have q01 : d * cK3 A 0 1 = g 2 2 * cK2 A 0 1 + g 0 2 * g 1 2 := by rw [gk, gx 0 (by decide), gx 1 (by decide), hd]; exact cq2_01 (A 0 0) (A 0 1) (A 0 2) (A 1 1) (A 1 2) (A 2 2)
  have q11 : d * cK3 A 1 1 = g 2 2 * cK2 A 1 1 + g 1 2 * g 1 2 := by rw [gk, gx 0 (by decide), gx 1 (by decide), hd]; exact cq2_11 (A 0 0) (A 0 1) (A 0 2) (A 1 1) (A 1 2) (A 2 2)
  refine ⟨fun i hi s hs => ?_, fun i hi => ?_, fun s hs => ?_, ?_, ?_⟩
  · rcases (show i = 0 ∨ i = 1 by omega) with rfl | rfl <;> rcases (show s = 0 ∨ s = 1 by omega) with rfl | rfl
    · exact q00
    · exact q01
    · rw [Int.mul_comm (g 1 2)]; exact q01
    · exact q11
  · rcases (show i = 0 ∨ i = 1 by omega) with rfl | rfl
    · rw [gx 0 (by decide)]; exact cx2_0 (A 0 0) (A 0 1) (A 0 2) (A 1 1) (A 1 2) (A 2 2)
    · rw [gx 1 (by decide)]; exact cx2_1 (A 0 0) (A 0 1) (A 0 2) (A 1 1) (A 1 2) (A 2 2)
  · rcases (show s = 0 ∨ s = 1 by omega) with rfl | rfl
    · rw [gx 0 (by decide)]; exact cx2_0 (A 0 0) (A 0 1) (A 0 2) (A 1 1) (A 1 2) (A 2 2)
    · rw [gx 1 (by decide)]; exact cx2_1 (A 0 0) (A 0 1) (A 0 2) (A 1 1) (A 1 2) (A 2 2)
  · rw [hd]; rfl
  · rw [gk, gx 0 (by decide), gx 1 (by decide), hd]; exact (cd2 (A 0 0) (A 0 1) (A 0 2) (A 1 1) (A 1 2) (A 2 2)).symm
theorem nx3 {A g : Nat → Nat → Int} {m : Nat} {d : Int} (hk : 3 < m) (h : EI A m 3 (cK3 A) d g) (hd : d = dK3 A) : (∀ i, i < 3 → ∀ s, s < 3 → d * cK4 A i s = g 3 3 * cK3 A i s + g i 3 * g s 3) ∧ (∀ i, i < 3 → cK4 A i 3 = 0 - g i 3) ∧ (∀ s, s < 3 → cK4 A 3 s = 0 - g s 3) ∧ cK4 A 3 3 = d ∧ g 3 3 = dK4 A := by
  have gx : ∀ i, i < 3 → g i 3 = cK3 A i 0 * A 0 3 + cK3 A i 1 * A 1 3 + cK3 A i 2 * A 2 3 := fun i hi => by rw [h.1 i hi 3]; show 0 + cK3 A i 0 * A 0 3 + cK3 A i 1 * A 1 3 + cK3 A i 2 * A 2 3 = _; rw [Int.zero_add]
  have gk : g 3 3 = d * A 3 3 - (g 0 3 * A 0 3 + g 1 3 * A 1 3 + g 2 3 * A 2 3) := by rw [h.2.1 3 (Nat.le_refl _) hk 3]; show _ - (0 + g 0 3 * A 0 3 + g 1 3 * A 1 3 + g 2 3 * A 2 3) = _; rw [Int.zero_add]
  have q00 : d * cK4 A 0 0 = g 3 3 * cK3 A 0 0 + g 0 3 * g 0 3 := by rw [gk, gx 0 (by decide), gx 1 (by decide), gx 2 (by decide), hd]; exact cq3_00 (A 0 0) (A 0 1) (A 0 2) (A 0 3) (A 1 1) (A 1 2) (A 1 3) (A 2 2) (A 2 3) (A 3 3)
  have q01 : d * cK4 A 0 1 = g 3 3 * cK3 A 0 1 + g 0 3 * g 1 3 := by rw [gk, gx 0 (by decide), gx 1 (by decide), gx 2 (by decide), hd]; exact cq3_01 (A 0 0) (A 0 1) (A 0 2) (A 0 3) (A 1 1) (A 1 2) (A 1 3) (A 2 2) (A 2 3) (A 3 3)
  have q02 : d * cK4 A 0 2 = g 3 3 * cK3 A 0 2 + g 0 3 * g 2 3 := by rw [gk, gx 0 (by decide), gx 1 (by decide), gx 2 (by decide), hd]; exact cq3_02 (A 0 0) (A 0 1) (A 0 2) (A 0 3) (A 1 1) (A 1 2) (A 1 3) (A 2 2) (A 2 3) (A 3 3)
  have q11 : d * cK4 A 1 1 = g 3 3 * cK3 A 1 1 + g 1 3 * g 1 3 := by rw [gk, gx 0 (by decide), gx 1 (by decide), gx 2 (by decide), hd]; exact cq3_11 (A 0 0) (A 0 1) (A 0 2) (A 0 3) (A 1 1) (A 1 2) (A 1 3) (A 2 2) (A 2 3) (A 3 3)
  have q12 : d * cK4 A 1 2 = g 3 3 * cK3 A 1 2 + g 1 3 * g 2 3 := by rw [gk, gx 0 (by decide), gx 1 (by decide), gx 2 (by decide), hd]; exact cq3_12 (A 0 0) (A 0 1) (A 0 2) (A 0 3) (A 1 1) (A 1 2) (A 1 3) (A 2 2) (A 2 3) (A 3 3)
  have q22 : d * cK4 A 2 2 = g 3 3 * cK3 A 2 2 + g 2 3 * g 2 3 := by rw [gk, gx 0 (by decide), gx 1 (by decide), gx 2 (by decide), hd]; exact cq3_22 (A 0 0) (A 0 1) (A 0 2) (A 0 3) (A 1 1) (A 1 2) (A 1 3) (A 2 2) (A 2 3) (A 3 3)
  refine ⟨fun i hi s hs => ?_, fun i hi => ?_, fun s hs => ?_, ?_, ?_⟩
  · rcases (show i = 0 ∨ i = 1 ∨ i = 2 by omega) with rfl | rfl | rfl <;> rcases (show s = 0 ∨ s = 1 ∨ s = 2 by omega) with rfl | rfl | rfl
    · exact q00
    · exact q01
    · exact q02
    · rw [Int.mul_comm (g 1 3)]; exact q01
    · exact q11
    · exact q12
    · rw [Int.mul_comm (g 2 3)]; exact q02
    · rw [Int.mul_comm (g 2 3)]; exact q12
    · exact q22
  · rcases (show i = 0 ∨ i = 1 ∨ i = 2 by omega) with rfl | rfl | rfl
    · rw [gx 0 (by decide)]; exact cx3_0 (A 0 0) (A 0 1) (A 0 2) (A 0 3) (A 1 1) (A 1 2) (A 1 3) (A 2 2) (A 2 3) (A 3 3)
    · rw [gx 1 (by decide)]; exact cx3_1 (A 0 0) (A 0 1) (A 0 2) (A 0 3) (A 1 1) (A 1 2) (A 1 3) (A 2 2) (A 2 3) (A 3 3)
    · rw [gx 2 (by decide)]; exact cx3_2 (A 0 0) (A 0 1) (A 0 2) (A 0 3) (A 1 1) (A 1 2) (A 1 3) (A 2 2) (A 2 3) (A 3 3)
  · rcases (show s = 0 ∨ s = 1 ∨ s = 2 by omega) with rfl | rfl | rfl
    · rw [gx 0 (by decide)]; exact cx3_0 (A 0 0) (A 0 1) (A 0 2) (A 0 3) (A 1 1) (A 1 2) (A 1 3) (A 2 2) (A 2 3) (A 3 3)
    · rw [gx 1 (by decide)]; exact cx3_1 (A 0 0) (A 0 1) (A 0 2) (A 0 3) (A 1 1) (A 1 2) (A 1 3) (A 2 2) (A 2 3) (A 3 3)
    · rw [gx 2 (by decide)]; exact cx3_2 (A 0 0) (A 0 1) (A 0 2) (A 0 3) (A 1 1) (A 1 2) (A 1 3) (A 2 2) (A 2 3) (A 3 3)
  · rw [hd]; rfl
  · rw [gk, gx 0 (by decide), gx 1 (by decide), gx 2 (by decide), hd]; exact (cd3 (A 0 0) (A 0 1) (A 0 2) (A 0 3) (A 1 1) (A 1 2) (A 1 3) (A 2 2) (A 2 3) (A 3 3)).symm
theorem nx4 {A g : Nat → Nat → Int} {m : Nat} {d : Int} (hk : 4 < m) (h : EI A m 4 (cK4 A) d g) (hd : d = dK4 A) : (∀ i, i < 4 → ∀ s, s < 4 → d * cK5 A i s = g 4 4 * cK4 A i s + g i 4 * g s 4) ∧ (∀ i, i < 4 → cK5 A i 4 = 0 - g i 4) ∧ (∀ s, s < 4 → cK5 A 4 s = 0 - g s 4) ∧ cK5 A 4 4 = d := by
  have gx : ∀ i, i < 4 → g i 4 = cK4 A i 0 * A 0 4 + cK4 A i 1 * A 1 4 + cK4 A i 2 * A 2 4 + cK4 A i 3 * A 3 4 := fun i hi => by rw [h.1 i hi 4]; show 0 + cK4 A i 0 * A 0 4 + cK4 A i 1 * A 1 4 + cK4 A i 2 * A 2 4 + cK4 A i 3 * A 3 4 = _; rw [Int.zero_add]
  have gk : g 4 4 = d * A 4 4 - (g 0 4 * A 0 4 + g 1 4 * A 1 4 + g 2 4 * A 2 4 + g 3 4 * A 3 4) := by rw [h.2.1 4 (Nat.le_refl _) hk 4]; show _ - (0 + g 0 4 * A 0 4 + g 1 4 * A 1 4 + g 2 4 * A 2 4 + g 3 4 * A 3 4) = _; rw [Int.zero_add]
  have q00 : d * cK5 A 0 0 = g 4 4 * cK4 A 0 0 + g 0 4 * g 0 4 := by rw [gk, gx 0 (by decide), gx 1 (by decide), gx 2 (by decide), gx 3 (by decide), hd]; exact cq4_00 (A 0 0) (A 0 1) (A 0 2) (A 0 3) (A 0 4) (A 1 1) (A 1 2) (A 1 3) (A 1 4) (A 2 2) (A 2 3) (A 2 4) (A 3 3) (A 3 4) (A 4 4)
  have q01 : d * cK5 A 0 1 = g 4 4 * cK4 A 0 1 + g 0 4 * g 1 4 := by rw [gk, gx 0 (by decide), gx 1 (by decide), gx 2 (by decide), gx 3 (by decide), hd]; exact cq4_01 (A 0 0) (A 0 1) (A 0 2) (A 0 3) (A 0 4) (A 1 1) (A 1 2) (A 1 3) (A 1 4) (A 2 2) (A 2 3) (A 2 4) (A 3 3) (A 3 4) (A 4 4)
  have q02 : d * cK5 A 0 2 = g 4 4 * cK4 A 0 2 + g 0 4 * g 2 4 := by rw [gk, gx 0 (by decide), gx 1 (by decide), gx 2 (by decide), gx 3 (by decide), hd]; exact cq4_02 (A 0 0) (A 0 1) (A 0 2) (A 0 3) (A 0 4) (A 1 1) (A 1 2) (A 1 3) (A 1 4) (A 2 2) (A 2 3) (A 2 4) (A 3 3) (A 3 4) (A 4 4)
  have q03 : d * cK5 A 0 3 = g 4 4 * cK4 A 0 3 + g 0 4 * g 3 4 := by rw [gk, gx 0 (by decide), gx 1 (by decide), gx 2 (by decide), gx 3 (by decide), hd]; exact cq4_03 (A 0 0) (A 0 1) (A 0 2) (A 0 3) (A 0 4) (A 1 1) (A 1 2) (A 1 3) (A 1 4) (A 2 2) (A 2 3) (A 2 4) (A 3 3) (A 3 4) (A 4 4)
  have q11 : d * cK5 A 1 1 = g 4 4 * cK4 A 1 1 + g 1 4 * g 1 4 := by rw [gk, gx 0 (by decide), gx 1 (by decide), gx 2 (by decide), gx 3 (by decide), hd]; exact cq4_11 (A 0 0) (A 0 1) (A 0 2) (A 0 3) (A 0 4) (A 1 1) (A 1 2) (A 1 3) (A 1 4) (A 2 2) (A 2 3) (A 2 4) (A 3 3) (A 3 4) (A 4 4)
  have q12 : d * cK5 A 1 2 = g 4 4 * cK4 A 1 2 + g 1 4 * g 2 4 := by rw [gk, gx 0 (by decide), gx 1 (by decide), gx 2 (by decide), gx 3 (by decide), hd]; exact cq4_12 (A 0 0) (A 0 1) (A 0 2) (A 0 3) (A 0 4) (A 1 1) (A 1 2) (A 1 3) (A 1 4) (A 2 2) (A 2 3) (A 2 4) (A 3 3) (A 3 4) (A 4 4)
  have q13 : d * cK5 A 1 3 = g 4 4 * cK4 A 1 3 + g 1 4 * g 3 4 := by rw [gk, gx 0 (by decide), gx 1 (by decide), gx 2 (by decide), gx 3 (by decide), hd]; exact cq4_13 (A 0 0) (A 0 1) (A 0 2) (A 0 3) (A 0 4) (A 1 1) (A 1 2) (A 1 3) (A 1 4) (A 2 2) (A 2 3) (A 2 4) (A 3 3) (A 3 4) (A 4 4)
  have q22 : d * cK5 A 2 2 = g 4 4 * cK4 A 2 2 + g 2 4 * g 2 4 := by rw [gk, gx 0 (by decide), gx 1 (by decide), gx 2 (by decide), gx 3 (by decide), hd]; exact cq4_22 (A 0 0) (A 0 1) (A 0 2) (A 0 3) (A 0 4) (A 1 1) (A 1 2) (A 1 3) (A 1 4) (A 2 2) (A 2 3) (A 2 4) (A 3 3) (A 3 4) (A 4 4)
  have q23 : d * cK5 A 2 3 = g 4 4 * cK4 A 2 3 + g 2 4 * g 3 4 := by rw [gk, gx 0 (by decide), gx 1 (by decide), gx 2 (by decide), gx 3 (by decide), hd]; exact cq4_23 (A 0 0) (A 0 1) (A 0 2) (A 0 3) (A 0 4) (A 1 1) (A 1 2) (A 1 3) (A 1 4) (A 2 2) (A 2 3) (A 2 4) (A 3 3) (A 3 4) (A 4 4)
  have q33 : d * cK5 A 3 3 = g 4 4 * cK4 A 3 3 + g 3 4 * g 3 4 := by rw [gk, gx 0 (by decide), gx 1 (by decide), gx 2 (by decide), gx 3 (by decide), hd]; exact cq4_33 (A 0 0) (A 0 1) (A 0 2) (A 0 3) (A 0 4) (A 1 1) (A 1 2) (A 1 3) (A 1 4) (A 2 2) (A 2 3) (A 2 4) (A 3 3) (A 3 4) (A 4 4)
  refine ⟨fun i hi s hs => ?_, fun i hi => ?_, fun s hs => ?_, ?_⟩
  · rcases (show i = 0 ∨ i = 1 ∨ i = 2 ∨ i = 3 by omega) with rfl | rfl | rfl | rfl <;> rcases (show s = 0 ∨ s = 1 ∨ s = 2 ∨ s = 3 by omega) with rfl | rfl | rfl | rfl
    · exact q00
    · exact q01
    · exact q02
    · exact q03
    · rw [Int.mul_comm (g 1 4)]; exact q01
    · exact q11
    · exact q12
    · exact q13
    · rw [Int.mul_comm (g 2 4)]; exact q02
    · rw [Int.mul_comm (g 2 4)]; exact q12
    · exact q22
    · exact q23
    · rw [Int.mul_comm (g 3 4)]; exact q03
    · rw [Int.mul_comm (g 3 4)]; exact q13
    · rw [Int.mul_comm (g 3 4)]; exact q23
    · exact q33
  · rcases (show i = 0 ∨ i = 1 ∨ i = 2 ∨ i = 3 by omega) with rfl | rfl | rfl | rfl
    · rw [gx 0 (by decide)]; exact cx4_0 (A 0 0) (A 0 1) (A 0 2) (A 0 3) (A 0 4) (A 1 1) (A 1 2) (A 1 3) (A 1 4) (A 2 2) (A 2 3) (A 2 4) (A 3 3) (A 3 4) (A 4 4)
    · rw [gx 1 (by decide)]; exact cx4_1 (A 0 0) (A 0 1) (A 0 2) (A 0 3) (A 0 4) (A 1 1) (A 1 2) (A 1 3) (A 1 4) (A 2 2) (A 2 3) (A 2 4) (A 3 3) (A 3 4) (A 4 4)
    · rw [gx 2 (by decide)]; exact cx4_2 (A 0 0) (A 0 1) (A 0 2) (A 0 3) (A 0 4) (A 1 1) (A 1 2) (A 1 3) (A 1 4) (A 2 2) (A 2 3) (A 2 4) (A 3 3) (A 3 4) (A 4 4)
    · rw [gx 3 (by decide)]; exact cx4_3 (A 0 0) (A 0 1) (A 0 2) (A 0 3) (A 0 4) (A 1 1) (A 1 2) (A 1 3) (A 1 4) (A 2 2) (A 2 3) (A 2 4) (A 3 3) (A 3 4) (A 4 4)
  · rcases (show s = 0 ∨ s = 1 ∨ s = 2 ∨ s = 3 by omega) with rfl | rfl | rfl | rfl
    · rw [gx 0 (by decide)]; exact cx4_0 (A 0 0) (A 0 1) (A 0 2) (A 0 3) (A 0 4) (A 1 1) (A 1 2) (A 1 3) (A 1 4) (A 2 2) (A 2 3) (A 2 4) (A 3 3) (A 3 4) (A 4 4)
    · rw [gx 1 (by decide)]; exact cx4_1 (A 0 0) (A 0 1) (A 0 2) (A 0 3) (A 0 4) (A 1 1) (A 1 2) (A 1 3) (A 1 4) (A 2 2) (A 2 3) (A 2 4) (A 3 3) (A 3 4) (A 4 4)
    · rw [gx 2 (by decide)]; exact cx4_2 (A 0 0) (A 0 1) (A 0 2) (A 0 3) (A 0 4) (A 1 1) (A 1 2) (A 1 3) (A 1 4) (A 2 2) (A 2 3) (A 2 4) (A 3 3) (A 3 4) (A 4 4)
    · rw [gx 3 (by decide)]; exact cx4_3 (A 0 0) (A 0 1) (A 0 2) (A 0 3) (A 0 4) (A 1 1) (A 1 2) (A 1 3) (A 1 4) (A 2 2) (A 2 3) (A 2 4) (A 3 3) (A 3 4) (A 4 4)
  · rw [hd]; rfl
theorem nxA {A g : Nat → Nat → Int} {m k : Nat} {d : Int} (hm : m ≤ 5) (hk : k < m) (h : EI A m k (cK A k) d g) (hd : d = dK A k) : (∀ i, i < k → ∀ s, s < k → d * cK A (k + 1) i s = g k k * cK A k i s + g i k * g s k) ∧ (∀ i, i < k → cK A (k + 1) i k = 0 - g i k) ∧ (∀ s, s < k → cK A (k + 1) k s = 0 - g s k) ∧ cK A (k + 1) k k = d ∧ (k < 4 → g k k = dK A (k + 1)) := by
  rcases (show k = 0 ∨ k = 1 ∨ k = 2 ∨ k = 3 ∨ k = 4 by omega) with rfl | rfl | rfl | rfl | rfl
  · refine ⟨fun i hi => absurd hi (Nat.not_lt_zero i), fun i hi => absurd hi (Nat.not_lt_zero i), fun i hi => absurd hi (Nat.not_lt_zero i), by rw [hd]; rfl, fun _ => ?_⟩
    rw [h.2.1 0 (Nat.le_refl _) hk 0, hd]
    show (1 : Int) * A 0 0 - 0 = A 0 0
    omega
  · obtain ⟨h1, h2, h3, h4, h5⟩ := nx1 hk h hd; exact ⟨h1, h2, h3, h4, fun _ => h5⟩
  · obtain ⟨h1, h2, h3, h4, h5⟩ := nx2 hk h hd; exact ⟨h1, h2, h3, h4, fun _ => h5⟩
  · obtain ⟨h1, h2, h3, h4, h5⟩ := nx3 hk h hd; exact ⟨h1, h2, h3, h4, fun _ => h5⟩
  · obtain ⟨h1, h2, h3, h4⟩ := nx4 hk h hd; exact ⟨h1, h2, h3, h4, fun h => absurd h (by omega)⟩
/-- the rows over the integers, and the last pivot -/
def gZ (A : Nat → Nat → Int) : Nat → (Nat → Nat → Int) × Int
  | 0 => (A, 1)
  | k + 1 => (fun i j => if i = k then (gZ A k).1 k j else ((gZ A k).1 k k * (gZ A k).1 i j - (gZ A k).1 i k * (gZ A k).1 k j) / (gZ A k).2, (gZ A k).1 k k)
/-- rows whose elimination goes well -/
def OKA (A : Nat → Nat → Int) (m : Nat) : Prop := m ≤ 5 ∧ SyA A m ∧ PD A m ∧ (∀ i, i < m → ∀ j, j < m → i ≠ j → A i j ≤ 0) ∧ (∀ i, i < m → 0 ≤ sZ (A i) m)
theorem gZ_ok {A : Nat → Nat → Int} {m : Nat} (h : OKA A m) : ∀ k, k ≤ m → EI A m k (cK A k) (gZ A k).2 (gZ A k).1 ∧ SI A m k (gZ A k).2 (gZ A k).1 ∧ (k ≤ 4 → (gZ A k).2 = dK A k) ∧ (k < m → 0 < (gZ A k).1 k k ∧ ∀ i, i < m → i ≠ k → ∀ j, (gZ A k).2 * (gZ A (k + 1)).1 i j = (gZ A k).1 k k * (gZ A k).1 i j - (gZ A k).1 i k * (gZ A k).1 k j) := by
  obtain ⟨hm, hA, hP, ho, hs⟩ := h
  intro k
  have more : ∀ k, k < m → EI A m k (cK A k) (gZ A k).2 (gZ A k).1 → SI A m k (gZ A k).2 (gZ A k).1 → (gZ A k).2 = dK A k → 0 < (gZ A k).1 k k ∧ ∀ i, i < m → i ≠ k → ∀ j, (gZ A k).2 * (gZ A (k + 1)).1 i j = (gZ A k).1 k k * (gZ A k).1 i j - (gZ A k).1 i k * (gZ A k).1 k j := fun k hk h1 h2 h3 => by
    refine ⟨piv_pos hA hP hk h1 h2, fun i hi hik j => ?_⟩
    show (gZ A k).2 * (if i = k then _ else _) = _
    rw [if_neg hik]
    exact Int.mul_ediv_cancel' (EI_dvd hA h1 hk (nxA hm hk h1 h3).1 hi hik j)
  induction k with
  | zero =>
    intro _
    have e1 : EI A m 0 (cK A 0) 1 A := ⟨fun i hi => absurd hi (Nat.not_lt_zero i), fun i _ _ j => by show _ = 1 * A i j - 0; omega, fun i hi => absurd hi (Nat.not_lt_zero i)⟩
    have e2 := SI_0 ho hs
    exact ⟨e1, e2, fun _ => rfl, fun hk => more 0 hk e1 e2 rfl⟩
  | succ k ih =>
    intro hk
    obtain ⟨h1, h2, h3, h4⟩ := ih (by omega)
    obtain ⟨p1, p2⟩ := h4 (by omega)
    obtain ⟨n1, n2, n3, n4, n5⟩ := nxA hm (show k < m by omega) h1 (h3 (by omega))
    have hg1 : ∀ j, (gZ A (k + 1)).1 k j = (gZ A k).1 k j := fun j => if_pos rfl
    have e1 : EI A m (k + 1) (cK A (k + 1)) (gZ A (k + 1)).2 (gZ A (k + 1)).1 := EI_step hA h1 (by omega) (by have := h2.1; omega) n1 n2 n3 n4 hg1 p2
    have e2 : SI A m (k + 1) (gZ A (k + 1)).2 (gZ A (k + 1)).1 := SI_step hA (by omega) h1 h2 p1 hg1 p2
    have e3 : k + 1 ≤ 4 → (gZ A (k + 1)).2 = dK A (k + 1) := fun h => n5 (by omega)
    exact ⟨e1, e2, e3, fun hk2 => more (k + 1) hk2 e1 e2 (e3 (by omega))⟩
