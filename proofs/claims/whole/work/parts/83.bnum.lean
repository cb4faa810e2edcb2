/-! sizes: all numbers on the way are longs -/
theorem mm_le {x y X Y : Int} (h1 : 0 ≤ x) (h2 : x ≤ X) (h3 : 0 ≤ y) (h4 : y ≤ Y) : x * y ≤ X * Y := by
  have a1 := Int.mul_le_mul_of_nonneg_right h2 h3
  have a2 := Int.mul_le_mul_of_nonneg_left h4 (show 0 ≤ X by omega)
  omega
theorem amgm (x y : Int) : 4 * (x * y) ≤ (x + y) * (x + y) := by
  have h : 0 ≤ (x - y) * (x - y) := by
    rcases Int.le_total 0 (x - y) with q | q
    · exact Int.mul_nonneg q q
    · exact nn_mul q q
  have e : (x + y) * (x + y) = 4 * (x * y) + (x - y) * (x - y) := by grind
  omega
section NUM
variable {a0 a1 a2 a3 a4 : Int}
theorem p4_S (h0 : 0 ≤ a0) (h1 : 0 ≤ a1) (h2 : 0 ≤ a2) (h3 : 0 ≤ a3) : 256 * (a0 * a1 * a2 * a3) ≤ ((a0 + a1 + (a2 + a3)) * (a0 + a1 + (a2 + a3))) * ((a0 + a1 + (a2 + a3)) * (a0 + a1 + (a2 + a3))) := by
  have b1 := amgm a0 a1
  have b2 := amgm a2 a3
  have b3 := amgm (a0 + a1) (a2 + a3)
  have c1 := mm_le (show 0 ≤ 4 * (a0 * a1) by have := Int.mul_nonneg h0 h1; omega) b1 (show 0 ≤ 4 * (a2 * a3) by have := Int.mul_nonneg h2 h3; omega) b2
  have c2 := mm_le (show 0 ≤ 4 * ((a0 + a1) * (a2 + a3)) by have := Int.mul_nonneg (show 0 ≤ a0 + a1 by omega) (show 0 ≤ a2 + a3 by omega); omega) b3 (show 0 ≤ 4 * ((a0 + a1) * (a2 + a3)) by have := Int.mul_nonneg (show 0 ≤ a0 + a1 by omega) (show 0 ≤ a2 + a3 by omega); omega) b3
  have e1 : 4 * (a0 * a1) * (4 * (a2 * a3)) = 16 * (a0 * a1 * a2 * a3) := by grind
  have e2 : (a0 + a1) * (a0 + a1) * ((a2 + a3) * (a2 + a3)) = ((a0 + a1) * (a2 + a3)) * ((a0 + a1) * (a2 + a3)) := by grind
  have e3 : 4 * ((a0 + a1) * (a2 + a3)) * (4 * ((a0 + a1) * (a2 + a3))) = 16 * (((a0 + a1) * (a2 + a3)) * ((a0 + a1) * (a2 + a3))) := by grind
  omega
theorem e4_S (h0 : 0 ≤ a0) (h1 : 0 ≤ a1) (h2 : 0 ≤ a2) (h3 : 0 ≤ a3) : 16 * (a3 * (a2 * (a1 + a0) + a0 * a1) + a0 * a1 * a2) ≤ ((a0 + a1 + (a2 + a3)) * (a0 + a1 + (a2 + a3))) * (a0 + a1 + (a2 + a3)) := by
  have b1 := Int.mul_le_mul_of_nonneg_right (amgm a0 a1) (show 0 ≤ a2 + a3 by omega)
  have b2 := Int.mul_le_mul_of_nonneg_right (amgm a2 a3) (show 0 ≤ a0 + a1 by omega)
  have b3 := Int.mul_le_mul_of_nonneg_right (amgm (a0 + a1) (a2 + a3)) (show 0 ≤ a0 + a1 + (a2 + a3) by omega)
  have e1 : 4 * (4 * (a0 * a1) * (a2 + a3) + 4 * (a2 * a3) * (a0 + a1)) = 16 * (a3 * (a2 * (a1 + a0) + a0 * a1) + a0 * a1 * a2) := by grind
  have e2 : 4 * ((a0 + a1) * (a2 + a3)) * (a0 + a1 + (a2 + a3)) = 4 * ((a0 + a1) * (a0 + a1) * (a2 + a3) + (a2 + a3) * (a2 + a3) * (a0 + a1)) := by grind
  omega
end NUM
set_option maxRecDepth 100000 in
theorem fin_y : ∀ y, y < 241 → (240 - y) ^ 7 * (240 + 15 * y) ≤ 13582426567102955520 := by decide +kernel
/-- S^7 (S + 16 y), with S + y no more than 240 -/
theorem s7_le {S y : Nat} (h : S + y ≤ 240) : S ^ 7 * (S + 16 * y) ≤ 13582426567102955520 := by
  have h1 : S ^ 7 ≤ (240 - y) ^ 7 := Nat.pow_le_pow_left (by omega) 7
  have h2 := Nat.mul_le_mul h1 (show S + 16 * y ≤ 240 + 15 * y by omega)
  exact Nat.le_trans h2 (fin_y y (by omega))
theorem p4_le {a0 a1 a2 a3 : Int} (h0 : 0 ≤ a0) (h1 : 0 ≤ a1) (h2 : 0 ≤ a2) (h3 : 0 ≤ a3) (hs : a0 + a1 + (a2 + a3) ≤ 240) : a0 * a1 * a2 * a3 ≤ 12960000 := by
  have b1 := p4_S h0 h1 h2 h3
  have b2 := mm_le (show 0 ≤ a0 + a1 + (a2 + a3) by omega) hs (show 0 ≤ a0 + a1 + (a2 + a3) by omega) hs
  have b3 := mm_le (Int.mul_nonneg (show 0 ≤ a0 + a1 + (a2 + a3) by omega) (show 0 ≤ a0 + a1 + (a2 + a3) by omega)) b2 (Int.mul_nonneg (show 0 ≤ a0 + a1 + (a2 + a3) by omega) (show 0 ≤ a0 + a1 + (a2 + a3) by omega)) b2
  omega
theorem pe5_le {a0 a1 a2 a3 a4 : Int} (h0 : 0 ≤ a0) (h1 : 0 ≤ a1) (h2 : 0 ≤ a2) (h3 : 0 ≤ a3) (h4 : 0 ≤ a4) (hs : a0 + a1 + (a2 + a3) + a4 ≤ 240) : 65536 * (a0 * a1 * a2 * a3 * (a4 * (a3 * (a2 * (a1 + a0) + a0 * a1) + a0 * a1 * a2) + a0 * a1 * a2 * a3)) ≤ 13582426567102955520 := by
  have b1 := p4_S h0 h1 h2 h3
  have b2 := e4_S h0 h1 h2 h3
  obtain ⟨S, hS⟩ := Int.eq_ofNat_of_zero_le (show 0 ≤ a0 + a1 + (a2 + a3) by omega)
  obtain ⟨y, hy⟩ := Int.eq_ofNat_of_zero_le h4
  have p0 : 0 ≤ a0 * a1 * a2 * a3 := Int.mul_nonneg (Int.mul_nonneg (Int.mul_nonneg h0 h1) h2) h3
  have q0 : 0 ≤ a3 * (a2 * (a1 + a0) + a0 * a1) + a0 * a1 * a2 := by
    have c1 := Int.mul_nonneg h3 (Int.add_nonneg (Int.mul_nonneg h2 (Int.add_nonneg h1 h0)) (Int.mul_nonneg h0 h1))
    have c2 := Int.mul_nonneg (Int.mul_nonneg h0 h1) h2
    omega
  rw [hS] at b1 b2 hs
  generalize a0 * a1 * a2 * a3 = P at *
  generalize a3 * (a2 * (a1 + a0) + a0 * a1) + a0 * a1 * a2 = E at *
  rw [hy] at hs ⊢
  have c1 := mm_le (show 0 ≤ 256 * P by omega) b1 (show 0 ≤ 16 * E by omega) b2
  have c2 := mm_le (show 0 ≤ 256 * P by omega) b1 (show 0 ≤ 256 * P by omega) b1
  have c3 := Int.mul_le_mul_of_nonneg_left c1 (show (0 : Int) ≤ 16 * (y : Int) by omega)
  have f := s7_le (S := S) (y := y) (by omega)
  have f2 : ((S ^ 7 * (S + 16 * y) : Nat) : Int) ≤ 13582426567102955520 := by omega
  have f3 : ((S ^ 7 * (S + 16 * y) : Nat) : Int) = 16 * (y : Int) * ((S : Int) * S * (S * S) * (S * S * S)) + (S : Int) * S * (S * S) * (S * S * (S * S)) := by push_cast; grind
  have e1 : 65536 * (P * ((y : Int) * E + P)) = 16 * (y : Int) * (256 * P * (16 * E)) + 256 * P * (256 * P) := by grind
  rw [e1]
  rw [f3] at f2
  omega
