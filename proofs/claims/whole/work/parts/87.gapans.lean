/-! gap: the same fraction on both sides -/
theorem sZ_const (c : Int) : ∀ n : Nat, sZ (fun _ => c) n = n * c
  | 0 => by show (0 : Int) = 0 * c; omega
  | n + 1 => by show sZ (fun _ => c) n + c = ((n + 1 : Nat) : Int) * c; rw [sZ_const c n]; push_cast; rw [Int.add_mul, Int.one_mul]
theorem sL_ofInt {f : Nat → Int64} {g : Nat → Int} : ∀ {n : Nat}, (∀ i, i < n → f i = Int64.ofInt (g i)) → sL f n = Int64.ofInt (sZ g n)
  | 0, _ => rfl
  | n + 1, h => by unfold sL sZ; rw [sL_ofInt (fun i hi => h i (by omega)), h n (by omega), Int64.ofInt_add]
/-- one solution on all players -/
theorem sol {ml : List Mt} {n m cb gr : Nat} {e : Nat → Nat} {A : Nat → Nat → Int} (hok : ∀ x ∈ ml, okM n x) (hE : Emb n m e gr) (hcov : ∀ a, a < n → a = gr ∨ ∃ i, i < m ∧ a = e i) (hA : ∀ i, i < m → ∀ j, j < m → A i j = LZ ml n (e i) (e j)) (hb : ∀ i, i < m → A i cb = ldZ ml n (e i)) (hOK : OKA A m) : ∃ z : Nat → Int, z gr = 0 ∧ (∀ i, i < m → z (e i) = (gZ A m).1 i cb) ∧ ∀ a, a < n → lap ml n z a = (gZ A m).2 * ldZ ml n a := by
  obtain ⟨-, h2, -, -⟩ := gZ_ok hOK m (Nat.le_refl _)
  obtain ⟨z, z1, z2⟩ := hE.2.2.2.2 (fun i => (gZ A m).1 i cb)
  have hr : ∀ r, r < m → lap ml n z (e r) = (gZ A m).2 * ldZ ml n (e r) := fun r hr => by
    rw [← row_lap hok hE hA z1 z2 hr, h2.2.2.2.2.2 r hr cb, hb r hr]
  refine ⟨z, z1, z2, fun a ha => ?_⟩
  rcases hcov a ha with q | ⟨i, hi, q⟩
  · subst q
    have s1 := lap_sum ml n z
    have s2 := ld_sum0 (n := n) (ml := ml)
    rw [hE.2.2.2.1] at s1 s2
    rw [sZ_congr hr, sZ_mul] at s1
    have : (gZ A m).2 * (ldZ ml n a + sZ (fun i => ldZ ml n (e i)) m) = 0 := by rw [s2, Int.mul_zero]
    rw [Int.mul_add] at this
    omega
  · subst q; exact hr i hi
/-- two solutions differ by the same everywhere -/
theorem two_sol {ml : List Mt} {n : Nat} (hok : ∀ x ∈ ml, okM n x) (hn : 1 ≤ n) (hj : jnR ml n = 2 ^ n - 1) {z z' : Nat → Int} {d d' : Int} (h : ∀ a, a < n → lap ml n z a = d * ldZ ml n a) (h' : ∀ a, a < n → lap ml n z' a = d' * ldZ ml n a) {p : Nat} (hp : p < n) : d' * (n * z p - sZ z n) = d * (n * z' p - sZ z' n) := by
  have hw : ∀ a, a < n → lap ml n (fun a => d' * z a - d * z' a) a = 0 := fun a ha => by
    have e1 : lap ml n (fun a => d' * z a - d * z' a) a = d' * lap ml n z a - d * lap ml n z' a := by
      unfold lap
      rw [← sZ_mul, ← sZ_mul, ← sZ_sub]
      refine sZ_congr (fun b _ => ?_)
      show ((tmN ml a b : Nat) : Int) * (d' * z a - d * z' a - (d' * z b - d * z' b)) = d' * (((tmN ml a b : Nat) : Int) * (z a - z b)) - d * (((tmN ml a b : Nat) : Int) * (z' a - z' b))
      generalize ((tmN ml a b : Nat) : Int) = t
      generalize z a = x1
      generalize z b = x2
      generalize z' a = x3
      generalize z' b = x4
      grind
    rw [e1, h a ha, h' a ha, ← Int.mul_assoc, ← Int.mul_assoc, Int.mul_comm d' d]; omega
  have hq : sZ (fun a => (d' * z a - d * z' a) * lap ml n (fun a => d' * z a - d * z' a) a) n ≤ 0 := by
    rw [sZ_zero (fun a ha => by rw [hw a ha, Int.mul_zero])]; exact Int.le_refl _
  have hc := conn (z := fun a => d' * z a - d * z' a) hok hn hj (fun a ha b hb ht => quad0 hq ha hb ht)
  have e1 : sZ (fun a => d' * z a - d * z' a) n = n * (d' * z p - d * z' p) := by
    rw [sZ_congr (g := fun _ => d' * z p - d * z' p) (fun a ha => by
      have h1 : d' * z a - d * z' a = d' * z 0 - d * z' 0 := hc a ha
      have h2 : d' * z p - d * z' p = d' * z 0 - d * z' 0 := hc p hp
      omega), sZ_const]
  rw [sZ_sub, sZ_mul, sZ_mul] at e1
  rw [Int.mul_sub, Int.mul_sub, ← Int.mul_assoc, ← Int.mul_assoc, Int.mul_comm d', Int.mul_comm d, Int.mul_assoc, Int.mul_assoc]
  rw [Int.mul_sub] at e1
  omega
/-- lowest terms -/
theorem frac_eq {U V U' V' : Int} (hV : 0 < V) (hV' : 0 < V') (h : U * V' = U' * V) : ∃ q s : Int, U = (Nat.gcd U.natAbs V.natAbs : Int) * q ∧ V = (Nat.gcd U.natAbs V.natAbs : Int) * s ∧ U' = (Nat.gcd U'.natAbs V'.natAbs : Int) * q ∧ V' = (Nat.gcd U'.natAbs V'.natAbs : Int) * s := by
  have hg : 0 < Nat.gcd U.natAbs V.natAbs := Nat.gcd_pos_of_pos_right _ (by omega)
  have hg' : 0 < Nat.gcd U'.natAbs V'.natAbs := Nat.gcd_pos_of_pos_right _ (by omega)
  obtain ⟨a, ha⟩ := Nat.gcd_dvd_left U.natAbs V.natAbs
  obtain ⟨b, hb⟩ := Nat.gcd_dvd_right U.natAbs V.natAbs
  obtain ⟨a', ha'⟩ := Nat.gcd_dvd_left U'.natAbs V'.natAbs
  obtain ⟨b', hb'⟩ := Nat.gcd_dvd_right U'.natAbs V'.natAbs
  obtain ⟨q, hq⟩ : ((Nat.gcd U.natAbs V.natAbs : Nat) : Int) ∣ U := Int.ofNat_dvd_left.mpr (Nat.gcd_dvd_left _ _)
  obtain ⟨q', hq'⟩ : ((Nat.gcd U'.natAbs V'.natAbs : Nat) : Int) ∣ U' := Int.ofNat_dvd_left.mpr (Nat.gcd_dvd_left _ _)
  have cop : Nat.Coprime a b := by
    have h1 : Nat.gcd U.natAbs V.natAbs * Nat.gcd a b = Nat.gcd U.natAbs V.natAbs := by
      rw [← Nat.gcd_mul_left]; rw [← ha, ← hb]
    exact Nat.eq_of_mul_eq_mul_left hg (by rw [h1, Nat.mul_one])
  have cop' : Nat.Coprime a' b' := by
    have h1 : Nat.gcd U'.natAbs V'.natAbs * Nat.gcd a' b' = Nat.gcd U'.natAbs V'.natAbs := by
      rw [← Nat.gcd_mul_left]; rw [← ha', ← hb']
    exact Nat.eq_of_mul_eq_mul_left hg' (by rw [h1, Nat.mul_one])
  have hn : U.natAbs * V'.natAbs = U'.natAbs * V.natAbs := by rw [← Int.natAbs_mul, ← Int.natAbs_mul, h]
  generalize hgg : Nat.gcd U.natAbs V.natAbs = g at *
  generalize hgg' : Nat.gcd U'.natAbs V'.natAbs = g' at *
  rw [ha, hb, ha', hb'] at hn
  have key : a * b' = a' * b := by
    have e : (g * g') * (a * b') = (g * g') * (a' * b) := by
      have e1 : g * a * (g' * b') = g * g' * (a * b') := by rw [Nat.mul_assoc, Nat.mul_left_comm a, ← Nat.mul_assoc]
      have e2 : g' * a' * (g * b) = g * g' * (a' * b) := by rw [Nat.mul_assoc, Nat.mul_left_comm a', ← Nat.mul_assoc, Nat.mul_comm g' g]
      rw [← e1, ← e2, hn]
    exact Nat.eq_of_mul_eq_mul_left (Nat.mul_pos hg hg') e
  have d1 : b ∣ b' := cop.symm.dvd_of_dvd_mul_left ⟨a', by rw [key, Nat.mul_comm]⟩
  have d2 : b' ∣ b := cop'.symm.dvd_of_dvd_mul_left ⟨a, by rw [← key, Nat.mul_comm]⟩
  have hbb : b = b' := Nat.dvd_antisymm d1 d2
  subst hbb
  have hVg : V = (g : Int) * (b : Int) := by have : (V.natAbs : Int) = V := by omega
                                             rw [← this, hb]; push_cast; rfl
  have hVg' : V' = (g' : Int) * (b : Int) := by have : (V'.natAbs : Int) = V' := by omega
                                                rw [← this, hb']; push_cast; rfl
  have hqq : q = q' := by
    have hb0 : b ≠ 0 := fun w => by rw [w] at hVg; simp at hVg; omega
    have e : ((g : Int) * g' * b) * q = ((g : Int) * g' * b) * q' := by
      have e1 : U * V' = ((g : Int) * g' * b) * q := by rw [hVg']; conv => lhs; rw [hq]
                                                        generalize (g : Int) = x1
                                                        generalize (g' : Int) = x2
                                                        generalize (b : Int) = x3
                                                        grind
      have e2 : U' * V = ((g : Int) * g' * b) * q' := by rw [hVg]; conv => lhs; rw [hq']
                                                         generalize (g : Int) = x1
                                                         generalize (g' : Int) = x2
                                                         generalize (b : Int) = x3
                                                         grind
      rw [← e1, ← e2, h]
    refine Int.eq_of_mul_eq_mul_left (fun w => ?_) e
    have := Int.mul_pos (Int.mul_pos (show (0 : Int) < g by omega) (show (0 : Int) < g' by omega)) (show (0 : Int) < b by omega)
    omega
  subst hqq
  exact ⟨q, b, hq, hVg, hq', hVg'⟩
theorem gcF_z {U V : Int} (hU1 : -(2 ^ 63) < U) (hU2 : U < 2 ^ 63) (hV1 : 0 < V) (hV2 : V < 2 ^ 63) : gcF (Int64.ofInt U) (Int64.ofInt V) = Int64.ofInt (Nat.gcd U.natAbs V.natAbs : Int) := by
  unfold gcF
  rw [Int64.toInt_ofInt_of_le (by omega) hU2, Int64.toInt_ofInt_of_le (by omega) hV2]
  exact Int64.ofInt_eq_ofNat.symm
/-- both answers of a fraction -/
theorem frac_ans {U V U' V' : Int} (hU1 : -(2 ^ 63) < U) (hU2 : U < 2 ^ 63) (hV1 : 0 < V) (hV2 : V < 2 ^ 63) (hU1' : -(2 ^ 63) < U') (hU2' : U' < 2 ^ 63) (hV1' : 0 < V') (hV2' : V' < 2 ^ 63) (h : U * V' = U' * V) : Int64.ofInt U / gcF (Int64.ofInt U) (Int64.ofInt V) = Int64.ofInt U' / gcF (Int64.ofInt U') (Int64.ofInt V') ∧ Int64.ofInt V / gcF (Int64.ofInt U) (Int64.ofInt V) = Int64.ofInt V' / gcF (Int64.ofInt U') (Int64.ofInt V') := by
  obtain ⟨q, s, h1, h2, h3, h4⟩ := frac_eq hV1 hV1' h
  have g0 : 0 < Nat.gcd U.natAbs V.natAbs := Nat.gcd_pos_of_pos_right _ (by omega)
  have g0' : 0 < Nat.gcd U'.natAbs V'.natAbs := Nat.gcd_pos_of_pos_right _ (by omega)
  have g1 : Nat.gcd U.natAbs V.natAbs ≤ V.natAbs := Nat.gcd_le_right _ (by omega)
  have g1' : Nat.gcd U'.natAbs V'.natAbs ≤ V'.natAbs := Nat.gcd_le_right _ (by omega)
  rw [gcF_z hU1 hU2 hV1 hV2, gcF_z hU1' hU2' hV1' hV2', lI_div (by omega) (by omega) h1.symm hU1 hU2, lI_div (by omega) (by omega) h2.symm (by omega) hV2, lI_div (by omega) (by omega) h3.symm hU1' hU2', lI_div (by omega) (by omega) h4.symm (by omega) hV2']
  exact ⟨rfl, rfl⟩
/-! sizes at the end -/
theorem pe_mono {a : Nat → Int} : ∀ {k : Nat}, (∀ i, i < k → 0 ≤ a i) → (∀ i, i < k → a i ≤ 120) → pZ a k ≤ pZ (fun _ => 120) k ∧ eZ a k ≤ eZ (fun _ => 120) k
  | 0, _, _ => ⟨Int.le_refl _, Int.le_refl _⟩
  | k + 1, h0, h1 => by
    obtain ⟨i1, i2⟩ := pe_mono (a := a) (k := k) (fun i hi => h0 i (by omega)) (fun i hi => h1 i (by omega))
    have n1 := pZ_nn (a := a) (k := k) (fun i hi => h0 i (by omega))
    have n2 := eZ_nn (a := a) (k := k) (fun i hi => h0 i (by omega))
    have m1 := mm_le n1 i1 (h0 k (by omega)) (h1 k (by omega))
    have m2 := mm_le (h0 k (by omega)) (h1 k (by omega)) n2 i2
    refine ⟨m1, ?_⟩
    show a k * eZ a k + pZ a k ≤ 120 * eZ (fun _ => 120) k + pZ (fun _ => 120) k
    omega
theorem pe_num : ∀ k, k < 6 → pZ (fun _ => 120) k ≤ 24883200000 ∧ eZ (fun _ => 120) k ≤ 1036800000 := by decide +kernel
theorem fin_bd {A : Nat → Nat → Int} {m cb : Nat} (h : OKA A m) (hB : BdA A m cb) : 0 < (gZ A m).2 ∧ (gZ A m).2 ≤ 24883200000 ∧ ∀ i, i < m → (((gZ A m).1 i cb).natAbs : Int) ≤ 23760 * 1036800000 := by
  obtain ⟨-, h2, -, -⟩ := gZ_ok h m (Nat.le_refl _)
  have hm := h.1
  obtain ⟨m1, m2⟩ := pe_mono (a := fun i => A i i) (k := m) (fun i hi => diag_nn h hi) hB.1
  obtain ⟨n1, n2⟩ := pe_num m (by omega)
  have d1 := d_le h m (Nat.le_refl _)
  refine ⟨h2.1, by omega, fun i hi => ?_⟩
  have := (rhs_up h hB m (Nat.le_refl _)).1 i hi
  omega
theorem sZ_abs {f : Nat → Int} {B : Int} : ∀ {n : Nat}, (∀ i, i < n → ((f i).natAbs : Int) ≤ B) → ((sZ f n).natAbs : Int) ≤ n * B
  | 0, _ => by show (0 : Int) ≤ 0 * B; omega
  | n + 1, h => by
    have h1 := sZ_abs (f := f) (B := B) (n := n) (fun i hi => h i (by omega))
    have h2 := h n (by omega)
    show ((sZ f n + f n).natAbs : Int) ≤ ((n + 1 : Nat) : Int) * B
    push_cast
    rw [Int.add_mul, Int.one_mul]; omega
section GA
variable {ml : List Mt} {n : Nat}
abbrev Acl (ml : List Mt) (n : Nat) : Nat → Nat → Int := fun i j => if j < n - 1 then LZ ml n (i + 1) (j + 1) else ldZ ml n (i + 1)
abbrev Arf (ml : List Mt) (n : Nat) : Nat → Nat → Int := fun i j => if j < n - 1 then LZ ml n i j else ldZ ml n i
theorem gap_c (hok : ∀ x ∈ ml, okM n x) (hm : ml.length ≤ 120) (hn1 : 1 ≤ n) (hn : n ≤ 6) (hj : jnR ml n = 2 ^ n - 1) (c : Nat → Int64) : ∃ (z : Nat → Int) (d : Int), 0 < d ∧ d ≤ 24883200000 ∧ (∀ a, a < n → lap ml n z a = d * ldZ ml n a) ∧ (∀ p, p < n → -(2 ^ 63) < n * z p - sZ z n ∧ n * z p - sZ z n < 2 ^ 63) ∧ (gjR (flC ml n c (n - 1)) (n - 1) (n - 1) (n - 1)).2 = Int64.ofInt d ∧ (∀ p, p < n → topF (gjR (flC ml n c (n - 1)) (n - 1) (n - 1) (n - 1)).1 n p = Int64.ofInt (n * z p - sZ z n)) ∧ ∀ k, k ≤ n - 1 → 0 < (gjR (flC ml n c (n - 1)) (n - 1) (n - 1) k).2 := by
  obtain ⟨m, rfl⟩ : ∃ m, n = m + 1 := ⟨n - 1, by omega⟩
  rw [Nat.add_sub_cancel]
  have hE := Emb_c m
  have hA : ∀ i, i < m → ∀ j, j < m → Acl ml (m + 1) i j = LZ ml (m + 1) (i + 1) (j + 1) := fun i _ j hj => if_pos (by omega)
  have hb : ∀ i, i < m → Acl ml (m + 1) i m = ldZ ml (m + 1) (i + 1) := fun i _ => if_neg (by omega)
  have hOK := OKA_of hok hn1 (by omega) hj hE hA
  have hBd := BdA_of (cb := m) hok hm hE hA hb
  have h0 : RZ (flC ml (m + 1) c m) m m (Acl ml (m + 1)) := fun i hi j hj => fl_at hok hm hn1 hn m (by omega) i hi j (by omega)
  have hG := gj_all hOK hBd (Nat.le_refl _) (by omega) h0
  obtain ⟨g1, g2, g3, g4⟩ := hG m (Nat.le_refl _)
  obtain ⟨b1, b2, b3⟩ := fin_bd hOK hBd
  obtain ⟨z, z1, z2, z3⟩ := sol hok hE (fun a ha => by rcases Nat.eq_zero_or_pos a with q | q; (exact Or.inl q); (exact Or.inr ⟨a - 1, by omega, by show a = a - 1 + 1; omega⟩)) hA hb hOK
  have hsum : sZ z (m + 1) = sZ (fun i => (gZ (Acl ml (m + 1)) m).1 i m) m := by rw [hE.2.2.2.1, z1, Int.zero_add]; exact sZ_congr z2
  have hzb : ∀ p, p < m + 1 → ((z p).natAbs : Int) ≤ 23760 * 1036800000 := fun p hp => by
    rcases Nat.eq_zero_or_pos p with q | q
    · rw [q, z1]; decide
    · have := b3 (p - 1) (by omega)
      rw [← z2 (p - 1) (by omega)] at this
      show ((z p).natAbs : Int) ≤ _
      have e : p - 1 + 1 = p := by omega
      have this : ((z (p - 1 + 1)).natAbs : Int) ≤ _ := this
      rw [e] at this; exact this
  have hnz : ∀ p, p < m + 1 → -(2 ^ 63) < ((m + 1 : Nat) : Int) * z p - sZ z (m + 1) ∧ ((m + 1 : Nat) : Int) * z p - sZ z (m + 1) < 2 ^ 63 := fun p hp => by
    have s1 := sZ_abs hzb
    have s2 := hzb p hp
    have s3 : ((((m + 1 : Nat) : Int) * z p).natAbs : Int) ≤ 6 * (23760 * 1036800000) := by
      rw [nabs_mul]
      exact mm_le (by omega) (by omega) (by omega) s2
    have s4 : ((m + 1 : Nat) : Int) * (23760 * 1036800000) ≤ 6 * (23760 * 1036800000) := by omega
    omega
  refine ⟨z, (gZ (Acl ml (m + 1)) m).2, b1, b2, z3, hnz, g2, fun p hp => ?_, fun k hk => ?_⟩
  · unfold topF
    rw [Nat.add_sub_cancel, sL_ofInt (g := fun i => (gZ (Acl ml (m + 1)) m).1 i m) (fun i hi => by rw [show i * 6 + (m + 1) - 1 = 6 * i + m by omega]; exact g1 i hi m (Or.inr rfl)), nI_ofInt, l_of (by omega) (by omega)]
    have e : (if p = 0 then (0 : Int64) else (gjR (flC ml (m + 1) c m) m m m).1 ((p - 1) * 6 + (m + 1) - 1)) = Int64.ofInt (z p) := by
      by_cases q : p = 0
      · rw [if_pos q, q, z1]; rfl
      · rw [if_neg q, show (p - 1) * 6 + (m + 1) - 1 = 6 * (p - 1) + m by omega, g1 (p - 1) (by omega) m (Or.inr rfl), ← z2 (p - 1) (by omega)]
        show Int64.ofInt (z (p - 1 + 1)) = _
        rw [show p - 1 + 1 = p by omega]
    rw [e, ← Int64.ofInt_mul, ← Int64.ofInt_sub, hsum]
  · obtain ⟨-, k2, k3, k4⟩ := hG k hk
    rw [k2, Int64.lt_iff_toInt_lt, Int64.toInt_ofInt_of_le (by omega) k4]; exact k3
theorem gap_r (hok : ∀ x ∈ ml, okM n x) (hm : ml.length ≤ 120) (hn1 : 1 ≤ n) (hn : n ≤ 6) (hj : jnR ml n = 2 ^ n - 1) (c : Nat → Int64) : ∃ (z : Nat → Int) (d : Int), 0 < d ∧ d ≤ 24883200000 ∧ (∀ a, a < n → lap ml n z a = d * ldZ ml n a) ∧ (∀ p, p < n → -(2 ^ 63) < n * z p - sZ z n ∧ n * z p - sZ z n < 2 ^ 63) ∧ (gjR (eqL (n - 1) ml (zfL c 36)) (n - 1) 5 (n - 1)).2 = Int64.ofInt d ∧ (∀ p, p < n → upF (gjR (eqL (n - 1) ml (zfL c 36)) (n - 1) 5 (n - 1)).1 n p = Int64.ofInt (n * z p - sZ z n)) ∧ ∀ k, k ≤ n - 1 → 0 < (gjR (eqL (n - 1) ml (zfL c 36)) (n - 1) 5 k).2 := by
  obtain ⟨m, rfl⟩ : ∃ m, n = m + 1 := ⟨n - 1, by omega⟩
  rw [Nat.add_sub_cancel]
  have hE := Emb_r m
  have hA : ∀ i, i < m → ∀ j, j < m → Arf ml (m + 1) i j = LZ ml (m + 1) i j := fun i _ j hj => if_pos (by omega)
  have hb : ∀ i, i < m → Arf ml (m + 1) i 5 = ldZ ml (m + 1) i := fun i _ => if_neg (by omega)
  have hOK := OKA_of hok hn1 (by omega) hj hE hA
  have hBd := BdA_of (cb := 5) hok hm hE hA hb
  have h0 : RZ (eqL m ml (zfL c 36)) m 5 (Arf ml (m + 1)) := fun i hi j hj => by
    obtain ⟨q1, q2⟩ := eq_at (n := m + 1) rfl (show m ≤ 5 by omega) (l := ml) (c := zfL c 36) hok i hi
    rcases hj with q | q
    · rw [q1 j q, hA i hi j q]
      have : zfL c 36 (6 * i + j) = 0 := if_pos (by omega)
      rw [this, Int64.zero_add]
    · subst q
      rw [q2, hb i hi]
      have : zfL c 36 (6 * i + 5) = 0 := if_pos (by omega)
      rw [this, Int64.zero_add]
  have hG := gj_all hOK hBd (by omega) (by omega) h0
  obtain ⟨g1, g2, g3, g4⟩ := hG m (Nat.le_refl _)
  obtain ⟨b1, b2, b3⟩ := fin_bd hOK hBd
  obtain ⟨z, z1, z2, z3⟩ := sol hok hE (fun a ha => by by_cases q : a = m; (exact Or.inl q); (exact Or.inr ⟨a, by omega, rfl⟩)) hA hb hOK
  have hsum : sZ z (m + 1) = sZ (fun i => (gZ (Arf ml (m + 1)) m).1 i 5) m := by rw [hE.2.2.2.1, z1, Int.zero_add]; exact sZ_congr z2
  have hzb : ∀ p, p < m + 1 → ((z p).natAbs : Int) ≤ 23760 * 1036800000 := fun p hp => by
    by_cases q : p = m
    · rw [q, z1]; decide
    · have := b3 p (by omega)
      rw [← z2 p (by omega)] at this
      exact this
  have hnz : ∀ p, p < m + 1 → -(2 ^ 63) < ((m + 1 : Nat) : Int) * z p - sZ z (m + 1) ∧ ((m + 1 : Nat) : Int) * z p - sZ z (m + 1) < 2 ^ 63 := fun p hp => by
    have s1 := sZ_abs hzb
    have s2 := hzb p hp
    have s3 : ((((m + 1 : Nat) : Int) * z p).natAbs : Int) ≤ 6 * (23760 * 1036800000) := by
      rw [nabs_mul]
      exact mm_le (by omega) (by omega) (by omega) s2
    have s4 : ((m + 1 : Nat) : Int) * (23760 * 1036800000) ≤ 6 * (23760 * 1036800000) := by omega
    omega
  refine ⟨z, (gZ (Arf ml (m + 1)) m).2, b1, b2, z3, hnz, g2, fun p hp => ?_, fun k hk => ?_⟩
  · unfold upF
    rw [Nat.add_sub_cancel, sL_ofInt (g := fun i => (gZ (Arf ml (m + 1)) m).1 i 5) (fun i hi => g1 i hi 5 (Or.inr rfl)), nI_ofInt, l_of (by omega) (by omega)]
    have e : (if p < m then (gjR (eqL m ml (zfL c 36)) m 5 m).1 (6 * p + 5) else (0 : Int64)) = Int64.ofInt (z p) := by
      by_cases q : p < m
      · rw [if_pos q, g1 p q 5 (Or.inr rfl), ← z2 p q]
      · rw [if_neg q, show p = m by omega, z1]; rfl
    rw [e, ← Int64.ofInt_mul, ← Int64.ofInt_sub, hsum, Int.mul_comm]
  · obtain ⟨-, k2, k3, k4⟩ := hG k hk
    rw [k2, Int64.lt_iff_toInt_lt, Int64.toInt_ofInt_of_le (by omega) k4]; exact k3
theorem nd_eq {d : Int} (hn1 : 1 ≤ n) (hn : n ≤ 6) (h1 : 0 < d) (h2 : d ≤ 24883200000) : 0 < (n : Int) * d ∧ (n : Int) * d < 2 ^ 63 ∧ (nI n).toInt64 * Int64.ofInt d = Int64.ofInt (n * d) ∧ Int64.ofInt d * (nI n).toInt64 = Int64.ofInt (n * d) := by
  have p := Int.mul_pos (show (0 : Int) < n by omega) h1
  have q := mm_le (show (0 : Int) ≤ n by omega) (show (n : Int) ≤ 6 by omega) (Int.le_of_lt h1) h2
  rw [nI_ofInt, l_of (by omega) (by omega), ← Int64.ofInt_mul, ← Int64.ofInt_mul]
  exact ⟨p, by omega, rfl, by rw [Int.mul_comm]⟩
theorem lN_of {z : Int} (h : 0 ≤ z) : Int64.ofInt z = lN z.toNat := by
  have e : ((z.toNat : Nat) : Int) = z := by omega
  rw [← e]; exact Int64.ofInt_eq_ofNat
theorem GapC_ok (hok : ∀ x ∈ ml, okM n x) (hm : ml.length ≤ 120) (hn1 : 1 ≤ n) (hn : n ≤ 6) (hj : jnR ml n = 2 ^ n - 1) (c : Nat → Int64) : GapC ml n c := by
  obtain ⟨z, d, d1, d2, -, z2, g1, g2, g3⟩ := gap_c hok hm hn1 hn hj c
  obtain ⟨e1, e2, e3, -⟩ := nd_eq hn1 hn d1 d2
  refine ⟨g3, ⟨(n * d).toNat, by omega, by omega, by rw [g1, e3]; exact lN_of (by omega)⟩, fun p hp => ?_⟩
  rw [g2 p hp, Int64.toInt_ofInt_of_le (by have := (z2 p hp).1; omega) (z2 p hp).2]; exact (z2 p hp).1
theorem GapR_ok (hok : ∀ x ∈ ml, okM n x) (hm : ml.length ≤ 120) (hn1 : 1 ≤ n) (hn : n ≤ 6) (hj : jnR ml n = 2 ^ n - 1) (c : Nat → Int64) : GapR ml n c := by
  obtain ⟨z, d, d1, d2, -, z2, g1, g2, g3⟩ := gap_r hok hm hn1 hn hj c
  obtain ⟨e1, e2, -, e3⟩ := nd_eq hn1 hn d1 d2
  refine ⟨g3, ⟨(n * d).toNat, by omega, by omega, by rw [g1, e3]; exact lN_of (by omega)⟩, fun p hp => ?_⟩
  rw [g2 p hp, Int64.toInt_ofInt_of_le (by have := (z2 p hp).1; omega) (z2 p hp).2]; exact (z2 p hp).1
theorem gap_eq (hok : ∀ x ∈ ml, okM n x) (hm : ml.length ≤ 120) (hn1 : 1 ≤ n) (hn : n ≤ 6) (hj : jnR ml n = 2 ^ n - 1) (c c' : Nat → Int64) {p : Nat} (hp : p < n) :
    topF (gjR (flC ml n c (n - 1)) (n - 1) (n - 1) (n - 1)).1 n p / gcF (topF (gjR (flC ml n c (n - 1)) (n - 1) (n - 1) (n - 1)).1 n p) ((nI n).toInt64 * (gjR (flC ml n c (n - 1)) (n - 1) (n - 1) (n - 1)).2) = upF (gjR (eqL (n - 1) ml (zfL c' 36)) (n - 1) 5 (n - 1)).1 n p / gcF (upF (gjR (eqL (n - 1) ml (zfL c' 36)) (n - 1) 5 (n - 1)).1 n p) ((gjR (eqL (n - 1) ml (zfL c' 36)) (n - 1) 5 (n - 1)).2 * (nI n).toInt64) ∧
    ((nI n).toInt64 * (gjR (flC ml n c (n - 1)) (n - 1) (n - 1) (n - 1)).2) / gcF (topF (gjR (flC ml n c (n - 1)) (n - 1) (n - 1) (n - 1)).1 n p) ((nI n).toInt64 * (gjR (flC ml n c (n - 1)) (n - 1) (n - 1) (n - 1)).2) = ((gjR (eqL (n - 1) ml (zfL c' 36)) (n - 1) 5 (n - 1)).2 * (nI n).toInt64) / gcF (upF (gjR (eqL (n - 1) ml (zfL c' 36)) (n - 1) 5 (n - 1)).1 n p) ((gjR (eqL (n - 1) ml (zfL c' 36)) (n - 1) 5 (n - 1)).2 * (nI n).toInt64) := by
  obtain ⟨z, d, d1, d2, l1, z2, g1, g2, -⟩ := gap_c hok hm hn1 hn hj c
  obtain ⟨z', d', d1', d2', l1', z2', g1', g2', -⟩ := gap_r hok hm hn1 hn hj c'
  obtain ⟨e1, e2, e3, -⟩ := nd_eq hn1 hn d1 d2
  obtain ⟨e1', e2', -, e3'⟩ := nd_eq hn1 hn d1' d2'
  rw [g1, g2 p hp, g1', g2' p hp, e3, e3']
  refine frac_ans (z2 p hp).1 (z2 p hp).2 e1 e2 (z2' p hp).1 (z2' p hp).2 e1' e2' ?_
  have t := two_sol hok hn1 hj l1 l1' hp
  have a1 : (n * z p - sZ z n) * (n * d') = n * (d' * (n * z p - sZ z n)) := by rw [Int.mul_comm, Int.mul_assoc]
  have a2 : (n * z' p - sZ z' n) * (n * d) = n * (d * (n * z' p - sZ z' n)) := by rw [Int.mul_comm, Int.mul_assoc]
  rw [a1, a2, t]
end GA
theorem kIn2 {y : Int32} : kIn y 2 ↔ (y = 0 ∨ y = nI 1) := by
  constructor
  · intro h
    obtain ⟨j, hj, rfl⟩ := kIn_nat h
    rcases (show j = 0 ∨ j = 1 by omega) with rfl | rfl
    · exact Or.inl rfl
    · exact Or.inr rfl
  · rintro (h | h)
    · subst h; decide
    · subst h; decide
theorem ans_gap {ml : List Mt} {n : Nat} {x y : Int32} {r r' : Int64} (hok : ∀ x ∈ ml, okM n x) (hm : ml.length ≤ 120) (hn1 : 1 ≤ n) (hn10 : n ≤ 10) (c c' : Nat → Int64)
    (h : r = if kIn x n ∧ (y = 0 ∨ y = nI 1) ∧ n ≤ 6 ∧ jcR (foB ml n) n n = 2 ^ n - 1 then (if y = 0 then (topF (gjR (flC ml n c (n - 1)) (n - 1) (n - 1) (n - 1)).1 n x.toInt.toNat) / gcF (topF (gjR (flC ml n c (n - 1)) (n - 1) (n - 1) (n - 1)).1 n x.toInt.toNat) ((nI n).toInt64 * (gjR (flC ml n c (n - 1)) (n - 1) (n - 1) (n - 1)).2) else ((nI n).toInt64 * (gjR (flC ml n c (n - 1)) (n - 1) (n - 1) (n - 1)).2) / gcF (topF (gjR (flC ml n c (n - 1)) (n - 1) (n - 1) (n - 1)).1 n x.toInt.toNat) ((nI n).toInt64 * (gjR (flC ml n c (n - 1)) (n - 1) (n - 1) (n - 1)).2)) else 0)
    (h' : r' = if kIn x n ∧ kIn y 2 ∧ n ≤ 6 ∧ jnR ml n = 2 ^ n - 1 then (if y = 0 then (upF (gjR (eqL (n - 1) ml (zfL c' 36)) (n - 1) 5 (n - 1)).1 n x.toInt.toNat) / gcF (upF (gjR (eqL (n - 1) ml (zfL c' 36)) (n - 1) 5 (n - 1)).1 n x.toInt.toNat) ((gjR (eqL (n - 1) ml (zfL c' 36)) (n - 1) 5 (n - 1)).2 * (nI n).toInt64) else ((gjR (eqL (n - 1) ml (zfL c' 36)) (n - 1) 5 (n - 1)).2 * (nI n).toInt64) / gcF (upF (gjR (eqL (n - 1) ml (zfL c' 36)) (n - 1) 5 (n - 1)).1 n x.toInt.toNat) ((gjR (eqL (n - 1) ml (zfL c' 36)) (n - 1) 5 (n - 1)).2 * (nI n).toInt64)) else 0) : r = r' := by
  rw [h, h', join_eq hn1 hn10 hok]
  by_cases q : kIn x n ∧ kIn y 2 ∧ n ≤ 6 ∧ jnR ml n = 2 ^ n - 1
  · obtain ⟨q1, q2, q3, q4⟩ := q
    have k1 : kIn x n ∧ (y = 0 ∨ y = nI 1) ∧ n ≤ 6 ∧ jnR ml n = 2 ^ n - 1 := ⟨q1, kIn2.mp q2, q3, q4⟩
    have k2 : kIn x n ∧ kIn y 2 ∧ n ≤ 6 ∧ jnR ml n = 2 ^ n - 1 := ⟨q1, q2, q3, q4⟩
    rw [if_pos k1, if_pos k2]
    have c1 := q1.1
    have c2 := q1.2
    have g := gap_eq hok hm hn1 q3 q4 c c' (show x.toInt.toNat < n by omega)
    by_cases y0 : y = 0
    · rw [if_pos y0, if_pos y0]; exact g.1
    · rw [if_neg y0, if_neg y0]; exact g.2
  · have k1 : ¬ (kIn x n ∧ (y = 0 ∨ y = nI 1) ∧ n ≤ 6 ∧ jnR ml n = 2 ^ n - 1) := fun w => q ⟨w.1, kIn2.mpr w.2.1, w.2.2.1, w.2.2.2⟩
    rw [if_neg q, if_neg k1]
