/-! the equations of who met whom -/
abbrev tmZ (ml : List Mt) (a b : Nat) : Int := (tmN ml a b : Int)
def dgZ (ml : List Mt) (n a : Nat) : Int := sZ (fun b => tmZ ml a b) n
def LZ (ml : List Mt) (n a b : Nat) : Int := if a = b then dgZ ml n a else -(tmZ ml a b)
def ldZ (ml : List Mt) (n a : Nat) : Int := sZ (fun b => (pt ml a b : Int) - (pt ml b a : Int)) n
theorem drX_sy (a b : Nat) (x : Mt) : drX a b x = drX b a x := by
  unfold drX
  by_cases c : ((x.1 = a ∧ x.2.1 = b) ∨ (x.1 = b ∧ x.2.1 = a)) ∧ x.2.2.1 = x.2.2.2
  · rw [if_pos c, if_pos ⟨c.1.symm, c.2⟩]
  · rw [if_neg c, if_neg (fun w => c ⟨w.1.symm, w.2⟩)]
theorem lsN_congr {g h : Mt → Nat} : ∀ {l : List Mt}, (∀ x ∈ l, g x = h x) → lsN g l = lsN h l
  | [], _ => rfl
  | x :: l, H => by unfold lsN; rw [H x List.mem_cons_self, lsN_congr (fun y hy => H y (List.mem_cons_of_mem _ hy))]
theorem tm_sy (ml : List Mt) (a b : Nat) : tmN ml a b = tmN ml b a := by
  have : dr ml a b = dr ml b a := lsN_congr (fun x _ => drX_sy a b x)
  show ov ml a b + dr ml a b + ov ml b a = ov ml b a + dr ml b a + ov ml a b
  omega
theorem tm_self {ml : List Mt} {n : Nat} (hok : ∀ x ∈ ml, okM n x) (a : Nat) : tmN ml a a = 0 := by
  rcases Nat.eq_zero_or_pos (tmN ml a a) with q | q
  · exact q
  · obtain ⟨x, hx, h⟩ := tm_pos.mp q
    have := (hok x hx).2.2.1
    omega
/-- the rows of the equations at numbers z -/
def lap (ml : List Mt) (n : Nat) (z : Nat → Int) (a : Nat) : Int := sZ (fun b => tmZ ml a b * (z a - z b)) n
theorem lap_eq {ml : List Mt} {n : Nat} (hok : ∀ x ∈ ml, okM n x) {z : Nat → Int} {a : Nat} (ha : a < n) : sZ (fun b => LZ ml n a b * z b) n = lap ml n z a := by
  have e1 : sZ (fun b => LZ ml n a b * z b) n = sZ (fun b => -(tmZ ml a b) * z b) n + dgZ ml n a * z a := sZ_bump ha (fun b _ hb => by unfold LZ; rw [if_neg (fun w => hb w.symm)]) (by
    unfold LZ; rw [if_pos rfl]
    have := tm_self hok a
    show _ = -((tmN ml a a : Nat) : Int) * z a + _
    rw [this]; simp)
  rw [e1]
  unfold lap dgZ
  rw [Int.mul_comm, ← sZ_mul, ← sZ_add]
  refine sZ_congr (fun b _ => ?_)
  show -((tmN ml a b : Nat) : Int) * z b + z a * ((tmN ml a b : Nat) : Int) = ((tmN ml a b : Nat) : Int) * (z a - z b)
  generalize ((tmN ml a b : Nat) : Int) = t
  rw [Int.mul_sub, Int.mul_comm t (z a), Int.neg_mul]; omega
theorem lap_sum (ml : List Mt) (n : Nat) (z : Nat → Int) : sZ (lap ml n z) n = 0 := by
  have e : sZ (lap ml n z) n = sZ (fun a => sZ (fun b => tmZ ml b a * (z b - z a)) n) n := by
    unfold lap; rw [sZ_swap]
  have e2 : sZ (fun a => sZ (fun b => tmZ ml b a * (z b - z a)) n) n = (-1) * sZ (lap ml n z) n := by
    rw [← sZ_mul]
    refine sZ_congr (fun a _ => ?_)
    unfold lap
    rw [← sZ_mul]
    refine sZ_congr (fun b _ => ?_)
    show ((tmN ml b a : Nat) : Int) * (z b - z a) = -1 * (((tmN ml a b : Nat) : Int) * (z a - z b))
    rw [tm_sy ml b a]
    generalize ((tmN ml a b : Nat) : Int) = t
    rw [Int.mul_sub, Int.mul_sub]; omega
  omega
/-- the sum of squares -/
theorem quad {ml : List Mt} {n : Nat} (z : Nat → Int) : 2 * sZ (fun a => z a * lap ml n z a) n = sZ (fun a => sZ (fun b => tmZ ml a b * ((z a - z b) * (z a - z b))) n) n := by
  have e1 : sZ (fun a => z a * lap ml n z a) n = sZ (fun a => sZ (fun b => z a * (tmZ ml a b * (z a - z b))) n) n := sZ_congr (fun a _ => by unfold lap; rw [sZ_mul])
  have e2 : sZ (fun a => z a * lap ml n z a) n = sZ (fun a => sZ (fun b => z b * (tmZ ml b a * (z b - z a))) n) n := by rw [e1, sZ_swap]
  have e3 : 2 * sZ (fun a => z a * lap ml n z a) n = sZ (fun a => z a * lap ml n z a) n + sZ (fun a => z a * lap ml n z a) n := by omega
  rw [e3]
  conv => lhs; lhs; rw [e1]
  conv => lhs; rhs; rw [e2]
  rw [← sZ_add]
  refine sZ_congr (fun a _ => ?_)
  rw [← sZ_add]
  refine sZ_congr (fun b _ => ?_)
  show z a * (((tmN ml a b : Nat) : Int) * (z a - z b)) + z b * (((tmN ml b a : Nat) : Int) * (z b - z a)) = ((tmN ml a b : Nat) : Int) * ((z a - z b) * (z a - z b))
  rw [tm_sy ml b a]
  generalize ((tmN ml a b : Nat) : Int) = t
  generalize z a = x
  generalize z b = y
  grind
theorem sq_nn (x : Int) : 0 ≤ x * x := by
  rcases Int.le_total 0 x with q | q
  · exact Int.mul_nonneg q q
  · exact nn_mul q q
/-- where nothing is left, all that met are alike -/
theorem quad0 {ml : List Mt} {n : Nat} {z : Nat → Int} (h : sZ (fun a => z a * lap ml n z a) n ≤ 0) {a b : Nat} (ha : a < n) (hb : b < n) (ht : 0 < tmN ml a b) : z a = z b := by
  have q := quad (ml := ml) (n := n) z
  have t1 : ∀ a, a < n → ∀ b, b < n → 0 ≤ tmZ ml a b * ((z a - z b) * (z a - z b)) := fun a _ b _ => Int.mul_nonneg (by show (0 : Int) ≤ ((tmN ml a b : Nat) : Int); omega) (sq_nn _)
  have m1 := sZ_mem (f := fun b => tmZ ml a b * ((z a - z b) * (z a - z b))) (k := b) (n := n) (fun i hi => t1 a ha i hi) hb
  have m2 := sZ_mem (f := fun a => sZ (fun b => tmZ ml a b * ((z a - z b) * (z a - z b))) n) (k := a) (n := n) (fun i hi => sZ_nn (fun j hj => t1 i hi j hj)) ha
  have m3 : tmZ ml a b * ((z a - z b) * (z a - z b)) ≤ 0 := by
    have m1' : tmZ ml a b * ((z a - z b) * (z a - z b)) ≤ sZ (fun b => tmZ ml a b * ((z a - z b) * (z a - z b))) n := m1
    have m2' : sZ (fun b => tmZ ml a b * ((z a - z b) * (z a - z b))) n ≤ sZ (fun a => sZ (fun b => tmZ ml a b * ((z a - z b) * (z a - z b))) n) n := m2
    omega
  refine Classical.byContradiction (fun hc => ?_)
  have s1 : 0 < (z a - z b) * (z a - z b) := by
    rcases Int.lt_or_gt_of_ne (show z a - z b ≠ 0 by omega) with q | q
    · exact Int.mul_pos_of_neg_of_neg q q
    · exact Int.mul_pos q q
  have := Int.mul_pos (show (0 : Int) < ((tmN ml a b : Nat) : Int) by omega) s1
  have m3 : ((tmN ml a b : Nat) : Int) * ((z a - z b) * (z a - z b)) ≤ 0 := m3
  omega
/-- joined ones that are alike where they met are all alike -/
theorem conn {ml : List Mt} {n : Nat} (hok : ∀ x ∈ ml, okM n x) (hn : 1 ≤ n) (hj : jnR ml n = 2 ^ n - 1) {z : Nat → Int} (h : ∀ a, a < n → ∀ b, b < n → 0 < tmN ml a b → z a = z b) : ∀ a, a < n → z a = z 0 := by
  have bit : ∀ i, (bitsOf (fun a => decide (z a = z 0)) n).testBit i = true ↔ i < n ∧ z i = z 0 := fun i => by rw [bitsOf_bit, Bool.and_eq_true, decide_eq_true_eq, decide_eq_true_eq]
  have hC : cloM ml (bitsOf (fun a => decide (z a = z 0)) n) := fun x hx => by
    obtain ⟨h1, h2, -⟩ := hok x hx
    rw [bit, bit]
    have e := h x.1 h1 x.2.1 h2 (tm_pos.mpr ⟨x, hx, Or.inl ⟨rfl, rfl⟩⟩)
    exact ⟨fun w => ⟨h2, by rw [← e]; exact w.2⟩, fun w => ⟨h1, by rw [e]; exact w.2⟩⟩
  have hs : sub2 (jnR ml n) (bitsOf (fun a => decide (z a = z 0)) n) := by
    rw [jnR_it]
    refine it_min (fun S hS => jnL_min hC hS) (fun i hi => ?_) n
    have : i = 0 := by
      rw [show (1 : Nat) = 2 ^ 0 from rfl, Nat.testBit_two_pow, decide_eq_true_eq] at hi; exact hi.symm
    subst this
    exact (bit 0).mpr ⟨by omega, rfl⟩
  intro a ha
  exact ((bit a).mp (hs a (by rw [hj]; exact all_bit ha))).2
/-- one player is held at 0, the others are e 0, e 1 .. -/
def Emb (n m : Nat) (e : Nat → Nat) (gr : Nat) : Prop := gr < n ∧ (∀ i, i < m → e i < n ∧ e i ≠ gr) ∧ (∀ i, i < m → ∀ j, j < m → e i = e j → i = j) ∧ (∀ f : Nat → Int, sZ f n = f gr + sZ (fun i => f (e i)) m) ∧ (∀ c : Nat → Int, ∃ z : Nat → Int, z gr = 0 ∧ ∀ i, i < m → z (e i) = c i)
theorem sZ_shift (f : Nat → Int) : ∀ m, sZ f (m + 1) = f 0 + sZ (fun i => f (i + 1)) m
  | 0 => by show 0 + f 0 = f 0 + 0; omega
  | m + 1 => by
    have := sZ_shift f m
    show sZ f (m + 1) + f (m + 1) = f 0 + (sZ (fun i => f (i + 1)) m + f (m + 1))
    omega
theorem Emb_c (m : Nat) : Emb (m + 1) m (fun i => i + 1) 0 := by
  refine ⟨by omega, fun i hi => ⟨by show i + 1 < m + 1; omega, by show i + 1 ≠ 0; omega⟩, fun i _ j _ h => by have : i + 1 = j + 1 := h; omega, fun f => sZ_shift f m, fun c => ⟨fun a => if a = 0 then 0 else c (a - 1), if_pos rfl, fun i _ => ?_⟩⟩
  show (if i + 1 = 0 then 0 else c (i + 1 - 1)) = c i
  rw [if_neg (by omega), Nat.add_sub_cancel]
theorem Emb_r (m : Nat) : Emb (m + 1) m (fun i => i) m := by
  refine ⟨by omega, fun i hi => ⟨by show i < m + 1; omega, by show i ≠ m; omega⟩, fun i _ j _ h => h, fun f => ?_, fun c => ⟨fun a => if a < m then c a else 0, if_neg (Nat.lt_irrefl _), fun i hi => if_pos hi⟩⟩
  show sZ f m + f m = f m + sZ f m
  omega
section LAP
variable {ml : List Mt} {n m cb gr : Nat} {e : Nat → Nat} {A : Nat → Nat → Int}
theorem row_lap (hok : ∀ x ∈ ml, okM n x) (hE : Emb n m e gr) (hA : ∀ i, i < m → ∀ j, j < m → A i j = LZ ml n (e i) (e j)) {z : Nat → Int} (hz : z gr = 0) {c : Nat → Int} (hc : ∀ i, i < m → z (e i) = c i) {r : Nat} (hr : r < m) : sZ (fun i => A r i * c i) m = lap ml n z (e r) := by
  rw [← lap_eq hok (hE.2.1 r hr).1, hE.2.2.2.1, hz, Int.mul_zero, Int.zero_add]
  exact sZ_congr (fun i hi => by rw [hA r hr i hi, hc i hi])
theorem PD_of (hok : ∀ x ∈ ml, okM n x) (hn : 1 ≤ n) (hj : jnR ml n = 2 ^ n - 1) (hE : Emb n m e gr) (hA : ∀ i, i < m → ∀ j, j < m → A i j = LZ ml n (e i) (e j)) : PD A m := by
  intro c ⟨i, hi, hci⟩
  obtain ⟨z, z1, z2⟩ := hE.2.2.2.2 c
  have e1 : sZ (fun r => c r * sZ (fun i => A r i * c i) m) m = sZ (fun a => z a * lap ml n z a) n := by
    rw [hE.2.2.2.1 (fun a => z a * lap ml n z a), z1, Int.zero_mul, Int.zero_add]
    exact sZ_congr (fun r hr => by rw [row_lap hok hE hA z1 z2 hr, z2 r hr])
  rw [e1]
  rcases int_lt_or 0 (sZ (fun a => z a * lap ml n z a) n) with q | q
  · exact q
  · exfalso
    have hc := conn hok hn hj (fun a ha b hb ht => quad0 q ha hb ht)
    have h1 := hc (e i) (hE.2.1 i hi).1
    have h2 := hc gr hE.1
    rw [z2 i hi] at h1
    exact hci (by rw [h1, ← h2, z1])
theorem dg_zero (a : Nat) : sZ (fun b => LZ ml n a b) n = if a < n then tmZ ml a a else 0 - dgZ ml n a := by
  by_cases h : a < n
  · rw [if_pos h]
    have e1 : sZ (fun b => LZ ml n a b) n = sZ (fun b => -(tmZ ml a b)) n + (dgZ ml n a + tmZ ml a a) := sZ_bump h (fun b _ hb => by unfold LZ; rw [if_neg (fun w => hb w.symm)]) (by unfold LZ; rw [if_pos rfl]; omega)
    have e2 : sZ (fun b => -(tmZ ml a b)) n = (-1) * dgZ ml n a := by unfold dgZ; rw [← sZ_mul]; exact sZ_congr (fun b _ => by omega)
    rw [e1, e2]; omega
  · rw [if_neg h]
    have e2 : sZ (fun b => LZ ml n a b) n = (-1) * dgZ ml n a := by unfold dgZ; rw [← sZ_mul]; exact sZ_congr (fun b hb => by unfold LZ; rw [if_neg (by omega)]; omega)
    rw [e2]; omega
theorem OKA_of (hok : ∀ x ∈ ml, okM n x) (hn : 1 ≤ n) (hm : m ≤ 5) (hj : jnR ml n = 2 ^ n - 1) (hE : Emb n m e gr) (hA : ∀ i, i < m → ∀ j, j < m → A i j = LZ ml n (e i) (e j)) : OKA A m := by
  refine ⟨hm, fun i hi j hj => ?_, PD_of hok hn hj hE hA, fun i hi j hj hij => ?_, fun i hi => ?_⟩
  · rw [hA i hi j hj, hA j hj i hi]
    unfold LZ
    by_cases c : e i = e j
    · rw [if_pos c, if_pos c.symm, c]
    · rw [if_neg c, if_neg (fun w => c w.symm)]
      show -((tmN ml (e i) (e j) : Nat) : Int) = -((tmN ml (e j) (e i) : Nat) : Int)
      rw [tm_sy]
  · rw [hA i hi j hj]
    unfold LZ
    rw [if_neg (fun w => hij (hE.2.2.1 i hi j hj w))]
    show -((tmN ml (e i) (e j) : Nat) : Int) ≤ 0
    omega
  · have h1 := dg_zero (ml := ml) (n := n) (e i)
    rw [if_pos (hE.2.1 i hi).1, hE.2.2.2.1] at h1
    have h2 : sZ (A i) m = sZ (fun j => LZ ml n (e i) (e j)) m := sZ_congr (fun j hj => hA i hi j hj)
    have h3 : LZ ml n (e i) gr = -(tmZ ml (e i) gr) := by unfold LZ; rw [if_neg (hE.2.1 i hi).2]
    have h4 : tmZ ml (e i) (e i) = 0 := by show ((tmN ml (e i) (e i) : Nat) : Int) = 0; rw [tm_self hok]; rfl
    have h5 : (0 : Int) ≤ tmZ ml (e i) gr := by show (0 : Int) ≤ ((tmN ml (e i) gr : Nat) : Int); omega
    rw [h2]; omega
end LAP
