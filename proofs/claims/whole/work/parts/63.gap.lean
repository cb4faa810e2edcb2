/-! gaps: elimination without fractions, in rows of 6 -/
def gjE (c : Nat → Int64) (k : Nat) (be : Int64) (i j : Nat) : Int64 := (c (6 * k + k) * c (6 * i + j) - c (6 * i + k) * c (6 * k + j)) / be
/-- rows below I, and of row I the columns below J, are done; the columns up to cb alone -/
def gjP (c : Nat → Int64) (k cb : Nat) (be : Int64) (I J : Nat) : Nat → Int64 := fun x => if (x / 6 < I ∨ (x / 6 = I ∧ x % 6 < J)) ∧ x / 6 ≠ k ∧ x % 6 ≤ cb then gjE c k be (x / 6) (x % 6) else c x
section GJ
variable {c : Nat → Int64} {k cb : Nat} {be : Int64} {I J : Nat}
theorem gj_0 : gjP c k cb be 0 0 = c := funext fun x => if_neg (by omega)
theorem gj_rd {x : Nat} (h : ¬ ((x / 6 < I ∨ (x / 6 = I ∧ x % 6 < J)) ∧ x / 6 ≠ k ∧ x % 6 ≤ cb)) : gjP c k cb be I J x = c x := if_neg h
theorem gj_k : gjP c k cb be k 0 = gjP c k cb be (k + 1) 0 := by
  funext x; unfold gjP
  by_cases h : (x / 6 < k ∨ (x / 6 = k ∧ x % 6 < 0)) ∧ x / 6 ≠ k ∧ x % 6 ≤ cb
  · rw [if_pos h, if_pos (by omega)]
  · rw [if_neg h, if_neg (by omega)]
theorem gj_row : gjP c k cb be I (cb + 1) = gjP c k cb be (I + 1) 0 := by
  funext x; unfold gjP
  by_cases h : (x / 6 < I ∨ (x / 6 = I ∧ x % 6 < cb + 1)) ∧ x / 6 ≠ k ∧ x % 6 ≤ cb
  · rw [if_pos h, if_pos (by omega)]
  · rw [if_neg h, if_neg (by omega)]
theorem gj_step {ix : Nat} {v : Int64} (hix : ix = 6 * I + J) (hJ : J ≤ cb) (hcb : cb < 6) (hI : I ≠ k) (hv : v = gjE c k be I J) : vp_updL (gjP c k cb be I J) ix v = gjP c k cb be I (J + 1) := by
  subst hix; subst hv
  funext x
  by_cases e : x = 6 * I + J
  · subst e
    rw [pk_uLs]; unfold gjP
    rw [if_pos (by omega), show (6 * I + J) / 6 = I by omega, show (6 * I + J) % 6 = J by omega]
  · rw [pk_uLn e]; unfold gjP
    by_cases h : (x / 6 < I ∨ (x / 6 = I ∧ x % 6 < J)) ∧ x / 6 ≠ k ∧ x % 6 ≤ cb
    · rw [if_pos h, if_pos (by omega)]
    · rw [if_neg h, if_neg (by omega)]
end GJ
/-- behind the first k columns: the rows, and the last pivot -/
def gjR (c : Nat → Int64) (m cb : Nat) : Nat → (Nat → Int64) × Int64
  | 0 => (c, 1)
  | k + 1 => (gjP (gjR c m cb k).1 k cb (gjR c m cb k).2 m 0, (gjR c m cb k).1 (6 * k + k))
/-- the class's rows of the equations -/
abbrev tmN (ml : List Mt) (a b : Nat) : Nat := ov ml a b + dr ml a b + ov ml b a
def frP (ml : List Mt) (c : Nat → Int64) (i b : Nat) : Nat → Int64 := fun x => if 6 * i ≤ x ∧ x + 1 < 6 * i + b then (-(nI (tmN ml (i + 1) (x - 6 * i + 1)))).toInt64 else c x
theorem frP_0 {ml : List Mt} {c : Nat → Int64} {i : Nat} : frP ml c i 0 = c := funext fun x => if_neg (by omega)
theorem frP_1 {ml : List Mt} {c : Nat → Int64} {i : Nat} : frP ml c i 0 = frP ml c i (0 + 1) := by
  funext x; unfold frP; rw [if_neg (by omega), if_neg (by omega)]
theorem frP_s {ml : List Mt} {c : Nat → Int64} {i b ix : Nat} {v : Int64} (hb : 0 < b) (hix : ix = 6 * i + b - 1) (hv : v = (-(nI (tmN ml (i + 1) b))).toInt64) : vp_updL (frP ml c i b) ix v = frP ml c i (b + 1) := by
  subst hix; subst hv
  funext x
  by_cases e : x = 6 * i + b - 1
  · subst e
    rw [pk_uLs]; unfold frP
    rw [if_pos (by omega), show 6 * i + b - 1 - 6 * i + 1 = b by omega]
  · rw [pk_uLn e]; unfold frP
    by_cases h : 6 * i ≤ x ∧ x + 1 < 6 * i + b
    · rw [if_pos h, if_pos (by omega)]
    · rw [if_neg h, if_neg (by omega)]
def dgI (ml : List Mt) (a : Nat) (n : Nat) : Int32 := sI (fun b => nI (tmN ml a b)) n
def ldI (ml : List Mt) (a : Nat) (n : Nat) : Int32 := sI (fun b => nI (pt ml a b) - nI (pt ml b a)) n
def frW (ml : List Mt) (n : Nat) (c : Nat → Int64) (i : Nat) : Nat → Int64 := vp_updL (vp_updL (frP ml c i n) (i * 6 + i) (dgI ml (i + 1) n).toInt64) (i * 6 + n - 1) (ldI ml (i + 1) n).toInt64
def flC (ml : List Mt) (n : Nat) (c : Nat → Int64) : Nat → (Nat → Int64)
  | 0 => c
  | i + 1 => frW ml n (flC ml n c i) i
def sL (f : Nat → Int64) : Nat → Int64
  | 0 => 0
  | n + 1 => sL f n + f n
def topF (c : Nat → Int64) (n p : Nat) : Int64 := (nI n).toInt64 * (if p = 0 then 0 else c ((p - 1) * 6 + n - 1)) - sL (fun i => c (i * 6 + n - 1)) (n - 1)
/-- what the class must know of its numbers -/
def GapC (ml : List Mt) (n : Nat) (c : Nat → Int64) : Prop :=
  (∀ k, k ≤ n - 1 → 0 < (gjR (flC ml n c (n - 1)) (n - 1) (n - 1) k).2) ∧
  (∃ B : Nat, 0 < B ∧ B < 2 ^ 63 ∧ (nI n).toInt64 * (gjR (flC ml n c (n - 1)) (n - 1) (n - 1) (n - 1)).2 = lN B) ∧
  ∀ p, p < n → -(2 ^ 63) < (topF (gjR (flC ml n c (n - 1)) (n - 1) (n - 1) (n - 1)).1 n p).toInt
/-- Euclid's steps, counted -/
def euI (X Y s : Nat) : Prop := 0 < Y ∧ Y < 2 ^ 63 ∧ X < 2 ^ 63 ∧ (0 < s → X < Y ∧ X * Y * 2 ^ (s - 1) < 2 ^ 126)
theorem eu_step {X Y s : Nat} (h : euI X Y s) (hX : ¬ X = 0) : euI (Y % X) X (s + 1) := by
  obtain ⟨h1, h2, h3, h4⟩ := h
  have hm : Y % X < X := Nat.mod_lt _ (by omega)
  refine ⟨by omega, h3, by omega, fun _ => ⟨hm, ?_⟩⟩
  show Y % X * X * 2 ^ s < 2 ^ 126
  by_cases hs : s = 0
  · subst hs
    rw [Nat.pow_zero, Nat.mul_one]
    calc Y % X * X ≤ X * X := Nat.mul_le_mul_right _ (Nat.le_of_lt hm)
      _ < 2 ^ 63 * 2 ^ 63 := Nat.mul_lt_mul'' h3 h3
      _ = 2 ^ 126 := by decide
  · obtain ⟨g1, g2⟩ := h4 (by omega)
    have hd : 2 * (Y % X) ≤ Y := by
      have e := Nat.div_add_mod Y X
      have : 1 ≤ Y / X := (Nat.one_le_div_iff (by omega)).mpr (by omega)
      have : X * 1 ≤ X * (Y / X) := Nat.mul_le_mul_left _ this
      omega
    obtain ⟨r, rfl⟩ : ∃ r, s = r + 1 := ⟨s - 1, by omega⟩
    rw [Nat.add_sub_cancel] at g2
    calc Y % X * X * 2 ^ (r + 1) = (2 * (Y % X)) * X * 2 ^ r := by rw [Nat.pow_succ]; grind
      _ ≤ Y * X * 2 ^ r := Nat.mul_le_mul_right _ (Nat.mul_le_mul_right _ hd)
      _ = X * Y * 2 ^ r := by rw [Nat.mul_comm Y X]
      _ < 2 ^ 126 := g2
theorem eu_end {X Y : Nat} (h : euI X Y 130) : X = 0 := by
  obtain ⟨h1, h2, h3, h4⟩ := h
  obtain ⟨g1, g2⟩ := h4 (by decide)
  rcases Nat.eq_zero_or_pos X with q | q
  · exact q
  · exfalso
    have : 1 * 2 ^ 129 ≤ X * Y * 2 ^ 129 := Nat.mul_le_mul_right _ (Nat.mul_pos q h1)
    have e : (2 : Nat) ^ (130 - 1) = 2 ^ 129 := rfl
    rw [e] at g2
    have : (2 : Nat) ^ 126 < 1 * 2 ^ 129 := by decide
    omega
theorem gcd_stepM {X Y : Nat} : Nat.gcd (Y % X) X = Nat.gcd X Y := by rw [← Nat.gcd_rec]
theorem k_labs {x : Int64} (h : -(2 ^ 63) < x.toInt) : (if x < 0 then -x else x) = lN x.toInt.natAbs := by
  have hb := Int64.toInt_lt x
  have h0 : (0 : Int64).toInt = 0 := rfl
  by_cases c : x < 0
  · rw [if_pos c]
    rw [Int64.lt_iff_toInt_lt, h0] at c
    apply Int64.toInt_inj.mp
    rw [pk_lT (by omega), Int64.toInt_neg, Int.bmod_eq_of_le (by omega) (by omega)]
    omega
  · rw [if_neg c]
    rw [Int64.lt_iff_toInt_lt, h0] at c
    apply Int64.toInt_inj.mp
    rw [pk_lT (by omega)]; omega
theorem k_natAbs_lt {x : Int64} (h : -(2 ^ 63) < x.toInt) : x.toInt.natAbs < 2 ^ 63 := by
  have hb := Int64.toInt_lt x; omega
theorem k_lNne {R : Nat} (h0 : 0 < R) (h : R < 2 ^ 63) : ¬ lN R = 0 := fun z => by have := k_lN0 h z; omega
theorem lN_0 : lN 0 = 0 := rfl
/-- the reference's rows of the equations -/
def eqU (c : Nat → Int64) (a b : Nat) (mo : Int64) (m : Nat) : Nat → Int64 :=
  if a = m then c else
    (fun c2 => vp_updL c2 (6 * a + 5) (c2 (6 * a + 5) + mo))
      ((fun c1 => if b < m then vp_updL c1 (6 * a + b) (c1 (6 * a + b) - 1) else c1) (vp_updL c (6 * a + a) (c (6 * a + a) + 1)))
def eqM (m : Nat) (x : Mt) (c : Nat → Int64) : Nat → Int64 := eqU (eqU c x.1 x.2.1 (nI x.2.2.1 - nI x.2.2.2).toInt64 m) x.2.1 x.1 (-(nI x.2.2.1 - nI x.2.2.2)).toInt64 m
def eqL (m : Nat) : List Mt → (Nat → Int64) → (Nat → Int64)
  | [], c => c
  | x :: l, c => eqL m l (eqM m x c)
theorem eqL_app (m : Nat) : ∀ (l r : List Mt) (c : Nat → Int64), eqL m (l ++ r) c = eqL m r (eqL m l c)
  | [], _, _ => rfl
  | x :: l, r, c => eqL_app m l r (eqM m x c)
theorem eqL_take {m : Nat} {ml : List Mt} {k : Nat} (h : k < ml.length) (c : Nat → Int64) : eqL m (ml.take (k + 1)) c = eqM m (mg ml k) (eqL m (ml.take k) c) := by
  rw [mg_take h, eqL_app]; rfl
def zfL (f : Nat → Int64) (i : Nat) : Nat → Int64 := fun k => if k < i then 0 else f k
theorem zfL_0 {f : Nat → Int64} : zfL f 0 = f := funext fun k => if_neg (by omega)
theorem zfL_s {f : Nat → Int64} {i : Nat} : vp_updL (zfL f i) i 0 = zfL f (i + 1) := by
  funext k
  by_cases e : k = i
  · subst e; rw [pk_uLs]; exact (if_pos (by omega)).symm
  · rw [pk_uLn e]; unfold zfL
    by_cases c : k < i
    · rw [if_pos c, if_pos (by omega)]
    · rw [if_neg c, if_neg (by omega)]
def upF (c : Nat → Int64) (n p : Nat) : Int64 := (if p < n - 1 then c (6 * p + 5) else 0) * (nI n).toInt64 - sL (fun k => c (6 * k + 5)) (n - 1)
def GapR (ml : List Mt) (n : Nat) (c : Nat → Int64) : Prop :=
  (∀ k, k ≤ n - 1 → 0 < (gjR (eqL (n - 1) ml (zfL c 36)) (n - 1) 5 k).2) ∧
  (∃ B : Nat, 0 < B ∧ B < 2 ^ 63 ∧ (gjR (eqL (n - 1) ml (zfL c 36)) (n - 1) 5 (n - 1)).2 * (nI n).toInt64 = lN B) ∧
  ∀ p, p < n → -(2 ^ 63) < (upF (gjR (eqL (n - 1) ml (zfL c 36)) (n - 1) 5 (n - 1)).1 n p).toInt
theorem gjR_s {c : Nat → Int64} {m cb k : Nat} : gjR c m cb (k + 1) = (gjP (gjR c m cb k).1 k cb (gjR c m cb k).2 m 0, (gjR c m cb k).1 (6 * k + k)) := rfl
theorem k_lpos {x : Int64} (h : 0 < x) : ¬ x = 0 := fun z => by rw [z] at h; exact absurd h (by decide)
theorem i66 (k : Nat) : k * 6 + k = 6 * k + k := by omega
theorem i6 (i j : Nat) : i * 6 + j = 6 * i + j := by omega
theorem gj_ke {c : Nat → Int64} {k cb : Nat} {be : Int64} {I : Nat} (h : I = k) : gjP c k cb be I 0 = gjP c k cb be (I + 1) 0 := by rw [h]; exact gj_k
theorem gj_row6 {c : Nat → Int64} {k : Nat} {be : Int64} {I : Nat} : gjP c k 5 be I 6 = gjP c k 5 be (I + 1) 0 := gj_row
theorem frP_z {ml : List Mt} {c : Nat → Int64} {i b : Nat} (h : b = 0) : frP ml c i b = frP ml c i (b + 1) := by rw [h]; exact frP_1
theorem k_l0n {x : Int64} (h : 0 ≤ x) : ¬ x < 0 := fun z => by rw [Int64.lt_iff_toInt_lt] at z; rw [Int64.le_iff_toInt_le] at h; omega
theorem k_l0p {x : Int64} (h : ¬ 0 ≤ x) : x < 0 := by rw [Int64.lt_iff_toInt_lt]; rw [Int64.le_iff_toInt_le] at h; omega
theorem k_lle {x : Int64} (h : 0 < x) : ¬ x ≤ 0 := fun z => by rw [Int64.lt_iff_toInt_lt] at h; rw [Int64.le_iff_toInt_le] at z; omega
def gcF (t d : Int64) : Int64 := lN (Nat.gcd t.toInt.natAbs d.toInt.natAbs)
theorem gcF_lN {t : Int64} {B : Nat} (hB : B < 2 ^ 63) : gcF t (lN B) = lN (Nat.gcd t.toInt.natAbs B) := by unfold gcF; rw [pk_lT hB]; rfl
theorem gcd_ne {A B : Nat} (hB0 : 0 < B) (hB63 : B < 2 ^ 63) : ¬ lN (Nat.gcd A B) = 0 := k_lNne (Nat.gcd_pos_of_pos_right _ hB0) (Nat.lt_of_le_of_lt (Nat.gcd_le_right _ hB0) hB63)
theorem k_labs2 {x : Int64} (h : -(2 ^ 63) < x.toInt) : (if 0 < x then x else -x) = lN x.toInt.natAbs := by
  rw [← k_labs h]
  have h0 : (0 : Int64).toInt = 0 := rfl
  by_cases c : x < 0
  · rw [if_pos c, if_neg (fun z => by rw [Int64.lt_iff_toInt_lt] at c z; omega)]
  · rw [if_neg c]
    by_cases d : 0 < x
    · rw [if_pos d]
    · have : x = 0 := Int64.toInt_inj.mp (by rw [Int64.lt_iff_toInt_lt] at c d; omega)
      rw [if_neg d, this]; rfl
