/-! searches, sets, and what is to come -/
/-- the first of c numbers from i on -/
def srch (P : Nat → Bool) : Nat → Nat → Option Nat
  | _, 0 => none
  | i, c + 1 => if P i then some i else srch P (i + 1) c
theorem srch_some {P : Nat → Bool} : ∀ {c i j : Nat}, srch P i c = some j → i ≤ j ∧ j < i + c ∧ P j = true ∧ ∀ k, i ≤ k → k < j → P k = false
  | 0, i, j, h => by cases h
  | c + 1, i, j, h => by
    unfold srch at h
    by_cases hp : P i = true
    · rw [if_pos hp] at h; cases h
      exact ⟨Nat.le_refl _, by omega, hp, fun k h1 h2 => absurd h1 (by omega)⟩
    · rw [if_neg hp] at h
      obtain ⟨h1, h2, h3, h4⟩ := srch_some h
      refine ⟨by omega, by omega, h3, fun k hk hk2 => ?_⟩
      by_cases e : k = i
      · rw [e]; exact Bool.eq_false_iff.mpr hp
      · exact h4 k (by omega) hk2
theorem srch_none {P : Nat → Bool} : ∀ {c i : Nat}, srch P i c = none → ∀ k, i ≤ k → k < i + c → P k = false
  | 0, i, _, k, h1, h2 => absurd h1 (by omega)
  | c + 1, i, h, k, h1, h2 => by
    unfold srch at h
    by_cases hp : P i = true
    · rw [if_pos hp] at h; cases h
    · rw [if_neg hp] at h
      by_cases e : k = i
      · rw [e]; exact Bool.eq_false_iff.mpr hp
      · exact srch_none h k (by omega) (by omega)
theorem srch_yes {P : Nat → Bool} {c i : Nat} (h : P i = true) : srch P i (c + 1) = some i := by unfold srch; rw [if_pos h]
theorem srch_no {P : Nat → Bool} {c i : Nat} (h : ¬ P i = true) : srch P i (c + 1) = srch P (i + 1) c := by
  show (if _ then _ else _) = _; rw [if_neg h]
theorem srch_congr {P Q : Nat → Bool} : ∀ {c i : Nat}, (∀ k, i ≤ k → k < i + c → P k = Q k) → srch P i c = srch Q i c
  | 0, _, _ => rfl
  | c + 1, i, h => by
    unfold srch
    rw [h i (Nat.le_refl _) (by omega), srch_congr (fun k h1 h2 => h k (by omega) (by omega))]
/-- a set without one of it -/
theorem tb_sub {S i : Nat} (h : S.testBit i = true) (j : Nat) : (S - 2 ^ i).testBit j = (S.testBit j && !decide (i = j)) := by
  have hodd : S / 2 ^ i % 2 = 1 := by rw [Nat.testBit_eq_decide_div_mod_eq] at h; exact of_decide_eq_true h
  obtain ⟨a, ha⟩ : ∃ a, S / 2 ^ i = 2 * a + 1 := ⟨S / 2 ^ i / 2, by omega⟩
  have hb : S % 2 ^ i < 2 ^ i := Nat.mod_lt _ (Nat.two_pow_pos i)
  have hS : S = 2 ^ i * (2 * a + 1) + S % 2 ^ i := by rw [← ha]; exact (Nat.div_add_mod S (2 ^ i)).symm
  have hT : S - 2 ^ i = 2 ^ i * (2 * a) + S % 2 ^ i := by rw [Nat.mul_add, Nat.mul_one] at hS; omega
  have e1 : S.testBit j = (2 ^ i * (2 * a + 1) + S % 2 ^ i).testBit j := by rw [← hS]
  rw [hT, e1, Nat.testBit_two_pow_mul_add _ hb, Nat.testBit_two_pow_mul_add _ hb]
  by_cases hj : j < i
  · rw [if_pos hj, if_pos hj, decide_eq_false (by omega)]; simp
  · rw [if_neg hj, if_neg hj]
    by_cases e : i = j
    · subst e; simp [Nat.testBit_zero]
    · obtain ⟨k, hk⟩ : ∃ k, j - i = k + 1 := ⟨j - i - 1, by omega⟩
      rw [hk, Nat.testBit_succ, Nat.testBit_succ, decide_eq_false e, show (2 * a) / 2 = a by omega, show (2 * a + 1) / 2 = a by omega]; simp
theorem k_clr (S i : Nat) (hi : i < 31) (hS : S < 2 ^ 31) : nI S &&& (nI (2 ^ i) ^^^ (-1)) = nI (if S.testBit i = true then S - 2 ^ i else S) := by
  apply Int32.toBitVec_inj.mp
  apply BitVec.eq_of_getLsbD_eq
  intro j hj
  have e1 : ∀ z : Nat, (nI z).toBitVec.getLsbD j = z.testBit j := by
    intro z
    unfold nI
    rw [show (Int32.ofNat z).toBitVec = BitVec.ofNat 32 z from rfl, BitVec.getLsbD_ofNat]
    simp [hj]
  have e2 : (-1 : Int32).toBitVec.getLsbD j = true := by
    rw [show (-1 : Int32).toBitVec = BitVec.allOnes 32 by decide, BitVec.getLsbD_allOnes]; simp [hj]
  show ((nI S).toBitVec &&& ((nI (2 ^ i)).toBitVec ^^^ (-1 : Int32).toBitVec)).getLsbD j = _
  rw [BitVec.getLsbD_and, BitVec.getLsbD_xor, e1, e1, e1, e2, Nat.testBit_two_pow]
  by_cases hb : S.testBit i = true
  · rw [if_pos hb, tb_sub hb]; cases decide (i = j) <;> simp
  · rw [if_neg hb]
    by_cases e : i = j
    · subst e; rw [Bool.eq_false_iff.mpr hb]; rfl
    · simp [e]
/-- what is to come of a pair -/
def gmX (a b : Nat) (x : Nat × Nat) : Nat := if (x.1 = a ∧ x.2 = b) ∨ (x.1 = b ∧ x.2 = a) then 1 else 0
def lsP (g : Nat × Nat → Nat) : List (Nat × Nat) → Nat
  | [] => 0
  | x :: l => g x + lsP g l
abbrev gm (nx : List (Nat × Nat)) (a b : Nat) : Nat := lsP (gmX a b) nx
def TC (g : Nat → Int32) (nx : List (Nat × Nat)) : Prop := ∀ a b, a < 10 → b < 10 → g (a * 10 + b) = nI (gm nx a b)
abbrev hpI (ml : List Mt) (n p : Nat) : Int32 := sI (fun o => nI 2 * nI (ov ml p o) + nI (dr ml p o)) n
abbrev gwI (nx : List (Nat × Nat)) (n p S : Nat) : Int32 := sI (fun o => if S.testBit o = true then nI (gm nx p o) else 0) n
/-! rows by sets -/
abbrev caI (ml : List Mt) (n p B : Nat) : Int32 := sI (fun o => if B.testBit o = true then nI (ov ml o p) else 0) n
def mnT (v w : Int32) (r : Int32 × Int32) : Int32 × Int32 := if v < r.1 then (v, w) else if v = r.1 then (r.1, r.2 + w) else r
def mnS (ok : Nat → Bool) (v w : Nat → Int32) : Nat → Int32 × Int32
  | 0 => (nI 2147483647, nI 0)
  | k + 1 => if ok k = true then mnT (v k) (w k) (mnS ok v w k) else mnS ok v w k
theorem mnS_congr {ok : Nat → Bool} {v w v' w' : Nat → Int32} : ∀ {n : Nat}, (∀ k, k < n → ok k = true → v k = v' k ∧ w k = w' k) → mnS ok v w n = mnS ok v' w' n
  | 0, _ => rfl
  | n + 1, h => by
    unfold mnS
    rw [mnS_congr (fun k hk => h k (by omega))]
    by_cases e : ok n = true
    · rw [if_pos e, if_pos e, (h n (by omega) e).1, (h n (by omega) e).2]
    · rw [if_neg e, if_neg e]
/-- the same from 121 on: a cost counts meetings -/
def mnB (ok : Nat → Bool) (v w : Nat → Int32) : Nat → Int32 × Int32
  | 0 => (nI 121, nI 0)
  | k + 1 => if ok k = true then mnT (v k) (w k) (mnB ok v w k) else mnB ok v w k
theorem mnB_congr {ok : Nat → Bool} {v w v' w' : Nat → Int32} : ∀ {n : Nat}, (∀ k, k < n → ok k = true → v k = v' k ∧ w k = w' k) → mnB ok v w n = mnB ok v' w' n
  | 0, _ => rfl
  | n + 1, h => by
    unfold mnB
    rw [mnB_congr (fun k hk => h k (by omega))]
    by_cases e : ok n = true
    · rw [if_pos e, if_pos e, (h n (by omega) e).1, (h n (by omega) e).2]
    · rw [if_neg e, if_neg e]
abbrev rwS (ml : List Mt) (n : Nat) (least many : Nat → Int32) (S : Nat) : Int32 × Int32 := mnB (fun k => S.testBit k) (fun k => least (S - 2 ^ k) + caI ml n k (S - 2 ^ k)) (fun k => many (S - 2 ^ k)) n
def RowOK (ml : List Mt) (n : Nat) (least many : Nat → Int32) (m : Nat) : Prop := least 0 = nI 0 ∧ many 0 = nI 1 ∧ ∀ S, 0 < S → S < m → least S = (rwS ml n least many S).1 ∧ many S = (rwS ml n least many S).2
theorem two_le_of_bit {S k : Nat} (h : S.testBit k = true) : 2 ^ k ≤ S := Nat.ge_two_pow_of_testBit h
theorem RowOK_next {ml : List Mt} {n S : Nat} {least many : Nat → Int32} (hS : 0 < S) (h : RowOK ml n least many S) : RowOK ml n (upd least S (rwS ml n least many S).1) (upd many S (rwS ml n least many S).2) (S + 1) := by
  have cg : ∀ T, T ≤ S → rwS ml n (upd least S (rwS ml n least many S).1) (upd many S (rwS ml n least many S).2) T = rwS ml n least many T := by
    intro T hT
    refine mnB_congr (fun k _ hb => ?_)
    have h1 := two_le_of_bit hb
    have h2 := Nat.two_pow_pos k
    rw [pk_un (by omega), pk_un (by omega)]; exact ⟨rfl, rfl⟩
  refine ⟨by rw [pk_un (by omega)]; exact h.1, by rw [pk_un (by omega)]; exact h.2.1, fun T h0 hT => ?_⟩
  rw [cg T (by omega)]
  by_cases e : T = S
  · subst e; rw [pk_us, pk_us]; exact ⟨rfl, rfl⟩
  · rw [pk_un e, pk_un e]; exact h.2.2 T h0 (by omega)
theorem pow_le_1024 {n : Nat} (h : n ≤ 10) : 2 ^ n ≤ 1024 := Nat.pow_le_pow_right (by decide) h
theorem pow_lt_1024 {n : Nat} (h : n < 10) : 2 ^ n ≤ 512 := Nat.pow_le_pow_right (by decide) (by omega : n ≤ 9)
/-- the head of the least row of a set -/
def hdF (ml : List Mt) (n : Nat) (least : Nat → Int32) (S : Nat) : Nat := (srch (fun h => S.testBit h && decide (least (S - 2 ^ h) + caI ml n h (S - 2 ^ h) = least S)) 0 n).getD 0
def clr (S i : Nat) : Nat := if S.testBit i = true then S - 2 ^ i else S
def rwF (hd : Nat → Nat) (all : Nat) : Nat → Int64 × Nat
  | 0 => (0, all)
  | k + 1 => ((rwF hd all k).1 * 10 + (nI (hd (rwF hd all k).2)).toInt64, clr (rwF hd all k).2 (hd (rwF hd all k).2))
theorem clr_le (S i : Nat) : clr S i ≤ S := by
  unfold clr; split
  · exact Nat.sub_le _ _
  · exact Nat.le_refl _
theorem rwF_le (hd : Nat → Nat) (all : Nat) : ∀ k, (rwF hd all k).2 ≤ all
  | 0 => Nat.le_refl _
  | k + 1 => Nat.le_trans (clr_le _ _) (rwF_le hd all k)
theorem hdF_lt {ml : List Mt} {n S : Nat} {least : Nat → Int32} (hn : 0 < n) : hdF ml n least S < n := by
  unfold hdF
  cases h : srch (fun h => S.testBit h && decide (least (S - 2 ^ h) + caI ml n h (S - 2 ^ h) = least S)) 0 n with
  | none => exact hn
  | some j => have := (srch_some h).2.1; show j < n; omega
/-- the cost of a row of digits -/
def coF (cst : Nat → Nat → Int32) (n : Nat) : Nat → Nat → Nat → Int32 → Int32
  | 0, R, _, s => if R = 0 then s else -1
  | k + 1, R, B, s => if n ≤ R % 10 ∨ B.testBit (R % 10) = true then -1 else coF cst n k (R / 10) (B ||| 2 ^ (R % 10)) (s + cst (R % 10) B)
theorem mn_ne {v w lo wy lo2 wy2 : Int32} (h : (lo2, wy2) = if v < lo then (v, nI 0) else (lo, wy)) (hn : ¬ v = lo2) : (lo2, wy2) = mnT v w (lo, wy) := by
  unfold mnT
  by_cases c : v < lo
  · rw [if_pos c] at h; cases h; exact absurd rfl hn
  · rw [if_neg c] at h ⊢; cases h
    rw [if_neg hn]
theorem mn_eq {v w lo wy lo2 wy2 : Int32} (h : (lo2, wy2) = if v < lo then (v, nI 0) else (lo, wy)) (he : v = lo2) : (lo2, wy2 + w) = mnT v w (lo, wy) := by
  unfold mnT
  by_cases c : v < lo
  · rw [if_pos c] at h ⊢; cases h; rw [nI_0, Int32.zero_add]
  · rw [if_neg c] at h ⊢; cases h
    rw [if_pos he]
theorem k_lNn {R : Nat} (h : R < 2 ^ 63) : ¬ lN R < 0 := fun z => by
  rw [Int64.lt_iff_toInt_lt, pk_lT h] at z; have : (0 : Int64).toInt = 0 := rfl; omega
theorem k_lNt {R : Nat} (h : R < 2 ^ 63) : (lN R).toInt.toNat = R := by rw [pk_lT h]; rfl
theorem k_lN0 {R : Nat} (h : R < 2 ^ 63) (z : lN R = 0) : R = 0 := by
  have := pk_lT h; rw [z] at this; have : (0 : Int64).toInt = 0 := rfl; omega
