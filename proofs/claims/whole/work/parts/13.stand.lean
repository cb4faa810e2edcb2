/-! the class's sums by pairs -/
def sI (f : Nat → Int32) : Nat → Int32
  | 0 => 0
  | n + 1 => sI f n + f n
theorem sI_congr {f g : Nat → Int32} : ∀ {n : Nat}, (∀ i, i < n → f i = g i) → sI f n = sI g n
  | 0, _ => rfl
  | n + 1, h => by unfold sI; rw [sI_congr (fun i hi => h i (by omega)), h n (by omega)]
def wrF (rr : Int32 × Int32 × Int32) (ml : List Mt) (a b : Nat) : Int32 := rr.1 * nI (ov ml a b) + rr.2.1 * nI (dr ml a b) + rr.2.2 * nI (ov ml b a)
def cmp3 (x y : Int32) : Int32 := if x < y then -1 else if x = y then 0 else 1
/-- the first row that tells, from row j on, c rows -/
def cmpK (ky : Nat → Int32) (x y : Nat) : Nat → Nat → Int32
  | _, 0 => 0
  | j, c + 1 => if cmp3 (ky (j * 10 + x)) (ky (j * 10 + y)) = 0 then cmpK ky x y (j + 1) c else cmp3 (ky (j * 10 + x)) (ky (j * 10 + y))
theorem cmpK_congr {f g : Nat → Int32} {x y : Nat} : ∀ {c j : Nat}, (∀ i, i < j + c → f (i * 10 + x) = g (i * 10 + x) ∧ f (i * 10 + y) = g (i * 10 + y)) → cmpK f x y j c = cmpK g x y j c
  | 0, _, _ => rfl
  | c + 1, j, h => by
    unfold cmpK
    rw [(h j (by omega)).1, (h j (by omega)).2, cmpK_congr (c := c) (j := j + 1) (fun i hi => h i (by omega))]
def shF (rr : Int32 × Int32 × Int32) (ml : List Mt) (ky : Nat → Int32) (kind a b row : Nat) : Int32 :=
  if kind = 0 then nI (ov ml a b)
  else if kind = 1 then nI (pt ml a b) - nI (pt ml b a)
  else if kind = 2 then nI (pt ml a b)
  else if kind = 3 then (nI (ov ml a b) + nI (dr ml a b) + nI (ov ml b a)) * ky b
  else if kind = 4 then (nI 2 * nI (ov ml a b) + nI (dr ml a b)) * ky b
  else if cmpK ky a b 0 row = 0 then wrF rr ml a b else 0
theorem shF_congr {rr : Int32 × Int32 × Int32} {ml : List Mt} {f g : Nat → Int32} {kind a b row : Nat} (ha : a < 10) (hb : b < 10) (hr : 1 ≤ row) (h : ∀ i, i < row * 10 → f i = g i) : shF rr ml f kind a b row = shF rr ml g kind a b row := by
  unfold shF
  rw [h b (by omega), cmpK_congr (c := row) (j := 0) (fun i hi => ⟨h _ (by omega), h _ (by omega)⟩)]
def KM (rr : Int32 × Int32 × Int32) (ml : List Mt) (ks : List Nat) (n : Nat) (ky : Nat → Int32) (v : Nat) : Prop :=
  (∀ a, a < n → ky a = sI (wrF rr ml a) n) ∧ ∀ j, j < v → ∀ a, a < n → ky ((j + 1) * 10 + a) = sI (fun b => shF rr ml ky (ks.getD j 0) a b (j + 1)) n
theorem KM_next {rr : Int32 × Int32 × Int32} {ml : List Mt} {ks : List Nat} {n v : Nat} {f g : Nat → Int32} (hn : n ≤ 10) (h : KM rr ml ks n f v) (h1 : ∀ a, a < n → g ((v + 1) * 10 + a) = sI (fun b => shF rr ml f (ks.getD v 0) a b (v + 1)) n) (h2 : ∀ i, (i < (v + 1) * 10 ∨ (v + 1) * 10 + n ≤ i) → g i = f i) : KM rr ml ks n g (v + 1) := by
  refine ⟨fun a ha => by rw [h2 _ (by omega)]; exact h.1 a ha, fun j hj a ha => ?_⟩
  have e : ∀ b, b < n → shF rr ml f (ks.getD j 0) a b (j + 1) = shF rr ml g (ks.getD j 0) a b (j + 1) := fun b hb => shF_congr (by omega) (by omega) (by omega) (fun i hi => (h2 i (by omega)).symm)
  rw [← sI_congr e]
  by_cases q : j = v
  · subst q; exact h1 a ha
  · rw [h2 _ (by omega)]; exact h.2 j (by omega) a ha
theorem k_minle {m c : Nat} (hm : m ≤ c) (hc : c < 2 ^ 31) : (if nI c < nI m then nI c else nI m) = nI m := if_neg (fun z => by have := k_lt (by omega) (by omega) z; omega)
theorem k_max0 {m : Nat} (hm : m < 2 ^ 31) : (if nI 0 < nI m then nI m else nI 0) = nI m := by
  by_cases h : m = 0
  · subst h; rw [if_neg (by decide)]
  · rw [if_pos (nI_lt (by omega) hm)]
theorem k_nlt {x y : Int32} (h : y ≤ x) : ¬ x < y := fun z => by rw [Int32.lt_iff_toInt_lt] at z; rw [Int32.le_iff_toInt_le] at h; omega
theorem k_nle {x y : Int32} (h : ¬ y ≤ x) : x < y := by rw [Int32.lt_iff_toInt_lt]; rw [Int32.le_iff_toInt_le] at h; omega
