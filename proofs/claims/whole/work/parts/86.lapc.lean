/-! sizes of the equations; how both sides write them down -/
abbrev i1 (a : Nat) (x : Mt) : Int := if inX a x then 1 else 0
theorem tmX_f {a b : Nat} {x : Mt} (h : x.1 ≠ x.2.1) : ovX a b x + drX a b x + ovX b a x = if inX a x ∧ b = foeX a x then 1 else 0 := by
  rw [ovX_f h, drX_f h, ovX_g h]
  by_cases c : inX a x ∧ b = foeX a x
  · rw [if_pos c]
    rcases Nat.lt_trichotomy (pqX a x) (ppX a x) with q | q | q
    · rw [if_pos ⟨⟨c.1, q⟩, c.2⟩, if_neg (fun w => by omega), if_neg (fun w => by omega)]
    · rw [if_neg (fun w => by omega), if_pos ⟨⟨c.1, q.symm⟩, c.2⟩, if_neg (fun w => by omega)]
    · rw [if_neg (fun w => by omega), if_neg (fun w => by omega), if_pos ⟨⟨c.1, q⟩, c.2⟩]
  · rw [if_neg c, if_neg (fun w => c ⟨w.1.1, w.2⟩), if_neg (fun w => c ⟨w.1.1, w.2⟩), if_neg (fun w => c ⟨w.1.1, w.2⟩)]
theorem sZ_pick {P : Prop} [Decidable P] {v : Int} {n k : Nat} (hk : k < n) : sZ (fun b => if P ∧ b = k then v else 0) n = if P then v else 0 := by
  have := sZ_bump (f := fun _ => 0) (g := fun b => if P ∧ b = k then v else 0) (k := k) (d := if P then v else 0) (n := n) hk (fun i _ hi => if_neg (fun w => hi w.2)) (by
    by_cases h : P
    · rw [if_pos ⟨h, rfl⟩, if_pos h]; omega
    · rw [if_neg (fun w => h w.1), if_neg h]; omega)
  rw [this, sZ_zero (f := fun _ => 0) (fun _ _ => rfl)]; omega
theorem tm_cons {a b : Nat} {x : Mt} {l : List Mt} (h : x.1 ≠ x.2.1) : tmZ (x :: l) a b = (if inX a x ∧ b = foeX a x then 1 else 0) + tmZ l a b := by
  have e : tmN (x :: l) a b = (ovX a b x + drX a b x + ovX b a x) + tmN l a b := by
    show (ovX a b x + lsN (ovX a b) l) + (drX a b x + lsN (drX a b) l) + (ovX b a x + lsN (ovX b a) l) = (ovX a b x + drX a b x + ovX b a x) + (lsN (ovX a b) l + lsN (drX a b) l + lsN (ovX b a) l)
    omega
  show ((tmN (x :: l) a b : Nat) : Int) = _
  rw [e, tmX_f h]
  split <;> (push_cast; rfl)
theorem dg_cons {n a : Nat} {x : Mt} {l : List Mt} (h : okM n x) : dgZ (x :: l) n a = i1 a x + dgZ l n a := by
  unfold dgZ
  rw [sZ_congr (fun b _ => tm_cons (a := a) (b := b) (l := l) h.2.2.1), sZ_add, sZ_pick (foeX_lt h)]
theorem dg_nil {n a : Nat} : dgZ [] n a = 0 := sZ_zero (fun _ _ => rfl)
abbrev l1 (a : Nat) (x : Mt) : Int := if inX a x then (ppX a x : Int) - (pqX a x : Int) else 0
theorem ld_cons {n a : Nat} {x : Mt} {l : List Mt} (h : okM n x) : ldZ (x :: l) n a = l1 a x + ldZ l n a := by
  unfold ldZ
  have e : ∀ b, (pt (x :: l) a b : Int) - (pt (x :: l) b a : Int) = (if inX a x ∧ b = foeX a x then (ppX a x : Int) - (pqX a x : Int) else 0) + ((pt l a b : Int) - (pt l b a : Int)) := fun b => by
    have e1 : pt (x :: l) a b = ptX a b x + pt l a b := rfl
    have e2 : pt (x :: l) b a = ptX b a x + pt l b a := rfl
    rw [e1, e2, ptX_f h.2.2.1, ptX_g h.2.2.1]
    by_cases c : inX a x ∧ b = foeX a x
    · rw [if_pos c, if_pos c, if_pos c]; push_cast; omega
    · rw [if_neg c, if_neg c, if_neg c]; push_cast; omega
  rw [sZ_congr (fun b _ => e b), sZ_add, sZ_pick (foeX_lt h)]
theorem ld_nil {n a : Nat} : ldZ [] n a = 0 := sZ_zero (fun _ _ => rfl)
theorem dg_le {n a : Nat} : ∀ {l : List Mt}, (∀ x ∈ l, okM n x) → 0 ≤ dgZ l n a ∧ dgZ l n a ≤ l.length
  | [], _ => by rw [dg_nil]; exact ⟨Int.le_refl _, Int.le_refl _⟩
  | x :: l, h => by
    have ih := dg_le (n := n) (a := a) (l := l) (fun y hy => h y (List.mem_cons_of_mem _ hy))
    rw [dg_cons (h x List.mem_cons_self), List.length_cons]
    unfold i1
    split <;> omega
theorem ld_le {n a : Nat} : ∀ {l : List Mt}, (∀ x ∈ l, okM n x) → ((ldZ l n a).natAbs : Int) ≤ 99 * dgZ l n a
  | [], _ => by rw [dg_nil, ld_nil]; exact Int.le_refl _
  | x :: l, h => by
    have hx := h x List.mem_cons_self
    have ih := ld_le (n := n) (a := a) (l := l) (fun y hy => h y (List.mem_cons_of_mem _ hy))
    have hp := ppX_le (p := a) hx
    rw [dg_cons hx, ld_cons hx]
    unfold i1 l1
    split <;> omega
theorem in_sum {n : Nat} {x : Mt} (h : okM n x) : sZ (fun a => i1 a x) n = 2 := by
  obtain ⟨h1, h2, h3, -⟩ := h
  have e1 : sZ (fun a => i1 a x) n = sZ (fun a => if a = x.2.1 then 1 else 0) n + 1 := sZ_bump h1 (fun i _ hi => by
    show (if x.1 = i ∨ x.2.1 = i then (1 : Int) else 0) = if i = x.2.1 then 1 else 0
    by_cases c : i = x.2.1
    · rw [if_pos (Or.inr c.symm), if_pos c]
    · rw [if_neg (fun w => w.elim (fun w => hi w.symm) (fun w => c w.symm)), if_neg c]) (by
    show (if x.1 = x.1 ∨ x.2.1 = x.1 then (1 : Int) else 0) = (if x.1 = x.2.1 then 1 else 0) + 1
    rw [if_pos (Or.inl rfl), if_neg h3]; rfl)
  have e2 : sZ (fun a => if a = x.2.1 then (1 : Int) else 0) n = sZ (fun _ => 0) n + 1 := sZ_bump h2 (fun i _ hi => if_neg hi) (by rw [if_pos rfl]; rfl)
  rw [e1, e2, sZ_zero (f := fun _ => 0) (fun _ _ => rfl)]; rfl
theorem dg_sum {n : Nat} : ∀ {l : List Mt}, (∀ x ∈ l, okM n x) → sZ (fun a => dgZ l n a) n = 2 * l.length
  | [], _ => by rw [sZ_zero (fun a _ => dg_nil)]; rfl
  | x :: l, h => by
    have ih := dg_sum (n := n) (l := l) (fun y hy => h y (List.mem_cons_of_mem _ hy))
    rw [sZ_congr (fun a _ => dg_cons (a := a) (l := l) (h x List.mem_cons_self)), sZ_add, in_sum (h x List.mem_cons_self), ih, List.length_cons]; push_cast; omega
theorem ld_sum0 {n : Nat} {ml : List Mt} : sZ (fun a => ldZ ml n a) n = 0 := by
  have e : sZ (fun a => ldZ ml n a) n = sZ (fun a => sZ (fun b => (pt ml b a : Int) - (pt ml a b : Int)) n) n := by unfold ldZ; rw [sZ_swap]
  have e2 : sZ (fun a => sZ (fun b => (pt ml b a : Int) - (pt ml a b : Int)) n) n = (-1) * sZ (fun a => ldZ ml n a) n := by
    rw [← sZ_mul]
    refine sZ_congr (fun a _ => ?_)
    unfold ldZ; rw [← sZ_mul]
    exact sZ_congr (fun b _ => by omega)
  omega
section BD
variable {ml : List Mt} {n m cb gr : Nat} {e : Nat → Nat} {A : Nat → Nat → Int}
theorem BdA_of (hok : ∀ x ∈ ml, okM n x) (hm : ml.length ≤ 120) (hE : Emb n m e gr) (hA : ∀ i, i < m → ∀ j, j < m → A i j = LZ ml n (e i) (e j)) (hb : ∀ i, i < m → A i cb = ldZ ml n (e i)) : BdA A m cb := by
  have hd : ∀ i, i < m → A i i = dgZ ml n (e i) := fun i hi => by rw [hA i hi i hi]; exact if_pos rfl
  have hs : sZ (fun i => dgZ ml n (e i)) m ≤ 240 := by
    have := dg_sum hok
    rw [hE.2.2.2.1] at this
    have := (dg_le (a := gr) hok).1
    omega
  refine ⟨fun i hi => ?_, ?_, ?_⟩
  · rw [hd i hi]; have := (dg_le (a := e i) hok).2; omega
  · rw [sZ_congr hd]; exact hs
  · have : sZ (fun i => ((A i cb).natAbs : Int)) m ≤ sZ (fun i => 99 * dgZ ml n (e i)) m := sZ_le (fun i hi => by rw [hb i hi]; exact ld_le hok)
    rw [sZ_mul] at this
    omega
end BD
/-! longs out of ints -/
theorem nI_ofInt (k : Nat) : nI k = Int32.ofInt (k : Int) := (Int32.ofInt_eq_ofNat).symm
theorem l_of {z : Int} (h1 : -(2 ^ 31) ≤ z) (h2 : z < 2 ^ 31) : (Int32.ofInt z).toInt64 = Int64.ofInt z := by
  rw [← Int64.ofInt_int32ToInt, Int32.toInt_ofInt_of_le h1 h2]
theorem sI_ofInt {f : Nat → Int32} {g : Nat → Int} : ∀ {n : Nat}, (∀ i, i < n → f i = Int32.ofInt (g i)) → sI f n = Int32.ofInt (sZ g n)
  | 0, _ => rfl
  | n + 1, h => by unfold sI sZ; rw [sI_ofInt (fun i hi => h i (by omega)), h n (by omega), Int32.ofInt_add]
theorem dgI_l {ml : List Mt} {n a : Nat} (hok : ∀ x ∈ ml, okM n x) (hm : ml.length ≤ 120) : (dgI ml a n).toInt64 = Int64.ofInt (dgZ ml n a) := by
  have h := dg_le (a := a) hok
  have e : dgI ml a n = Int32.ofInt (dgZ ml n a) := sI_ofInt (fun i _ => nI_ofInt _)
  rw [e, l_of (by omega) (by omega)]
theorem ldI_l {ml : List Mt} {n a : Nat} (hok : ∀ x ∈ ml, okM n x) (hm : ml.length ≤ 120) : (ldI ml a n).toInt64 = Int64.ofInt (ldZ ml n a) := by
  have h := dg_le (a := a) hok
  have h2 := ld_le (a := a) hok
  have e : ldI ml a n = Int32.ofInt (ldZ ml n a) := sI_ofInt (fun i _ => by rw [nI_ofInt, nI_ofInt, Int32.ofInt_sub])
  rw [e, l_of (by omega) (by omega)]
theorem tm_le3 {ml : List Mt} {a b : Nat} (hm : ml.length ≤ 120) : tmN ml a b ≤ 360 := by
  have h1 := ov_le ml a b
  have h2 := dr_le ml a b
  have h3 := ov_le ml b a
  show ov ml a b + dr ml a b + ov ml b a ≤ 360
  omega
theorem tmI_l {ml : List Mt} {a b : Nat} (hm : ml.length ≤ 120) : (-(nI (tmN ml a b))).toInt64 = Int64.ofInt (-(tmZ ml a b)) := by
  have h := tm_le3 (a := a) (b := b) hm
  rw [nI_ofInt, ← Int32.ofInt_neg, l_of (by omega) (by omega)]
theorem fl_at {ml : List Mt} {n : Nat} {c : Nat → Int64} (hok : ∀ x ∈ ml, okM n x) (hm : ml.length ≤ 120) (hn1 : 1 ≤ n) (hn : n ≤ 6) : ∀ k, k ≤ n - 1 → ∀ i, i < k → ∀ j, j ≤ n - 1 → flC ml n c k (6 * i + j) = Int64.ofInt (if j < n - 1 then LZ ml n (i + 1) (j + 1) else ldZ ml n (i + 1))
  | 0, _, i, hi, _, _ => absurd hi (Nat.not_lt_zero i)
  | k + 1, hk, i, hi, j, hj => by
    show frW ml n (flC ml n c k) k (6 * i + j) = _
    unfold frW
    by_cases e : i = k
    · subst e
      by_cases e1 : j = n - 1
      · subst e1
        rw [show 6 * i + (n - 1) = i * 6 + n - 1 by omega, pk_uLs, if_neg (by omega)]
        exact ldI_l hok hm
      · rw [pk_uLn (by omega), if_pos (by omega)]
        by_cases e2 : j = i
        · subst e2
          rw [show 6 * j + j = j * 6 + j by omega, pk_uLs]
          unfold LZ; rw [if_pos rfl]; exact dgI_l hok hm
        · rw [pk_uLn (by omega)]
          unfold frP LZ
          rw [if_pos (by omega), if_neg (by omega), show 6 * i + j - 6 * i + 1 = j + 1 by omega]
          exact tmI_l hm
    · rw [pk_uLn (by omega), pk_uLn (by omega)]
      unfold frP
      rw [if_neg (by omega)]
      exact fl_at hok hm hn1 hn k (by omega) i (by omega) j hj
/-- the reference writes meeting by meeting -/
theorem eqU_at {c : Nat → Int64} {a b m i j : Nat} {mo : Int64} (hm : m ≤ 5) (ha : a ≤ m) (hb : b ≤ m) (hab : a ≠ b) (hi : i < m) (hj : j < m) : eqU c a b mo m (6 * i + j) = c (6 * i + j) + Int64.ofInt (if i = a then (if j = a then 1 else if j = b then -1 else 0) else 0) := by
  have z0 : Int64.ofInt 0 = 0 := rfl
  unfold eqU
  by_cases e : a = m
  · rw [if_pos e, if_neg (by omega), z0, Int64.add_zero]
  · rw [if_neg e]
    dsimp only
    rw [pk_uLn (by omega)]
    by_cases e2 : i = a
    · subst e2
      rw [if_pos rfl]
      by_cases e3 : j = i
      · subst e3
        rw [if_pos rfl]
        by_cases e4 : b < m
        · rw [if_pos e4, pk_uLn (by omega), pk_uLs]; rfl
        · rw [if_neg e4, pk_uLs]; rfl
      · rw [if_neg e3]
        by_cases e5 : j = b
        · subst e5
          rw [if_pos hj, pk_uLs, pk_uLn (by omega), if_pos rfl]
          rw [show Int64.ofInt (-1) = -1 from rfl, Int64.sub_eq_add_neg]
        · rw [if_neg e5, z0, Int64.add_zero]
          by_cases e4 : b < m
          · rw [if_pos e4, pk_uLn (by omega), pk_uLn (by omega)]
          · rw [if_neg e4, pk_uLn (by omega)]
    · rw [if_neg e2, z0, Int64.add_zero]
      by_cases e4 : b < m
      · rw [if_pos e4, pk_uLn (by omega), pk_uLn (by omega)]
      · rw [if_neg e4, pk_uLn (by omega)]
theorem eqU_r {c : Nat → Int64} {a b m i : Nat} {mo : Int64} (hm : m ≤ 5) (ha : a ≤ m) (hb : b ≤ m) (hi : i < m) : eqU c a b mo m (6 * i + 5) = c (6 * i + 5) + (if i = a then mo else 0) := by
  unfold eqU
  by_cases e : a = m
  · rw [if_pos e, if_neg (by omega), Int64.add_zero]
  · rw [if_neg e]
    dsimp only
    by_cases e2 : i = a
    · subst e2
      rw [pk_uLs, if_pos rfl]
      by_cases e4 : b < m
      · rw [if_pos e4, pk_uLn (by omega), pk_uLn (by omega)]
      · rw [if_neg e4, pk_uLn (by omega)]
    · rw [pk_uLn (by omega), if_neg e2, Int64.add_zero]
      by_cases e4 : b < m
      · rw [if_pos e4, pk_uLn (by omega), pk_uLn (by omega)]
      · rw [if_neg e4, pk_uLn (by omega)]
theorem LZ_cons {n a b : Nat} {x : Mt} {l : List Mt} (h : okM n x) : LZ (x :: l) n a b = (if a = b then i1 a x else if inX a x ∧ b = foeX a x then -1 else 0) + LZ l n a b := by
  unfold LZ
  by_cases c : a = b
  · rw [if_pos c, if_pos c, if_pos c, dg_cons h]
  · rw [if_neg c, if_neg c, if_neg c, tm_cons h.2.2.1]
    split <;> omega
theorem two_LX {x : Mt} {i j : Nat} (h : x.1 ≠ x.2.1) : (if i = x.1 then (if j = x.1 then (1 : Int) else if j = x.2.1 then -1 else 0) else 0) + (if i = x.2.1 then (if j = x.2.1 then (1 : Int) else if j = x.1 then -1 else 0) else 0) = if i = j then i1 i x else if inX i x ∧ j = foeX i x then -1 else 0 := by
  unfold i1 inX foeX; grind
theorem two_ld {x : Mt} {n i : Nat} (h : okM n x) : (if i = x.1 then (nI x.2.2.1 - nI x.2.2.2).toInt64 else 0) + (if i = x.2.1 then (-(nI x.2.2.1 - nI x.2.2.2)).toInt64 else 0) = Int64.ofInt (l1 i x) := by
  obtain ⟨h1, h2, h3, h4, h5⟩ := h
  have z0 : Int64.ofInt 0 = 0 := rfl
  unfold l1
  by_cases c : i = x.1
  · subst c
    have e2 : ppX x.1 x = x.2.2.1 := if_pos rfl
    have e3 : pqX x.1 x = x.2.2.2 := if_pos rfl
    rw [if_pos rfl, if_neg h3, Int64.add_zero, if_pos (Or.inl rfl), e2, e3, nI_ofInt, nI_ofInt, ← Int32.ofInt_sub, l_of (by omega) (by omega)]
  · rw [if_neg c, Int64.zero_add]
    by_cases d : i = x.2.1
    · subst d
      have e2 : ppX x.2.1 x = x.2.2.2 := if_neg (fun w => c w.symm)
      have e3 : pqX x.2.1 x = x.2.2.1 := if_neg (fun w => c w.symm)
      rw [if_pos rfl, if_pos (Or.inr rfl), e2, e3, nI_ofInt, nI_ofInt, ← Int32.ofInt_sub, ← Int32.ofInt_neg, l_of (by omega) (by omega)]
      congr 1; omega
    · rw [if_neg d, if_neg (fun w => w.elim (fun w => c w.symm) (fun w => d w.symm)), z0]
theorem eq_at {n m : Nat} (hn : n = m + 1) (hm : m ≤ 5) : ∀ {l : List Mt} {c : Nat → Int64}, (∀ x ∈ l, okM n x) → ∀ i, i < m → (∀ j, j < m → eqL m l c (6 * i + j) = c (6 * i + j) + Int64.ofInt (LZ l n i j)) ∧ eqL m l c (6 * i + 5) = c (6 * i + 5) + Int64.ofInt (ldZ l n i)
  | [], c, _, i, hi => by
    have z0 : Int64.ofInt 0 = 0 := rfl
    refine ⟨fun j hj => ?_, ?_⟩
    · have e : LZ [] n i j = 0 := by
        unfold LZ
        by_cases e : i = j
        · rw [if_pos e, dg_nil]
        · rw [if_neg e]; rfl
      rw [e, z0, Int64.add_zero]; rfl
    · rw [ld_nil, z0, Int64.add_zero]; rfl
  | x :: l, c, h, i, hi => by
    have hx := h x List.mem_cons_self
    obtain ⟨h1, h2, h3, -⟩ := hx
    obtain ⟨ih1, ih2⟩ := eq_at hn hm (l := l) (c := eqM m x c) (fun y hy => h y (List.mem_cons_of_mem _ hy)) i hi
    refine ⟨fun j hj => ?_, ?_⟩
    · show eqL m l (eqM m x c) (6 * i + j) = _
      rw [ih1 j hj, LZ_cons (h x List.mem_cons_self), Int64.ofInt_add, ← two_LX h3, Int64.ofInt_add]
      unfold eqM
      rw [eqU_at hm (by omega) (by omega) (fun w => h3 w.symm) hi hj, eqU_at hm (by omega) (by omega) h3 hi hj, Int64.add_assoc, Int64.add_assoc, Int64.add_assoc]
    · show eqL m l (eqM m x c) (6 * i + 5) = _
      rw [ih2, ld_cons (h x List.mem_cons_self), Int64.ofInt_add, ← two_ld (h x List.mem_cons_self)]
      unfold eqM
      rw [eqU_r hm (by omega) (by omega) hi, eqU_r hm (by omega) (by omega) hi, Int64.add_assoc, Int64.add_assoc, Int64.add_assoc]
