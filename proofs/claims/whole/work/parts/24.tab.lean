/-! the reference's marks and its table -/
theorem sameB_congr {f g : Nat → Int32} {q p : Nat} : ∀ {j : Nat}, (∀ i, i < j → f (5 * q + i) = g (5 * q + i) ∧ f (5 * p + i) = g (5 * p + i)) → sameB f q p j = sameB g q p j
  | 0, _ => rfl
  | j + 1, h => by
    unfold sameB
    rw [sameB_congr (fun i hi => h i (by omega)), (h j (by omega)).1, (h j (by omega)).2]
theorem bitsOf_congr {P Q : Nat → Bool} : ∀ {n : Nat}, (∀ i, i < n → P i = Q i) → bitsOf P n = bitsOf Q n
  | 0, _ => rfl
  | n + 1, h => by
    unfold bitsOf
    rw [bitsOf_congr (fun i hi => h i (by omega)), h n (by omega)]
theorem alk_congr {f g : Nat → Int32} {n p j : Nat} (hp : p < n) (h : ∀ q, q < n → ∀ i, i < j → f (5 * q + i) = g (5 * q + i)) : alk f n p j = alk g n p j :=
  bitsOf_congr (fun q hq => sameB_congr (fun i hi => ⟨h q hq i hi, h p hp i hi⟩))
theorem alk_upd {f : Nat → Int32} {n p j q : Nat} {v : Int32} (hp : p < n) (hj : j < 5) : alk (upd f (5 * q + j) v) n p j = alk f n p j :=
  alk_congr hp (fun a _ i hi => pk_un (by omega))
theorem GM_upd {rr : Int32 × Int32 × Int32} {ml : List Mt} {ks : List Nat} {n : Nat} {f : Nat → Int32} {v j q : Nat} {x : Int32} (h : GM rr ml ks n f v) (hj : v < j) (hj5 : j < 5) : GM rr ml ks n (upd f (5 * q + j) x) v := by
  refine ⟨fun p hp => ?_, fun i hi p hp => ?_⟩
  · rw [pk_un (by omega)]; exact h.1 p hp
  · rw [pk_un (by omega), h.2 i hi p hp]
    congr 1
    exact (alk_congr hp (fun a _ b hb => pk_un (by omega))).symm
theorem GM.next {rr : Int32 × Int32 × Int32} {ml : List Mt} {ks : List Nat} {n : Nat} {f : Nat → Int32} {v : Nat} (h : GM rr ml ks n f v) (h2 : ∀ q, q < n → f (5 * q + (v + 1)) = numF rr ml (ks.getD v 0) q (alk f n q (v + 1))) : GM rr ml ks n f (v + 1) := by
  refine ⟨h.1, fun j hj p hp => ?_⟩
  by_cases e : j = v
  · subst e; exact h2 p hp
  · exact h.2 j (by omega) p hp
abbrev sc1 (rr : Int32 × Int32 × Int32) (ml : List Mt) (n p : Nat) : Nat := bitsOf (fun q => decide (scF rr ml q 1023 = scF rr ml p 1023)) n
theorem alk1 {rr : Int32 × Int32 × Int32} {ml : List Mt} {ks : List Nat} {n v p : Nat} {f : Nat → Int32} (h : GM rr ml ks n f v) (hp : p < n) : alk f n p 1 = sc1 rr ml n p :=
  bitsOf_congr (fun q hq => by
    show (true && decide (f (5 * q + 0) = f (5 * p + 0))) = _
    rw [Bool.true_and, Nat.add_zero, Nat.add_zero, h.1 q hq, h.1 p hp])
