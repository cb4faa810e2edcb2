/-! the class's acts: what each needs to be undone -/
abbrev PutD (pa : Nat → Int32) (e z : Nat) (v0 v1 v2 v3 v4 v5 : Int32) (pa' : Nat → Int32) (e' z' : Int32) : Prop :=
  pa' = upd (upd (upd (upd (upd (upd pa (e * 6) v0) ((e * 6) + 1) v1) ((e * 6) + 2) v2) ((e * 6) + 3) v3) ((e * 6) + 4) v4) ((e * 6) + 5) v5 ∧ e' = nI (if e = 39 then 0 else e + 1) ∧ z' = nI (if z < 40 then z + 1 else 40)
abbrev NoC (pa : Nat → Int32) (e z : Nat) (pa' : Nat → Int32) (e' z' : Int32) : Prop := pa' = pa ∧ e' = nI e ∧ z' = nI z
abbrev NoM (p w d t : Nat → Int32) (c ch : Int32) (p' w' d' t' : Nat → Int32) (c' ch' : Int32) : Prop := p' = p ∧ w' = w ∧ d' = d ∧ t' = t ∧ c' = c ∧ ch' = ch
theorem okM_up {n m : Nat} {x : Mt} (h : okM n x) (hm : n ≤ m) : okM m x := ⟨Nat.lt_of_lt_of_le h.1 hm, Nat.lt_of_lt_of_le h.2.1 hm, h.2.2⟩
theorem okM_mk10 {n : Nat} {ml : List Mt} {a b p q : Nat} (hn : n ≤ 10) (hc : meetOK n ml (nI a) (nI b) (nI p) (nI q)) (ha : a < n) (hb : b < n) (hp : p < 100) (hq : q < 100) : okM 10 (a, b, p, q) :=
  ⟨by show a < 10; omega, by show b < 10; omega, fun z => hc.2.2.2.1 (by rw [show a = b from z]), by show p ≤ 99; omega, by show q ≤ 99; omega⟩
/-- an act, by its six parts -/
abbrev Ac : Type := Nat → Int32
def AP (pa : Nat → Int32) (e : Nat) (al : List Ac) : Prop := ∀ i a, al[i]? = some a → ∀ j, j < 6 → pa (((e + 39 - i) % 40) * 6 + j) = a j
/-- the act a, undone in the state t, gives u -/
def UA (a : Ac) (t u : Tt) : Prop :=
  (a 0 = 0 ∧ t = (u.1 + 1, u.2)) ∨
  (a 0 = 1 ∧ ∃ m, a 1 = nI m ∧ m ≤ t.2.1.length ∧ u = (t.1, t.2.1.take (t.2.1.length - m), t.2.2)) ∨
  (a 0 = 2 ∧ ∃ k x, a 1 = nI k ∧ k ≤ t.2.1.length ∧ t.2.1.length < 120 ∧ okM 10 x ∧ a 2 = nI x.1 ∧ a 3 = nI x.2.1 ∧ a 4 = nI x.2.2.1 ∧ a 5 = nI x.2.2.2 ∧ u = (t.1, t.2.1.insertIdx k x, t.2.2)) ∨
  (a 0 = 3 ∧ ∃ p q, a 1 = nI p ∧ a 2 = nI q ∧ p < 10 ∧ q < 10 ∧ p ≠ q ∧ t = (u.1, u.2.1, u.2.2.1 ++ [(p, q)], u.2.2.2)) ∨
  (a 0 = 4 ∧ u = (t.1, t.2.1, t.2.2.1, t.2.2.2.1, (a 1, a 2, a 3))) ∨
  (a 0 = 5 ∧ ∃ k, t = (u.1, u.2.1, u.2.2.1, u.2.2.2.1 ++ [k], u.2.2.2.2)) ∨
  (a 0 = 6 ∧ a 1 = nI u.2.2.2.1.length ∧ u.2.2.2.1.length ≤ 4 ∧ (∀ j, j < u.2.2.2.1.length → a (2 + j) = nI (u.2.2.2.1.getD j 0)) ∧ t = (u.1, u.2.1, u.2.2.1, [], u.2.2.2.2))
/-- the kinds of ties, in the class's row -/
def KD (f : Nat → Int32) (ks : List Nat) : Prop := ∀ j, j < ks.length → f j = nI (ks.getD j 0)
theorem KD_app {f : Nat → Int32} {ks : List Nat} {k : Nat} (h : KD f ks) : KD (upd f ks.length (nI k)) (ks ++ [k]) := by
  intro j hj
  rw [List.length_append] at hj
  simp only [List.length_cons, List.length_nil, Nat.zero_add] at hj
  by_cases e : j = ks.length
  · subst e; rw [pk_us]; simp [List.getD]
  · rw [pk_un e, gD_app (by omega)]; exact h j (by omega)
theorem KD_pre {f : Nat → Int32} {ks ls : List Nat} (h : KD f (ks ++ ls)) : KD f ks := by
  intro j hj
  have := h j (by rw [List.length_append]; omega)
  rwa [gD_app hj] at this
theorem lsP_app (g : Nat × Nat → Nat) : ∀ (l r : List (Nat × Nat)), lsP g (l ++ r) = lsP g l + lsP g r
  | [], r => by simp [lsP]
  | x :: l, r => by simp [lsP, lsP_app g l r]; omega
/-- what is to come, one more -/
theorem TC_up {g : Nat → Int32} {nx : List (Nat × Nat)} {a b : Nat} (h : TC g nx) (ha : a < 10) (hb : b < 10) (hab : a ≠ b) : TC (upd (upd g ((a * 10) + b) ((g ((a * 10) + b)) + nI 1)) ((b * 10) + a) (((upd g ((a * 10) + b) ((g ((a * 10) + b)) + nI 1)) ((b * 10) + a)) + nI 1)) (nx ++ [(a, b)]) := by
  intro i j hi hj
  have e0 : gm (nx ++ [(a, b)]) i j = gm nx i j + gmX i j (a, b) := by
    show lsP _ _ = _; rw [lsP_app]; rfl
  rw [e0]
  unfold gmX
  by_cases e : i = a ∧ j = b
  · obtain ⟨rfl, rfl⟩ := e
    rw [pk_un (by omega), pk_us, h i j hi hj, nI_add, if_pos (Or.inl ⟨rfl, rfl⟩)]
  · by_cases e2 : i = b ∧ j = a
    · obtain ⟨rfl, rfl⟩ := e2
      rw [pk_us, pk_un (by omega), h i j hi hj, nI_add, if_pos (Or.inr ⟨rfl, rfl⟩)]
    · rw [pk_un (by omega), pk_un (by omega), h i j hi hj, if_neg (by dsimp only; omega), Nat.add_zero]
theorem nI_m1 (x : Nat) : nI (x + 1) + (-1) = nI x := pk_m1 x
theorem TC_down {g : Nat → Int32} {nx : List (Nat × Nat)} {a b : Nat} (h : TC g (nx ++ [(a, b)])) (ha : a < 10) (hb : b < 10) (hab : a ≠ b) : TC (upd (upd g ((a * 10) + b) ((g ((a * 10) + b)) + (-1))) ((b * 10) + a) (((upd g ((a * 10) + b) ((g ((a * 10) + b)) + (-1))) ((b * 10) + a)) + (-1))) nx := by
  intro i j hi hj
  have e0 : gm (nx ++ [(a, b)]) i j = gm nx i j + gmX i j (a, b) := by
    show lsP _ _ = _; rw [lsP_app]; rfl
  have h0 := h i j hi hj
  rw [e0] at h0
  unfold gmX at h0
  by_cases e : i = a ∧ j = b
  · obtain ⟨rfl, rfl⟩ := e
    rw [if_pos (Or.inl ⟨rfl, rfl⟩)] at h0
    rw [pk_un (by omega), pk_us, h0, nI_m1]
  · by_cases e2 : i = b ∧ j = a
    · obtain ⟨rfl, rfl⟩ := e2
      rw [if_pos (Or.inr ⟨rfl, rfl⟩)] at h0
      rw [pk_us, pk_un (by omega), h0, nI_m1]
    · rw [if_neg (by dsimp only; omega), Nat.add_zero] at h0
      rw [pk_un (by omega), pk_un (by omega), h0]
/-- the class's state -/
def CS (pl : Int32) (p w d pt : Nat → Int32) (c : Int32) (g : Nat → Int32) (c8 : Int32) (kf : Nat → Int32) (kc w1 w2 w3 : Int32) (t : Tt) : Prop :=
  pl = nI t.1 ∧ MR p w d pt t.2.1 ∧ c = nI t.2.1.length ∧ TC g t.2.2.1 ∧ c8 = nI t.2.2.1.length ∧ KD kf t.2.2.2.1 ∧ kc = nI t.2.2.2.1.length ∧ w1 = t.2.2.2.2.1 ∧ w2 = t.2.2.2.2.2.1 ∧ w3 = t.2.2.2.2.2.2
theorem UA_congr {a b : Ac} {t u : Tt} (h : ∀ j, j < 6 → b j = a j) (hU : UA a t u) : UA b t u := by
  unfold UA at hU ⊢
  rw [h 0 (by omega), h 1 (by omega), h 2 (by omega), h 3 (by omega), h 4 (by omega), h 5 (by omega)]
  rcases hU with hU | hU | hU | hU | hU | hU | ⟨h0, h1, h2, h3, h4⟩
  · exact Or.inl hU
  · exact Or.inr (Or.inl hU)
  · exact Or.inr (Or.inr (Or.inl hU))
  · exact Or.inr (Or.inr (Or.inr (Or.inl hU)))
  · exact Or.inr (Or.inr (Or.inr (Or.inr (Or.inl hU))))
  · exact Or.inr (Or.inr (Or.inr (Or.inr (Or.inr (Or.inl hU)))))
  · exact Or.inr (Or.inr (Or.inr (Or.inr (Or.inr (Or.inr ⟨h0, h1, h2, fun j hj => by rw [h (2 + j) (by omega)]; exact h3 j hj, h4⟩)))))
theorem lpF_step {e i : Nat} (he : e < 40) (hi : i < 40) : lpF ((e + 40 - i) % 40) = (e + 40 - (i + 1)) % 40 := by
  unfold lpF; split <;> omega
theorem okL_app {n : Nat} {ml : List Mt} {x : Mt} (h : okL n ml) (hx : okM n x) (hl : ml.length < 120) : okL n (ml ++ [x]) :=
  ⟨h.1, by rw [List.length_append]; show ml.length + 1 ≤ 120; omega, fun y hy => by
    rcases List.mem_append.mp hy with q | q
    · exact h.2.2 y q
    · rw [List.mem_singleton.mp q]; exact hx⟩
/-- four bytes come on the class's tape -/
def tb4 (f : Nat → Int32) (z : Nat) (x : Int32) : Nat → Int32 := upd (upd (upd (upd f z ((x >>> (nI 24 &&& 31)).toInt8.toInt32)) (z + 1) ((x >>> (nI 16 &&& 31)).toInt8.toInt32)) ((z + 1) + 1) ((x >>> (nI 8 &&& 31)).toInt8.toInt32)) (((z + 1) + 1) + 1) ((x >>> (nI 0 &&& 31)).toInt8.toInt32)
theorem shL_le {n : Nat} {tp : Nat → Int32} {N : Nat} : ∀ (f k : Nat) (ml : List Mt), ml.length ≤ (shL n tp N f k ml).length
  | 0, _, _ => Nat.le_refl _
  | f + 1, k, ml => by
    unfold shL
    split
    · refine Nat.le_trans ?_ (shL_le f (k + 4) _)
      rw [List.length_append]; omega
    · exact Nat.le_refl _
theorem shL_ub {n : Nat} {tp : Nat → Int32} {N : Nat} : ∀ (f k : Nat) (ml : List Mt), ml.length ≤ 120 → (shL n tp N f k ml).length ≤ 120
  | 0, _, _, h => h
  | f + 1, k, ml, h => by
    unfold shL
    split
    · rename_i c
      refine shL_ub f (k + 4) _ ?_
      have := c.2.1
      rw [List.length_append]; show ml.length + 1 ≤ 120; omega
    · exact h
theorem VST_okL {t : Tt} (h : VST t) : okL 10 t.2.1 := ⟨Nat.le_refl _, h.2.2.1, fun x hx => okM_up (h.2.2.2.1 x hx) h.2.1⟩
