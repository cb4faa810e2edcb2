/-! heaps: both sides number the same -/
theorem updN_eq {f g : Nat → Nat} (h : f = g) {k v w : Nat} (hv : v = w) : updN f k v = updN g k w := by rw [h, hv]
theorem wd_X {a b : Nat} {x : Mt} (h : x.1 ≠ x.2.1) : 0 < ovX a b x + drX a b x ↔ (x.1 = a ∧ x.2.1 = b ∧ x.2.2.2 ≤ x.2.2.1) ∨ (x.2.1 = a ∧ x.1 = b ∧ x.2.2.1 ≤ x.2.2.2) := by
  unfold ovX drX; grind
theorem wd_pos {ml : List Mt} {a b : Nat} : 0 < ov ml a b + dr ml a b ↔ ∃ x ∈ ml, 0 < ovX a b x + drX a b x := by
  constructor
  · intro h
    rcases (show 0 < ov ml a b ∨ 0 < dr ml a b by omega) with q | q
    · obtain ⟨x, hx, h2⟩ := lsN_pos.mp q; exact ⟨x, hx, by omega⟩
    · obtain ⟨x, hx, h2⟩ := lsN_pos.mp q; exact ⟨x, hx, by omega⟩
  · intro ⟨x, hx, h⟩
    rcases (show 0 < ovX a b x ∨ 0 < drX a b x by omega) with q | q
    · have : 0 < ov ml a b := lsN_pos.mpr ⟨x, hx, q⟩; omega
    · have : 0 < dr ml a b := lsN_pos.mpr ⟨x, hx, q⟩; omega
theorem rA_bit {ml : List Mt} {a : Nat} : ∀ {n j : Nat}, (rA ml a n).testBit j = true ↔ j = a ∨ (j < n ∧ 0 < ov ml a j + dr ml a j)
  | 0, j => by
    show (2 ^ a).testBit j = true ↔ _
    rw [Nat.testBit_two_pow, decide_eq_true_eq]; omega
  | n + 1, j => by
    unfold rA
    by_cases c : 0 < ov ml a n + dr ml a n
    · rw [if_pos c, Nat.testBit_or, Bool.or_eq_true, rA_bit (n := n), Nat.testBit_two_pow, decide_eq_true_eq]
      constructor
      · rintro ((h | h) | h)
        · exact Or.inl h
        · exact Or.inr ⟨by omega, h.2⟩
        · subst h; exact Or.inr ⟨by omega, c⟩
      · rintro (h | h)
        · exact Or.inl (Or.inl h)
        · by_cases e : j = n
          · exact Or.inr e.symm
          · exact Or.inl (Or.inr ⟨by omega, h.2⟩)
    · rw [if_neg c, rA_bit (n := n)]
      constructor
      · rintro (h | h)
        · exact Or.inl h
        · exact Or.inr ⟨by omega, h.2⟩
      · rintro (h | h)
        · exact Or.inl h
        · by_cases e : j = n
          · rw [e] at h; exact absurd h.2 c
          · exact Or.inr ⟨by omega, h.2⟩
theorem rcA_bit {x : Mt} {R : Nat → Nat} {a j : Nat} : (rcA x R a).testBit j = true ↔ (R a).testBit j = true ∨ (x.1 = a ∧ x.2.1 = j ∧ x.2.2.2 ≤ x.2.2.1) := by
  unfold rcA
  by_cases c : x.2.2.2 ≤ x.2.2.1
  · rw [if_pos c]
    by_cases e : a = x.1
    · subst e; rw [un_s, Nat.testBit_or, Bool.or_eq_true, Nat.testBit_two_pow, decide_eq_true_eq]
      exact ⟨fun h => h.elim Or.inl (fun h => Or.inr ⟨rfl, h, c⟩), fun h => h.elim Or.inl (fun h => Or.inr h.2.1)⟩
    · rw [un_n e]
      exact ⟨Or.inl, fun h => h.elim id (fun h => absurd h.1.symm e)⟩
  · rw [if_neg c]
    exact ⟨Or.inl, fun h => h.elim id (fun h => absurd h.2.2 c)⟩
theorem rcB_bit {x : Mt} {R : Nat → Nat} {a j : Nat} : (rcB x R a).testBit j = true ↔ (R a).testBit j = true ∨ (x.2.1 = a ∧ x.1 = j ∧ x.2.2.1 ≤ x.2.2.2) := by
  unfold rcB
  by_cases c : x.2.2.1 ≤ x.2.2.2
  · rw [if_pos c]
    by_cases e : a = x.2.1
    · subst e; rw [un_s, Nat.testBit_or, Bool.or_eq_true, Nat.testBit_two_pow, decide_eq_true_eq]
      exact ⟨fun h => h.elim Or.inl (fun h => Or.inr ⟨rfl, h, c⟩), fun h => h.elim Or.inl (fun h => Or.inr h.2.1)⟩
    · rw [un_n e]
      exact ⟨Or.inl, fun h => h.elim id (fun h => absurd h.1.symm e)⟩
  · rw [if_neg c]
    exact ⟨Or.inl, fun h => h.elim id (fun h => absurd h.2.2 c)⟩
theorem rcF_bit {a j : Nat} : ∀ {l : List Mt} {R : Nat → Nat}, (∀ x ∈ l, x.1 ≠ x.2.1) → ((rcF l R a).testBit j = true ↔ (R a).testBit j = true ∨ ∃ x ∈ l, 0 < ovX a j x + drX a j x)
  | [], R, _ => ⟨Or.inl, fun h => h.elim id (fun ⟨x, hx, _⟩ => by cases hx)⟩
  | x :: l, R, h => by
    show (rcF l (rcB x (rcA x R)) a).testBit j = true ↔ _
    rw [rcF_bit (l := l) (fun y hy => h y (List.mem_cons_of_mem _ hy)), rcB_bit, rcA_bit]
    have hx := wd_X (a := a) (b := j) (h x List.mem_cons_self)
    constructor
    · rintro (((q | q) | q) | ⟨y, hy, q⟩)
      · exact Or.inl q
      · exact Or.inr ⟨x, List.mem_cons_self, hx.mpr (Or.inl q)⟩
      · exact Or.inr ⟨x, List.mem_cons_self, hx.mpr (Or.inr q)⟩
      · exact Or.inr ⟨y, List.mem_cons_of_mem _ hy, q⟩
    · rintro (q | ⟨y, hy, q⟩)
      · exact Or.inl (Or.inl (Or.inl q))
      · rcases List.mem_cons.mp hy with rfl | hy
        · rcases hx.mp q with q | q
          · exact Or.inl (Or.inl (Or.inr q))
          · exact Or.inl (Or.inr q)
        · exact Or.inr ⟨y, hy, q⟩
theorem rA_rc {ml : List Mt} {n : Nat} (hok : ∀ x ∈ ml, okM n x) : (fun a => rA ml a n) = rcF ml rc0 := by
  funext a
  apply Nat.eq_of_testBit_eq
  intro j
  apply Bool.eq_iff_iff.mpr
  rw [rA_bit, rcF_bit (fun x hx => (hok x hx).2.2.1), wd_pos]
  show _ ↔ (2 ^ a).testBit j = true ∨ _
  rw [Nat.testBit_two_pow, decide_eq_true_eq]
  constructor
  · rintro (h | ⟨-, h⟩)
    · exact Or.inl h.symm
    · exact Or.inr h
  · rintro (h | ⟨x, hx, h⟩)
    · exact Or.inl h.symm
    · obtain ⟨h1, h2, h3, -⟩ := hok x hx
      rcases (wd_X h3).mp h with q | q
      · exact Or.inr ⟨by omega, x, hx, h⟩
      · exact Or.inr ⟨by omega, x, hx, h⟩
/-- the closure by Warshall's way is transitive -/
theorem wA_bit {b : Nat} {R : Nat → Nat} : ∀ {m x j : Nat}, (wA b R m x).testBit j = true ↔ (R x).testBit j = true ∨ (x < m ∧ (R x).testBit b = true ∧ (R b).testBit j = true)
  | 0, x, j => ⟨Or.inl, fun h => h.elim id (fun h => absurd h.1 (Nat.not_lt_zero x))⟩
  | m + 1, x, j => by
    unfold wA wStep
    by_cases c : (wA b R m m).testBit b = true
    · rw [if_pos c]
      have c' : (R m).testBit b = true := by
        rcases wA_bit.mp c with q | q
        · exact q
        · exact q.2.1
      by_cases e : x = m
      · subst e
        rw [un_s, Nat.testBit_or, Bool.or_eq_true, wA_bit (m := x), wA_bit (m := x)]
        constructor
        · rintro ((q | q) | (q | q))
          · exact Or.inl q
          · exact absurd q.1 (by omega)
          · exact Or.inr ⟨by omega, c', q⟩
          · exact Or.inr ⟨by omega, c', q.2.2⟩
        · rintro (q | q)
          · exact Or.inl (Or.inl q)
          · exact Or.inr (Or.inl q.2.2)
      · rw [un_n e, wA_bit (m := m)]
        constructor
        · rintro (q | q)
          · exact Or.inl q
          · exact Or.inr ⟨by omega, q.2⟩
        · rintro (q | q)
          · exact Or.inl q
          · exact Or.inr ⟨by omega, q.2⟩
    · rw [if_neg c, wA_bit (m := m)]
      have c' : ¬ (R m).testBit b = true := fun z => c (wA_bit.mpr (Or.inl z))
      constructor
      · rintro (q | q)
        · exact Or.inl q
        · exact Or.inr ⟨by omega, q.2⟩
      · rintro (q | q)
        · exact Or.inl q
        · by_cases e : x = m
          · rw [e] at q; exact absurd q.2.1 c'
          · exact Or.inr ⟨by omega, q.2⟩
/-- reached by way of those below b alone -/
def trB (R : Nat → Nat) (n b : Nat) : Prop := ∀ x y z, x < n → y < b → (R x).testBit y = true → (R y).testBit z = true → (R x).testBit z = true
theorem wB_tr {R : Nat → Nat} {n : Nat} (hn : ∀ x, x < n → ∀ j, (R x).testBit j = true → j < n) : ∀ b, b ≤ n → trB (wB n R b) n b ∧ ∀ x, x < n → ∀ j, (wB n R b x).testBit j = true → j < n
  | 0, _ => ⟨fun x y z _ hy => absurd hy (Nat.not_lt_zero y), hn⟩
  | b + 1, hb => by
    obtain ⟨h1, h2⟩ := wB_tr hn b (by omega)
    show trB (wA b (wB n R b) n) n (b + 1) ∧ _
    refine ⟨fun x y z hx hy hxy hyz => ?_, fun x hx j hj => ?_⟩
    · rw [wA_bit] at hxy hyz ⊢
      have hyn : y < n := by omega
      -- over b itself, or below it
      by_cases e : y = b
      · subst e
        have hxy' : (wB n R y x).testBit y = true := by
          rcases hxy with q | q
          · exact q
          · exact q.2.1
        have hyz' : (wB n R y y).testBit z = true := by
          rcases hyz with q | q
          · exact q
          · exact q.2.2
        exact Or.inr ⟨hx, hxy', hyz'⟩
      · have hyb : y < b := by omega
        rcases hxy with q | q
        · rcases hyz with r | r
          · exact Or.inl (h1 x y z hx hyb q r)
          · exact Or.inr ⟨hx, h1 x y b hx hyb q r.2.1, r.2.2⟩
        · rcases hyz with r | r
          · exact Or.inr ⟨hx, q.2.1, h1 b y z (by omega) hyb q.2.2 r⟩
          · exact Or.inr ⟨hx, q.2.1, r.2.2⟩
    · rcases wA_bit.mp hj with q | q
      · exact h2 x hx j q
      · exact h2 b (by omega) j q.2.2
def TrR (R : Nat → Nat) (n : Nat) : Prop := (∀ x y z, x < n → y < n → (R x).testBit y = true → (R y).testBit z = true → (R x).testBit z = true) ∧ (∀ x, x < n → ∀ j, (R x).testBit j = true → j < n) ∧ selfB R n
theorem RW_tr {ml : List Mt} {n : Nat} (hok : ∀ x ∈ ml, okM n x) : TrR (RW ml n) n := by
  have hn : ∀ x, x < n → ∀ j, (rcF ml rc0 x).testBit j = true → j < n := fun x hx j hj => by
    rcases (rcF_bit (fun x hx => (hok x hx).2.2.1)).mp hj with q | ⟨y, hy, q⟩
    · rw [Nat.testBit_two_pow, decide_eq_true_eq] at q; omega
    · obtain ⟨h1, h2, h3, -⟩ := hok y hy
      rcases (wd_X h3).mp q with r | r <;> omega
  obtain ⟨h1, h2⟩ := wB_tr hn n (Nat.le_refl _)
  exact ⟨fun x y z hx hy => h1 x y z hx hy, h2, self_wB (self_rc ml rc0 self_0) n⟩
theorem ldB_t {R : Nat → Nat} {B p : Nat} : ∀ {m : Nat}, ldB R B p m = true ↔ ∃ o, o < m ∧ (R o).testBit p = true ∧ ¬ (R p).testBit o = true ∧ ¬ B.testBit o = true
  | 0 => ⟨fun h => (by cases h), fun ⟨o, ho, _⟩ => absurd ho (Nat.not_lt_zero o)⟩
  | m + 1 => by
    unfold ldB
    rw [Bool.or_eq_true, ldB_t (m := m), Bool.and_eq_true, Bool.and_eq_true]
    constructor
    · rintro (⟨o, h1, h2⟩ | ⟨⟨h1, h2⟩, h3⟩)
      · exact ⟨o, by omega, h2⟩
      · exact ⟨m, by omega, h1, fun z => (by rw [z] at h2; cases h2), fun z => (by rw [z] at h3; cases h3)⟩
    · rintro ⟨o, h1, h2, h3, h4⟩
      by_cases e : o = m
      · subst e; right; exact ⟨⟨h2, by rw [Bool.eq_false_iff.mpr h3]; rfl⟩, by rw [Bool.eq_false_iff.mpr h4]; rfl⟩
      · exact Or.inl ⟨o, by omega, h2, h3, h4⟩
theorem frB_t {R : Nat → Nat} {h : Nat → Int32} {p : Nat} : ∀ {m : Nat}, frB R h p m = true ↔ ∀ q, q < m → ¬ (h q < 0 ∧ (R q).testBit p = true ∧ ¬ (R p).testBit q = true)
  | 0 => ⟨fun _ q hq => absurd hq (Nat.not_lt_zero q), fun _ => rfl⟩
  | m + 1 => by
    unfold frB
    rw [Bool.and_eq_true, frB_t (m := m)]
    constructor
    · intro ⟨h1, h2⟩ q hq ⟨z1, z2, z3⟩
      by_cases e : q = m
      · subst e; rw [decide_eq_true z1, z2, Bool.eq_false_iff.mpr z3] at h2; cases h2
      · exact h1 q (by omega) ⟨z1, z2, z3⟩
    · intro H
      refine ⟨fun q hq => H q (by omega), ?_⟩
      have := H m (by omega)
      by_cases z1 : h m < 0
      · by_cases z2 : (R m).testBit p = true
        · by_cases z3 : (R p).testBit m = true
          · rw [z3]; simp
          · exact absurd ⟨z1, z2, z3⟩ this
        · rw [Bool.eq_false_iff.mpr z2]; simp
      · rw [decide_eq_false z1]; simp
/-- while not all have numbers, one is led by none such -/
theorem lu_some {R : Nat → Nat} {n B : Nat} (hn : n ≤ 10) (hR : TrR R n) (hB : B < 2 ^ n) (hB2 : ¬ B = 2 ^ n - 1) : ∃ p, srch (luP R n B) 0 n = some p := by
  cases e : srch (luP R n B) 0 n with
  | some p => exact ⟨p, rfl⟩
  | none =>
    exfalso
    have hno := srch_none e
    obtain ⟨p0, hp0, hb0⟩ := free_of (show B < 2 ^ n - 1 by omega)
    -- the one that reaches most
    have big : ∀ k p, p < n → ¬ B.testBit p = true → k ≤ pcF (R p) 10 → False := fun k => by
      have fuel : ∀ f, ∀ k p, 11 - k ≤ f → p < n → ¬ B.testBit p = true → k ≤ pcF (R p) 10 → False := fun f => by
        induction f with
        | zero =>
          intro k p hf hp hb hk
          have := pcF_le (R p) 10
          omega
        | succ f ih =>
          intro k p hf hp hb hk
          have h1 := hno p (Nat.zero_le _) (by omega)
          unfold luP at h1
          rw [Bool.eq_false_iff.mpr hb] at h1
          have h2 : ldB R B p n = true := by cases z : ldB R B p n with
            | true => rfl
            | false => rw [z] at h1; cases h1
          obtain ⟨o, ho, r1, r2, r3⟩ := ldB_t.mp h2
          have hs : sub2 (R p) (R o) := fun i hi => hR.1 o p i ho hp r1 hi
          have := pc_lt hs r2 (hR.2.2 o ho) 10 (by omega)
          exact ih (k + 1) o (by omega) ho r3 (by omega)
      exact fun p => fuel 11 k p (by omega)
    exact big 0 p0 hp0 hb0 (Nat.zero_le _)
theorem luP_nx {R : Nat → Nat} {n B : Nat} {h : Nat → Int32} (hBh : ∀ q, q < n → (B.testBit q = true ↔ ¬ h q < 0)) {p : Nat} (hp : p < n) : luP R n B p = nxP R n h p := by
  unfold luP nxP
  apply Bool.eq_iff_iff.mpr
  rw [Bool.and_eq_true, Bool.and_eq_true, decide_eq_true_eq, frB_t]
  constructor
  · intro ⟨h1, h2⟩
    refine ⟨Classical.byContradiction (fun z => ?_), fun q hq ⟨z1, z2, z3⟩ => ?_⟩
    · rw [(hBh p hp).mpr z] at h1; cases h1
    · rw [ldB_t.mpr ⟨q, hq, z2, z3, fun w => (hBh q hq).mp w z1⟩] at h2; cases h2
  · intro ⟨h1, h2⟩
    refine ⟨?_, ?_⟩
    · cases z : B.testBit p with
      | true => exact absurd h1 ((hBh p hp).mp z)
      | false => rfl
    · cases z : ldB R B p n with
      | false => rfl
      | true =>
        obtain ⟨o, ho, r1, r2, r3⟩ := ldB_t.mp z
        exact absurd ⟨Classical.byContradiction (fun w => r3 ((hBh o ho).mpr w)), r1, r2⟩ (h2 o ho)
theorem srch_congr' {P Q : Nat → Bool} {c : Nat} (h : ∀ k, k < c → P k = Q k) : srch P 0 c = srch Q 0 c := srch_congr (fun k _ h2 => h k (by omega))
/-- both numberings go together -/
theorem sp_hp {R : Nat → Nat} {n : Nat} (hn : n ≤ 10) (hR : TrR R n) : ∀ (f B m : Nat) (h h' : Nat → Int32), B < 2 ^ n → n ≤ pcF B 10 + f → m + f ≤ 100 → (∀ q, q < n → (B.testBit q = true ↔ ¬ h' q < 0)) → (∀ q, q < n → B.testBit q = true → h q = h' q) → (spF R n f B m h).1 = (hpF R n (f + 1) h' m).2 ∧ ∀ q, q < n → (spF R n f B m h).2 q = (hpF R n (f + 1) h' m).1 q := by
  intro f
  have stop : ∀ (f B m : Nat) (h h' : Nat → Int32), B = 2 ^ n - 1 → (∀ q, q < n → (B.testBit q = true ↔ ¬ h' q < 0)) → (∀ q, q < n → B.testBit q = true → h q = h' q) → (spF R n f B m h).1 = (hpF R n (f + 1) h' m).2 ∧ ∀ q, q < n → (spF R n f B m h).2 q = (hpF R n (f + 1) h' m).1 q := by
    intro f B m h h' e h1 h2
    have hno : srch (nxP R n h') 0 n = none := by
      cases z : srch (nxP R n h') 0 n with
      | none => rfl
      | some p =>
        obtain ⟨-, p2, p3, -⟩ := srch_some z
        have hp : p < n := by omega
        unfold nxP at p3
        rw [Bool.and_eq_true, decide_eq_true_eq] at p3
        exact absurd p3.1 ((h1 p hp).mp (by rw [e]; exact all_bit hp))
    rw [spF_stop e, hpF_none hno]
    exact ⟨rfl, fun q hq => h2 q hq (by rw [e]; exact all_bit hq)⟩
  induction f with
  | zero =>
    intro B m h h' hB hf hm h1 h2
    refine stop 0 B m h h' ?_ h1 h2
    refine sub2_pc hn (by have := Nat.two_pow_pos n; omega) (sub2_all hB) ?_
    rw [pcF_all n (by omega)]; omega
  | succ f ih =>
    intro B m h h' hB hf hm h1 h2
    by_cases e : B = 2 ^ n - 1
    · exact stop (f + 1) B m h h' e h1 h2
    · obtain ⟨p, hp⟩ := lu_some hn hR hB e
      have hp' : srch (nxP R n h') 0 n = some p := by rw [← hp]; exact srch_congr' (fun k hk => (luP_nx h1 hk).symm)
      have hlu : luF R n B = p := by unfold luF; rw [hp]; rfl
      obtain ⟨-, q2, q3, -⟩ := srch_some hp
      have hpn : p < n := by omega
      have hpB : ¬ B.testBit p = true := fun z => by unfold luP at q3; rw [z] at q3; cases q3
      rw [spF_go e, hpF_some hp', hlu]
      have hmk : ∀ q, q < n → ((bitsOf (mkB R p) n).testBit q = true ↔ (R p).testBit q = true ∧ (R q).testBit p = true) := fun q hq => by
        rw [bitsOf_bit, Bool.and_eq_true, decide_eq_true_eq]
        unfold mkB
        rw [Bool.and_eq_true]
        exact ⟨fun z => ⟨z.2.2, z.2.1⟩, fun z => ⟨hq, z.2, z.1⟩⟩
      have hB' : (B ||| bitsOf (mkB R p) n) < 2 ^ n := or_2n hB (bitsOf_lt _ n)
      have hpc : pcF B 10 < pcF (B ||| bitsOf (mkB R p) n) 10 := pc_lt (sub2_or_l _ _) hpB (by rw [Nat.testBit_or, (hmk p hpn).mpr ⟨hR.2.2 p hpn, hR.2.2 p hpn⟩, Bool.or_true]) 10 (by omega)
      refine ih (B ||| bitsOf (mkB R p) n) (m + 1) _ _ hB' (by omega) (by omega) (fun q hq => ?_) (fun q hq hb => ?_)
      · rw [Nat.testBit_or, Bool.or_eq_true, hmk q hq, h1 q hq]
        unfold hset
        by_cases c : (R p).testBit q = true ∧ (R q).testBit p = true
        · rw [if_pos ⟨hq, c⟩]; exact ⟨fun _ => nI_pos (by omega), fun _ => Or.inr c⟩
        · rw [if_neg (fun z => c z.2)]; exact ⟨fun z => z.elim id (fun z => absurd z c), Or.inl⟩
      · unfold hset
        by_cases c : (R p).testBit q = true ∧ (R q).testBit p = true
        · rw [if_pos ⟨hq, c⟩, if_pos ⟨hq, c⟩]
        · rw [if_neg (fun z => c z.2), if_neg (fun z => c z.2)]
          rw [Nat.testBit_or, Bool.or_eq_true, hmk q hq] at hb
          exact h2 q hq (hb.elim id (fun z => absurd z c))
theorem heaps_eq {ml : List Mt} {n : Nat} (hn : n ≤ 10) (hok : ∀ x ∈ ml, okM n x) {h h' : Nat → Int32} (hh : ∀ x, x < n → h' x = -1) : (spF (wB n (fun a => rA ml a n) n) n n 0 0 h).1 = (hpF (RW ml n) n (n + 1) h' 0).2 ∧ ∀ q, q < n → (spF (wB n (fun a => rA ml a n) n) n n 0 0 h).2 q = (hpF (RW ml n) n (n + 1) h' 0).1 q := by
  rw [rA_rc hok]
  exact sp_hp hn (RW_tr hok) n 0 0 h h' (Nat.two_pow_pos n) (by omega) (by omega) (fun q hq => by rw [Nat.zero_testBit, hh q hq]; exact ⟨fun z => (by cases z), fun z => absurd (by decide) z⟩) (fun q hq hb => by rw [Nat.zero_testBit] at hb; cases hb)
theorem ans_heaps {ml : List Mt} {n : Nat} {r r' : Int32} (hn : n ≤ 10) (hok : ∀ x ∈ ml, okM n x) (h : ∃ h0, r = nI (spF (wB n (fun a => rA ml a n) n) n n 0 0 h0).1) (h' : ∃ h0, (∀ x, x < n → h0 x = -1) ∧ r' = nI (hpF (RW ml n) n (n + 1) h0 0).2) : r = r' := by
  obtain ⟨h0, e⟩ := h
  obtain ⟨h1, g, e'⟩ := h'
  rw [e, e', (heaps_eq hn hok g).1]
theorem ans_heap {ml : List Mt} {n : Nat} {x r r' : Int32} (hn : n ≤ 10) (hok : ∀ x ∈ ml, okM n x) (h : ∃ h0, r = if kIn x n then (spF (wB n (fun a => rA ml a n) n) n n 0 0 h0).2 x.toInt.toNat else -1) (h' : ∃ h0, (∀ x, x < n → h0 x = -1) ∧ r' = if kIn x n then (hpF (RW ml n) n (n + 1) h0 0).1 x.toInt.toNat else -1) : r = r' := by
  obtain ⟨h0, e⟩ := h
  obtain ⟨h1, g, e'⟩ := h'
  rw [e, e']
  by_cases c : kIn x n
  · rw [if_pos c, if_pos c]
    have c1 := c.1
    have c2 := c.2
    exact (heaps_eq hn hok g).2 _ (by omega)
  · rw [if_neg c, if_neg c]
