/-! walks: counted forward and backward -/
theorem sI_bump {f g : Nat → Int32} {k : Nat} {d : Int32} : ∀ {n : Nat}, k < n → (∀ i, i < n → i ≠ k → g i = f i) → g k = f k + d → sI g n = sI f n + d
  | 0, hk, _, _ => absurd hk (Nat.not_lt_zero k)
  | n + 1, hk, h, hd => by
    unfold sI
    by_cases e : k = n
    · subst e; rw [sI_congr (fun i hi => h i (by omega) (by omega)), hd]; exact (Int32.add_assoc _ _ _).symm
    · rw [sI_bump (n := n) (by omega) (fun i hi => h i (by omega)) hd, h n (by omega) (fun z => e z.symm), Int32.add_assoc, Int32.add_comm d, ← Int32.add_assoc]
theorem wkS_s {bt : Nat → Nat} {W : Nat → Int32} {s p : Nat} : ∀ n, wkS bt W s p n = (if s = 2 ^ p then nI 1 else nI 0) + sI (fun q => if ¬ q = p ∧ s.testBit q = true ∧ (bt q).testBit p = true then W (1024 * q + (s - 2 ^ p)) else nI 0) n
  | 0 => by show _ = _ + (0 : Int32); rw [Int32.add_zero]; rfl
  | n + 1 => by
    unfold wkS sI
    rw [wkS_s n, Int32.add_assoc]
theorem idx10 {T U p q : Nat} (hp : p < 10) (hq : q < 10) : T * 10 + p = U * 10 + q ↔ T = U ∧ p = q := by omega
theorem gnS_at {op S : Nat} {m : Int32} {W : Nat → Int32} {T p : Nat} (hp : p < 10) : ∀ {k : Nat}, k ≤ 10 → gnS op S m W k (T * 10 + p) = W (T * 10 + p) + (if p < k ∧ op.testBit p = true ∧ T = S ||| 2 ^ p then m else 0)
  | 0, _ => by show _ = _ + (if p < 0 ∧ _ then m else 0); rw [if_neg (fun z => by omega), Int32.add_zero]; rfl
  | k + 1, hk => by
    have ih := fun T p hp => gnS_at (op := op) (S := S) (m := m) (W := W) (T := T) (p := p) hp (k := k) (by omega)
    unfold gnS
    by_cases c : op.testBit k = true
    · rw [if_pos c]
      by_cases e : T * 10 + p = (S ||| 2 ^ k) * 10 + k
      · obtain ⟨e1, e2⟩ := (idx10 hp (by omega)).mp e
        subst e2; subst e1
        rw [pk_us, ih _ _ hp, if_neg (fun z => by omega), if_pos ⟨by omega, c, rfl⟩, Int32.add_zero]
      · rw [pk_un e, ih _ _ hp]
        by_cases d : p < k ∧ op.testBit p = true ∧ T = S ||| 2 ^ p
        · rw [if_pos d, if_pos ⟨by omega, d.2⟩]
        · rw [if_neg d, if_neg (fun z => ?_)]
          by_cases e2 : p = k
          · subst e2; exact e (by rw [z.2.2])
          · exact d ⟨by omega, z.2⟩
    · rw [if_neg c, ih _ _ hp]
      by_cases d : p < k ∧ op.testBit p = true ∧ T = S ||| 2 ^ p
      · rw [if_pos d, if_pos ⟨by omega, d.2⟩]
      · rw [if_neg d, if_neg (fun z => ?_)]
        by_cases e2 : p = k
        · subst e2; exact c z.2.1
        · exact d ⟨by omega, z.2⟩
theorem gnF_at {bt : Nat → Nat} {n S la T p : Nat} {W : Nat → Int32} (hn : n ≤ 10) (hp : p < n) : gnF bt n S la W (T * 10 + p) = W (T * 10 + p) + (if (anF (bt la) S).testBit p = true ∧ T = S ||| 2 ^ p then W (S * 10 + la) else 0) := by
  unfold gnF
  by_cases c : W (S * 10 + la) = 0 ∨ anF (bt la) S = 0
  · rw [if_pos c]
    rcases c with c | c
    · rw [c]; split <;> exact (Int32.add_zero _).symm
    · rw [if_neg (fun z => ?_), Int32.add_zero]
      have := z.1
      rw [show anF (bt la) S = 0 from c, Nat.zero_testBit] at this; cases this
  · rw [if_neg c, gnS_at (by omega) hn]
    by_cases d : (anF (bt la) S).testBit p = true ∧ T = S ||| 2 ^ p
    · rw [if_pos d, if_pos ⟨hp, d⟩]
    · rw [if_neg d, if_neg (fun z => d z.2)]
/-- how far the class is: all sets below S, and of S the lasts below la -/
def IvW (bt : Nat → Nat) (n : Nat) (Wr W : Nat → Int32) (S la : Nat) : Prop := ∀ T, T < 2 ^ n → ∀ p, p < n → W (T * 10 + p) = if T.testBit p = true then (if T = 2 ^ p then nI 1 else nI 0) + sI (fun q => if (¬ q = p ∧ T.testBit q = true ∧ (bt q).testBit p = true) ∧ (T - 2 ^ p < S ∨ (T - 2 ^ p = S ∧ q < la)) then Wr (1024 * q + (T - 2 ^ p)) else 0) n else 0
theorem or_sub {S p : Nat} (h : ¬ S.testBit p = true) : (S ||| 2 ^ p) - 2 ^ p = S := by
  have h2 : (S ||| 2 ^ p).testBit p = true := by rw [Nat.testBit_or, Nat.testBit_two_pow_self, Bool.or_true]
  apply Nat.eq_of_testBit_eq
  intro i
  rw [tb_sub h2, Nat.testBit_or, Nat.testBit_two_pow]
  by_cases e : p = i
  · subst e; rw [Bool.eq_false_iff.mpr h]; simp
  · simp [e]
theorem sub_or {T p : Nat} (h : T.testBit p = true) : (T - 2 ^ p) ||| 2 ^ p = T := by
  apply Nat.eq_of_testBit_eq
  intro i
  rw [Nat.testBit_or, tb_sub h, Nat.testBit_two_pow]
  by_cases e : p = i
  · subst e; rw [h]; simp
  · simp [e]
theorem sub_nb {T p : Nat} (h : T.testBit p = true) : ¬ (T - 2 ^ p).testBit p = true := by rw [tb_sub h]; simp
theorem Iv_full {bt : Nat → Nat} {n S la T p : Nat} {Wr W : Nat → Int32} (hW : WkOK bt n Wr (2 ^ n)) (h : IvW bt n Wr W S la) (hT : T < 2 ^ n) (hT1 : 1 ≤ T) (hp : p < n) (hb : T.testBit p = true) (hS : T - 2 ^ p < S) : W (T * 10 + p) = Wr (1024 * p + T) := by
  rw [h T hT p hp, if_pos hb, hW T hT1 hT p hp]
  unfold wkV
  rw [if_pos hb, wkS_s]
  congr 1
  refine sI_congr (fun q hq => ?_)
  by_cases c : ¬ q = p ∧ T.testBit q = true ∧ (bt q).testBit p = true
  · rw [if_pos ⟨c, Or.inl hS⟩, if_pos c]
  · rw [if_neg (fun z => c z.1), if_neg c]; rfl
theorem Iv_step {bt : Nat → Nat} {n S la : Nat} {Wr W : Nat → Int32} (hn : n ≤ 10) (hW : WkOK bt n Wr (2 ^ n)) (hS1 : 1 ≤ S) (hS : S < 2 ^ n) (hla : la < n) (h : IvW bt n Wr W S la) : IvW bt n Wr (gnF bt n S la W) S (la + 1) := by
  intro T hT p hp
  rw [gnF_at hn hp, h T hT p hp]
  have hm : W (S * 10 + la) = if S.testBit la = true then Wr (1024 * la + S) else 0 := by
    by_cases c : S.testBit la = true
    · rw [if_pos c]
      have h1 := two_le_of_bit c
      have h2 := Nat.two_pow_pos la
      exact Iv_full hW h hS hS1 hla c (by omega)
    · rw [if_neg c, h S hS la hla, if_neg c]
  have hop : (anF (bt la) S).testBit p = true ↔ (bt la).testBit p = true ∧ ¬ S.testBit p = true := by
    rw [bitsOf_bit]
    cases e1 : (bt la).testBit p <;> cases e2 : S.testBit p <;> simp [show p < 10 by omega]
  by_cases hb : T.testBit p = true
  · rw [if_pos hb, if_pos hb, Int32.add_assoc]
    congr 1
    by_cases hTS : T - 2 ^ p = S
    · have hTe : T = S ||| 2 ^ p := by rw [← hTS]; exact (sub_or hb).symm
      have hSp : ¬ S.testBit p = true := by rw [← hTS]; exact sub_nb hb
      symm
      refine sI_bump hla (fun i hi hne => ?_) ?_
      · by_cases c : (¬ i = p ∧ T.testBit i = true ∧ (bt i).testBit p = true) ∧ (T - 2 ^ p < S ∨ (T - 2 ^ p = S ∧ i < la))
        · rw [if_pos c, if_pos ⟨c.1, by omega⟩]
        · rw [if_neg c, if_neg (fun z => c ⟨z.1, by omega⟩)]
      · rw [if_neg (c := _ ∧ (T - 2 ^ p < S ∨ (T - 2 ^ p = S ∧ la < la))) (fun z => by omega), Int32.zero_add, hm]
        by_cases c1 : (bt la).testBit p = true
        · rw [if_pos (c := (anF (bt la) S).testBit p = true ∧ T = S ||| 2 ^ p) ⟨hop.mpr ⟨c1, hSp⟩, hTe⟩]
          by_cases c2 : S.testBit la = true
          · have hne : ¬ la = p := fun w => hSp (by rw [← w]; exact c2)
            have hTl : T.testBit la = true := by rw [hTe, Nat.testBit_or, c2]; rfl
            rw [if_pos c2, if_pos ⟨⟨hne, hTl, c1⟩, Or.inr ⟨hTS, by omega⟩⟩, hTS]
          · rw [if_neg c2]
            refine if_neg (fun w => c2 ?_)
            have h9 := w.1.2.1
            rw [hTe, Nat.testBit_or, Nat.testBit_two_pow, Bool.or_eq_true, decide_eq_true_eq] at h9
            rcases h9 with q | q
            · exact q
            · exact absurd q.symm w.1.1
        · rw [if_neg (c := (anF (bt la) S).testBit p = true ∧ T = S ||| 2 ^ p) (fun w => c1 (hop.mp w.1).1)]
          exact if_neg (fun w => c1 w.1.2.2)
    · have hno : ¬ ((anF (bt la) S).testBit p = true ∧ T = S ||| 2 ^ p) := fun z => hTS (by rw [z.2]; exact or_sub (hop.mp z.1).2)
      rw [if_neg hno, Int32.add_zero]
      refine sI_congr (fun i hi => ?_)
      by_cases c : (¬ i = p ∧ T.testBit i = true ∧ (bt i).testBit p = true) ∧ (T - 2 ^ p < S ∨ (T - 2 ^ p = S ∧ i < la))
      · rw [if_pos c, if_pos ⟨c.1, by omega⟩]
      · rw [if_neg c, if_neg (fun z => c ⟨z.1, by omega⟩)]
  · rw [if_neg hb, if_neg hb, if_neg (fun z => hb ?_), Int32.add_zero]
    rw [z.2, Nat.testBit_or, Nat.testBit_two_pow_self, Bool.or_true]
theorem Iv_next {bt : Nat → Nat} {n S : Nat} {Wr W : Nat → Int32} (h : IvW bt n Wr W S n) : IvW bt n Wr W (S + 1) 0 := by
  intro T hT p hp
  rw [h T hT p hp]
  by_cases hb : T.testBit p = true
  · rw [if_pos hb, if_pos hb]
    congr 1
    refine sI_congr (fun i hi => ?_)
    by_cases c : (¬ i = p ∧ T.testBit i = true ∧ (bt i).testBit p = true) ∧ (T - 2 ^ p < S ∨ (T - 2 ^ p = S ∧ i < n))
    · rw [if_pos c, if_pos ⟨c.1, by omega⟩]
    · rw [if_neg c, if_neg (fun z => c ⟨z.1, by omega⟩)]
  · rw [if_neg hb, if_neg hb]
theorem wcL_ok {bt : Nat → Nat} {n S : Nat} {Wr W : Nat → Int32} (hn : n ≤ 10) (hW : WkOK bt n Wr (2 ^ n)) (hS1 : 1 ≤ S) (hS : S < 2 ^ n) (h : IvW bt n Wr W S 0) : ∀ la, la ≤ n → IvW bt n Wr (wcL bt n S W la) S la
  | 0, _ => h
  | la + 1, hl => Iv_step hn hW hS1 hS (by omega) (wcL_ok hn hW hS1 hS h la (by omega))
theorem wcS_ok {bt : Nat → Nat} {n : Nat} {Wr W : Nat → Int32} (hn : n ≤ 10) (hW : WkOK bt n Wr (2 ^ n)) (h : IvW bt n Wr W 1 0) : ∀ s, s < 2 ^ n - 1 → IvW bt n Wr (wcS bt n W s) (s + 1) 0
  | 0, _ => h
  | s + 1, hs => Iv_next (wcL_ok hn hW (by omega) (by omega) (wcS_ok hn hW h s (by omega)) n (Nat.le_refl _))
theorem wcI_at {W : Nat → Int32} {T p : Nat} (hp : p < 10) : ∀ {m : Nat}, m ≤ 10 → wcI W m (T * 10 + p) = if p < m ∧ T = 2 ^ p then nI 1 else W (T * 10 + p)
  | 0, _ => by rw [if_neg (fun z => by omega)]; rfl
  | m + 1, hm => by
    unfold wcI
    by_cases e : T * 10 + p = 2 ^ m * 10 + m
    · obtain ⟨e1, e2⟩ := (idx10 hp (by omega)).mp e
      subst e2; subst e1
      rw [pk_us, if_pos ⟨by omega, rfl⟩]
    · rw [pk_un e, wcI_at hp (by omega)]
      by_cases d : p < m ∧ T = 2 ^ p
      · rw [if_pos d, if_pos ⟨by omega, d.2⟩]
      · rw [if_neg d, if_neg (fun z => ?_)]
        by_cases e2 : p = m
        · subst e2; exact e (by rw [z.2])
        · exact d ⟨by omega, z.2⟩
theorem Iv_0 {bt : Nat → Nat} {n : Nat} {Wr W0 : Nat → Int32} (hn : n ≤ 10) (h0 : ∀ i, i < 10240 → W0 i = nI 0) : IvW bt n Wr (wcI W0 n) 1 0 := by
  intro T hT p hp
  have h2 := pow_le_1024 hn
  rw [wcI_at (by omega) hn, h0 _ (by omega)]
  by_cases e : T = 2 ^ p
  · have hb : T.testBit p = true := by rw [e]; exact Nat.testBit_two_pow_self
    rw [if_pos ⟨hp, e⟩, if_pos hb, if_pos e, sI_zero (fun q _ => if_neg (fun z => ?_)), Int32.add_zero]
    have := z.1.2.1
    rw [e, Nat.testBit_two_pow, decide_eq_true_eq] at this
    exact z.1.1 this.symm
  · rw [if_neg (fun z => e z.2)]
    by_cases hb : T.testBit p = true
    · have h1 := two_le_of_bit hb
      rw [if_pos hb, if_neg e, sI_zero (fun q _ => if_neg (fun z => by omega)), Int32.add_zero]
    · rw [if_neg hb]; rfl
theorem ans_walks {ml : List Mt} {n : Nat} {r r' : Int32} (hn1 : 1 ≤ n) (hn : n ≤ 10) (h : ∃ W0 : Nat → Int32, (∀ i, i < 10240 → W0 i = nI 0) ∧ r = sI (fun la => wcS (fun a => btF ml n a) n (wcI W0 n) (2 ^ n - 2) ((2 ^ n - 1) * 10 + la)) n) (h' : ∃ W, WkOK (fun a => btF ml n a) n W (2 ^ n) ∧ r' = sI (fun p => W (1024 * p + (2 ^ n - 1))) n) : r = r' := by
  obtain ⟨W0, h1, h2⟩ := h
  obtain ⟨W, g1, g2⟩ := h'
  have hp1 : 2 ^ 1 ≤ 2 ^ n := Nat.pow_le_pow_right (by decide) hn1
  have hI := wcS_ok (Wr := W) hn g1 (Iv_0 (bt := fun a => btF ml n a) hn h1) (2 ^ n - 2) (by omega)
  rw [h2, g2]
  refine sI_congr (fun p hp => ?_)
  have h3 := Nat.two_pow_pos p
  exact Iv_full g1 hI (by omega) (by omega) hp (all_bit hp) (by omega)
