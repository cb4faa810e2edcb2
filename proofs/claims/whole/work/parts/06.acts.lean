/-! what the acts do to the reference's rows -/
abbrev meetOK (n : Nat) (ml : List Mt) (a b p q : Int32) : Prop := ml.length < 120 ∧ kIn a n ∧ kIn b n ∧ ¬ a = b ∧ kIn p 100 ∧ kIn q 100
def mkM (a b p q : Int32) : Mt := (a.toInt.toNat, b.toInt.toNat, p.toInt.toNat, q.toInt.toNat)
abbrev nextOK (n : Nat) (nx : List (Nat × Nat)) (a b : Int32) : Prop := nx.length < 40 ∧ kIn a n ∧ kIn b n ∧ ¬ a = b
abbrev ptOK (x : Int32) : Prop := -10 ≤ x.toInt ∧ x.toInt ≤ 10
/-- an act was kept; nothing was done -/
abbrev ActD (st kept : Nat → Int32) (w u : Nat) (kept' : Nat → Int32) (nw' un' : Int32) : Prop := kept' = fb_put kept st (600 * ((w + 1) % 40)) 600 ∧ nw' = nI ((w + 1) % 40) ∧ un' = nI (if u < 40 then u + 1 else u)
abbrev NoD (st kept : Nat → Int32) (w u : Nat) (st' kept' : Nat → Int32) (nw' un' : Int32) : Prop := st' = st ∧ kept' = kept ∧ nw' = nI w ∧ un' = nI u
theorem kIn_le {x : Int32} {m : Nat} (hm : m < 2 ^ 31) (h0 : ¬ x < 0) (h : ¬ nI m < x) : kIn x (m + 1) := by
  rw [Int32.lt_iff_toInt_lt] at h0; rw [Int32.lt_iff_toInt_lt, nI_toInt hm] at h
  have : (0 : Int32).toInt = 0 := rfl
  constructor <;> omega
theorem kIn_gt {x : Int32} {m : Nat} (hm : m < 2 ^ 31) (h : nI m < x) : ¬ kIn x (m + 1) := fun z => by
  rw [Int32.lt_iff_toInt_lt, nI_toInt hm] at h; have := z.2; omega
theorem kIn_le' {x : Int32} {m : Nat} (hm : m < 2 ^ 31) (h0 : ¬ x < 0) (h : x ≤ nI m) : kIn x (m + 1) := kIn_le hm h0 (fun z => by rw [Int32.lt_iff_toInt_lt] at z; rw [Int32.le_iff_toInt_le] at h; omega)
theorem kIn_nle {x : Int32} {m : Nat} (hm : m < 2 ^ 31) (h : ¬ x ≤ nI m) : ¬ kIn x (m + 1) := kIn_gt hm (by rw [Int32.lt_iff_toInt_lt]; rw [Int32.le_iff_toInt_le] at h; omega)
theorem mkM_nI {a b p q : Nat} (ha : a < 2 ^ 31) (hb : b < 2 ^ 31) (hp : p < 2 ^ 31) (hq : q < 2 ^ 31) : mkM (nI a) (nI b) (nI p) (nI q) = (a, b, p, q) := by
  unfold mkM; rw [k_tt ha, k_tt hb, k_tt hp, k_tt hq]
theorem gD_app {α : Type} {l r : List α} {d : α} {k : Nat} (h : k < l.length) : (l ++ r).getD k d = l.getD k d := by
  rw [List.getD_eq_getElem?_getD, List.getD_eq_getElem?_getD, List.getElem?_append_left h]
theorem mg_app_lt {ml r : List Mt} {k : Nat} (h : k < ml.length) : mg (ml ++ r) k = mg ml k := by
  unfold mg; rw [gD_app h]
theorem mg_app_eq {ml : List Mt} {x : Mt} : mg (ml ++ [x]) ml.length = x := by
  simp [mg, List.getD]
section RSL
variable {f : Nat → Int32} {n : Nat} {ml : List Mt} {nx : List (Nat × Nat)} {ks : List Nat} {r : Int32 × Int32 × Int32}
theorem RS.put (h : RS f n ml nx ks r) (hm : ml.length < 120) (hk : ks.length ≤ 4) (a b p q : Nat) : RS (upd (upd (upd (upd (upd f (11 + 4 * ml.length) (nI a)) (11 + 4 * ml.length + 1) (nI b)) (11 + 4 * ml.length + 2) (nI p)) (11 + 4 * ml.length + 3) (nI q)) 1 (nI (ml.length + 1))) n (ml ++ [(a, b, p, q)]) nx ks r := by
  obtain ⟨h0, h1, h2, h3, h4, h5, h6, h7, h8, h9⟩ := h
  refine ⟨?_, ?_, ?_, ?_, ?_, ?_, ?_, fun j hj => ?_, fun k hk2 => ?_, fun k hk2 => ?_⟩
  · simp (disch := omega) only [pk_us, pk_un]; exact h0
  · rw [List.length_append]; exact pk_us
  · simp (disch := omega) only [pk_us, pk_un]; exact h2
  · simp (disch := omega) only [pk_us, pk_un]; exact h3
  · simp (disch := omega) only [pk_us, pk_un]; exact h4
  · simp (disch := omega) only [pk_us, pk_un]; exact h5
  · simp (disch := omega) only [pk_us, pk_un]; exact h6
  · simp (disch := omega) only [pk_us, pk_un]; exact h7 j hj
  · rw [List.length_append] at hk2
    simp only [List.length_cons, List.length_nil, Nat.zero_add] at hk2
    by_cases hl : k < ml.length
    · rw [mg_app_lt hl]
      simp (disch := omega) only [pk_us, pk_un]; exact h8 k hl
    · obtain rfl : k = ml.length := by omega
      rw [mg_app_eq]
      refine ⟨?_, ?_, ?_, ?_⟩ <;> simp (disch := omega) only [pk_us, pk_un]
  · simp (disch := omega) only [pk_us, pk_un]; exact h9 k hk2
theorem RS.n1 (h : RS f n ml nx ks r) : RS (upd f 0 (nI (n + 1))) (n + 1) ml nx ks r := by
  obtain ⟨h0, h1, h2, h3, h4, h5, h6, h7, h8, h9⟩ := h
  refine ⟨pk_us, ?_, ?_, ?_, ?_, ?_, ?_, fun j hj => ?_, fun k hk2 => ?_, fun k hk2 => ?_⟩ <;> simp (disch := omega) only [pk_us, pk_un] <;> first | assumption | exact h7 j hj | exact h8 k hk2 | exact h9 k hk2
theorem RS.nxt (h : RS f n ml nx ks r) (hm : ml.length ≤ 120) (hk : ks.length ≤ 4) (a b : Nat) : RS (upd (upd (upd f (491 + 2 * nx.length) (nI a)) (491 + 2 * nx.length + 1) (nI b)) 2 (nI (nx.length + 1))) n ml (nx ++ [(a, b)]) ks r := by
  obtain ⟨h0, h1, h2, h3, h4, h5, h6, h7, h8, h9⟩ := h
  refine ⟨?_, ?_, ?_, ?_, ?_, ?_, ?_, fun j hj => ?_, fun k hk2 => ?_, fun k hk2 => ?_⟩
  · simp (disch := omega) only [pk_us, pk_un]; exact h0
  · simp (disch := omega) only [pk_us, pk_un]; exact h1
  · rw [List.length_append]; exact pk_us
  · simp (disch := omega) only [pk_us, pk_un]; exact h3
  · simp (disch := omega) only [pk_us, pk_un]; exact h4
  · simp (disch := omega) only [pk_us, pk_un]; exact h5
  · simp (disch := omega) only [pk_us, pk_un]; exact h6
  · simp (disch := omega) only [pk_us, pk_un]; exact h7 j hj
  · simp (disch := omega) only [pk_us, pk_un]; exact h8 k hk2
  · rw [List.length_append] at hk2
    simp only [List.length_cons, List.length_nil, Nat.zero_add] at hk2
    by_cases hl : k < nx.length
    · rw [gD_app hl]
      simp (disch := omega) only [pk_us, pk_un]; exact h9 k hl
    · obtain rfl : k = nx.length := by omega
      have e : (nx ++ [(a, b)]).getD nx.length (0, 0) = (a, b) := by simp [List.getD]
      rw [e]
      refine ⟨?_, ?_⟩ <;> simp (disch := omega) only [pk_us, pk_un]
theorem RS.rl (h : RS f n ml nx ks r) (hk : ks.length ≤ 4) (a b c : Int32) : RS (upd (upd (upd f 4 a) 5 b) 6 c) n ml nx ks (a, b, c) := by
  obtain ⟨h0, h1, h2, h3, h4, h5, h6, h7, h8, h9⟩ := h
  refine ⟨?_, ?_, ?_, ?_, ?_, ?_, ?_, fun j hj => ?_, fun k hk2 => ?_, fun k hk2 => ?_⟩ <;> simp (disch := omega) only [pk_us, pk_un] <;> first | assumption | exact h7 j hj | exact h8 k hk2 | exact h9 k hk2
theorem RS.tie (h : RS f n ml nx ks r) (hk : ks.length < 4) (a : Nat) : RS (upd (upd f (7 + ks.length) (nI a)) 3 (nI (ks.length + 1))) n ml nx (ks ++ [a]) r := by
  obtain ⟨h0, h1, h2, h3, h4, h5, h6, h7, h8, h9⟩ := h
  refine ⟨?_, ?_, ?_, ?_, ?_, ?_, ?_, fun j hj => ?_, fun k hk2 => ?_, fun k hk2 => ?_⟩
  · simp (disch := omega) only [pk_us, pk_un]; exact h0
  · simp (disch := omega) only [pk_us, pk_un]; exact h1
  · simp (disch := omega) only [pk_us, pk_un]; exact h2
  · rw [List.length_append]; exact pk_us
  · simp (disch := omega) only [pk_us, pk_un]; exact h4
  · simp (disch := omega) only [pk_us, pk_un]; exact h5
  · simp (disch := omega) only [pk_us, pk_un]; exact h6
  · rw [List.length_append] at hj
    simp only [List.length_cons, List.length_nil, Nat.zero_add] at hj
    by_cases hl : j < ks.length
    · rw [gD_app hl]
      simp (disch := omega) only [pk_us, pk_un]; exact h7 j hl
    · obtain rfl : j = ks.length := by omega
      have e : (ks ++ [a]).getD ks.length 0 = a := by simp [List.getD]
      rw [e]
      simp (disch := omega) only [pk_us, pk_un]
  · simp (disch := omega) only [pk_us, pk_un]; exact h8 k hk2
  · simp (disch := omega) only [pk_us, pk_un]; exact h9 k hk2
theorem RS.tie0 (h : RS f n ml nx ks r) : RS (upd f 3 (nI 0)) n ml nx [] r := by
  obtain ⟨h0, h1, h2, h3, h4, h5, h6, h7, h8, h9⟩ := h
  refine ⟨?_, ?_, ?_, pk_us, ?_, ?_, ?_, fun j hj => absurd hj (by simp), fun k hk2 => ?_, fun k hk2 => ?_⟩ <;> simp (disch := omega) only [pk_us, pk_un] <;> first | assumption | exact h8 k hk2 | exact h9 k hk2
/-- a meeting is dropped: those behind it come up -/
def drpF (f : Nat → Int32) (k c j : Nat) : Nat → Int32 := fun i => if 11 + 4 * k ≤ i ∧ i < j then f (i + 4) else f i
theorem drpF_0 {k c : Nat} : drpF f k c (11 + 4 * k) = f := funext fun i => if_neg (by omega)
theorem drpF_s {k c j : Nat} (hj : 11 + 4 * k ≤ j) : upd (drpF f k c j) j (drpF f k c j (j + 4)) = drpF f k c (j + 1) := by
  funext i
  unfold upd drpF
  by_cases h : i = j
  · subst h; rw [if_pos rfl, if_neg (by omega), if_pos (by omega)]
  · rw [if_neg h]
    by_cases h2 : 11 + 4 * k ≤ i ∧ i < j
    · rw [if_pos h2, if_pos (by omega)]
    · rw [if_neg h2, if_neg (by omega)]
theorem mg_era {k i : Nat} (hk : k < ml.length) (hi : i < ml.length - 1) : mg (ml.eraseIdx k) i = if i < k then mg ml i else mg ml (i + 1) := by
  unfold mg
  rw [List.getD_eq_getElem?_getD, List.getElem?_eraseIdx]
  split <;> rw [List.getD_eq_getElem?_getD]
theorem RS.drp (h : RS f n ml nx ks r) (hk4 : ks.length ≤ 4) (hm : ml.length ≤ 120) {k : Nat} (hk : k < ml.length) : RS (upd (drpF f k ml.length (11 + 4 * (ml.length - 1))) 1 (nI (ml.length - 1))) n (ml.eraseIdx k) nx ks r := by
  obtain ⟨h0, h1, h2, h3, h4, h5, h6, h7, h8, h9⟩ := h
  have hl : (ml.eraseIdx k).length = ml.length - 1 := List.length_eraseIdx_of_lt hk
  have dr : ∀ i, (i < 11 ∨ 491 ≤ i) → drpF f k ml.length (11 + 4 * (ml.length - 1)) i = f i := fun i hi => if_neg (by omega)
  refine ⟨?_, ?_, ?_, ?_, ?_, ?_, ?_, fun j hj => ?_, fun i hi => ?_, fun i hi => ?_⟩
  · rw [pk_un (by omega), dr _ (by omega)]; exact h0
  · rw [hl]; exact pk_us
  · rw [pk_un (by omega), dr _ (by omega)]; exact h2
  · rw [pk_un (by omega), dr _ (by omega)]; exact h3
  · rw [pk_un (by omega), dr _ (by omega)]; exact h4
  · rw [pk_un (by omega), dr _ (by omega)]; exact h5
  · rw [pk_un (by omega), dr _ (by omega)]; exact h6
  · rw [pk_un (by omega), dr _ (by omega)]; exact h7 j hj
  · rw [hl] at hi
    rw [mg_era hk hi, pk_un (by omega), pk_un (by omega), pk_un (by omega), pk_un (by omega)]
    unfold drpF
    by_cases hik : i < k
    · rw [if_pos hik, if_neg (by omega), if_neg (by omega), if_neg (by omega), if_neg (by omega)]
      exact h8 i (by omega)
    · rw [if_neg hik, if_pos (by omega), if_pos (by omega), if_pos (by omega), if_pos (by omega)]
      have := h8 (i + 1) (by omega)
      rw [show 11 + 4 * (i + 1) = 11 + 4 * i + 4 by omega] at this
      rw [show 11 + 4 * i + 1 + 4 = 11 + 4 * i + 4 + 1 by omega, show 11 + 4 * i + 2 + 4 = 11 + 4 * i + 4 + 2 by omega, show 11 + 4 * i + 3 + 4 = 11 + 4 * i + 4 + 3 by omega]
      exact this
  · have := h9 i hi
    rw [pk_un (by omega), dr _ (by omega), pk_un (by omega), dr _ (by omega)]; exact this
end RSL
theorem VS.n1 {n : Nat} {ml : List Mt} {nx : List (Nat × Nat)} {ks : List Nat} (h : VS n ml nx ks) (hn : ¬ n = 10) : VS (n + 1) ml nx ks := by
  obtain ⟨h1, h2, h3, h4, h5, h6, h7, h8⟩ := h
  refine ⟨by omega, by omega, h3, fun x hx => ?_, h5, fun x hx => ?_, h7, h8⟩
  · obtain ⟨a, b, c⟩ := h4 x hx; exact ⟨by omega, by omega, c⟩
  · obtain ⟨a, b, c⟩ := h6 x hx; exact ⟨by omega, by omega, c⟩
theorem RS.meet {f : Nat → Int32} {n : Nat} {ml : List Mt} {nx : List (Nat × Nat)} {ks : List Nat} {r : Int32 × Int32 × Int32} (h : RS f n ml nx ks r) (hV : VS n ml nx ks) {a b p q : Int32} (hc : meetOK n ml a b p q) : RS (upd (upd (upd (upd (upd f (11 + 4 * ml.length) a) (11 + 4 * ml.length + 1) b) (11 + 4 * ml.length + 2) p) (11 + 4 * ml.length + 3) q) 1 (nI (ml.length + 1))) n (ml ++ [mkM a b p q]) nx ks r := by
  obtain ⟨hm, ha, hb, -, hp, hq⟩ := hc
  have h10 := hV.2.1
  obtain ⟨a, ha, rfl⟩ := kIn_nat ha
  obtain ⟨b, hb, rfl⟩ := kIn_nat hb
  obtain ⟨p, hp, rfl⟩ := kIn_nat hp
  obtain ⟨q, hq, rfl⟩ := kIn_nat hq
  rw [mkM_nI (by omega) (by omega) (by omega) (by omega)]
  exact h.put hm hV.2.2.2.2.2.2.1 a b p q
theorem okM_mk {n : Nat} {ml : List Mt} {a b p q : Int32} (hn : n ≤ 10) (hc : meetOK n ml a b p q) : okM n (mkM a b p q) := by
  obtain ⟨hm, ha, hb, hab, hp, hq⟩ := hc
  obtain ⟨a, ha2, rfl⟩ := kIn_nat ha
  obtain ⟨b, hb2, rfl⟩ := kIn_nat hb
  obtain ⟨p, hp2, rfl⟩ := kIn_nat hp
  obtain ⟨q, hq2, rfl⟩ := kIn_nat hq
  rw [mkM_nI (by omega) (by omega) (by omega) (by omega)]
  exact ⟨ha2, hb2, fun z => hab (by rw [show a = b from z]), by show p ≤ 99; omega, by show q ≤ 99; omega⟩
theorem VS.app {n : Nat} {ml : List Mt} {nx : List (Nat × Nat)} {ks : List Nat} (h : VS n ml nx ks) {x : Mt} (hx : okM n x) (hm : ml.length < 120) : VS n (ml ++ [x]) nx ks := by
  obtain ⟨h1, h2, h3, h4, h5, h6, h7, h8⟩ := h
  refine ⟨h1, h2, by rw [List.length_append]; simp; omega, fun y hy => ?_, h5, h6, h7, h8⟩
  rcases List.mem_append.mp hy with q | q
  · exact h4 y q
  · rw [List.mem_singleton.mp q]; exact hx
theorem ptOK_of {x : Int32} (h1 : ¬ x < -10) (h2 : ¬ nI 10 < x) : -10 ≤ x.toInt ∧ x.toInt ≤ 10 := by
  rw [Int32.lt_iff_toInt_lt] at h1 h2
  have e1 : (-10 : Int32).toInt = -10 := by decide
  have e2 : (nI 10).toInt = 10 := by decide
  omega
theorem ptOK_lo {x : Int32} (h1 : x < -10) : ¬ (-10 ≤ x.toInt ∧ x.toInt ≤ 10) := by
  rw [Int32.lt_iff_toInt_lt] at h1
  have e1 : (-10 : Int32).toInt = -10 := by decide
  omega
theorem ptOK_hi {x : Int32} (h2 : nI 10 < x) : ¬ (-10 ≤ x.toInt ∧ x.toInt ≤ 10) := by
  rw [Int32.lt_iff_toInt_lt] at h2
  have e2 : (nI 10).toInt = 10 := by decide
  omega
