/-! insertion; the kept states; meetings off the tape -/
theorem insAt_ok (lt : Nat → Nat → Bool) (p c : Nat) (hp : p < c) : ∀ (a : Nat) (o : Nat → Int32) (m : Nat), a ≤ m → ordOK o a c → (∀ i, a < i → i ≤ m → ∃ j, j < c ∧ o i = nI j) → ordOK (insAt lt p a o) (m + 1) c
  | 0, o, m, _, _, h2 => by
    intro i hi
    unfold insAt
    by_cases e : i = 0
    · subst e; rw [pk_us]; exact ⟨p, hp, rfl⟩
    · rw [pk_un e]; exact h2 i (by omega) (by omega)
  | a + 1, o, m, hm, h1, h2 => by
    unfold insAt
    split
    · refine insAt_ok lt p c hp a _ m (by omega) (fun i hi => ?_) (fun i hi hi2 => ?_)
      · rw [pk_un (by omega)]; exact h1 i (by omega)
      · by_cases e : i = a + 1
        · subst e; rw [pk_us]; exact h1 a (by omega)
        · rw [pk_un e]; exact h2 i (by omega) hi2
    · intro i hi
      by_cases e : i = a + 1
      · subst e; rw [pk_us]; exact ⟨p, hp, rfl⟩
      · rw [pk_un e]
        by_cases e2 : i < a + 1
        · exact h1 i e2
        · exact h2 i (by omega) (by omega)
theorem ordF_ok (lt : Nat → Nat → Bool) (o : Nat → Int32) (c : Nat) : ∀ p, p ≤ c → ordOK (ordF lt o p) p c
  | 0, _ => fun i hi => absurd hi (by omega)
  | p + 1, h => by
    unfold ordF
    exact insAt_ok lt p c (by omega) p _ p (Nat.le_refl _) (ordF_ok lt o c p (by omega)) (fun i h1 h2 => absurd h1 (by omega))
theorem ins_step {lt : Nat → Nat → Bool} {p a j : Nat} {o X : Nat → Int32} (ho : insAt lt p a o = X) (ha : 0 < a) (e : o (a - 1) = nI j) (hj : j < 2 ^ 31) (hl : lt p j = true) : insAt lt p (a - 1) (upd o a (o (a - 1))) = X := by
  obtain ⟨b, rfl⟩ : ∃ b, a = b + 1 := ⟨a - 1, by omega⟩
  rw [← ho]
  rw [show b + 1 - 1 = b from rfl] at e ⊢
  unfold insAt
  rw [e, k_tt hj, if_pos hl, ← e]
  cases b <;> rfl
theorem ins_stop {lt : Nat → Nat → Bool} {p a j : Nat} {o X : Nat → Int32} (ho : insAt lt p a o = X) (ha : 0 < a) (e : o (a - 1) = nI j) (hj : j < 2 ^ 31) (hl : lt p j = false) : upd o a (nI p) = X := by
  obtain ⟨b, rfl⟩ : ∃ b, a = b + 1 := ⟨a - 1, by omega⟩
  rw [← ho]
  rw [show b + 1 - 1 = b from rfl] at e
  show _ = (if _ then _ else _)
  rw [e, k_tt hj, if_neg (by rw [hl]; exact Bool.false_ne_true)]
theorem gD_mem {l : List Nat} {j d : Nat} (h : j < l.length) : l.getD j d ∈ l := by
  rw [List.getD_eq_getElem?_getD, List.getElem?_eq_getElem h]; exact List.getElem_mem h
abbrev Tt : Type := Nat × List Mt × List (Nat × Nat) × List Nat × (Int32 × Int32 × Int32)
def RST (f : Nat → Int32) (t : Tt) : Prop := RS f t.1 t.2.1 t.2.2.1 t.2.2.2.1 t.2.2.2.2
def VST (t : Tt) : Prop := VS t.1 t.2.1 t.2.2.1 t.2.2.2.1
theorem RST_congr {f g : Nat → Int32} {t : Tt} (hV : VST t) (h : ∀ k, k < 600 → g k = f k) (hf : RST f t) : RST g t := by
  obtain ⟨n, ml, nx, ks, r⟩ := t
  obtain ⟨v1, v2, v3, v4, v5, v6, v7, v8⟩ := hV
  dsimp only at v1 v2 v3 v4 v5 v6 v7 v8
  obtain ⟨h0, h1, h2, h3, h4, h5, h6, h7, h8, h9⟩ := hf
  dsimp only at h0 h1 h2 h3 h4 h5 h6 h7 h8 h9
  refine ⟨(h 0 (by omega)).trans h0, (h 1 (by omega)).trans h1, (h 2 (by omega)).trans h2, (h 3 (by omega)).trans h3, (h 4 (by omega)).trans h4, (h 5 (by omega)).trans h5, (h 6 (by omega)).trans h6, fun j hj => ?_, fun k hk => ?_, fun k hk => ?_⟩
  · exact (h _ (by dsimp only at hj; omega)).trans (h7 j hj)
  · dsimp only at hk ⊢
    rw [h _ (by omega), h _ (by omega), h _ (by omega), h _ (by omega)]; exact h8 k hk
  · dsimp only at hk ⊢
    rw [h _ (by omega), h _ (by omega)]; exact h9 k hk
/-- the kept states: the i-th of hist lies i places behind w -/
def KP (kept : Nat → Int32) (w : Nat) (hist : List Tt) : Prop := ∀ i t, hist[i]? = some t → RST (fun k => kept (600 * ((w + 40 - i) % 40) + k)) t
theorem KP_act {kept st : Nat → Int32} {w : Nat} {hist : List Tt} {t : Tt} (hw : w < 40) (h : KP kept w hist) (hs : RST st t) (hV : VST t) (hVs : ∀ x ∈ hist, VST x) : KP (fb_put kept st (600 * ((w + 1) % 40)) 600) ((w + 1) % 40) ((t :: hist).take 40) := by
  intro i x hi
  have hi40 : i < 40 := by
    have := (List.getElem?_eq_some_iff.mp hi).1
    rw [List.length_take] at this; omega
  rw [List.getElem?_take_of_lt hi40] at hi
  cases i with
  | zero =>
    cases hi
    refine RST_congr hV (fun k hk => ?_) hs
    show fb_put kept st (600 * ((w + 1) % 40)) 600 _ = _
    rw [show ((w + 1) % 40 + 40 - 0) % 40 = (w + 1) % 40 by omega, fb_put_in (by omega) (by omega)]
    congr 1; omega
  | succ i =>
    have hi2 : hist[i]? = some x := hi
    refine RST_congr (hVs x (List.mem_of_getElem? hi2)) (fun k hk => ?_) (h i x hi2)
    show fb_put kept st (600 * ((w + 1) % 40)) 600 _ = kept _
    have e : ((w + 1) % 40 + 40 - (i + 1)) % 40 = (w + 40 - i) % 40 := by omega
    rw [e, fb_put_out (by omega)]
/-- meetings off the bytes, from the k-th on, as long as they can be -/
def shL (n : Nat) (tp : Nat → Int32) (N : Nat) : Nat → Nat → List Mt → List Mt
  | 0, _, ml => ml
  | f + 1, k, ml => if k + 4 ≤ N ∧ meetOK n ml (tp k) (tp (k + 1)) (tp (k + 2)) (tp (k + 3)) then shL n tp N f (k + 4) (ml ++ [mkM (tp k) (tp (k + 1)) (tp (k + 2)) (tp (k + 3))]) else ml
