theorem core_t {P : Prop} [Decidable P] {t : Nat} (ht : t = if P then 1 else 0) (h : ¬ t = 0) : P := by
  by_cases q : P
  · exact q
  · rw [if_neg q] at ht; exact absurd ht h
theorem dom_le {bt : Nat → Nat} {n s i j : Nat} (h : domB bt n s j = true) (hij : i ≤ j) : domB bt n s i = true := by
  cases e : domB bt n s i with
  | true => rfl
  | false => rw [domB_no e j hij] at h; exact absurd h Bool.false_ne_true
section SHI
variable {n : Nat} {ml mlc : List Mt} {st kept stc kc st' : Nat → Int32} {w u wc uc : Nat} {x : Mt}
theorem ShI_first (h : ShI n ml st kept w u mlc stc kc wc uc) (h0 : mlc.length - ml.length = 0) : ShI n ml st kept w u (mlc ++ [x]) st' (fb_put kc stc (600 * ((wc + 1) % 40)) 600) ((wc + 1) % 40) (if uc < 40 then uc + 1 else uc) := by
  rcases h with ⟨h1, h2, h3, h4, h5, h6⟩ | ⟨h1, -⟩
  · subst h2; subst h3; subst h4; subst h5; subst h6
    refine Or.inr ⟨by rw [List.length_append]; simp, rfl, rfl, rfl⟩
  · omega
theorem ShI_more (h : ShI n ml st kept w u mlc stc kc wc uc) (h0 : ¬ mlc.length - ml.length = 0) : ShI n ml st kept w u (mlc ++ [x]) st' kc wc uc := by
  rcases h with ⟨h1, -⟩ | ⟨h1, h2⟩
  · omega
  · exact Or.inr ⟨by rw [List.length_append]; omega, h2⟩
theorem ShI_act (h : ShI n ml st kept w u mlc stc kc wc uc) : ml.length < mlc.length → ActD st kept w u kc (nI wc) (nI uc) := by
  intro hl
  rcases h with ⟨h1, -⟩ | ⟨-, h2, h3, h4⟩
  · omega
  · exact ⟨h2, by rw [h3], by rw [h4]⟩
theorem ShI_no (h : ShI n ml st kept w u mlc stc kc wc uc) : mlc.length = ml.length → NoD st kept w u stc kc (nI wc) (nI uc) := by
  intro hl
  rcases h with ⟨h1, h2, h3, h4, h5, h6⟩ | ⟨h1, -⟩
  · exact ⟨h3, h4, by rw [h5], by rw [h6]⟩
  · omega
theorem sh_end {R : List Mt} {N k g fl : Nat} {tp : Nat → Int32} (h : R = if g = 1 then shL n tp N fl k mlc else mlc) (he : N < k + 4 ∨ g = 0) : R = mlc := by
  rcases he with q | q
  · by_cases e : g = 1
    · rw [if_pos e, shL_stop (fun z => by omega)] at h; exact h
    · rw [if_neg e] at h; exact h
  · rw [if_neg (by omega)] at h; exact h
end SHI
theorem core_s {bt : Nat → Nat} {n s : Nat} (h : 1 ≤ s) : coreF bt n s = if pcF s 10 < pcF (coreF bt n (s - 1)) 10 ∧ domB bt n s n = true then s else coreF bt n (s - 1) := by
  obtain ⟨k, rfl⟩ : ∃ k, s = k + 1 := ⟨s - 1, by omega⟩
  rfl
theorem sh_len {ml mlc : List Mt} {x : Mt} (h : ml.length ≤ mlc.length) : mlc.length - ml.length + 1 = (mlc ++ [x]).length - ml.length := by
  rw [List.length_append]; show _ = mlc.length + 1 - ml.length; omega
