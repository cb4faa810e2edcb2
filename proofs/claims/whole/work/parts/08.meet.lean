/-! the class's rows for the meetings -/
def lpF (e : Nat) : Nat := if e = 0 then 39 else e - 1
theorem lpF_lt {e : Nat} (h : e < 40) : lpF e < 40 := by unfold lpF; split <;> omega
theorem k_min40 {z : Nat} (hz : z ≤ 40) : (if nI 40 < nI (z + 1) then nI 40 else nI (z + 1)) = nI (if z < 40 then z + 1 else 40) := by
  by_cases h : z < 40
  · rw [if_pos h, if_neg (fun q => by have := k_lt (by omega) (by omega) q; omega)]
  · rw [if_neg h, if_pos (nI_lt (by omega) (by omega))]
section KCP
variable {p : Program} {l : Launch} {e : Env} {R : Room} {s : State} {m : MethodId} {args : Array Value} {below : List Frame} {meth : Method} {c : Code} {H : Heap} {locs : List Loc} {cells slots : Nat} {Q : State → Prop} {pc : Nat} {ls : Array Slot} {rest : List Value} {A : Nat → Prop} {D : va_G} {T : List (ClassId × FieldType)}
theorem k_copy {cc : ByteArray} {a : Nat} {ws w' : va_W} (hx : p.tables.exec = Jvm.exec) (hb : c.code = cc) (hml : c.maxLocals = ls.size) {own : String} {index : Nat} (hown : s.vm.findClass own = some m.cls) (hlink : (Cond.methodLink own index arraycopyName).before args s = true) (hnat : (Cond.native arraycopyName).before args s = true) (hstat : (Cond.static arraycopyName).before args s = true) (hini : (Cond.initialized "java/lang/System").before args s = true)
    (hK : KW D T s) (hP : va_P D vwCl ws H) (hD : va_D A ws) (hS : va_S A s.heap H locs) (q0 t0 : Nat) {cA : ClassId} {N : Nat} {f : Nat → Int32} (ha : ws[q0]? = some (a, .inl (cA, N, .inl f))) (ht : T[t0]? = some (cA, .int)) {i j n : Nat} (hi : i + n ≤ N) (hj : j + n ≤ N) (hN : N < 2 ^ 31)
    (hframes : 1 ≤ R.frames) (hlocals : (rest.map fun v => v.category).sum + (nativeFrameWords "java/lang/System" "arraycopy" 5 + 11) ≤ R.locals) (hdg : decode cc pc = .ok (.invokestatic index, 3)) (hw : ws.set q0 (a, .inl (cA, N, .inl (va_cpy f f i j n))) = w')
    (kk : ∀ (H1 : Heap) (locs1 : List Loc), va_P D vwCl w' H1 → va_D A w' → va_S A s.heap H1 locs1 → W p l e R s m args below meth c H1 locs1 cells slots Q (F0 m (pc + 3) ls rest)) : W p l e R s m args below meth c H locs cells slots Q (F0 m pc ls (.int (nI n) :: .int (nI j) :: .ref a :: .int (nI i) :: .ref a :: rest)) := by
  refine va_copyi (ty := .int) hx hb hml hown hlink hnat hstat hini hK.1 hP hD hS q0 q0 t0 t0 ha ha ht ht rfl (nI_pos (by omega)) (nI_pos (by omega)) (nI_pos (by omega)) (by rw [nI_clamp (by omega), nI_clamp (by omega)]; exact hi) (by rw [nI_clamp (by omega), nI_clamp (by omega)]; exact hj) (fun _ _ => rfl) hframes hlocals hdg (fun H1 locs1 h1 h2 h3 => ?_)
  rw [nI_clamp (by omega), nI_clamp (by omega), nI_clamp (by omega), hw] at h1 h2
  exact kk H1 locs1 h1 h2 h3
end KCP
/-- a row of pairs grows by what a meeting adds, times the sign -/
def TL (g : Nat → Nat → Nat) (w w' : Nat → Int32) (sg : Int32) : Prop := ∀ i j, i < 10 → j < 10 → w' (i * 10 + j) = w (i * 10 + j) + sg * nI (g i j)
section TLS
variable {w : Nat → Int32} {sg : Int32} {a b p q : Nat}
theorem tl_z {w1 w2 : Int32} (h : w1 = w2) : w1 = w2 + sg * nI 0 := by
  rw [h, nI_0, Int32.mul_zero, Int32.add_zero]
theorem tl_o {w1 w2 : Int32} (h : w1 = w2 + sg) : w1 = w2 + sg * nI 1 := by
  rw [h, show nI 1 = 1 from rfl, Int32.mul_one]
theorem tl_ov_w (ha : a < 10) (hb : b < 10) (hab : a ≠ b) (h : q < p) : TL (fun i j => ovX i j (a, b, p, q)) w (upd w (a * 10 + b) (w (a * 10 + b) + sg)) sg := by
  intro i j hi hj; dsimp only
  by_cases e : i = a ∧ j = b
  · obtain ⟨rfl, rfl⟩ := e
    rw [pk_us, show ovX i j (i, j, p, q) = 1 from if_pos (Or.inl ⟨rfl, rfl, h⟩)]; exact tl_o rfl
  · rw [pk_un (by omega), show ovX i j (a, b, p, q) = 0 from if_neg (by dsimp only; omega)]; exact tl_z rfl
theorem tl_ov_l (ha : a < 10) (hb : b < 10) (hab : a ≠ b) (h : p < q) : TL (fun i j => ovX i j (a, b, p, q)) w (upd w (b * 10 + a) (w (b * 10 + a) + sg)) sg := by
  intro i j hi hj; dsimp only
  by_cases e : i = b ∧ j = a
  · obtain ⟨rfl, rfl⟩ := e
    rw [pk_us, show ovX i j (j, i, p, q) = 1 from if_pos (Or.inr ⟨rfl, rfl, h⟩)]; exact tl_o rfl
  · rw [pk_un (by omega), show ovX i j (a, b, p, q) = 0 from if_neg (by dsimp only; omega)]; exact tl_z rfl
theorem tl_ov_d (h : p = q) : TL (fun i j => ovX i j (a, b, p, q)) w w sg := by
  intro i j hi hj; dsimp only
  rw [show ovX i j (a, b, p, q) = 0 from if_neg (by dsimp only; omega)]; exact tl_z rfl
theorem tl_dr_n (h : p ≠ q) : TL (fun i j => drX i j (a, b, p, q)) w w sg := by
  intro i j hi hj; dsimp only
  rw [show drX i j (a, b, p, q) = 0 from if_neg (by dsimp only; omega)]; exact tl_z rfl
theorem tl_dr_d (ha : a < 10) (hb : b < 10) (hab : a ≠ b) (h : p = q) : TL (fun i j => drX i j (a, b, p, q)) w (upd (upd w (a * 10 + b) (w (a * 10 + b) + sg)) (b * 10 + a) (upd w (a * 10 + b) (w (a * 10 + b) + sg) (b * 10 + a) + sg)) sg := by
  intro i j hi hj; dsimp only
  by_cases e : i = a ∧ j = b
  · obtain ⟨rfl, rfl⟩ := e
    rw [pk_un (by omega), pk_us, show drX i j (i, j, p, q) = 1 from if_pos ⟨Or.inl ⟨rfl, rfl⟩, h⟩]; exact tl_o rfl
  · by_cases e2 : i = b ∧ j = a
    · obtain ⟨rfl, rfl⟩ := e2
      rw [pk_us, pk_un (by omega), show drX i j (j, i, p, q) = 1 from if_pos ⟨Or.inr ⟨rfl, rfl⟩, h⟩]; exact tl_o rfl
    · rw [pk_un (by omega), pk_un (by omega), show drX i j (a, b, p, q) = 0 from if_neg (by dsimp only; omega)]; exact tl_z rfl
theorem tl_pt (ha : a < 10) (hb : b < 10) (hab : a ≠ b) : TL (fun i j => ptX i j (a, b, p, q)) w (upd (upd w (a * 10 + b) (w (a * 10 + b) + sg * nI p)) (b * 10 + a) (upd w (a * 10 + b) (w (a * 10 + b) + sg * nI p) (b * 10 + a) + sg * nI q)) sg := by
  intro i j hi hj; dsimp only
  by_cases e : i = a ∧ j = b
  · obtain ⟨rfl, rfl⟩ := e
    have : ptX i j (i, j, p, q) = p := by unfold ptX; dsimp only; rw [if_pos ⟨rfl, rfl⟩, if_neg (by omega)]; rfl
    rw [pk_un (by omega), pk_us, this]
  · by_cases e2 : i = b ∧ j = a
    · obtain ⟨rfl, rfl⟩ := e2
      have : ptX i j (j, i, p, q) = q := by unfold ptX; dsimp only; rw [if_neg (by omega), if_pos ⟨rfl, rfl⟩]; omega
      rw [pk_us, pk_un (by omega), this]
    · have : ptX i j (a, b, p, q) = 0 := by unfold ptX; dsimp only; rw [if_neg (by omega), if_neg (by omega)]
      rw [pk_un (by omega), pk_un (by omega), this]; exact tl_z rfl
end TLS
theorem ins_end {ml : List Mt} {x : Mt} : ml.insertIdx ml.length x = ml ++ [x] := by
  induction ml with
  | nil => rfl
  | cons y l ih => simp [ih]
theorem mg_ins {ml : List Mt} {k : Nat} {x : Mt} (hk : k ≤ ml.length) (i : Nat) : mg (ml.insertIdx k x) i = if i < k then mg ml i else if i = k then x else mg ml (i - 1) := by
  unfold mg
  rw [List.getD_eq_getElem?_getD, List.getElem?_insertIdx]
  split
  · rw [List.getD_eq_getElem?_getD]
  · split
    · rename_i e; subst e; rw [if_pos hk]; rfl
    · rw [List.getD_eq_getElem?_getD]
section MRS
variable {pa w d t pa' w' d' t' : Nat → Int32} {ml : List Mt}
theorem nI_mul1 (g : Nat) (x : Nat) : nI x + nI 1 * nI g = nI (x + g) := by
  rw [show nI 1 = 1 from rfl, Int32.one_mul, nI_add]
theorem nI_mulm (g : Nat) (x : Nat) (h : g ≤ x) : nI x + (-1) * nI g = nI (x - g) := by
  rw [← pk_sub h]; grind
theorem MR.ins {k a b p q : Nat} (h : MR pa w d t ml) (hk : k ≤ ml.length) (h1 : TL (fun i j => ovX i j (a, b, p, q)) w w' (nI 1)) (h2 : TL (fun i j => drX i j (a, b, p, q)) d d' (nI 1)) (h3 : TL (fun i j => ptX i j (a, b, p, q)) t t' (nI 1)) :
    MR (upd (upd (upd (upd (va_cpy pa pa (k * 4) (k * 4 + 4) ((ml.length - k) * 4)) (k * 4) (nI a)) (k * 4 + 1) (nI b)) (k * 4 + 2) (nI p)) (k * 4 + 3) (nI q)) w' d' t' (ml.insertIdx k (a, b, p, q)) := by
  refine ⟨fun i hi => ?_, fun x y hx hy => ?_⟩
  · rw [List.length_insertIdx, if_pos hk] at hi
    rw [mg_ins hk]
    by_cases e : i < k
    · rw [if_pos e]
      simp (disch := omega) only [pk_us, pk_un]
      rw [pk_cpy_out (by omega), pk_cpy_out (by omega), pk_cpy_out (by omega), pk_cpy_out (by omega)]
      exact h.1 i (by omega)
    · rw [if_neg e]
      by_cases e2 : i = k
      · subst e2
        rw [if_pos rfl]
        refine ⟨?_, ?_, ?_, ?_⟩ <;> simp (disch := omega) only [pk_us, pk_un]
      · rw [if_neg e2]
        simp (disch := omega) only [pk_us, pk_un]
        rw [pk_cpy_in (by omega) (by omega), pk_cpy_in (by omega) (by omega), pk_cpy_in (by omega) (by omega), pk_cpy_in (by omega) (by omega)]
        have := h.1 (i - 1) (by omega)
        rw [show k * 4 + (i * 4 - (k * 4 + 4)) = (i - 1) * 4 by omega, show k * 4 + (i * 4 + 1 - (k * 4 + 4)) = (i - 1) * 4 + 1 by omega, show k * 4 + (i * 4 + 2 - (k * 4 + 4)) = (i - 1) * 4 + 2 by omega, show k * 4 + (i * 4 + 3 - (k * 4 + 4)) = (i - 1) * 4 + 3 by omega]
        exact this
  · obtain ⟨g1, g2, g3⟩ := h.2 x y hx hy
    rw [h1 x y hx hy, h2 x y hx hy, h3 x y hx hy, g1, g2, g3, nI_mul1, nI_mul1, nI_mul1]
    exact ⟨congrArg nI (lsN_ins (ovX x y) (a, b, p, q) ml k hk).symm, congrArg nI (lsN_ins (drX x y) (a, b, p, q) ml k hk).symm, congrArg nI (lsN_ins (ptX x y) (a, b, p, q) ml k hk).symm⟩
theorem MR.del {k : Nat} (h : MR pa w d t ml) (hk : k < ml.length) (h1 : TL (fun i j => ovX i j ((mg ml k).1, (mg ml k).2.1, (mg ml k).2.2.1, (mg ml k).2.2.2)) w w' (-1)) (h2 : TL (fun i j => drX i j ((mg ml k).1, (mg ml k).2.1, (mg ml k).2.2.1, (mg ml k).2.2.2)) d d' (-1)) (h3 : TL (fun i j => ptX i j ((mg ml k).1, (mg ml k).2.1, (mg ml k).2.2.1, (mg ml k).2.2.2)) t t' (-1)) :
    MR (va_cpy pa pa (k * 4 + 4) (k * 4) ((ml.length - k - 1) * 4)) w' d' t' (ml.eraseIdx k) := by
  refine ⟨fun i hi => ?_, fun x y hx hy => ?_⟩
  · rw [List.length_eraseIdx_of_lt hk] at hi
    rw [mg_era hk hi]
    by_cases e : i < k
    · rw [if_pos e, pk_cpy_out (by omega), pk_cpy_out (by omega), pk_cpy_out (by omega), pk_cpy_out (by omega)]
      exact h.1 i (by omega)
    · rw [if_neg e, pk_cpy_in (by omega) (by omega), pk_cpy_in (by omega) (by omega), pk_cpy_in (by omega) (by omega), pk_cpy_in (by omega) (by omega)]
      have := h.1 (i + 1) (by omega)
      rw [show k * 4 + 4 + (i * 4 - k * 4) = (i + 1) * 4 by omega, show k * 4 + 4 + (i * 4 + 1 - k * 4) = (i + 1) * 4 + 1 by omega, show k * 4 + 4 + (i * 4 + 2 - k * 4) = (i + 1) * 4 + 2 by omega, show k * 4 + 4 + (i * 4 + 3 - k * 4) = (i + 1) * 4 + 3 by omega]
      exact this
  · obtain ⟨g1, g2, g3⟩ := h.2 x y hx hy
    have e1 := lsN_del (ovX x y) ml k hk
    have e2 := lsN_del (drX x y) ml k hk
    have e3 := lsN_del (ptX x y) ml k hk
    rw [h1 x y hx hy, h2 x y hx hy, h3 x y hx hy, g1, g2, g3]
    refine ⟨?_, ?_, ?_⟩
    · show nI (lsN _ ml) + -1 * nI (ovX x y (mg ml k)) = nI (lsN _ _)
      rw [nI_mulm _ _ (by omega)]; congr 1; omega
    · show nI (lsN _ ml) + -1 * nI (drX x y (mg ml k)) = nI (lsN _ _)
      rw [nI_mulm _ _ (by omega)]; congr 1; omega
    · show nI (lsN _ ml) + -1 * nI (ptX x y (mg ml k)) = nI (lsN _ _)
      rw [nI_mulm _ _ (by omega)]; congr 1; omega
end MRS
