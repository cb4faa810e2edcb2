set_option maxRecDepth 20000 in
theorem kNest_in : ∀ w ∈ kNest, w ∈ lw_tbl := in_r _ [86, 112, 126, 142, 158, 186, 199, 213, 232, 700, 705, 547, 544, 578, 584, 645, 627, 753, 758] (by decide +kernel)
theorem MR0 : MR (fun _ => 0) (fun _ => 0) (fun _ => 0) (fun _ => 0) [] := ⟨fun k hk => absurd hk (Nat.not_lt_zero k), fun a b _ _ => ⟨by rw [show ov [] a b = 0 from rfl]; exact nI_0.symm, by rw [show dr [] a b = 0 from rfl]; exact nI_0.symm, by rw [show pt [] a b = 0 from rfl]; exact nI_0.symm⟩⟩
theorem RS0 : RS (upd (upd (upd (fun _ => 0) 0 (nI 1)) 4 (nI 2)) 5 (nI 1)) 1 [] [] [] (nI 2, nI 1, nI 0) := ⟨rfl, rfl, rfl, rfl, rfl, rfl, rfl, fun j hj => absurd hj (Nat.not_lt_zero j), fun j hj => absurd hj (Nat.not_lt_zero j), fun j hj => absurd hj (Nat.not_lt_zero j)⟩
theorem TC0 : TC (fun _ => 0) [] := by
  unfold TC
  intros
  rfl
theorem INV0 : INV 0 1 [] [] [] (nI 2, nI 1, nI 0) [] [] 0 0 0 0 (fun _ => 0) (fun _ => 0) (fun _ => 0) (fun _ => 0) (fun _ => 0) (fun _ => 0) (fun _ => 0) (fun _ => 0) (fun _ => 0) (fun _ => 0) (-1) (-1) (upd (upd (upd (fun _ => 0) 0 (nI 1)) 4 (nI 2)) 5 (nI 1)) (fun _ => 0) (fun _ => 0) := by
  refine ⟨⟨by omega, by omega, Nat.zero_le _, fun x hx => (nomatch hx), Nat.zero_le _, fun x hx => (nomatch hx), Nat.zero_le _, fun x hx => (nomatch hx)⟩, MR0, TC0, fun j hj => absurd hj (Nat.not_lt_zero j), RS0, by omega, by omega, Nat.zero_le _, fun i t h => (nomatch h), fun x hx => (nomatch hx), rfl, fun i a h => (nomatch h), fun j hj => absurd hj (Nat.not_lt_zero j), Nat.zero_le _, fun j hj => absurd hj (Nat.not_lt_zero j), Nat.zero_le _, Or.inl rfl, fun k _ h _ => absurd h (by decide)⟩
set_option maxHeartbeats 4000000 in
set_option maxRecDepth 100000 in
theorem whole_start {p : Program} {e : Env} {s : State} {m : MethodId} {below : List Frame} {meth : Method} {c : Code} (l : Launch) {b L : Nat} {xs : Nat → Int32} (hL : L ≤ 3072) (C0 : lw_At p s m meth c b L xs) : W p l e room_1 s m #[Value.ref b] below meth c s.heap [] 0 0 (lw_Z below #[Value.ref b] s) (entryFrame m ([Value.ref b] : List Value).toArray 4) := by
  obtain ⟨hx, hb, hr, hml, hown, hts0, hX, hbl, hlocks, hgv⟩ := id C0
  have hown : s.vm.findClass RL = some m.cls := hown
  have hts : ∀ w ∈ wsL_law, w.before #[Value.ref b] s = true := fun w hw => hts0 w (wsL_law_in w hw)
  have hA : ∀ q : Nat, s.heap.size ≤ q → (fun q : Nat => s.heap.size ≤ q) q := fun _ h => h
  have hbA : ¬ (fun q : Nat => s.heap.size ≤ q) b := Nat.not_le.mpr hbl
  obtain ⟨c0, iS0, hKn0⟩ := u_known (C := RX0) (T := TX0) (N := 3) (n := 3) hts inlX0 (hts0 _ (Lin_r2 (.instantiable RX0 3) (by decide +kernel)))
  obtain ⟨c1, iS1, hKn1⟩ := u_known (C := RX1) (T := TX1) (N := 3) (n := 3) hts inlX1 (hts0 _ (Lin_r2 (.instantiable RX1 3) (by decide +kernel)))
  obtain ⟨c2, iS2, hKn2⟩ := u_known (C := RX2) (T := TX2) (N := 2) (n := 2) hts inlX2 (hts0 _ (Lin_r2 (.instantiable RX2 2) (by decide +kernel)))
  obtain ⟨c3, iS3, hKn3⟩ := u_known (C := RX3) (T := TX3) (N := 2) (n := 2) hts inlX3 (hts0 _ (Lin_r2 (.instantiable RX3 2) (by decide +kernel)))
  obtain ⟨c4, iS4, hKn4⟩ := u_known (C := RX4) (T := TX4) (N := 6) (n := 6) hts inlX4 (hts0 _ (Lin_r1 (.instantiable RX4 6) (by decide +kernel)))
  obtain ⟨c5, iS5, hKn5⟩ := u_known (C := RX5) (T := TX5) (N := 4) (n := 4) hts inlX5 (hts0 _ (Lin_r2 (.instantiable RX5 4) (by decide +kernel)))
  obtain ⟨c6, iS6, hKn6⟩ := u_known (C := RX6) (T := TX6) (N := 7) (n := 7) hts inlX6 (hts0 _ (Lin_r2 (.instantiable RX6 7) (by decide +kernel)))
  obtain ⟨c7, iS7, hKn7⟩ := u_known (C := RX7) (T := TX7) (N := 2) (n := 2) hts inlX7 (hts0 _ (Lin_r1 (.instantiable RX7 2) (by decide +kernel)))
  obtain ⟨c8, iS8, hKn8⟩ := u_known (C := RX8) (T := TX8) (N := 3) (n := 3) hts inlX8 (hts0 _ (Lin_r1 (.instantiable RX8 3) (by decide +kernel)))
  obtain ⟨c9, iS9, hKn9⟩ := u_known (C := RX9) (T := TX9) (N := 10) (n := 10) hts inlX9 (hts0 _ (Lin_r1 (.instantiable RX9 10) (by decide +kernel)))
  obtain ⟨c10, iS10, hKn10⟩ := u_known (C := RX10) (T := TX10) (N := 18) (n := 18) hts inlX10 (hts0 _ (Lin_r1 (.instantiable RX10 18) (by decide +kernel)))
  obtain ⟨cI, kcI, compcI, h1cI, h2cI, h3cI⟩ := Cond.arrayClass_spec (hts (.arrayClass .int) (by decide +kernel))
  obtain ⟨cJ, kcJ, compcJ, h1cJ, h2cJ, h3cJ⟩ := Cond.arrayClass_spec (hts (.arrayClass .long) (by decide +kernel))
  obtain ⟨cB, kcB, compcB, h1cB, h2cB, h3cB⟩ := Cond.arrayClass_spec (hts (.arrayClass .byte) (by decide +kernel))
  obtain ⟨D, hKc⟩ : ∃ D : va_G, ∀ (k : Nat) (q : vw_C), vwCl[k]? = some q → u_Kn s q.1 q.2.1 q.2.2 (D.1 k) (D.2 k) := by
    refine ⟨(fun k => match k with | 0 => c0 | 1 => c1 | 2 => c2 | 3 => c3 | 4 => c4 | 5 => c5 | 6 => c6 | 7 => c7 | 8 => c8 | 9 => c9 | _ => c10, fun k => match k with | 0 => iS0 | 1 => iS1 | 2 => iS2 | 3 => iS3 | 4 => iS4 | 5 => iS5 | 6 => iS6 | 7 => iS7 | 8 => iS8 | 9 => iS9 | _ => iS10), ?_⟩
    intro k q hq
    match k, hq with
    | 0, hq => cases hq; exact hKn0
    | 1, hq => cases hq; exact hKn1
    | 2, hq => cases hq; exact hKn2
    | 3, hq => cases hq; exact hKn3
    | 4, hq => cases hq; exact hKn4
    | 5, hq => cases hq; exact hKn5
    | 6, hq => cases hq; exact hKn6
    | 7, hq => cases hq; exact hKn7
    | 8, hq => cases hq; exact hKn8
    | 9, hq => cases hq; exact hKn9
    | 10, hq => cases hq; exact hKn10
    | k + 11, hq => simp [vwCl] at hq
  have hKW : KW D (kT cI cJ cB) s := by
    refine ⟨⟨hKc, fun k q hq => ?_⟩, fun w hw => ?_⟩
    · match k, hq with
      | 0, hq => cases hq; exact ⟨fun n z => ⟨fun k h => (by cases h), kcI, h2cI, compcI, h3cI⟩, h1cI⟩
      | 1, hq => cases hq; exact ⟨fun n z => ⟨fun k h => (by cases h), kcJ, h2cJ, compcJ, h3cJ⟩, h1cJ⟩
      | 2, hq => cases hq; exact ⟨fun n z => ⟨fun k h => (by cases h), kcB, h2cB, compcB, h3cB⟩, h1cB⟩
      | k + 3, hq => simp at hq
    · have h8 := hts0 w (kNest_in w hw)
      obtain ⟨a, i, x, g, rfl⟩ := kNest_w w hw
      exact va_Nw.of rfl h8
  have hS : va_S (fun q : Nat => s.heap.size ≤ q) s.heap s.heap [] := va_S.rf
  have hP : va_P D vwCl [] s.heap := fun k q h => by simp at h
  have hD : va_D (fun q : Nat => s.heap.size ≤ q) [] := ⟨fun i j p q h => by simp at h, fun k q h => by simp at h⟩
  have hl := lv_entry ([.ref b]) (n := 4) (Nat.le_of_ble_eq_true rfl)
  rw [lg_entry_eq]
  generalize (lg_sl ([.ref b]) ++ List.replicate (4 - (lg_sl ([.ref b])).length) Slot.unset).toArray = ls at hl ⊢
  have hl : lv_has ls 4 [(0, .ref b)] := hl
  refine va_new (ci := 9) (fs := [.null, .null, .null, .null, .null, .null, .null, .null, .null, .int 0]) (C := RX9) (T := TX9) (N := 10) hx hb hts inlX9 tyX9 tyX9_ok hown (hts0 _ (Lin_r1 (.classLink RL 7 RX9) (by decide +kernel))) (hts0 _ (Lin_r1 (.instantiable RX9 10) (by decide +kernel))) (hts0 _ (Lin_r1 (.initialized RX9) (by decide +kernel))) hKW.1 hP hD hS hA rfl (fun j hj => by rcases (show j = 0 ∨ j = 1 ∨ j = 2 ∨ j = 3 ∨ j = 4 ∨ j = 5 ∨ j = 6 ∨ j = 7 ∨ j = 8 ∨ j = 9 by omega) with rfl | rfl | rfl | rfl | rfl | rfl | rfl | rfl | rfl | rfl <;> rfl) (Nat.le_of_ble_eq_true rfl) (Nat.le_of_ble_eq_true rfl) dL_law_0 (fun a9 H hP hD hS => ?_)
  have hP : va_P D vwCl [(a9, .inr (9, [.null, .null, .null, .null, .null, .null, .null, .null, .null, .int 0]))] H := hP
  have hD : va_D (fun q : Nat => s.heap.size ≤ q) [(a9, .inr (9, [.null, .null, .null, .null, .null, .null, .null, .null, .null, .int 0]))] := hD
  refine W.widen (k := 1) (n := 10) (by decide) (by decide) ?_
  refine lv_dup hx hb dL_law_3 rfl ?_
  have hs_4 : kSplit ([(a9, .inr (9, [.null, .null, .null, .null, .null, .null, .null, .null, .null, .int 0]))] : va_W) ([(a9, .inr (9, [.null, .null, .null, .null, .null, .null, .null, .null, .null, .int 0]))] : va_W) ([] : va_W) [0] [] := ⟨rfl, rfl, rfl, rfl, rfl, by decide⟩
  refine kc_n hP hD hS hA hs_4 (kI (As := []) (rest := [.ref a9]) hx hb hml hown hts hKW hP hD hs_4 (c_X9_init l D cI cJ cB a9) (cwI 0 hts gL_law_X9_init rfl rfl rfl (hts0 _ (Lin_r1 (.initialized RX9) (by decide +kernel))) (hts0 _ (Lin_r1 (.methodLink RL 9 yX9_init) (by decide +kernel))) (hts0 _ (Lin_r1 (.instanceMethod yX9_init) (by decide +kernel))) rfl (by decide +kernel) ⟨Nat.le_of_ble_eq_true rfl, Nat.le_of_ble_eq_true rfl⟩) rfl hl.1 rfl (Nat.le_of_ble_eq_true rfl) dL_law_4 ⟨Nat.le_of_ble_eq_true rfl, Nat.le_of_ble_eq_true rfl⟩) (fun u H locs hw_4 hP9 hD9 hS => ?_)
  clear hP hD hs_4
  subst hw_4
  have hP : va_P D vwCl (wX9 (u 9) (u 4) (u 7) (u 8) (u 0) (u 6) (u 3) (u 2) (u 5) (u 1) cI cJ cB (nI 1) ++ wX4 (u 4) cI cJ cB (fun _ => 0) (fun _ => 0) (fun _ => 0) (fun _ => 0) (nI 0) (nI 0) ++ wX7 (u 7) cI cJ cB (fun _ => 0) (nI 0) ++ wX8 (u 8) cI cJ cB (fun _ => 0) (fun _ => 0) (nI 0) ++ wX0 (u 0) cI cJ cB (fun _ => 0) (nI 0) (nI 0) ++ wX6 (u 6) cI cJ cB (fun _ => 0) (fun _ => 0) (fun _ => 0) (nI 0) (nI 2) (nI 1) (nI 0) ++ wX3 (u 3) cI cJ cB (fun _ => 0) (fun _ => 0) ++ wX2 (u 2) cI cJ cB (fun _ => 0) (1 : Int64) ++ wX5 (u 5) cI cJ cB (fun _ => 0) (fun _ => 0) (-1) (-1) ++ wX1 (u 1) cI cJ cB (fun _ => 0) (fun _ => 0) (fun _ => 0) 0) H := hP9
  have hD : va_D (fun q : Nat => s.heap.size ≤ q) (wX9 (u 9) (u 4) (u 7) (u 8) (u 0) (u 6) (u 3) (u 2) (u 5) (u 1) cI cJ cB (nI 1) ++ wX4 (u 4) cI cJ cB (fun _ => 0) (fun _ => 0) (fun _ => 0) (fun _ => 0) (nI 0) (nI 0) ++ wX7 (u 7) cI cJ cB (fun _ => 0) (nI 0) ++ wX8 (u 8) cI cJ cB (fun _ => 0) (fun _ => 0) (nI 0) ++ wX0 (u 0) cI cJ cB (fun _ => 0) (nI 0) (nI 0) ++ wX6 (u 6) cI cJ cB (fun _ => 0) (fun _ => 0) (fun _ => 0) (nI 0) (nI 2) (nI 1) (nI 0) ++ wX3 (u 3) cI cJ cB (fun _ => 0) (fun _ => 0) ++ wX2 (u 2) cI cJ cB (fun _ => 0) (1 : Int64) ++ wX5 (u 5) cI cJ cB (fun _ => 0) (fun _ => 0) (-1) (-1) ++ wX1 (u 1) cI cJ cB (fun _ => 0) (fun _ => 0) (fun _ => 0) 0) := hD9
  clear hP9 hD9
  refine W.widen (k := 29) (n := 4938) (by decide) (by decide) ?_
  refine lv_astore_n (lv' := [(1, .ref (u 9 0)), (0, .ref b)]) hx hb dL_law_7 rfl hl (by decide) rfl (fun ls hl => ?_)
  refine va_new (ci := 10) (fs := [.null, .null, .int 0, .int 0, .null, .int 0, .null, .null, .null, .null, .null, .null, .null, .null, .null, .null, .null, .null]) (C := RX10) (T := TX10) (N := 18) hx hb hts inlX10 tyX10 tyX10_ok hown (hts0 _ (Lin_r1 (.classLink RL 10 RX10) (by decide +kernel))) (hts0 _ (Lin_r1 (.instantiable RX10 18) (by decide +kernel))) (hts0 _ (Lin_r1 (.initialized RX10) (by decide +kernel))) hKW.1 hP hD hS hA rfl (fun j hj => by rcases (show j = 0 ∨ j = 1 ∨ j = 2 ∨ j = 3 ∨ j = 4 ∨ j = 5 ∨ j = 6 ∨ j = 7 ∨ j = 8 ∨ j = 9 ∨ j = 10 ∨ j = 11 ∨ j = 12 ∨ j = 13 ∨ j = 14 ∨ j = 15 ∨ j = 16 ∨ j = 17 by omega) with rfl | rfl | rfl | rfl | rfl | rfl | rfl | rfl | rfl | rfl | rfl | rfl | rfl | rfl | rfl | rfl | rfl | rfl <;> rfl) (Nat.le_of_ble_eq_true rfl) (Nat.le_of_ble_eq_true rfl) dL_law_8 (fun a10 H hP hD hS => ?_)
  have hP : va_P D vwCl (wX9 (u 9) (u 4) (u 7) (u 8) (u 0) (u 6) (u 3) (u 2) (u 5) (u 1) cI cJ cB (nI 1) ++ wX4 (u 4) cI cJ cB (fun _ => 0) (fun _ => 0) (fun _ => 0) (fun _ => 0) (nI 0) (nI 0) ++ wX7 (u 7) cI cJ cB (fun _ => 0) (nI 0) ++ wX8 (u 8) cI cJ cB (fun _ => 0) (fun _ => 0) (nI 0) ++ wX0 (u 0) cI cJ cB (fun _ => 0) (nI 0) (nI 0) ++ wX6 (u 6) cI cJ cB (fun _ => 0) (fun _ => 0) (fun _ => 0) (nI 0) (nI 2) (nI 1) (nI 0) ++ wX3 (u 3) cI cJ cB (fun _ => 0) (fun _ => 0) ++ wX2 (u 2) cI cJ cB (fun _ => 0) (1 : Int64) ++ wX5 (u 5) cI cJ cB (fun _ => 0) (fun _ => 0) (-1) (-1) ++ wX1 (u 1) cI cJ cB (fun _ => 0) (fun _ => 0) (fun _ => 0) 0 ++ [(a10, .inr (10, [.null, .null, .int 0, .int 0, .null, .int 0, .null, .null, .null, .null, .null, .null, .null, .null, .null, .null, .null, .null]))]) H := hP
  have hD : va_D (fun q : Nat => s.heap.size ≤ q) (wX9 (u 9) (u 4) (u 7) (u 8) (u 0) (u 6) (u 3) (u 2) (u 5) (u 1) cI cJ cB (nI 1) ++ wX4 (u 4) cI cJ cB (fun _ => 0) (fun _ => 0) (fun _ => 0) (fun _ => 0) (nI 0) (nI 0) ++ wX7 (u 7) cI cJ cB (fun _ => 0) (nI 0) ++ wX8 (u 8) cI cJ cB (fun _ => 0) (fun _ => 0) (nI 0) ++ wX0 (u 0) cI cJ cB (fun _ => 0) (nI 0) (nI 0) ++ wX6 (u 6) cI cJ cB (fun _ => 0) (fun _ => 0) (fun _ => 0) (nI 0) (nI 2) (nI 1) (nI 0) ++ wX3 (u 3) cI cJ cB (fun _ => 0) (fun _ => 0) ++ wX2 (u 2) cI cJ cB (fun _ => 0) (1 : Int64) ++ wX5 (u 5) cI cJ cB (fun _ => 0) (fun _ => 0) (-1) (-1) ++ wX1 (u 1) cI cJ cB (fun _ => 0) (fun _ => 0) (fun _ => 0) 0 ++ [(a10, .inr (10, [.null, .null, .int 0, .int 0, .null, .int 0, .null, .null, .null, .null, .null, .null, .null, .null, .null, .null, .null, .null]))]) := hD
  refine W.widen (k := 30) (n := 4956) (by decide) (by decide) ?_
  refine lv_dup hx hb dL_law_11 rfl ?_
  have hs_12 : kSplit (wX9 (u 9) (u 4) (u 7) (u 8) (u 0) (u 6) (u 3) (u 2) (u 5) (u 1) cI cJ cB (nI 1) ++ wX4 (u 4) cI cJ cB (fun _ => 0) (fun _ => 0) (fun _ => 0) (fun _ => 0) (nI 0) (nI 0) ++ wX7 (u 7) cI cJ cB (fun _ => 0) (nI 0) ++ wX8 (u 8) cI cJ cB (fun _ => 0) (fun _ => 0) (nI 0) ++ wX0 (u 0) cI cJ cB (fun _ => 0) (nI 0) (nI 0) ++ wX6 (u 6) cI cJ cB (fun _ => 0) (fun _ => 0) (fun _ => 0) (nI 0) (nI 2) (nI 1) (nI 0) ++ wX3 (u 3) cI cJ cB (fun _ => 0) (fun _ => 0) ++ wX2 (u 2) cI cJ cB (fun _ => 0) (1 : Int64) ++ wX5 (u 5) cI cJ cB (fun _ => 0) (fun _ => 0) (-1) (-1) ++ wX1 (u 1) cI cJ cB (fun _ => 0) (fun _ => 0) (fun _ => 0) 0 ++ [(a10, .inr (10, [.null, .null, .int 0, .int 0, .null, .int 0, .null, .null, .null, .null, .null, .null, .null, .null, .null, .null, .null, .null]))]) ([(a10, .inr (10, [.null, .null, .int 0, .int 0, .null, .int 0, .null, .null, .null, .null, .null, .null, .null, .null, .null, .null, .null, .null]))] : va_W) (wX9 (u 9) (u 4) (u 7) (u 8) (u 0) (u 6) (u 3) (u 2) (u 5) (u 1) cI cJ cB (nI 1) ++ wX4 (u 4) cI cJ cB (fun _ => 0) (fun _ => 0) (fun _ => 0) (fun _ => 0) (nI 0) (nI 0) ++ wX7 (u 7) cI cJ cB (fun _ => 0) (nI 0) ++ wX8 (u 8) cI cJ cB (fun _ => 0) (fun _ => 0) (nI 0) ++ wX0 (u 0) cI cJ cB (fun _ => 0) (nI 0) (nI 0) ++ wX6 (u 6) cI cJ cB (fun _ => 0) (fun _ => 0) (fun _ => 0) (nI 0) (nI 2) (nI 1) (nI 0) ++ wX3 (u 3) cI cJ cB (fun _ => 0) (fun _ => 0) ++ wX2 (u 2) cI cJ cB (fun _ => 0) (1 : Int64) ++ wX5 (u 5) cI cJ cB (fun _ => 0) (fun _ => 0) (-1) (-1) ++ wX1 (u 1) cI cJ cB (fun _ => 0) (fun _ => 0) (fun _ => 0) 0) [29] [0, 1, 2, 3, 4, 5, 6, 7, 8, 9, 10, 11, 12, 13, 14, 15, 16, 17, 18, 19, 20, 21, 22, 23, 24, 25, 26, 27, 28] := ⟨rfl, rfl, rfl, rfl, rfl, by decide⟩
  refine kc_n hP hD hS hA hs_12 (kI (As := []) (rest := [.ref a10]) hx hb hml hown hts hKW hP hD hs_12 (c_X10_init l D cI cJ cB a10) (cwI 0 hts gL_law_X10_init rfl rfl rfl (hts0 _ (Lin_r1 (.initialized RX10) (by decide +kernel))) (hts (.methodLink RL 12 yX10_init) (by decide +kernel)) (hts (.instanceMethod yX10_init) (by decide +kernel)) rfl (by decide +kernel) ⟨Nat.le_of_ble_eq_true rfl, Nat.le_of_ble_eq_true rfl⟩) rfl hl.1 rfl (Nat.le_of_ble_eq_true rfl) dL_law_12 ⟨Nat.le_of_ble_eq_true rfl, Nat.le_of_ble_eq_true rfl⟩) (fun v H locs hw_12 hP9 hD9 hS => ?_)
  clear hP hD hs_12
  subst hw_12
  refine W.widen (k := 45) (n := 42566) (by decide) (by decide) ?_
  refine lv_astore_n (lv' := [(2, .ref (v 0)), (1, .ref (u 9 0)), (0, .ref b)]) hx hb dL_law_15 rfl hl (by decide) rfl (fun ls hl => ?_)
  refine lv_iconst (v := nI 0) hx hb dL_law_16 (by decide) ?_
  refine lv_istore_n (lv' := [(3, .int (nI 0)), (2, .ref (v 0)), (1, .ref (u 9 0)), (0, .ref b)]) hx hb dL_law_17 rfl hl (by decide) rfl (fun ls hl => ?_)
  have C1 : LA p s m c b L xs D cI cJ cB (fun q : Nat => s.heap.size ≤ q) := ⟨hx, hb, hml, hown, hts, hKW, hA, hX, hbl, hbA, hL⟩
  exact law_loop (q9 := u 9) (q4 := u 4) (q7 := u 7) (q8 := u 8) (q0 := u 0) (q6 := u 6) (q3 := u 3) (q2 := u 2) (q5 := u 5) (q10 := v) hr hlocks C1 (L + 1) 0 (u 1) 45 42566 1 [] [] [] (nI 2, nI 1, nI 0) [] [] 0 0 0 0 (fun _ => 0) (fun _ => 0) (fun _ => 0) (fun _ => 0) (fun _ => 0) (fun _ => 0) (fun _ => 0) (fun _ => 0) (fun _ => 0) (fun _ => 0) (fun _ => 0) (fun _ => 0) (fun _ => 0) (fun _ => 0) (1 : Int64) (fun _ => 0) (fun _ => 0) (-1) (-1) (fun _ => 0) (fun _ => 0) (fun _ => 0) 0 (upd (upd (upd (fun _ => 0) 0 (nI 1)) 4 (nI 2)) 5 (nI 1)) (fun _ => 0) (fun _ => 0) (fun _ => 0) (fun _ => 0) (fun _ => 0) (fun _ => 0) (fun _ => 0) (fun _ => 0) (fun _ => 0) (fun _ => 0) (fun _ => 0) (fun _ => 0) (fun _ => 0) (fun _ => 0) (Nat.zero_le _) (by omega) (Or.inl ⟨rfl, rfl, rfl⟩) INV0 _ _ hP9 hD9 hS ls (lv_sub hl [3, 2, 1, 0] rfl)
set_option maxHeartbeats 4000000 in
theorem lw_walk (l : Launch) (b : Addr) (xs : List Int32) : MetFree l x (headSpec (Jvm.Cond.code x code maxLocals ret :: tables_1) room_1) (lw_P b xs) (fun _ _ _ _ _ => True) lw_Q := by
  refine MetFree.of_bodyS (code := code) (maxLocals := maxLocals) (ret := ret) (by decide) ?_ ?_
  · intro args s m h hn
    obtain ⟨meth, c, h1, h2, h3, h4, h5, h6, -, -⟩ := Cond.code_spec hn (atoms_spec (ws := Jvm.Cond.code x code maxLocals ret :: tables_1) h _ List.mem_cons_self)
    exact ⟨meth, c, h1, h2, h3, h4, h5, h6⟩
  · intro p e s m args below meth c s₁ B hml0 hP _
    obtain ⟨rfl, hx, hbd, hgv⟩ := hP
    obtain ⟨scr, harrAt, hlist, hof, hsmall⟩ := hx
    obtain ⟨hcb, hkn, -, -⟩ := State.arrayAt?_spec harrAt
    have hown : s.vm.findClass R_law = some m.cls := findClass_of_methodNamed B.named
    have hts0 : ∀ c ∈ (Jvm.Cond.code x code maxLocals ret :: tables_1), c.before #[Value.ref b] s = true := atoms_spec (ws := Jvm.Cond.code x code maxLocals ret :: tables_1) B.pre
    have hts : ∀ w ∈ lw_tbl, w.before #[Value.ref b] s = true := k2_hts_sels lw_privs (fun w hw => hts0 w (List.mem_cons_of_mem _ hw)) lw_privs_ok
    have hml : c.maxLocals = 4 := B.maxLocals_eq (hts0 _ List.mem_cons_self)
    have X₀ : Stand p l e room_1 s m #[Value.ref b] below meth c s₁ [] 0 0 := Stand.of_body B
    have hh0 : s₁.heap = s.heap := by rw [B.state]; rfl
    have hsz : scr.slots.size = xs.length := by rw [← Array.length_toList, hlist, List.length_map]
    have hval : ∀ j : Nat, j < xs.length → scr.slots[j]? = some (.int (xs.getD j 0)) := fun j hj => by
      rw [← Array.getElem?_toList, hlist]
      simp [hj]
    have hbl : b < s.heap.size := (Array.getElem?_eq_some_iff.mp hcb).1
    have hX : va_X b xs.length (fun j => xs.getD j 0) s s.heap := ⟨scr, hcb, hof, hkn, hsz, hval⟩
    have K : W p l e room_1 s m #[Value.ref b] below meth c s₁.heap [] 0 0 (lw_Z below #[Value.ref b] s) (entryFrame m ([Value.ref b] : List Value).toArray 4) := by
      rw [hh0]
      exact whole_start l hbd ⟨B.exec, B.bytes, B.returns, hml, hown, hts, hX, hbl, B.notSynchronized, hgv⟩
    obtain ⟨t, a1, o, b1, b2, b3⟩ := K s₁ rfl X₀
    exact ⟨t, o, a1, b1, b2, b3⟩
theorem lw_pre_spec {args : Array Value} {s : State} (h : (Jvm.Cond.and given_1 narrow_1).before args s = true) (hr : rest_1_c.before args s = true) : ∃ (b : Addr) (xs : List Int32), lw_P b xs args s := by
  have hs := flat_of_before _ h
  have hq := flat_of_before _ hr
  have hc : (Cond.count 1).before args s = true := hs _ (by decide +kernel)
  have harr : (Cond.arrayOf (.arg 0) .int).before args s = true := hs _ (by decide +kernel)
  have hle : (Cond.le (.length (.arg 0)) (.int 3072)).before args s = true := hs _ (by decide +kernel)
  have hlen : (Cond.isInt (.length (.arg 0))).before args s = true := hq _ (by decide +kernel)
  have hall : (Cond.all (.arg 0) (.isInt (.elem (.arg 0) (.index 0)))).before args s = true := hq _ (by decide +kernel)
  obtain ⟨b, xs, hb, hx⟩ := State.ints_of_pre rfl harr hlen hall
  have hsm : xs.length < 2 ^ 31 := hx.choose_spec.2.2.2
  have hev : (Term.length (.arg 0)).eval args s none [] s = some (.int xs.length.toInt32) := hx.length_eval hb
  have hv := Cond.le_ints hev (show (Term.int 3072).eval args s none [] s = some (.int 3072) from rfl)
  have hd : xs.length.toInt32 ≤ 3072 := by
    simpa [Cond.before, Cond.holds, hv] using hle
  have hN : xs.length ≤ 3072 := (Int32.ofNat_le_ofNat hsm (by decide)).mp (show Int32.ofNat xs.length ≤ Int32.ofNat 3072 from hd)
  exact ⟨b, xs, Cond.one_arg hc (show args[0]? = some (.ref b) from hb), hx, hN, h⟩
theorem lw_comes (l : Launch) : Comes l x (Jvm.Cond.code x code maxLocals ret :: tables_1) room_1 (fun tb e args s => Calls_1 tb e args s ∧ rest_1 tb e args s ∧ Pre_1 tb e args s)
    (fun _ _ args s o t => lw_Q args s o t) := by
  intro p e ha hc hk s m args below hf hfit hheap happ hpre
  obtain ⟨b, xs, hP⟩ := lw_pre_spec hpre.2.2 hpre.2.1
  obtain ⟨k, o, h1, h2, h3, hQ⟩ := lw_walk l b xs p e ha hc hk s m args below hf ((Spec.applies_iff_loose hf).mp happ).1 hP trivial
  exact ⟨k, o, h1, h2, h3, hQ⟩
theorem lw_frame {s t : State} {o : Outcome} {args : Array Value} (h : Framed s o t [] 600000 7302250) :
    Framed s o t (fieldLocs frame_1_writes args s ++ arrayLocs frame_1_arrays args s ++ staticLocs frame_1_statics s) 600000 7302250 := h
theorem lw_limb (L : Cond) (hL : ∀ (args : Array Value) (s t : State), L.after args s (.returned (some (.int 1))) t = true) :
    ArmFor flags0 classFile x code maxLocals ret World_1 tables_1 room_1 Calls_1 rest_1 Pre_1
      (fun tb e a s o t => postC L tb e a s o t ∧ Framed s o t (fieldLocs frame_1_writes a s ++ arrayLocs frame_1_arrays a s ++ staticLocs frame_1_statics s) 600000 7302250) := by
  intro l _ _ _ p e ha hc hk s m args below hf hfit hheap happ hpre
  obtain ⟨k, o, h1, h2, h3, rfl, hF⟩ := lw_comes l p e ha hc hk s m args below hf hfit hheap happ hpre
  exact ⟨k, _, h1, h2, h3, hL args s _, lw_frame hF⟩
theorem i_vc : Claimed_1_1 ∧ Claimed_1_2 := ⟨lw_limb limb_1_1 (fun args s t => by simp [limb_1_1, Cond.after, Cond.holds, Cond.value]), lw_limb limb_1_2 (fun args s t => Cond.after_iff.mpr (by
  first | (rw [show limb_1_2 = Cond.eq .result (.int 1) from rfl, Cond.eq_ints (x := 1) (y := 1) rfl rfl]; simp; done) | (simp [limb_1_2, Cond.value, Term.eval]; done)))⟩
