def rmX0_init : Room := { frames := 1, cells := 1, slots := 240, locals := 12 }
set_option maxHeartbeats 4000000 in
set_option maxRecDepth 100000 in
theorem c_X0_init (l : Launch) (D : va_G) (cI cJ cB : ClassId) (a : Nat) : ∀ sz, Met l yX0_init wsX0_init rmX0_init (va_Pc [.ref a] (PW D (kT cI cJ cB) sz [(a, .inr (0, [.null, .int 0, .int 0]))])) (va_Qv (S := Nat → Nat) (fun q => q 0 = a) (QW D sz [(a, .inr (0, [.null, .int 0, .int 0]))] (fun q => wX0 q cI cJ cB (fun _ => 0) (nI 0) (nI 0))) (va_A [(a, .inr (0, [.null, .int 0, .int 0]))] sz)) 1 240 (va_A [(a, .inr (0, [.null, .int 0, .int 0]))] sz) := by
  intro sz
  refine Met.ofW (cc := cX0_init) (maxL := 1) (ret := none) (by decide) rfl ?_
  intro p e s m args below meth c s₁ B hml hv
  obtain ⟨hav, hsz, hP, hKW, hD0⟩ := hv
  have hx := B.exec
  have hb := B.bytes
  have hr := B.returns
  have hts := atoms_spec (ws := wsX0_init) B.pre
  have hown : s.vm.findClass RX0 = some m.cls := findClass_of_methodNamed B.named
  have hin : meth.name = "<init>" := (name_of_methodNamed B.named B.method).1
  subst hsz
  have hD := hD0.self (sz := s.heap.size)
  obtain ⟨A, hAe⟩ : ∃ A : Nat → Prop, A = va_A [(a, .inr (0, [.null, .int 0, .int 0]))] s.heap.size := ⟨_, rfl⟩
  rw [← hAe] at hD
  have hA : ∀ q : Nat, s.heap.size ≤ q → A q := fun q h => by rw [hAe]; exact Or.inr h
  have hS : va_S A s.heap s.heap [] := va_S.rf
  refine k_gen (fun Q hQ => ?_)
  have hl := lv_entry ([.ref a]) (n := 1) (Nat.le_of_ble_eq_true rfl)
  refine k_entry hav (lg_entry_eq ..) ?_
  generalize (lg_sl ([.ref a]) ++ List.replicate (1 - (lg_sl ([.ref a])).length) Slot.unset).toArray = ls at hl ⊢
  have hl : lv_has ls 1 [(0, .ref a)] := hl
  have hu_0 : ∀ w ∈ u_ws RX0 TX0 3, w ∈ wsX0_init := by decide +kernel
  refine lv_aload_n hx hb dX0_init_0 rfl (lv_at hl 0 rfl) ?_
  refine W.objInit hx hb hown (hts (.methodLink RX0 3 objectInit) (by decide +kernel)) (hts (.instanceMethod objectInit) (by decide +kernel)) (hts (.code objectInit ⟨#[0xb1]⟩ 1 none) (by decide +kernel)) rfl (by rw [hml]; exact hl.1) rfl dX0_init_1 (Nat.le_of_ble_eq_true rfl) (Nat.le_of_ble_eq_true rfl) ?_
  refine W.eq (g2 := F0 m 4 ls []) rfl ?_
  refine lv_aload_n hx hb dX0_init_4 rfl (lv_at hl 0 rfl) ?_
  refine lv_sipush (v := nI 240) hx hb dX0_init_5 (by decide) ?_
  refine k_newa (atype := .int) (ty := .int) (N := 240) (a0 := (240, .inl (fun _ => 0))) hx hb (hts (.arrayClass .int) (by decide +kernel)) rfl hKW 0 rfl (fun _ h9 => FieldType.noConfusion h9) hP hD hS hA (fun _ => rfl) (by decide) (by decide) (Nat.le_of_ble_eq_true rfl) (Nat.le_of_ble_eq_true rfl) dX0_init_8 (fun q_1 H hP hD hS => ?_)
  have hP : va_P D vwCl ([(a, .inr (0, [.null, .int 0, .int 0])), (q_1, .inl (cI, 240, .inl (fun _ => 0)))] : va_W) H := hP
  have hD : va_D A ([(a, .inr (0, [.null, .int 0, .int 0])), (q_1, .inl (cI, 240, .inl (fun _ => 0)))] : va_W) := hD
  refine W.widen (k := 1) (n := 240) (by decide) (by decide) ?_
  refine k_putF (ci := 0) (ty := .array .int) (v := .ref q_1) (C := RX0) (Tb := TX0) (N := 3) (w' := ([(a, .inr (0, [.ref q_1, .int 0, .int 0])), (q_1, .inl (cI, 240, .inl (fun _ => 0)))] : va_W)) hx hb hts hu_0 tyX0 tyX0_ok nmX0 hown hKW hP hD hS 0 rfl rfl 0 (by decide) (by decide +kernel) rfl rfl hin rfl (by decide +kernel) rfl rfl (Nat.le_of_ble_eq_true rfl) dX0_init_10 rfl (fun H locs hP hD hS => ?_)
  refine lv_aload_n hx hb dX0_init_13 rfl (lv_at hl 0 rfl) ?_
  refine lv_iconst (v := nI 0) hx hb dX0_init_14 (by decide) ?_
  refine k_put (ci := 0) (ty := .int) (v := .int (nI 0)) (C := RX0) (Tb := TX0) (N := 3) (w' := ([(a, .inr (0, [.ref q_1, .int (nI 0), .int 0])), (q_1, .inl (cI, 240, .inl (fun _ => 0)))] : va_W)) hx hb hts hu_0 tyX0 tyX0_ok nmX0 hown hKW hP hD hS 0 rfl rfl 1 (by decide) (by decide +kernel) rfl rfl (by decide +kernel) rfl rfl (Nat.le_of_ble_eq_true rfl) dX0_init_15 rfl (fun H locs hP hD hS => ?_)
  refine lv_aload_n hx hb dX0_init_18 rfl (lv_at hl 0 rfl) ?_
  refine lv_iconst (v := nI 0) hx hb dX0_init_19 (by decide) ?_
  refine k_put (ci := 0) (ty := .int) (v := .int (nI 0)) (C := RX0) (Tb := TX0) (N := 3) (w' := ([(a, .inr (0, [.ref q_1, .int (nI 0), .int (nI 0)])), (q_1, .inl (cI, 240, .inl (fun _ => 0)))] : va_W)) hx hb hts hu_0 tyX0 tyX0_ok nmX0 hown hKW hP hD hS 0 rfl rfl 2 (by decide) (by decide +kernel) rfl rfl (by decide +kernel) rfl rfl (Nat.le_of_ble_eq_true rfl) dX0_init_20 rfl (fun H locs hP hD hS => ?_)
  subst hQ; subst hAe
  exact W.vret hx hb hr (fun tt9 ht9 _ => ⟨⟨(fun j => match j with | 0 => a | _ => q_1), rfl, rfl, by rw [ht9]; exact hP, hD⟩, hS.F ht9⟩) hS.2.2 dX0_init_23
def rmX1_init : Room := { frames := 1, cells := 3, slots := 110, locals := 12 }
set_option maxHeartbeats 4000000 in
set_option maxRecDepth 100000 in
theorem c_X1_init (l : Launch) (D : va_G) (cI cJ cB : ClassId) (a : Nat) : ∀ sz, Met l yX1_init wsX1_init rmX1_init (va_Pc [.ref a] (PW D (kT cI cJ cB) sz [(a, .inr (1, [.null, .null, .null]))])) (va_Qv (S := Nat → Nat) (fun q => q 0 = a) (QW D sz [(a, .inr (1, [.null, .null, .null]))] (fun q => wX1 q cI cJ cB (fun _ => 0) (fun _ => 0) (fun _ => 0) 0)) (va_A [(a, .inr (1, [.null, .null, .null]))] sz)) 3 110 (va_A [(a, .inr (1, [.null, .null, .null]))] sz) := by
  intro sz
  refine Met.ofW (cc := cX1_init) (maxL := 1) (ret := none) (by decide) rfl ?_
  intro p e s m args below meth c s₁ B hml hv
  obtain ⟨hav, hsz, hP, hKW, hD0⟩ := hv
  have hx := B.exec
  have hb := B.bytes
  have hr := B.returns
  have hts := atoms_spec (ws := wsX1_init) B.pre
  have hown : s.vm.findClass RX1 = some m.cls := findClass_of_methodNamed B.named
  have hin : meth.name = "<init>" := (name_of_methodNamed B.named B.method).1
  subst hsz
  have hD := hD0.self (sz := s.heap.size)
  obtain ⟨A, hAe⟩ : ∃ A : Nat → Prop, A = va_A [(a, .inr (1, [.null, .null, .null]))] s.heap.size := ⟨_, rfl⟩
  rw [← hAe] at hD
  have hA : ∀ q : Nat, s.heap.size ≤ q → A q := fun q h => by rw [hAe]; exact Or.inr h
  have hS : va_S A s.heap s.heap [] := va_S.rf
  refine k_gen (fun Q hQ => ?_)
  have hl := lv_entry ([.ref a]) (n := 1) (Nat.le_of_ble_eq_true rfl)
  refine k_entry hav (lg_entry_eq ..) ?_
  generalize (lg_sl ([.ref a]) ++ List.replicate (1 - (lg_sl ([.ref a])).length) Slot.unset).toArray = ls at hl ⊢
  have hl : lv_has ls 1 [(0, .ref a)] := hl
  have hu_1 : ∀ w ∈ u_ws RX1 TX1 3, w ∈ wsX1_init := by decide +kernel
  refine lv_aload_n hx hb dX1_init_0 rfl (lv_at hl 0 rfl) ?_
  refine W.objInit hx hb hown (hts (.methodLink RX1 3 objectInit) (by decide +kernel)) (hts (.instanceMethod objectInit) (by decide +kernel)) (hts (.code objectInit ⟨#[0xb1]⟩ 1 none) (by decide +kernel)) rfl (by rw [hml]; exact hl.1) rfl dX1_init_1 (Nat.le_of_ble_eq_true rfl) (Nat.le_of_ble_eq_true rfl) ?_
  refine W.eq (g2 := F0 m 4 ls []) rfl ?_
  refine lv_aload_n hx hb dX1_init_4 rfl (lv_at hl 0 rfl) ?_
  refine lv_bipush (v := nI 10) hx hb dX1_init_5 (by decide) ?_
  refine k_newa (atype := .int) (ty := .int) (N := 10) (a0 := (10, .inl (fun _ => 0))) hx hb (hts (.arrayClass .int) (by decide +kernel)) rfl hKW 0 rfl (fun _ h9 => FieldType.noConfusion h9) hP hD hS hA (fun _ => rfl) (by decide) (by decide) (Nat.le_of_ble_eq_true rfl) (Nat.le_of_ble_eq_true rfl) dX1_init_7 (fun q_1 H hP hD hS => ?_)
  have hP : va_P D vwCl ([(a, .inr (1, [.null, .null, .null])), (q_1, .inl (cI, 10, .inl (fun _ => 0)))] : va_W) H := hP
  have hD : va_D A ([(a, .inr (1, [.null, .null, .null])), (q_1, .inl (cI, 10, .inl (fun _ => 0)))] : va_W) := hD
  refine W.widen (k := 1) (n := 10) (by decide) (by decide) ?_
  refine k_putF (ci := 1) (ty := .array .int) (v := .ref q_1) (C := RX1) (Tb := TX1) (N := 3) (w' := ([(a, .inr (1, [.ref q_1, .null, .null])), (q_1, .inl (cI, 10, .inl (fun _ => 0)))] : va_W)) hx hb hts hu_1 tyX1 tyX1_ok nmX1 hown hKW hP hD hS 0 rfl rfl 0 (by decide) (by decide +kernel) rfl rfl hin rfl (by decide +kernel) rfl rfl (Nat.le_of_ble_eq_true rfl) dX1_init_9 rfl (fun H locs hP hD hS => ?_)
  refine lv_aload_n hx hb dX1_init_12 rfl (lv_at hl 0 rfl) ?_
  refine lv_bipush (v := nI 100) hx hb dX1_init_13 (by decide) ?_
  refine k_newa (atype := .int) (ty := .int) (N := 100) (a0 := (100, .inl (fun _ => 0))) hx hb (hts (.arrayClass .int) (by decide +kernel)) rfl hKW 0 rfl (fun _ h9 => FieldType.noConfusion h9) hP hD hS hA (fun _ => rfl) (by decide) (by decide) (Nat.le_of_ble_eq_true rfl) (Nat.le_of_ble_eq_true rfl) dX1_init_15 (fun q_2 H hP hD hS => ?_)
  have hP : va_P D vwCl ([(a, .inr (1, [.ref q_1, .null, .null])), (q_1, .inl (cI, 10, .inl (fun _ => 0))), (q_2, .inl (cI, 100, .inl (fun _ => 0)))] : va_W) H := hP
  have hD : va_D A ([(a, .inr (1, [.ref q_1, .null, .null])), (q_1, .inl (cI, 10, .inl (fun _ => 0))), (q_2, .inl (cI, 100, .inl (fun _ => 0)))] : va_W) := hD
  refine W.widen (k := 2) (n := 110) (by decide) (by decide) ?_
  refine k_putF (ci := 1) (ty := .array .int) (v := .ref q_2) (C := RX1) (Tb := TX1) (N := 3) (w' := ([(a, .inr (1, [.ref q_1, .ref q_2, .null])), (q_1, .inl (cI, 10, .inl (fun _ => 0))), (q_2, .inl (cI, 100, .inl (fun _ => 0)))] : va_W)) hx hb hts hu_1 tyX1 tyX1_ok nmX1 hown hKW hP hD hS 0 rfl rfl 1 (by decide) (by decide +kernel) rfl rfl hin rfl (by decide +kernel) rfl rfl (Nat.le_of_ble_eq_true rfl) dX1_init_17 rfl (fun H locs hP hD hS => ?_)
  refine lv_aload_n hx hb dX1_init_20 rfl (lv_at hl 0 rfl) ?_
  refine lv_iconst (v := nI 0) hx hb dX1_init_21 (by decide) ?_
  refine k_newa (atype := .int) (ty := .int) (N := 0) (a0 := (0, .inl (fun _ => 0))) hx hb (hts (.arrayClass .int) (by decide +kernel)) rfl hKW 0 rfl (fun _ h9 => FieldType.noConfusion h9) hP hD hS hA (fun _ => rfl) (by decide) (by decide) (Nat.le_of_ble_eq_true rfl) (Nat.le_of_ble_eq_true rfl) dX1_init_22 (fun q_3 H hP hD hS => ?_)
  have hP : va_P D vwCl ([(a, .inr (1, [.ref q_1, .ref q_2, .null])), (q_1, .inl (cI, 10, .inl (fun _ => 0))), (q_2, .inl (cI, 100, .inl (fun _ => 0))), (q_3, .inl (cI, 0, .inl (fun _ => 0)))] : va_W) H := hP
  have hD : va_D A ([(a, .inr (1, [.ref q_1, .ref q_2, .null])), (q_1, .inl (cI, 10, .inl (fun _ => 0))), (q_2, .inl (cI, 100, .inl (fun _ => 0))), (q_3, .inl (cI, 0, .inl (fun _ => 0)))] : va_W) := hD
  refine W.widen (k := 3) (n := 110) (by decide) (by decide) ?_
  refine k_put (ci := 1) (ty := .array .int) (v := .ref q_3) (C := RX1) (Tb := TX1) (N := 3) (w' := ([(a, .inr (1, [.ref q_1, .ref q_2, .ref q_3])), (q_1, .inl (cI, 10, .inl (fun _ => 0))), (q_2, .inl (cI, 100, .inl (fun _ => 0))), (q_3, .inl (cI, 0, .inl (fun _ => 0)))] : va_W)) hx hb hts hu_1 tyX1 tyX1_ok nmX1 hown hKW hP hD hS 0 rfl rfl 2 (by decide) (by decide +kernel) rfl rfl (by decide +kernel) rfl rfl (Nat.le_of_ble_eq_true rfl) dX1_init_24 rfl (fun H locs hP hD hS => ?_)
  subst hQ; subst hAe
  exact W.vret hx hb hr (fun tt9 ht9 _ => ⟨⟨(fun j => match j with | 0 => a | 1 => q_1 | 2 => q_2 | _ => q_3), rfl, rfl, by rw [ht9]; exact hP, hD⟩, hS.F ht9⟩) hS.2.2 dX1_init_27
def rmX2_init : Room := { frames := 1, cells := 1, slots := 30, locals := 12 }
set_option maxHeartbeats 4000000 in
set_option maxRecDepth 100000 in
theorem c_X2_init (l : Launch) (D : va_G) (cI cJ cB : ClassId) (a : Nat) : ∀ sz, Met l yX2_init wsX2_init rmX2_init (va_Pc [.ref a] (PW D (kT cI cJ cB) sz [(a, .inr (2, [.null, .long 0]))])) (va_Qv (S := Nat → Nat) (fun q => q 0 = a) (QW D sz [(a, .inr (2, [.null, .long 0]))] (fun q => wX2 q cI cJ cB (fun _ => 0) (1 : Int64))) (va_A [(a, .inr (2, [.null, .long 0]))] sz)) 1 30 (va_A [(a, .inr (2, [.null, .long 0]))] sz) := by
  intro sz
  refine Met.ofW (cc := cX2_init) (maxL := 1) (ret := none) (by decide) rfl ?_
  intro p e s m args below meth c s₁ B hml hv
  obtain ⟨hav, hsz, hP, hKW, hD0⟩ := hv
  have hx := B.exec
  have hb := B.bytes
  have hr := B.returns
  have hts := atoms_spec (ws := wsX2_init) B.pre
  have hown : s.vm.findClass RX2 = some m.cls := findClass_of_methodNamed B.named
  have hin : meth.name = "<init>" := (name_of_methodNamed B.named B.method).1
  subst hsz
  have hD := hD0.self (sz := s.heap.size)
  obtain ⟨A, hAe⟩ : ∃ A : Nat → Prop, A = va_A [(a, .inr (2, [.null, .long 0]))] s.heap.size := ⟨_, rfl⟩
  rw [← hAe] at hD
  have hA : ∀ q : Nat, s.heap.size ≤ q → A q := fun q h => by rw [hAe]; exact Or.inr h
  have hS : va_S A s.heap s.heap [] := va_S.rf
  refine k_gen (fun Q hQ => ?_)
  have hl := lv_entry ([.ref a]) (n := 1) (Nat.le_of_ble_eq_true rfl)
  refine k_entry hav (lg_entry_eq ..) ?_
  generalize (lg_sl ([.ref a]) ++ List.replicate (1 - (lg_sl ([.ref a])).length) Slot.unset).toArray = ls at hl ⊢
  have hl : lv_has ls 1 [(0, .ref a)] := hl
  have hu_2 : ∀ w ∈ u_ws RX2 TX2 2, w ∈ wsX2_init := by decide +kernel
  refine lv_aload_n hx hb dX2_init_0 rfl (lv_at hl 0 rfl) ?_
  refine W.objInit hx hb hown (hts (.methodLink RX2 3 objectInit) (by decide +kernel)) (hts (.instanceMethod objectInit) (by decide +kernel)) (hts (.code objectInit ⟨#[0xb1]⟩ 1 none) (by decide +kernel)) rfl (by rw [hml]; exact hl.1) rfl dX2_init_1 (Nat.le_of_ble_eq_true rfl) (Nat.le_of_ble_eq_true rfl) ?_
  refine W.eq (g2 := F0 m 4 ls []) rfl ?_
  refine lv_aload_n hx hb dX2_init_4 rfl (lv_at hl 0 rfl) ?_
  refine lv_bipush (v := nI 30) hx hb dX2_init_5 (by decide) ?_
  refine k_newa (atype := .long) (ty := .long) (N := 30) (a0 := (30, .inr (.inl (fun _ => 0)))) hx hb (hts (.arrayClass .long) (by decide +kernel)) rfl hKW 1 rfl (fun _ h9 => FieldType.noConfusion h9) hP hD hS hA (fun _ => rfl) (by decide) (by decide) (Nat.le_of_ble_eq_true rfl) (Nat.le_of_ble_eq_true rfl) dX2_init_7 (fun q_1 H hP hD hS => ?_)
  have hP : va_P D vwCl ([(a, .inr (2, [.null, .long 0])), (q_1, .inl (cJ, 30, .inr (.inl (fun _ => 0))))] : va_W) H := hP
  have hD : va_D A ([(a, .inr (2, [.null, .long 0])), (q_1, .inl (cJ, 30, .inr (.inl (fun _ => 0))))] : va_W) := hD
  refine W.widen (k := 1) (n := 30) (by decide) (by decide) ?_
  refine k_putF (ci := 2) (ty := .array .long) (v := .ref q_1) (C := RX2) (Tb := TX2) (N := 2) (w' := ([(a, .inr (2, [.ref q_1, .long 0])), (q_1, .inl (cJ, 30, .inr (.inl (fun _ => 0))))] : va_W)) hx hb hts hu_2 tyX2 tyX2_ok nmX2 hown hKW hP hD hS 0 rfl rfl 0 (by decide) (by decide +kernel) rfl rfl hin rfl (by decide +kernel) rfl rfl (Nat.le_of_ble_eq_true rfl) dX2_init_9 rfl (fun H locs hP hD hS => ?_)
  refine lv_aload_n hx hb dX2_init_12 rfl (lv_at hl 0 rfl) ?_
  refine lv_lconst (v := 1) hx hb dX2_init_13 (by decide) ?_
  refine k_put (ci := 2) (ty := .long) (v := .long (1 : Int64)) (C := RX2) (Tb := TX2) (N := 2) (w' := ([(a, .inr (2, [.ref q_1, .long (1 : Int64)])), (q_1, .inl (cJ, 30, .inr (.inl (fun _ => 0))))] : va_W)) hx hb hts hu_2 tyX2 tyX2_ok nmX2 hown hKW hP hD hS 0 rfl rfl 1 (by decide) (by decide +kernel) rfl rfl (by decide +kernel) rfl rfl (Nat.le_of_ble_eq_true rfl) dX2_init_14 rfl (fun H locs hP hD hS => ?_)
  subst hQ; subst hAe
  exact W.vret hx hb hr (fun tt9 ht9 _ => ⟨⟨(fun j => match j with | 0 => a | _ => q_1), rfl, rfl, by rw [ht9]; exact hP, hD⟩, hS.F ht9⟩) hS.2.2 dX2_init_17
def rmX3_init : Room := { frames := 1, cells := 2, slots := 20, locals := 12 }
set_option maxHeartbeats 4000000 in
set_option maxRecDepth 100000 in
theorem c_X3_init (l : Launch) (D : va_G) (cI cJ cB : ClassId) (a : Nat) : ∀ sz, Met l yX3_init wsX3_init rmX3_init (va_Pc [.ref a] (PW D (kT cI cJ cB) sz [(a, .inr (3, [.null, .null]))])) (va_Qv (S := Nat → Nat) (fun q => q 0 = a) (QW D sz [(a, .inr (3, [.null, .null]))] (fun q => wX3 q cI cJ cB (fun _ => 0) (fun _ => 0))) (va_A [(a, .inr (3, [.null, .null]))] sz)) 2 20 (va_A [(a, .inr (3, [.null, .null]))] sz) := by
  intro sz
  refine Met.ofW (cc := cX3_init) (maxL := 1) (ret := none) (by decide) rfl ?_
  intro p e s m args below meth c s₁ B hml hv
  obtain ⟨hav, hsz, hP, hKW, hD0⟩ := hv
  have hx := B.exec
  have hb := B.bytes
  have hr := B.returns
  have hts := atoms_spec (ws := wsX3_init) B.pre
  have hown : s.vm.findClass RX3 = some m.cls := findClass_of_methodNamed B.named
  have hin : meth.name = "<init>" := (name_of_methodNamed B.named B.method).1
  subst hsz
  have hD := hD0.self (sz := s.heap.size)
  obtain ⟨A, hAe⟩ : ∃ A : Nat → Prop, A = va_A [(a, .inr (3, [.null, .null]))] s.heap.size := ⟨_, rfl⟩
  rw [← hAe] at hD
  have hA : ∀ q : Nat, s.heap.size ≤ q → A q := fun q h => by rw [hAe]; exact Or.inr h
  have hS : va_S A s.heap s.heap [] := va_S.rf
  refine k_gen (fun Q hQ => ?_)
  have hl := lv_entry ([.ref a]) (n := 1) (Nat.le_of_ble_eq_true rfl)
  refine k_entry hav (lg_entry_eq ..) ?_
  generalize (lg_sl ([.ref a]) ++ List.replicate (1 - (lg_sl ([.ref a])).length) Slot.unset).toArray = ls at hl ⊢
  have hl : lv_has ls 1 [(0, .ref a)] := hl
  have hu_3 : ∀ w ∈ u_ws RX3 TX3 2, w ∈ wsX3_init := by decide +kernel
  refine lv_aload_n hx hb dX3_init_0 rfl (lv_at hl 0 rfl) ?_
  refine W.objInit hx hb hown (hts (.methodLink RX3 3 objectInit) (by decide +kernel)) (hts (.instanceMethod objectInit) (by decide +kernel)) (hts (.code objectInit ⟨#[0xb1]⟩ 1 none) (by decide +kernel)) rfl (by rw [hml]; exact hl.1) rfl dX3_init_1 (Nat.le_of_ble_eq_true rfl) (Nat.le_of_ble_eq_true rfl) ?_
  refine W.eq (g2 := F0 m 4 ls []) rfl ?_
  refine lv_aload_n hx hb dX3_init_4 rfl (lv_at hl 0 rfl) ?_
  refine lv_bipush (v := nI 10) hx hb dX3_init_5 (by decide) ?_
  refine k_newa (atype := .int) (ty := .int) (N := 10) (a0 := (10, .inl (fun _ => 0))) hx hb (hts (.arrayClass .int) (by decide +kernel)) rfl hKW 0 rfl (fun _ h9 => FieldType.noConfusion h9) hP hD hS hA (fun _ => rfl) (by decide) (by decide) (Nat.le_of_ble_eq_true rfl) (Nat.le_of_ble_eq_true rfl) dX3_init_7 (fun q_1 H hP hD hS => ?_)
  have hP : va_P D vwCl ([(a, .inr (3, [.null, .null])), (q_1, .inl (cI, 10, .inl (fun _ => 0)))] : va_W) H := hP
  have hD : va_D A ([(a, .inr (3, [.null, .null])), (q_1, .inl (cI, 10, .inl (fun _ => 0)))] : va_W) := hD
  refine W.widen (k := 1) (n := 10) (by decide) (by decide) ?_
  refine k_putF (ci := 3) (ty := .array .int) (v := .ref q_1) (C := RX3) (Tb := TX3) (N := 2) (w' := ([(a, .inr (3, [.ref q_1, .null])), (q_1, .inl (cI, 10, .inl (fun _ => 0)))] : va_W)) hx hb hts hu_3 tyX3 tyX3_ok nmX3 hown hKW hP hD hS 0 rfl rfl 0 (by decide) (by decide +kernel) rfl rfl hin rfl (by decide +kernel) rfl rfl (Nat.le_of_ble_eq_true rfl) dX3_init_9 rfl (fun H locs hP hD hS => ?_)
  refine lv_aload_n hx hb dX3_init_12 rfl (lv_at hl 0 rfl) ?_
  refine lv_bipush (v := nI 10) hx hb dX3_init_13 (by decide) ?_
  refine k_newa (atype := .int) (ty := .int) (N := 10) (a0 := (10, .inl (fun _ => 0))) hx hb (hts (.arrayClass .int) (by decide +kernel)) rfl hKW 0 rfl (fun _ h9 => FieldType.noConfusion h9) hP hD hS hA (fun _ => rfl) (by decide) (by decide) (Nat.le_of_ble_eq_true rfl) (Nat.le_of_ble_eq_true rfl) dX3_init_15 (fun q_2 H hP hD hS => ?_)
  have hP : va_P D vwCl ([(a, .inr (3, [.ref q_1, .null])), (q_1, .inl (cI, 10, .inl (fun _ => 0))), (q_2, .inl (cI, 10, .inl (fun _ => 0)))] : va_W) H := hP
  have hD : va_D A ([(a, .inr (3, [.ref q_1, .null])), (q_1, .inl (cI, 10, .inl (fun _ => 0))), (q_2, .inl (cI, 10, .inl (fun _ => 0)))] : va_W) := hD
  refine W.widen (k := 2) (n := 20) (by decide) (by decide) ?_
  refine k_putF (ci := 3) (ty := .array .int) (v := .ref q_2) (C := RX3) (Tb := TX3) (N := 2) (w' := ([(a, .inr (3, [.ref q_1, .ref q_2])), (q_1, .inl (cI, 10, .inl (fun _ => 0))), (q_2, .inl (cI, 10, .inl (fun _ => 0)))] : va_W)) hx hb hts hu_3 tyX3 tyX3_ok nmX3 hown hKW hP hD hS 0 rfl rfl 1 (by decide) (by decide +kernel) rfl rfl hin rfl (by decide +kernel) rfl rfl (Nat.le_of_ble_eq_true rfl) dX3_init_17 rfl (fun H locs hP hD hS => ?_)
  subst hQ; subst hAe
  exact W.vret hx hb hr (fun tt9 ht9 _ => ⟨⟨(fun j => match j with | 0 => a | 1 => q_1 | _ => q_2), rfl, rfl, by rw [ht9]; exact hP, hD⟩, hS.F ht9⟩) hS.2.2 dX3_init_20
def rmX4_init : Room := { frames := 1, cells := 4, slots := 780, locals := 12 }
set_option maxHeartbeats 4000000 in
set_option maxRecDepth 100000 in
theorem c_X4_init (l : Launch) (D : va_G) (cI cJ cB : ClassId) (a : Nat) : ∀ sz, Met l yX4_init wsX4_init rmX4_init (va_Pc [.ref a] (PW D (kT cI cJ cB) sz [(a, .inr (4, [.null, .null, .null, .null, .int 0, .int 0]))])) (va_Qv (S := Nat → Nat) (fun q => q 0 = a) (QW D sz [(a, .inr (4, [.null, .null, .null, .null, .int 0, .int 0]))] (fun q => wX4 q cI cJ cB (fun _ => 0) (fun _ => 0) (fun _ => 0) (fun _ => 0) (nI 0) (nI 0))) (va_A [(a, .inr (4, [.null, .null, .null, .null, .int 0, .int 0]))] sz)) 4 780 (va_A [(a, .inr (4, [.null, .null, .null, .null, .int 0, .int 0]))] sz) := by
  intro sz
  refine Met.ofW (cc := cX4_init) (maxL := 1) (ret := none) (by decide) rfl ?_
  intro p e s m args below meth c s₁ B hml hv
  obtain ⟨hav, hsz, hP, hKW, hD0⟩ := hv
  have hx := B.exec
  have hb := B.bytes
  have hr := B.returns
  have hts := atoms_spec (ws := wsX4_init) B.pre
  have hown : s.vm.findClass RX4 = some m.cls := findClass_of_methodNamed B.named
  have hin : meth.name = "<init>" := (name_of_methodNamed B.named B.method).1
  subst hsz
  have hD := hD0.self (sz := s.heap.size)
  obtain ⟨A, hAe⟩ : ∃ A : Nat → Prop, A = va_A [(a, .inr (4, [.null, .null, .null, .null, .int 0, .int 0]))] s.heap.size := ⟨_, rfl⟩
  rw [← hAe] at hD
  have hA : ∀ q : Nat, s.heap.size ≤ q → A q := fun q h => by rw [hAe]; exact Or.inr h
  have hS : va_S A s.heap s.heap [] := va_S.rf
  refine k_gen (fun Q hQ => ?_)
  have hl := lv_entry ([.ref a]) (n := 1) (Nat.le_of_ble_eq_true rfl)
  refine k_entry hav (lg_entry_eq ..) ?_
  generalize (lg_sl ([.ref a]) ++ List.replicate (1 - (lg_sl ([.ref a])).length) Slot.unset).toArray = ls at hl ⊢
  have hl : lv_has ls 1 [(0, .ref a)] := hl
  have hu_4 : ∀ w ∈ u_ws RX4 TX4 6, w ∈ wsX4_init := by decide +kernel
  refine lv_aload_n hx hb dX4_init_0 rfl (lv_at hl 0 rfl) ?_
  refine W.objInit hx hb hown (hts (.methodLink RX4 3 objectInit) (by decide +kernel)) (hts (.instanceMethod objectInit) (by decide +kernel)) (hts (.code objectInit ⟨#[0xb1]⟩ 1 none) (by decide +kernel)) rfl (by rw [hml]; exact hl.1) rfl dX4_init_1 (Nat.le_of_ble_eq_true rfl) (Nat.le_of_ble_eq_true rfl) ?_
  refine W.eq (g2 := F0 m 4 ls []) rfl ?_
  refine lv_aload_n hx hb dX4_init_4 rfl (lv_at hl 0 rfl) ?_
  refine lv_sipush (v := nI 480) hx hb dX4_init_5 (by decide) ?_
  refine k_newa (atype := .int) (ty := .int) (N := 480) (a0 := (480, .inl (fun _ => 0))) hx hb (hts (.arrayClass .int) (by decide +kernel)) rfl hKW 0 rfl (fun _ h9 => FieldType.noConfusion h9) hP hD hS hA (fun _ => rfl) (by decide) (by decide) (Nat.le_of_ble_eq_true rfl) (Nat.le_of_ble_eq_true rfl) dX4_init_8 (fun q_1 H hP hD hS => ?_)
  have hP : va_P D vwCl ([(a, .inr (4, [.null, .null, .null, .null, .int 0, .int 0])), (q_1, .inl (cI, 480, .inl (fun _ => 0)))] : va_W) H := hP
  have hD : va_D A ([(a, .inr (4, [.null, .null, .null, .null, .int 0, .int 0])), (q_1, .inl (cI, 480, .inl (fun _ => 0)))] : va_W) := hD
  refine W.widen (k := 1) (n := 480) (by decide) (by decide) ?_
  refine k_putF (ci := 4) (ty := .array .int) (v := .ref q_1) (C := RX4) (Tb := TX4) (N := 6) (w' := ([(a, .inr (4, [.ref q_1, .null, .null, .null, .int 0, .int 0])), (q_1, .inl (cI, 480, .inl (fun _ => 0)))] : va_W)) hx hb hts hu_4 tyX4 tyX4_ok nmX4 hown hKW hP hD hS 0 rfl rfl 0 (by decide) (by decide +kernel) rfl rfl hin rfl (by decide +kernel) rfl rfl (Nat.le_of_ble_eq_true rfl) dX4_init_10 rfl (fun H locs hP hD hS => ?_)
  refine lv_aload_n hx hb dX4_init_13 rfl (lv_at hl 0 rfl) ?_
  refine lv_bipush (v := nI 100) hx hb dX4_init_14 (by decide) ?_
  refine k_newa (atype := .int) (ty := .int) (N := 100) (a0 := (100, .inl (fun _ => 0))) hx hb (hts (.arrayClass .int) (by decide +kernel)) rfl hKW 0 rfl (fun _ h9 => FieldType.noConfusion h9) hP hD hS hA (fun _ => rfl) (by decide) (by decide) (Nat.le_of_ble_eq_true rfl) (Nat.le_of_ble_eq_true rfl) dX4_init_16 (fun q_2 H hP hD hS => ?_)
  have hP : va_P D vwCl ([(a, .inr (4, [.ref q_1, .null, .null, .null, .int 0, .int 0])), (q_1, .inl (cI, 480, .inl (fun _ => 0))), (q_2, .inl (cI, 100, .inl (fun _ => 0)))] : va_W) H := hP
  have hD : va_D A ([(a, .inr (4, [.ref q_1, .null, .null, .null, .int 0, .int 0])), (q_1, .inl (cI, 480, .inl (fun _ => 0))), (q_2, .inl (cI, 100, .inl (fun _ => 0)))] : va_W) := hD
  refine W.widen (k := 2) (n := 580) (by decide) (by decide) ?_
  refine k_putF (ci := 4) (ty := .array .int) (v := .ref q_2) (C := RX4) (Tb := TX4) (N := 6) (w' := ([(a, .inr (4, [.ref q_1, .ref q_2, .null, .null, .int 0, .int 0])), (q_1, .inl (cI, 480, .inl (fun _ => 0))), (q_2, .inl (cI, 100, .inl (fun _ => 0)))] : va_W)) hx hb hts hu_4 tyX4 tyX4_ok nmX4 hown hKW hP hD hS 0 rfl rfl 1 (by decide) (by decide +kernel) rfl rfl hin rfl (by decide +kernel) rfl rfl (Nat.le_of_ble_eq_true rfl) dX4_init_18 rfl (fun H locs hP hD hS => ?_)
  refine lv_aload_n hx hb dX4_init_21 rfl (lv_at hl 0 rfl) ?_
  refine lv_bipush (v := nI 100) hx hb dX4_init_22 (by decide) ?_
  refine k_newa (atype := .int) (ty := .int) (N := 100) (a0 := (100, .inl (fun _ => 0))) hx hb (hts (.arrayClass .int) (by decide +kernel)) rfl hKW 0 rfl (fun _ h9 => FieldType.noConfusion h9) hP hD hS hA (fun _ => rfl) (by decide) (by decide) (Nat.le_of_ble_eq_true rfl) (Nat.le_of_ble_eq_true rfl) dX4_init_24 (fun q_3 H hP hD hS => ?_)
  have hP : va_P D vwCl ([(a, .inr (4, [.ref q_1, .ref q_2, .null, .null, .int 0, .int 0])), (q_1, .inl (cI, 480, .inl (fun _ => 0))), (q_2, .inl (cI, 100, .inl (fun _ => 0))), (q_3, .inl (cI, 100, .inl (fun _ => 0)))] : va_W) H := hP
  have hD : va_D A ([(a, .inr (4, [.ref q_1, .ref q_2, .null, .null, .int 0, .int 0])), (q_1, .inl (cI, 480, .inl (fun _ => 0))), (q_2, .inl (cI, 100, .inl (fun _ => 0))), (q_3, .inl (cI, 100, .inl (fun _ => 0)))] : va_W) := hD
  refine W.widen (k := 3) (n := 680) (by decide) (by decide) ?_
  refine k_putF (ci := 4) (ty := .array .int) (v := .ref q_3) (C := RX4) (Tb := TX4) (N := 6) (w' := ([(a, .inr (4, [.ref q_1, .ref q_2, .ref q_3, .null, .int 0, .int 0])), (q_1, .inl (cI, 480, .inl (fun _ => 0))), (q_2, .inl (cI, 100, .inl (fun _ => 0))), (q_3, .inl (cI, 100, .inl (fun _ => 0)))] : va_W)) hx hb hts hu_4 tyX4 tyX4_ok nmX4 hown hKW hP hD hS 0 rfl rfl 2 (by decide) (by decide +kernel) rfl rfl hin rfl (by decide +kernel) rfl rfl (Nat.le_of_ble_eq_true rfl) dX4_init_26 rfl (fun H locs hP hD hS => ?_)
  refine lv_aload_n hx hb dX4_init_29 rfl (lv_at hl 0 rfl) ?_
  refine lv_bipush (v := nI 100) hx hb dX4_init_30 (by decide) ?_
  refine k_newa (atype := .int) (ty := .int) (N := 100) (a0 := (100, .inl (fun _ => 0))) hx hb (hts (.arrayClass .int) (by decide +kernel)) rfl hKW 0 rfl (fun _ h9 => FieldType.noConfusion h9) hP hD hS hA (fun _ => rfl) (by decide) (by decide) (Nat.le_of_ble_eq_true rfl) (Nat.le_of_ble_eq_true rfl) dX4_init_32 (fun q_4 H hP hD hS => ?_)
  have hP : va_P D vwCl ([(a, .inr (4, [.ref q_1, .ref q_2, .ref q_3, .null, .int 0, .int 0])), (q_1, .inl (cI, 480, .inl (fun _ => 0))), (q_2, .inl (cI, 100, .inl (fun _ => 0))), (q_3, .inl (cI, 100, .inl (fun _ => 0))), (q_4, .inl (cI, 100, .inl (fun _ => 0)))] : va_W) H := hP
  have hD : va_D A ([(a, .inr (4, [.ref q_1, .ref q_2, .ref q_3, .null, .int 0, .int 0])), (q_1, .inl (cI, 480, .inl (fun _ => 0))), (q_2, .inl (cI, 100, .inl (fun _ => 0))), (q_3, .inl (cI, 100, .inl (fun _ => 0))), (q_4, .inl (cI, 100, .inl (fun _ => 0)))] : va_W) := hD
  refine W.widen (k := 4) (n := 780) (by decide) (by decide) ?_
  refine k_putF (ci := 4) (ty := .array .int) (v := .ref q_4) (C := RX4) (Tb := TX4) (N := 6) (w' := ([(a, .inr (4, [.ref q_1, .ref q_2, .ref q_3, .ref q_4, .int 0, .int 0])), (q_1, .inl (cI, 480, .inl (fun _ => 0))), (q_2, .inl (cI, 100, .inl (fun _ => 0))), (q_3, .inl (cI, 100, .inl (fun _ => 0))), (q_4, .inl (cI, 100, .inl (fun _ => 0)))] : va_W)) hx hb hts hu_4 tyX4 tyX4_ok nmX4 hown hKW hP hD hS 0 rfl rfl 3 (by decide) (by decide +kernel) rfl rfl hin rfl (by decide +kernel) rfl rfl (Nat.le_of_ble_eq_true rfl) dX4_init_34 rfl (fun H locs hP hD hS => ?_)
  refine lv_aload_n hx hb dX4_init_37 rfl (lv_at hl 0 rfl) ?_
  refine lv_iconst (v := nI 0) hx hb dX4_init_38 (by decide) ?_
  refine k_put (ci := 4) (ty := .int) (v := .int (nI 0)) (C := RX4) (Tb := TX4) (N := 6) (w' := ([(a, .inr (4, [.ref q_1, .ref q_2, .ref q_3, .ref q_4, .int (nI 0), .int 0])), (q_1, .inl (cI, 480, .inl (fun _ => 0))), (q_2, .inl (cI, 100, .inl (fun _ => 0))), (q_3, .inl (cI, 100, .inl (fun _ => 0))), (q_4, .inl (cI, 100, .inl (fun _ => 0)))] : va_W)) hx hb hts hu_4 tyX4 tyX4_ok nmX4 hown hKW hP hD hS 0 rfl rfl 4 (by decide) (by decide +kernel) rfl rfl (by decide +kernel) rfl rfl (Nat.le_of_ble_eq_true rfl) dX4_init_39 rfl (fun H locs hP hD hS => ?_)
  refine lv_aload_n hx hb dX4_init_42 rfl (lv_at hl 0 rfl) ?_
  refine lv_iconst (v := nI 0) hx hb dX4_init_43 (by decide) ?_
  refine k_put (ci := 4) (ty := .int) (v := .int (nI 0)) (C := RX4) (Tb := TX4) (N := 6) (w' := ([(a, .inr (4, [.ref q_1, .ref q_2, .ref q_3, .ref q_4, .int (nI 0), .int (nI 0)])), (q_1, .inl (cI, 480, .inl (fun _ => 0))), (q_2, .inl (cI, 100, .inl (fun _ => 0))), (q_3, .inl (cI, 100, .inl (fun _ => 0))), (q_4, .inl (cI, 100, .inl (fun _ => 0)))] : va_W)) hx hb hts hu_4 tyX4 tyX4_ok nmX4 hown hKW hP hD hS 0 rfl rfl 5 (by decide) (by decide +kernel) rfl rfl (by decide +kernel) rfl rfl (Nat.le_of_ble_eq_true rfl) dX4_init_44 rfl (fun H locs hP hD hS => ?_)
  subst hQ; subst hAe
  exact W.vret hx hb hr (fun tt9 ht9 _ => ⟨⟨(fun j => match j with | 0 => a | 1 => q_1 | 2 => q_2 | 3 => q_3 | _ => q_4), rfl, rfl, by rw [ht9]; exact hP, hD⟩, hS.F ht9⟩) hS.2.2 dX4_init_47
def rmX5_init : Room := { frames := 1, cells := 2, slots := 2048, locals := 12 }
set_option maxHeartbeats 4000000 in
set_option maxRecDepth 100000 in
theorem c_X5_init (l : Launch) (D : va_G) (cI cJ cB : ClassId) (a : Nat) : ∀ sz, Met l yX5_init wsX5_init rmX5_init (va_Pc [.ref a] (PW D (kT cI cJ cB) sz [(a, .inr (5, [.null, .null, .int 0, .int 0]))])) (va_Qv (S := Nat → Nat) (fun q => q 0 = a) (QW D sz [(a, .inr (5, [.null, .null, .int 0, .int 0]))] (fun q => wX5 q cI cJ cB (fun _ => 0) (fun _ => 0) (-1) (-1))) (va_A [(a, .inr (5, [.null, .null, .int 0, .int 0]))] sz)) 2 2048 (va_A [(a, .inr (5, [.null, .null, .int 0, .int 0]))] sz) := by
  intro sz
  refine Met.ofW (cc := cX5_init) (maxL := 1) (ret := none) (by decide) rfl ?_
  intro p e s m args below meth c s₁ B hml hv
  obtain ⟨hav, hsz, hP, hKW, hD0⟩ := hv
  have hx := B.exec
  have hb := B.bytes
  have hr := B.returns
  have hts := atoms_spec (ws := wsX5_init) B.pre
  have hown : s.vm.findClass RX5 = some m.cls := findClass_of_methodNamed B.named
  have hin : meth.name = "<init>" := (name_of_methodNamed B.named B.method).1
  subst hsz
  have hD := hD0.self (sz := s.heap.size)
  obtain ⟨A, hAe⟩ : ∃ A : Nat → Prop, A = va_A [(a, .inr (5, [.null, .null, .int 0, .int 0]))] s.heap.size := ⟨_, rfl⟩
  rw [← hAe] at hD
  have hA : ∀ q : Nat, s.heap.size ≤ q → A q := fun q h => by rw [hAe]; exact Or.inr h
  have hS : va_S A s.heap s.heap [] := va_S.rf
  refine k_gen (fun Q hQ => ?_)
  have hl := lv_entry ([.ref a]) (n := 1) (Nat.le_of_ble_eq_true rfl)
  refine k_entry hav (lg_entry_eq ..) ?_
  generalize (lg_sl ([.ref a]) ++ List.replicate (1 - (lg_sl ([.ref a])).length) Slot.unset).toArray = ls at hl ⊢
  have hl : lv_has ls 1 [(0, .ref a)] := hl
  have hu_5 : ∀ w ∈ u_ws RX5 TX5 4, w ∈ wsX5_init := by decide +kernel
  refine lv_aload_n hx hb dX5_init_0 rfl (lv_at hl 0 rfl) ?_
  refine W.objInit hx hb hown (hts (.methodLink RX5 3 objectInit) (by decide +kernel)) (hts (.instanceMethod objectInit) (by decide +kernel)) (hts (.code objectInit ⟨#[0xb1]⟩ 1 none) (by decide +kernel)) rfl (by rw [hml]; exact hl.1) rfl dX5_init_1 (Nat.le_of_ble_eq_true rfl) (Nat.le_of_ble_eq_true rfl) ?_
  refine W.eq (g2 := F0 m 4 ls []) rfl ?_
  refine lv_aload_n hx hb dX5_init_4 rfl (lv_at hl 0 rfl) ?_
  refine lv_sipush (v := nI 1024) hx hb dX5_init_5 (by decide) ?_
  refine k_newa (atype := .int) (ty := .int) (N := 1024) (a0 := (1024, .inl (fun _ => 0))) hx hb (hts (.arrayClass .int) (by decide +kernel)) rfl hKW 0 rfl (fun _ h9 => FieldType.noConfusion h9) hP hD hS hA (fun _ => rfl) (by decide) (by decide) (Nat.le_of_ble_eq_true rfl) (Nat.le_of_ble_eq_true rfl) dX5_init_8 (fun q_1 H hP hD hS => ?_)
  have hP : va_P D vwCl ([(a, .inr (5, [.null, .null, .int 0, .int 0])), (q_1, .inl (cI, 1024, .inl (fun _ => 0)))] : va_W) H := hP
  have hD : va_D A ([(a, .inr (5, [.null, .null, .int 0, .int 0])), (q_1, .inl (cI, 1024, .inl (fun _ => 0)))] : va_W) := hD
  refine W.widen (k := 1) (n := 1024) (by decide) (by decide) ?_
  refine k_putF (ci := 5) (ty := .array .int) (v := .ref q_1) (C := RX5) (Tb := TX5) (N := 4) (w' := ([(a, .inr (5, [.ref q_1, .null, .int 0, .int 0])), (q_1, .inl (cI, 1024, .inl (fun _ => 0)))] : va_W)) hx hb hts hu_5 tyX5 tyX5_ok nmX5 hown hKW hP hD hS 0 rfl rfl 0 (by decide) (by decide +kernel) rfl rfl hin rfl (by decide +kernel) rfl rfl (Nat.le_of_ble_eq_true rfl) dX5_init_10 rfl (fun H locs hP hD hS => ?_)
  refine lv_aload_n hx hb dX5_init_13 rfl (lv_at hl 0 rfl) ?_
  refine lv_sipush (v := nI 1024) hx hb dX5_init_14 (by decide) ?_
  refine k_newa (atype := .int) (ty := .int) (N := 1024) (a0 := (1024, .inl (fun _ => 0))) hx hb (hts (.arrayClass .int) (by decide +kernel)) rfl hKW 0 rfl (fun _ h9 => FieldType.noConfusion h9) hP hD hS hA (fun _ => rfl) (by decide) (by decide) (Nat.le_of_ble_eq_true rfl) (Nat.le_of_ble_eq_true rfl) dX5_init_17 (fun q_2 H hP hD hS => ?_)
  have hP : va_P D vwCl ([(a, .inr (5, [.ref q_1, .null, .int 0, .int 0])), (q_1, .inl (cI, 1024, .inl (fun _ => 0))), (q_2, .inl (cI, 1024, .inl (fun _ => 0)))] : va_W) H := hP
  have hD : va_D A ([(a, .inr (5, [.ref q_1, .null, .int 0, .int 0])), (q_1, .inl (cI, 1024, .inl (fun _ => 0))), (q_2, .inl (cI, 1024, .inl (fun _ => 0)))] : va_W) := hD
  refine W.widen (k := 2) (n := 2048) (by decide) (by decide) ?_
  refine k_putF (ci := 5) (ty := .array .int) (v := .ref q_2) (C := RX5) (Tb := TX5) (N := 4) (w' := ([(a, .inr (5, [.ref q_1, .ref q_2, .int 0, .int 0])), (q_1, .inl (cI, 1024, .inl (fun _ => 0))), (q_2, .inl (cI, 1024, .inl (fun _ => 0)))] : va_W)) hx hb hts hu_5 tyX5 tyX5_ok nmX5 hown hKW hP hD hS 0 rfl rfl 1 (by decide) (by decide +kernel) rfl rfl hin rfl (by decide +kernel) rfl rfl (Nat.le_of_ble_eq_true rfl) dX5_init_19 rfl (fun H locs hP hD hS => ?_)
  refine lv_aload_n hx hb dX5_init_22 rfl (lv_at hl 0 rfl) ?_
  refine lv_iconst (v := (-1)) hx hb dX5_init_23 (by decide) ?_
  refine k_put (ci := 5) (ty := .int) (v := .int (-1)) (C := RX5) (Tb := TX5) (N := 4) (w' := ([(a, .inr (5, [.ref q_1, .ref q_2, .int (-1), .int 0])), (q_1, .inl (cI, 1024, .inl (fun _ => 0))), (q_2, .inl (cI, 1024, .inl (fun _ => 0)))] : va_W)) hx hb hts hu_5 tyX5 tyX5_ok nmX5 hown hKW hP hD hS 0 rfl rfl 2 (by decide) (by decide +kernel) rfl rfl (by decide +kernel) rfl rfl (Nat.le_of_ble_eq_true rfl) dX5_init_24 rfl (fun H locs hP hD hS => ?_)
  refine lv_aload_n hx hb dX5_init_27 rfl (lv_at hl 0 rfl) ?_
  refine lv_iconst (v := (-1)) hx hb dX5_init_28 (by decide) ?_
  refine k_put (ci := 5) (ty := .int) (v := .int (-1)) (C := RX5) (Tb := TX5) (N := 4) (w' := ([(a, .inr (5, [.ref q_1, .ref q_2, .int (-1), .int (-1)])), (q_1, .inl (cI, 1024, .inl (fun _ => 0))), (q_2, .inl (cI, 1024, .inl (fun _ => 0)))] : va_W)) hx hb hts hu_5 tyX5 tyX5_ok nmX5 hown hKW hP hD hS 0 rfl rfl 3 (by decide) (by decide +kernel) rfl rfl (by decide +kernel) rfl rfl (Nat.le_of_ble_eq_true rfl) dX5_init_29 rfl (fun H locs hP hD hS => ?_)
  subst hQ; subst hAe
  exact W.vret hx hb hr (fun tt9 ht9 _ => ⟨⟨(fun j => match j with | 0 => a | 1 => q_1 | _ => q_2), rfl, rfl, by rw [ht9]; exact hP, hD⟩, hS.F ht9⟩) hS.2.2 dX5_init_32
def rmX6_init : Room := { frames := 1, cells := 3, slots := 64, locals := 12 }
set_option maxHeartbeats 4000000 in
set_option maxRecDepth 100000 in
theorem c_X6_init (l : Launch) (D : va_G) (cI cJ cB : ClassId) (a : Nat) : ∀ sz, Met l yX6_init wsX6_init rmX6_init (va_Pc [.ref a] (PW D (kT cI cJ cB) sz [(a, .inr (6, [.null, .null, .null, .int 0, .int 0, .int 0, .int 0]))])) (va_Qv (S := Nat → Nat) (fun q => q 0 = a) (QW D sz [(a, .inr (6, [.null, .null, .null, .int 0, .int 0, .int 0, .int 0]))] (fun q => wX6 q cI cJ cB (fun _ => 0) (fun _ => 0) (fun _ => 0) (nI 0) (nI 2) (nI 1) (nI 0))) (va_A [(a, .inr (6, [.null, .null, .null, .int 0, .int 0, .int 0, .int 0]))] sz)) 3 64 (va_A [(a, .inr (6, [.null, .null, .null, .int 0, .int 0, .int 0, .int 0]))] sz) := by
  intro sz
  refine Met.ofW (cc := cX6_init) (maxL := 1) (ret := none) (by decide) rfl ?_
  intro p e s m args below meth c s₁ B hml hv
  obtain ⟨hav, hsz, hP, hKW, hD0⟩ := hv
  have hx := B.exec
  have hb := B.bytes
  have hr := B.returns
  have hts := atoms_spec (ws := wsX6_init) B.pre
  have hown : s.vm.findClass RX6 = some m.cls := findClass_of_methodNamed B.named
  have hin : meth.name = "<init>" := (name_of_methodNamed B.named B.method).1
  subst hsz
  have hD := hD0.self (sz := s.heap.size)
  obtain ⟨A, hAe⟩ : ∃ A : Nat → Prop, A = va_A [(a, .inr (6, [.null, .null, .null, .int 0, .int 0, .int 0, .int 0]))] s.heap.size := ⟨_, rfl⟩
  rw [← hAe] at hD
  have hA : ∀ q : Nat, s.heap.size ≤ q → A q := fun q h => by rw [hAe]; exact Or.inr h
  have hS : va_S A s.heap s.heap [] := va_S.rf
  refine k_gen (fun Q hQ => ?_)
  have hl := lv_entry ([.ref a]) (n := 1) (Nat.le_of_ble_eq_true rfl)
  refine k_entry hav (lg_entry_eq ..) ?_
  generalize (lg_sl ([.ref a]) ++ List.replicate (1 - (lg_sl ([.ref a])).length) Slot.unset).toArray = ls at hl ⊢
  have hl : lv_has ls 1 [(0, .ref a)] := hl
  have hu_6 : ∀ w ∈ u_ws RX6 TX6 7, w ∈ wsX6_init := by decide +kernel
  refine lv_aload_n hx hb dX6_init_0 rfl (lv_at hl 0 rfl) ?_
  refine W.objInit hx hb hown (hts (.methodLink RX6 3 objectInit) (by decide +kernel)) (hts (.instanceMethod objectInit) (by decide +kernel)) (hts (.code objectInit ⟨#[0xb1]⟩ 1 none) (by decide +kernel)) rfl (by rw [hml]; exact hl.1) rfl dX6_init_1 (Nat.le_of_ble_eq_true rfl) (Nat.le_of_ble_eq_true rfl) ?_
  refine W.eq (g2 := F0 m 4 ls []) rfl ?_
  refine lv_aload_n hx hb dX6_init_4 rfl (lv_at hl 0 rfl) ?_
  refine lv_iconst (v := nI 4) hx hb dX6_init_5 (by decide) ?_
  refine k_newa (atype := .int) (ty := .int) (N := 4) (a0 := (4, .inl (fun _ => 0))) hx hb (hts (.arrayClass .int) (by decide +kernel)) rfl hKW 0 rfl (fun _ h9 => FieldType.noConfusion h9) hP hD hS hA (fun _ => rfl) (by decide) (by decide) (Nat.le_of_ble_eq_true rfl) (Nat.le_of_ble_eq_true rfl) dX6_init_6 (fun q_1 H hP hD hS => ?_)
  have hP : va_P D vwCl ([(a, .inr (6, [.null, .null, .null, .int 0, .int 0, .int 0, .int 0])), (q_1, .inl (cI, 4, .inl (fun _ => 0)))] : va_W) H := hP
  have hD : va_D A ([(a, .inr (6, [.null, .null, .null, .int 0, .int 0, .int 0, .int 0])), (q_1, .inl (cI, 4, .inl (fun _ => 0)))] : va_W) := hD
  refine W.widen (k := 1) (n := 4) (by decide) (by decide) ?_
  refine k_putF (ci := 6) (ty := .array .int) (v := .ref q_1) (C := RX6) (Tb := TX6) (N := 7) (w' := ([(a, .inr (6, [.ref q_1, .null, .null, .int 0, .int 0, .int 0, .int 0])), (q_1, .inl (cI, 4, .inl (fun _ => 0)))] : va_W)) hx hb hts hu_6 tyX6 tyX6_ok nmX6 hown hKW hP hD hS 0 rfl rfl 0 (by decide) (by decide +kernel) rfl rfl hin rfl (by decide +kernel) rfl rfl (Nat.le_of_ble_eq_true rfl) dX6_init_8 rfl (fun H locs hP hD hS => ?_)
  refine lv_aload_n hx hb dX6_init_11 rfl (lv_at hl 0 rfl) ?_
  refine lv_bipush (v := nI 50) hx hb dX6_init_12 (by decide) ?_
  refine k_newa (atype := .int) (ty := .int) (N := 50) (a0 := (50, .inl (fun _ => 0))) hx hb (hts (.arrayClass .int) (by decide +kernel)) rfl hKW 0 rfl (fun _ h9 => FieldType.noConfusion h9) hP hD hS hA (fun _ => rfl) (by decide) (by decide) (Nat.le_of_ble_eq_true rfl) (Nat.le_of_ble_eq_true rfl) dX6_init_14 (fun q_2 H hP hD hS => ?_)
  have hP : va_P D vwCl ([(a, .inr (6, [.ref q_1, .null, .null, .int 0, .int 0, .int 0, .int 0])), (q_1, .inl (cI, 4, .inl (fun _ => 0))), (q_2, .inl (cI, 50, .inl (fun _ => 0)))] : va_W) H := hP
  have hD : va_D A ([(a, .inr (6, [.ref q_1, .null, .null, .int 0, .int 0, .int 0, .int 0])), (q_1, .inl (cI, 4, .inl (fun _ => 0))), (q_2, .inl (cI, 50, .inl (fun _ => 0)))] : va_W) := hD
  refine W.widen (k := 2) (n := 54) (by decide) (by decide) ?_
  refine k_putF (ci := 6) (ty := .array .int) (v := .ref q_2) (C := RX6) (Tb := TX6) (N := 7) (w' := ([(a, .inr (6, [.ref q_1, .ref q_2, .null, .int 0, .int 0, .int 0, .int 0])), (q_1, .inl (cI, 4, .inl (fun _ => 0))), (q_2, .inl (cI, 50, .inl (fun _ => 0)))] : va_W)) hx hb hts hu_6 tyX6 tyX6_ok nmX6 hown hKW hP hD hS 0 rfl rfl 1 (by decide) (by decide +kernel) rfl rfl hin rfl (by decide +kernel) rfl rfl (Nat.le_of_ble_eq_true rfl) dX6_init_16 rfl (fun H locs hP hD hS => ?_)
  refine lv_aload_n hx hb dX6_init_19 rfl (lv_at hl 0 rfl) ?_
  refine lv_bipush (v := nI 10) hx hb dX6_init_20 (by decide) ?_
  refine k_newa (atype := .int) (ty := .int) (N := 10) (a0 := (10, .inl (fun _ => 0))) hx hb (hts (.arrayClass .int) (by decide +kernel)) rfl hKW 0 rfl (fun _ h9 => FieldType.noConfusion h9) hP hD hS hA (fun _ => rfl) (by decide) (by decide) (Nat.le_of_ble_eq_true rfl) (Nat.le_of_ble_eq_true rfl) dX6_init_22 (fun q_3 H hP hD hS => ?_)
  have hP : va_P D vwCl ([(a, .inr (6, [.ref q_1, .ref q_2, .null, .int 0, .int 0, .int 0, .int 0])), (q_1, .inl (cI, 4, .inl (fun _ => 0))), (q_2, .inl (cI, 50, .inl (fun _ => 0))), (q_3, .inl (cI, 10, .inl (fun _ => 0)))] : va_W) H := hP
  have hD : va_D A ([(a, .inr (6, [.ref q_1, .ref q_2, .null, .int 0, .int 0, .int 0, .int 0])), (q_1, .inl (cI, 4, .inl (fun _ => 0))), (q_2, .inl (cI, 50, .inl (fun _ => 0))), (q_3, .inl (cI, 10, .inl (fun _ => 0)))] : va_W) := hD
  refine W.widen (k := 3) (n := 64) (by decide) (by decide) ?_
  refine k_putF (ci := 6) (ty := .array .int) (v := .ref q_3) (C := RX6) (Tb := TX6) (N := 7) (w' := ([(a, .inr (6, [.ref q_1, .ref q_2, .ref q_3, .int 0, .int 0, .int 0, .int 0])), (q_1, .inl (cI, 4, .inl (fun _ => 0))), (q_2, .inl (cI, 50, .inl (fun _ => 0))), (q_3, .inl (cI, 10, .inl (fun _ => 0)))] : va_W)) hx hb hts hu_6 tyX6 tyX6_ok nmX6 hown hKW hP hD hS 0 rfl rfl 2 (by decide) (by decide +kernel) rfl rfl hin rfl (by decide +kernel) rfl rfl (Nat.le_of_ble_eq_true rfl) dX6_init_24 rfl (fun H locs hP hD hS => ?_)
  refine lv_aload_n hx hb dX6_init_27 rfl (lv_at hl 0 rfl) ?_
  refine lv_iconst (v := nI 0) hx hb dX6_init_28 (by decide) ?_
  refine k_put (ci := 6) (ty := .int) (v := .int (nI 0)) (C := RX6) (Tb := TX6) (N := 7) (w' := ([(a, .inr (6, [.ref q_1, .ref q_2, .ref q_3, .int (nI 0), .int 0, .int 0, .int 0])), (q_1, .inl (cI, 4, .inl (fun _ => 0))), (q_2, .inl (cI, 50, .inl (fun _ => 0))), (q_3, .inl (cI, 10, .inl (fun _ => 0)))] : va_W)) hx hb hts hu_6 tyX6 tyX6_ok nmX6 hown hKW hP hD hS 0 rfl rfl 3 (by decide) (by decide +kernel) rfl rfl (by decide +kernel) rfl rfl (Nat.le_of_ble_eq_true rfl) dX6_init_29 rfl (fun H locs hP hD hS => ?_)
  refine lv_aload_n hx hb dX6_init_32 rfl (lv_at hl 0 rfl) ?_
  refine lv_iconst (v := nI 2) hx hb dX6_init_33 (by decide) ?_
  refine k_put (ci := 6) (ty := .int) (v := .int (nI 2)) (C := RX6) (Tb := TX6) (N := 7) (w' := ([(a, .inr (6, [.ref q_1, .ref q_2, .ref q_3, .int (nI 0), .int (nI 2), .int 0, .int 0])), (q_1, .inl (cI, 4, .inl (fun _ => 0))), (q_2, .inl (cI, 50, .inl (fun _ => 0))), (q_3, .inl (cI, 10, .inl (fun _ => 0)))] : va_W)) hx hb hts hu_6 tyX6 tyX6_ok nmX6 hown hKW hP hD hS 0 rfl rfl 4 (by decide) (by decide +kernel) rfl rfl (by decide +kernel) rfl rfl (Nat.le_of_ble_eq_true rfl) dX6_init_34 rfl (fun H locs hP hD hS => ?_)
  refine lv_aload_n hx hb dX6_init_37 rfl (lv_at hl 0 rfl) ?_
  refine lv_iconst (v := nI 1) hx hb dX6_init_38 (by decide) ?_
  refine k_put (ci := 6) (ty := .int) (v := .int (nI 1)) (C := RX6) (Tb := TX6) (N := 7) (w' := ([(a, .inr (6, [.ref q_1, .ref q_2, .ref q_3, .int (nI 0), .int (nI 2), .int (nI 1), .int 0])), (q_1, .inl (cI, 4, .inl (fun _ => 0))), (q_2, .inl (cI, 50, .inl (fun _ => 0))), (q_3, .inl (cI, 10, .inl (fun _ => 0)))] : va_W)) hx hb hts hu_6 tyX6 tyX6_ok nmX6 hown hKW hP hD hS 0 rfl rfl 5 (by decide) (by decide +kernel) rfl rfl (by decide +kernel) rfl rfl (Nat.le_of_ble_eq_true rfl) dX6_init_39 rfl (fun H locs hP hD hS => ?_)
  refine lv_aload_n hx hb dX6_init_42 rfl (lv_at hl 0 rfl) ?_
  refine lv_iconst (v := nI 0) hx hb dX6_init_43 (by decide) ?_
  refine k_put (ci := 6) (ty := .int) (v := .int (nI 0)) (C := RX6) (Tb := TX6) (N := 7) (w' := ([(a, .inr (6, [.ref q_1, .ref q_2, .ref q_3, .int (nI 0), .int (nI 2), .int (nI 1), .int (nI 0)])), (q_1, .inl (cI, 4, .inl (fun _ => 0))), (q_2, .inl (cI, 50, .inl (fun _ => 0))), (q_3, .inl (cI, 10, .inl (fun _ => 0)))] : va_W)) hx hb hts hu_6 tyX6 tyX6_ok nmX6 hown hKW hP hD hS 0 rfl rfl 6 (by decide) (by decide +kernel) rfl rfl (by decide +kernel) rfl rfl (Nat.le_of_ble_eq_true rfl) dX6_init_44 rfl (fun H locs hP hD hS => ?_)
  subst hQ; subst hAe
  exact W.vret hx hb hr (fun tt9 ht9 _ => ⟨⟨(fun j => match j with | 0 => a | 1 => q_1 | 2 => q_2 | _ => q_3), rfl, rfl, by rw [ht9]; exact hP, hD⟩, hS.F ht9⟩) hS.2.2 dX6_init_47
def rmX7_init : Room := { frames := 1, cells := 1, slots := 480, locals := 12 }
set_option maxHeartbeats 4000000 in
set_option maxRecDepth 100000 in
theorem c_X7_init (l : Launch) (D : va_G) (cI cJ cB : ClassId) (a : Nat) : ∀ sz, Met l yX7_init wsX7_init rmX7_init (va_Pc [.ref a] (PW D (kT cI cJ cB) sz [(a, .inr (7, [.null, .int 0]))])) (va_Qv (S := Nat → Nat) (fun q => q 0 = a) (QW D sz [(a, .inr (7, [.null, .int 0]))] (fun q => wX7 q cI cJ cB (fun _ => 0) (nI 0))) (va_A [(a, .inr (7, [.null, .int 0]))] sz)) 1 480 (va_A [(a, .inr (7, [.null, .int 0]))] sz) := by
  intro sz
  refine Met.ofW (cc := cX7_init) (maxL := 1) (ret := none) (by decide) rfl ?_
  intro p e s m args below meth c s₁ B hml hv
  obtain ⟨hav, hsz, hP, hKW, hD0⟩ := hv
  have hx := B.exec
  have hb := B.bytes
  have hr := B.returns
  have hts := atoms_spec (ws := wsX7_init) B.pre
  have hown : s.vm.findClass RX7 = some m.cls := findClass_of_methodNamed B.named
  have hin : meth.name = "<init>" := (name_of_methodNamed B.named B.method).1
  subst hsz
  have hD := hD0.self (sz := s.heap.size)
  obtain ⟨A, hAe⟩ : ∃ A : Nat → Prop, A = va_A [(a, .inr (7, [.null, .int 0]))] s.heap.size := ⟨_, rfl⟩
  rw [← hAe] at hD
  have hA : ∀ q : Nat, s.heap.size ≤ q → A q := fun q h => by rw [hAe]; exact Or.inr h
  have hS : va_S A s.heap s.heap [] := va_S.rf
  refine k_gen (fun Q hQ => ?_)
  have hl := lv_entry ([.ref a]) (n := 1) (Nat.le_of_ble_eq_true rfl)
  refine k_entry hav (lg_entry_eq ..) ?_
  generalize (lg_sl ([.ref a]) ++ List.replicate (1 - (lg_sl ([.ref a])).length) Slot.unset).toArray = ls at hl ⊢
  have hl : lv_has ls 1 [(0, .ref a)] := hl
  have hu_7 : ∀ w ∈ u_ws RX7 TX7 2, w ∈ wsX7_init := by decide +kernel
  refine lv_aload_n hx hb dX7_init_0 rfl (lv_at hl 0 rfl) ?_
  refine W.objInit hx hb hown (hts (.methodLink RX7 3 objectInit) (by decide +kernel)) (hts (.instanceMethod objectInit) (by decide +kernel)) (hts (.code objectInit ⟨#[0xb1]⟩ 1 none) (by decide +kernel)) rfl (by rw [hml]; exact hl.1) rfl dX7_init_1 (Nat.le_of_ble_eq_true rfl) (Nat.le_of_ble_eq_true rfl) ?_
  refine W.eq (g2 := F0 m 4 ls []) rfl ?_
  refine lv_aload_n hx hb dX7_init_4 rfl (lv_at hl 0 rfl) ?_
  refine lv_sipush (v := nI 480) hx hb dX7_init_5 (by decide) ?_
  refine k_newa (atype := .byte) (ty := .byte) (N := 480) (a0 := (480, .inl (fun _ => 0))) hx hb (hts (.arrayClass .byte) (by decide +kernel)) rfl hKW 2 rfl (fun _ h9 => FieldType.noConfusion h9) hP hD hS hA (fun _ => rfl) (by decide) (by decide) (Nat.le_of_ble_eq_true rfl) (Nat.le_of_ble_eq_true rfl) dX7_init_8 (fun q_1 H hP hD hS => ?_)
  have hP : va_P D vwCl ([(a, .inr (7, [.null, .int 0])), (q_1, .inl (cB, 480, .inl (fun _ => 0)))] : va_W) H := hP
  have hD : va_D A ([(a, .inr (7, [.null, .int 0])), (q_1, .inl (cB, 480, .inl (fun _ => 0)))] : va_W) := hD
  refine W.widen (k := 1) (n := 480) (by decide) (by decide) ?_
  refine k_putF (ci := 7) (ty := .array .byte) (v := .ref q_1) (C := RX7) (Tb := TX7) (N := 2) (w' := ([(a, .inr (7, [.ref q_1, .int 0])), (q_1, .inl (cB, 480, .inl (fun _ => 0)))] : va_W)) hx hb hts hu_7 tyX7 tyX7_ok nmX7 hown hKW hP hD hS 0 rfl rfl 0 (by decide) (by decide +kernel) rfl rfl hin rfl (by decide +kernel) rfl rfl (Nat.le_of_ble_eq_true rfl) dX7_init_10 rfl (fun H locs hP hD hS => ?_)
  refine lv_aload_n hx hb dX7_init_13 rfl (lv_at hl 0 rfl) ?_
  refine lv_iconst (v := nI 0) hx hb dX7_init_14 (by decide) ?_
  refine k_put (ci := 7) (ty := .int) (v := .int (nI 0)) (C := RX7) (Tb := TX7) (N := 2) (w' := ([(a, .inr (7, [.ref q_1, .int (nI 0)])), (q_1, .inl (cB, 480, .inl (fun _ => 0)))] : va_W)) hx hb hts hu_7 tyX7 tyX7_ok nmX7 hown hKW hP hD hS 0 rfl rfl 1 (by decide) (by decide +kernel) rfl rfl (by decide +kernel) rfl rfl (Nat.le_of_ble_eq_true rfl) dX7_init_15 rfl (fun H locs hP hD hS => ?_)
  subst hQ; subst hAe
  exact W.vret hx hb hr (fun tt9 ht9 _ => ⟨⟨(fun j => match j with | 0 => a | _ => q_1), rfl, rfl, by rw [ht9]; exact hP, hD⟩, hS.F ht9⟩) hS.2.2 dX7_init_18
def rmX8_init : Room := { frames := 1, cells := 2, slots := 1124, locals := 12 }
set_option maxHeartbeats 4000000 in
set_option maxRecDepth 100000 in
theorem c_X8_init (l : Launch) (D : va_G) (cI cJ cB : ClassId) (a : Nat) : ∀ sz, Met l yX8_init wsX8_init rmX8_init (va_Pc [.ref a] (PW D (kT cI cJ cB) sz [(a, .inr (8, [.null, .null, .int 0]))])) (va_Qv (S := Nat → Nat) (fun q => q 0 = a) (QW D sz [(a, .inr (8, [.null, .null, .int 0]))] (fun q => wX8 q cI cJ cB (fun _ => 0) (fun _ => 0) (nI 0))) (va_A [(a, .inr (8, [.null, .null, .int 0]))] sz)) 2 1124 (va_A [(a, .inr (8, [.null, .null, .int 0]))] sz) := by
  intro sz
  refine Met.ofW (cc := cX8_init) (maxL := 1) (ret := none) (by decide) rfl ?_
  intro p e s m args below meth c s₁ B hml hv
  obtain ⟨hav, hsz, hP, hKW, hD0⟩ := hv
  have hx := B.exec
  have hb := B.bytes
  have hr := B.returns
  have hts := atoms_spec (ws := wsX8_init) B.pre
  have hown : s.vm.findClass RX8 = some m.cls := findClass_of_methodNamed B.named
  have hin : meth.name = "<init>" := (name_of_methodNamed B.named B.method).1
  subst hsz
  have hD := hD0.self (sz := s.heap.size)
  obtain ⟨A, hAe⟩ : ∃ A : Nat → Prop, A = va_A [(a, .inr (8, [.null, .null, .int 0]))] s.heap.size := ⟨_, rfl⟩
  rw [← hAe] at hD
  have hA : ∀ q : Nat, s.heap.size ≤ q → A q := fun q h => by rw [hAe]; exact Or.inr h
  have hS : va_S A s.heap s.heap [] := va_S.rf
  refine k_gen (fun Q hQ => ?_)
  have hl := lv_entry ([.ref a]) (n := 1) (Nat.le_of_ble_eq_true rfl)
  refine k_entry hav (lg_entry_eq ..) ?_
  generalize (lg_sl ([.ref a]) ++ List.replicate (1 - (lg_sl ([.ref a])).length) Slot.unset).toArray = ls at hl ⊢
  have hl : lv_has ls 1 [(0, .ref a)] := hl
  have hu_8 : ∀ w ∈ u_ws RX8 TX8 3, w ∈ wsX8_init := by decide +kernel
  refine lv_aload_n hx hb dX8_init_0 rfl (lv_at hl 0 rfl) ?_
  refine W.objInit hx hb hown (hts (.methodLink RX8 3 objectInit) (by decide +kernel)) (hts (.instanceMethod objectInit) (by decide +kernel)) (hts (.code objectInit ⟨#[0xb1]⟩ 1 none) (by decide +kernel)) rfl (by rw [hml]; exact hl.1) rfl dX8_init_1 (Nat.le_of_ble_eq_true rfl) (Nat.le_of_ble_eq_true rfl) ?_
  refine W.eq (g2 := F0 m 4 ls []) rfl ?_
  refine lv_aload_n hx hb dX8_init_4 rfl (lv_at hl 0 rfl) ?_
  refine lv_bipush (v := nI 100) hx hb dX8_init_5 (by decide) ?_
  refine k_newa (atype := .int) (ty := .int) (N := 100) (a0 := (100, .inl (fun _ => 0))) hx hb (hts (.arrayClass .int) (by decide +kernel)) rfl hKW 0 rfl (fun _ h9 => FieldType.noConfusion h9) hP hD hS hA (fun _ => rfl) (by decide) (by decide) (Nat.le_of_ble_eq_true rfl) (Nat.le_of_ble_eq_true rfl) dX8_init_7 (fun q_1 H hP hD hS => ?_)
  have hP : va_P D vwCl ([(a, .inr (8, [.null, .null, .int 0])), (q_1, .inl (cI, 100, .inl (fun _ => 0)))] : va_W) H := hP
  have hD : va_D A ([(a, .inr (8, [.null, .null, .int 0])), (q_1, .inl (cI, 100, .inl (fun _ => 0)))] : va_W) := hD
  refine W.widen (k := 1) (n := 100) (by decide) (by decide) ?_
  refine k_putF (ci := 8) (ty := .array .int) (v := .ref q_1) (C := RX8) (Tb := TX8) (N := 3) (w' := ([(a, .inr (8, [.ref q_1, .null, .int 0])), (q_1, .inl (cI, 100, .inl (fun _ => 0)))] : va_W)) hx hb hts hu_8 tyX8 tyX8_ok nmX8 hown hKW hP hD hS 0 rfl rfl 0 (by decide) (by decide +kernel) rfl rfl hin rfl (by decide +kernel) rfl rfl (Nat.le_of_ble_eq_true rfl) dX8_init_9 rfl (fun H locs hP hD hS => ?_)
  refine lv_aload_n hx hb dX8_init_12 rfl (lv_at hl 0 rfl) ?_
  refine lv_sipush (v := nI 1024) hx hb dX8_init_13 (by decide) ?_
  refine k_newa (atype := .int) (ty := .int) (N := 1024) (a0 := (1024, .inl (fun _ => 0))) hx hb (hts (.arrayClass .int) (by decide +kernel)) rfl hKW 0 rfl (fun _ h9 => FieldType.noConfusion h9) hP hD hS hA (fun _ => rfl) (by decide) (by decide) (Nat.le_of_ble_eq_true rfl) (Nat.le_of_ble_eq_true rfl) dX8_init_16 (fun q_2 H hP hD hS => ?_)
  have hP : va_P D vwCl ([(a, .inr (8, [.ref q_1, .null, .int 0])), (q_1, .inl (cI, 100, .inl (fun _ => 0))), (q_2, .inl (cI, 1024, .inl (fun _ => 0)))] : va_W) H := hP
  have hD : va_D A ([(a, .inr (8, [.ref q_1, .null, .int 0])), (q_1, .inl (cI, 100, .inl (fun _ => 0))), (q_2, .inl (cI, 1024, .inl (fun _ => 0)))] : va_W) := hD
  refine W.widen (k := 2) (n := 1124) (by decide) (by decide) ?_
  refine k_putF (ci := 8) (ty := .array .int) (v := .ref q_2) (C := RX8) (Tb := TX8) (N := 3) (w' := ([(a, .inr (8, [.ref q_1, .ref q_2, .int 0])), (q_1, .inl (cI, 100, .inl (fun _ => 0))), (q_2, .inl (cI, 1024, .inl (fun _ => 0)))] : va_W)) hx hb hts hu_8 tyX8 tyX8_ok nmX8 hown hKW hP hD hS 0 rfl rfl 1 (by decide) (by decide +kernel) rfl rfl hin rfl (by decide +kernel) rfl rfl (Nat.le_of_ble_eq_true rfl) dX8_init_18 rfl (fun H locs hP hD hS => ?_)
  refine lv_aload_n hx hb dX8_init_21 rfl (lv_at hl 0 rfl) ?_
  refine lv_iconst (v := nI 0) hx hb dX8_init_22 (by decide) ?_
  refine k_put (ci := 8) (ty := .int) (v := .int (nI 0)) (C := RX8) (Tb := TX8) (N := 3) (w' := ([(a, .inr (8, [.ref q_1, .ref q_2, .int (nI 0)])), (q_1, .inl (cI, 100, .inl (fun _ => 0))), (q_2, .inl (cI, 1024, .inl (fun _ => 0)))] : va_W)) hx hb hts hu_8 tyX8 tyX8_ok nmX8 hown hKW hP hD hS 0 rfl rfl 2 (by decide) (by decide +kernel) rfl rfl (by decide +kernel) rfl rfl (Nat.le_of_ble_eq_true rfl) dX8_init_23 rfl (fun H locs hP hD hS => ?_)
  subst hQ; subst hAe
  exact W.vret hx hb hr (fun tt9 ht9 _ => ⟨⟨(fun j => match j with | 0 => a | 1 => q_1 | _ => q_2), rfl, rfl, by rw [ht9]; exact hP, hD⟩, hS.F ht9⟩) hS.2.2 dX8_init_26
def rmX9_init : Room := { frames := 2, cells := 28, slots := 4928, locals := 32 }
set_option maxHeartbeats 4000000 in
set_option maxRecDepth 100000 in
theorem c_X9_init (l : Launch) (D : va_G) (cI cJ cB : ClassId) (a : Nat) : ∀ sz, Met l yX9_init wsX9_init rmX9_init (va_Pc [.ref a] (PW D (kT cI cJ cB) sz [(a, .inr (9, [.null, .null, .null, .null, .null, .null, .null, .null, .null, .int 0]))])) (va_Qv (S := Nat → Nat → Nat) (fun u => u 9 0 = a) (QW D sz [(a, .inr (9, [.null, .null, .null, .null, .null, .null, .null, .null, .null, .int 0]))] (fun u => wX9 (u 9) (u 4) (u 7) (u 8) (u 0) (u 6) (u 3) (u 2) (u 5) (u 1) cI cJ cB (nI 1) ++ wX4 (u 4) cI cJ cB (fun _ => 0) (fun _ => 0) (fun _ => 0) (fun _ => 0) (nI 0) (nI 0) ++ wX7 (u 7) cI cJ cB (fun _ => 0) (nI 0) ++ wX8 (u 8) cI cJ cB (fun _ => 0) (fun _ => 0) (nI 0) ++ wX0 (u 0) cI cJ cB (fun _ => 0) (nI 0) (nI 0) ++ wX6 (u 6) cI cJ cB (fun _ => 0) (fun _ => 0) (fun _ => 0) (nI 0) (nI 2) (nI 1) (nI 0) ++ wX3 (u 3) cI cJ cB (fun _ => 0) (fun _ => 0) ++ wX2 (u 2) cI cJ cB (fun _ => 0) (1 : Int64) ++ wX5 (u 5) cI cJ cB (fun _ => 0) (fun _ => 0) (-1) (-1) ++ wX1 (u 1) cI cJ cB (fun _ => 0) (fun _ => 0) (fun _ => 0) 0)) (va_A [(a, .inr (9, [.null, .null, .null, .null, .null, .null, .null, .null, .null, .int 0]))] sz)) 28 4928 (va_A [(a, .inr (9, [.null, .null, .null, .null, .null, .null, .null, .null, .null, .int 0]))] sz) := by
  intro sz
  refine Met.ofW (cc := cX9_init) (maxL := 1) (ret := none) (by decide) rfl ?_
  intro p e s m args below meth c s₁ B hml hv
  obtain ⟨hav, hsz, hP, hKW, hD0⟩ := hv
  have hx := B.exec
  have hb := B.bytes
  have hr := B.returns
  have hts := atoms_spec (ws := wsX9_init) B.pre
  have hown : s.vm.findClass RX9 = some m.cls := findClass_of_methodNamed B.named
  have hin : meth.name = "<init>" := (name_of_methodNamed B.named B.method).1
  subst hsz
  have hD := hD0.self (sz := s.heap.size)
  obtain ⟨A, hAe⟩ : ∃ A : Nat → Prop, A = va_A [(a, .inr (9, [.null, .null, .null, .null, .null, .null, .null, .null, .null, .int 0]))] s.heap.size := ⟨_, rfl⟩
  rw [← hAe] at hD
  have hA : ∀ q : Nat, s.heap.size ≤ q → A q := fun q h => by rw [hAe]; exact Or.inr h
  have hS : va_S A s.heap s.heap [] := va_S.rf
  refine k_gen (fun Q hQ => ?_)
  have hl := lv_entry ([.ref a]) (n := 1) (Nat.le_of_ble_eq_true rfl)
  refine k_entry hav (lg_entry_eq ..) ?_
  generalize (lg_sl ([.ref a]) ++ List.replicate (1 - (lg_sl ([.ref a])).length) Slot.unset).toArray = ls at hl ⊢
  have hl : lv_has ls 1 [(0, .ref a)] := hl
  have hu_0 : ∀ w ∈ u_ws RX0 TX0 3, w ∈ wsX9_init := by decide +kernel
  have hu_1 : ∀ w ∈ u_ws RX1 TX1 3, w ∈ wsX9_init := by decide +kernel
  have hu_2 : ∀ w ∈ u_ws RX2 TX2 2, w ∈ wsX9_init := by decide +kernel
  have hu_3 : ∀ w ∈ u_ws RX3 TX3 2, w ∈ wsX9_init := by decide +kernel
  have hu_4 : ∀ w ∈ u_ws RX4 TX4 6, w ∈ wsX9_init := by decide +kernel
  have hu_5 : ∀ w ∈ u_ws RX5 TX5 4, w ∈ wsX9_init := by decide +kernel
  have hu_6 : ∀ w ∈ u_ws RX6 TX6 7, w ∈ wsX9_init := by decide +kernel
  have hu_7 : ∀ w ∈ u_ws RX7 TX7 2, w ∈ wsX9_init := by decide +kernel
  have hu_8 : ∀ w ∈ u_ws RX8 TX8 3, w ∈ wsX9_init := by decide +kernel
  have hu_9 : ∀ w ∈ u_ws RX9 TX9 10, w ∈ wsX9_init := by decide +kernel
  refine lv_aload_n hx hb dX9_init_0 rfl (lv_at hl 0 rfl) ?_
  refine W.objInit hx hb hown (hts (.methodLink RX9 3 objectInit) (by decide +kernel)) (hts (.instanceMethod objectInit) (by decide +kernel)) (hts (.code objectInit ⟨#[0xb1]⟩ 1 none) (by decide +kernel)) rfl (by rw [hml]; exact hl.1) rfl dX9_init_1 (Nat.le_of_ble_eq_true rfl) (Nat.le_of_ble_eq_true rfl) ?_
  refine W.eq (g2 := F0 m 4 ls []) rfl ?_
  refine lv_aload_n hx hb dX9_init_4 rfl (lv_at hl 0 rfl) ?_
  refine va_new (ci := 4) (fs := [.null, .null, .null, .null, .int 0, .int 0]) (C := RX4) (T := TX4) (N := 6) hx hb hts hu_4 tyX4 tyX4_ok hown (hts (.classLink RX9 9 RX4) (by decide +kernel)) (hts (.instantiable RX4 6) (by decide +kernel)) (hts (.initialized RX4) (by decide +kernel)) hKW.1 hP hD hS hA rfl (fun j hj => by rcases (show j = 0 ∨ j = 1 ∨ j = 2 ∨ j = 3 ∨ j = 4 ∨ j = 5 by omega) with rfl | rfl | rfl | rfl | rfl | rfl <;> rfl) (Nat.le_of_ble_eq_true rfl) (Nat.le_of_ble_eq_true rfl) dX9_init_5 (fun b_4 H hP hD hS => ?_)
  have hP : va_P D vwCl ([(a, .inr (9, [.null, .null, .null, .null, .null, .null, .null, .null, .null, .int 0])), (b_4, .inr (4, [.null, .null, .null, .null, .int 0, .int 0]))] : va_W) H := hP
  have hD : va_D A ([(a, .inr (9, [.null, .null, .null, .null, .null, .null, .null, .null, .null, .int 0])), (b_4, .inr (4, [.null, .null, .null, .null, .int 0, .int 0]))] : va_W) := hD
  refine W.widen (k := 1) (n := 6) (by decide) (by decide) ?_
  refine lv_dup hx hb dX9_init_8 rfl ?_
  have hs_9 : kSplit ([(a, .inr (9, [.null, .null, .null, .null, .null, .null, .null, .null, .null, .int 0])), (b_4, .inr (4, [.null, .null, .null, .null, .int 0, .int 0]))] : va_W) ([(b_4, .inr (4, [.null, .null, .null, .null, .int 0, .int 0]))] : va_W) ([(a, .inr (9, [.null, .null, .null, .null, .null, .null, .null, .null, .null, .int 0]))] : va_W) [1] [0] := ⟨rfl, rfl, rfl, rfl, rfl, by decide⟩
  refine kc_n hP hD hS hA hs_9 (kIN (host := "MeetingRanks") (n := 0) (As := []) (rest := [.ref b_4, .ref a]) hx hb hml hown hts hKW hP hD hs_9 (c_X4_init l D cI cJ cB b_4) gX9_init_X4_init_n11 rfl rfl rfl (by decide +kernel) (by decide +kernel) (by decide +kernel) rfl (by decide +kernel) ⟨Nat.le_of_ble_eq_true rfl, Nat.le_of_ble_eq_true rfl⟩ rfl hl.1 rfl (Nat.le_of_ble_eq_true rfl) dX9_init_9 ⟨Nat.le_of_ble_eq_true rfl, Nat.le_of_ble_eq_true rfl⟩) (fun q4 H locs hw_9 hP9 hD9 hS => ?_)
  clear hP hD hs_9
  subst hw_9
  have hP := hP9
  have hD := hD9
  clear hP9 hD9
  have hP : va_P D vwCl ([(a, .inr (9, [.null, .null, .null, .null, .null, .null, .null, .null, .null, .int 0]))] ++ wX4 q4 cI cJ cB (fun _ => 0) (fun _ => 0) (fun _ => 0) (fun _ => 0) (nI 0) (nI 0) : va_W) H := hP
  have hD : va_D A ([(a, .inr (9, [.null, .null, .null, .null, .null, .null, .null, .null, .null, .int 0]))] ++ wX4 q4 cI cJ cB (fun _ => 0) (fun _ => 0) (fun _ => 0) (fun _ => 0) (nI 0) (nI 0) : va_W) := hD
  refine W.widen (k := 5) (n := 786) (by decide) (by decide) ?_
  refine k_putF (ci := 9) (ty := .object "MeetingRanks$Meetings") (v := .ref (q4 0)) (C := RX9) (Tb := TX9) (N := 10) (w' := ([(a, .inr (9, [.ref (q4 0), .null, .null, .null, .null, .null, .null, .null, .null, .int 0]))] ++ wX4 q4 cI cJ cB (fun _ => 0) (fun _ => 0) (fun _ => 0) (fun _ => 0) (nI 0) (nI 0) : va_W)) hx hb hts hu_9 tyX9 tyX9_ok nmX9 hown hKW hP hD hS 0 rfl rfl 0 (by decide) (by decide +kernel) rfl rfl hin rfl (by decide +kernel) rfl rfl (Nat.le_of_ble_eq_true rfl) dX9_init_12 rfl (fun H locs hP hD hS => ?_)
  refine lv_aload_n hx hb dX9_init_15 rfl (lv_at hl 0 rfl) ?_
  refine va_new (ci := 7) (fs := [.null, .int 0]) (C := RX7) (T := TX7) (N := 2) hx hb hts hu_7 tyX7 tyX7_ok hown (hts (.classLink RX9 16 RX7) (by decide +kernel)) (hts (.instantiable RX7 2) (by decide +kernel)) (hts (.initialized RX7) (by decide +kernel)) hKW.1 hP hD hS hA rfl (fun j hj => by rcases (show j = 0 ∨ j = 1 by omega) with rfl | rfl <;> rfl) (Nat.le_of_ble_eq_true rfl) (Nat.le_of_ble_eq_true rfl) dX9_init_16 (fun b_7 H hP hD hS => ?_)
  have hP : va_P D vwCl ([(a, .inr (9, [.ref (q4 0), .null, .null, .null, .null, .null, .null, .null, .null, .int 0]))] ++ wX4 q4 cI cJ cB (fun _ => 0) (fun _ => 0) (fun _ => 0) (fun _ => 0) (nI 0) (nI 0) ++ [(b_7, .inr (7, [.null, .int 0]))] : va_W) H := hP
  have hD : va_D A ([(a, .inr (9, [.ref (q4 0), .null, .null, .null, .null, .null, .null, .null, .null, .int 0]))] ++ wX4 q4 cI cJ cB (fun _ => 0) (fun _ => 0) (fun _ => 0) (fun _ => 0) (nI 0) (nI 0) ++ [(b_7, .inr (7, [.null, .int 0]))] : va_W) := hD
  refine W.widen (k := 6) (n := 788) (by decide) (by decide) ?_
  refine lv_dup hx hb dX9_init_19 rfl ?_
  have hs_20 : kSplit ([(a, .inr (9, [.ref (q4 0), .null, .null, .null, .null, .null, .null, .null, .null, .int 0]))] ++ wX4 q4 cI cJ cB (fun _ => 0) (fun _ => 0) (fun _ => 0) (fun _ => 0) (nI 0) (nI 0) ++ [(b_7, .inr (7, [.null, .int 0]))] : va_W) ([(b_7, .inr (7, [.null, .int 0]))] : va_W) ([(a, .inr (9, [.ref (q4 0), .null, .null, .null, .null, .null, .null, .null, .null, .int 0]))] ++ wX4 q4 cI cJ cB (fun _ => 0) (fun _ => 0) (fun _ => 0) (fun _ => 0) (nI 0) (nI 0) : va_W) [6] [0, 1, 2, 3, 4, 5] := ⟨rfl, rfl, rfl, rfl, rfl, by decide⟩
  refine kc_n hP hD hS hA hs_20 (kIN (host := "MeetingRanks") (n := 0) (As := []) (rest := [.ref b_7, .ref a]) hx hb hml hown hts hKW hP hD hs_20 (c_X7_init l D cI cJ cB b_7) gX9_init_X7_init_n18 rfl rfl rfl (by decide +kernel) (by decide +kernel) (by decide +kernel) rfl (by decide +kernel) ⟨Nat.le_of_ble_eq_true rfl, Nat.le_of_ble_eq_true rfl⟩ rfl hl.1 rfl (Nat.le_of_ble_eq_true rfl) dX9_init_20 ⟨Nat.le_of_ble_eq_true rfl, Nat.le_of_ble_eq_true rfl⟩) (fun q7 H locs hw_20 hP9 hD9 hS => ?_)
  clear hP hD hs_20
  subst hw_20
  have hP := hP9
  have hD := hD9
  clear hP9 hD9
  have hP : va_P D vwCl ([(a, .inr (9, [.ref (q4 0), .null, .null, .null, .null, .null, .null, .null, .null, .int 0]))] ++ wX4 q4 cI cJ cB (fun _ => 0) (fun _ => 0) (fun _ => 0) (fun _ => 0) (nI 0) (nI 0) ++ wX7 q7 cI cJ cB (fun _ => 0) (nI 0) : va_W) H := hP
  have hD : va_D A ([(a, .inr (9, [.ref (q4 0), .null, .null, .null, .null, .null, .null, .null, .null, .int 0]))] ++ wX4 q4 cI cJ cB (fun _ => 0) (fun _ => 0) (fun _ => 0) (fun _ => 0) (nI 0) (nI 0) ++ wX7 q7 cI cJ cB (fun _ => 0) (nI 0) : va_W) := hD
  refine W.widen (k := 7) (n := 1268) (by decide) (by decide) ?_
  refine k_putF (ci := 9) (ty := .object "MeetingRanks$Tape") (v := .ref (q7 0)) (C := RX9) (Tb := TX9) (N := 10) (w' := ([(a, .inr (9, [.ref (q4 0), .ref (q7 0), .null, .null, .null, .null, .null, .null, .null, .int 0]))] ++ wX4 q4 cI cJ cB (fun _ => 0) (fun _ => 0) (fun _ => 0) (fun _ => 0) (nI 0) (nI 0) ++ wX7 q7 cI cJ cB (fun _ => 0) (nI 0) : va_W)) hx hb hts hu_9 tyX9 tyX9_ok nmX9 hown hKW hP hD hS 0 rfl rfl 1 (by decide) (by decide +kernel) rfl rfl hin rfl (by decide +kernel) rfl rfl (Nat.le_of_ble_eq_true rfl) dX9_init_23 rfl (fun H locs hP hD hS => ?_)
  refine lv_aload_n hx hb dX9_init_26 rfl (lv_at hl 0 rfl) ?_
  refine va_new (ci := 8) (fs := [.null, .null, .int 0]) (C := RX8) (T := TX8) (N := 3) hx hb hts hu_8 tyX8 tyX8_ok hown (hts (.classLink RX9 23 RX8) (by decide +kernel)) (hts (.instantiable RX8 3) (by decide +kernel)) (hts (.initialized RX8) (by decide +kernel)) hKW.1 hP hD hS hA rfl (fun j hj => by rcases (show j = 0 ∨ j = 1 ∨ j = 2 by omega) with rfl | rfl | rfl <;> rfl) (Nat.le_of_ble_eq_true rfl) (Nat.le_of_ble_eq_true rfl) dX9_init_27 (fun b_8 H hP hD hS => ?_)
  have hP : va_P D vwCl ([(a, .inr (9, [.ref (q4 0), .ref (q7 0), .null, .null, .null, .null, .null, .null, .null, .int 0]))] ++ wX4 q4 cI cJ cB (fun _ => 0) (fun _ => 0) (fun _ => 0) (fun _ => 0) (nI 0) (nI 0) ++ wX7 q7 cI cJ cB (fun _ => 0) (nI 0) ++ [(b_8, .inr (8, [.null, .null, .int 0]))] : va_W) H := hP
  have hD : va_D A ([(a, .inr (9, [.ref (q4 0), .ref (q7 0), .null, .null, .null, .null, .null, .null, .null, .int 0]))] ++ wX4 q4 cI cJ cB (fun _ => 0) (fun _ => 0) (fun _ => 0) (fun _ => 0) (nI 0) (nI 0) ++ wX7 q7 cI cJ cB (fun _ => 0) (nI 0) ++ [(b_8, .inr (8, [.null, .null, .int 0]))] : va_W) := hD
  refine W.widen (k := 8) (n := 1271) (by decide) (by decide) ?_
  refine lv_dup hx hb dX9_init_30 rfl ?_
  have hs_31 : kSplit ([(a, .inr (9, [.ref (q4 0), .ref (q7 0), .null, .null, .null, .null, .null, .null, .null, .int 0]))] ++ wX4 q4 cI cJ cB (fun _ => 0) (fun _ => 0) (fun _ => 0) (fun _ => 0) (nI 0) (nI 0) ++ wX7 q7 cI cJ cB (fun _ => 0) (nI 0) ++ [(b_8, .inr (8, [.null, .null, .int 0]))] : va_W) ([(b_8, .inr (8, [.null, .null, .int 0]))] : va_W) ([(a, .inr (9, [.ref (q4 0), .ref (q7 0), .null, .null, .null, .null, .null, .null, .null, .int 0]))] ++ wX4 q4 cI cJ cB (fun _ => 0) (fun _ => 0) (fun _ => 0) (fun _ => 0) (nI 0) (nI 0) ++ wX7 q7 cI cJ cB (fun _ => 0) (nI 0) : va_W) [8] [0, 1, 2, 3, 4, 5, 6, 7] := ⟨rfl, rfl, rfl, rfl, rfl, by decide⟩
  refine kc_n hP hD hS hA hs_31 (kIN (host := "MeetingRanks") (n := 0) (As := []) (rest := [.ref b_8, .ref a]) hx hb hml hown hts hKW hP hD hs_31 (c_X8_init l D cI cJ cB b_8) gX9_init_X8_init_n25 rfl rfl rfl (by decide +kernel) (by decide +kernel) (by decide +kernel) rfl (by decide +kernel) ⟨Nat.le_of_ble_eq_true rfl, Nat.le_of_ble_eq_true rfl⟩ rfl hl.1 rfl (Nat.le_of_ble_eq_true rfl) dX9_init_31 ⟨Nat.le_of_ble_eq_true rfl, Nat.le_of_ble_eq_true rfl⟩) (fun q8 H locs hw_31 hP9 hD9 hS => ?_)
  clear hP hD hs_31
  subst hw_31
  have hP := hP9
  have hD := hD9
  clear hP9 hD9
  have hP : va_P D vwCl ([(a, .inr (9, [.ref (q4 0), .ref (q7 0), .null, .null, .null, .null, .null, .null, .null, .int 0]))] ++ wX4 q4 cI cJ cB (fun _ => 0) (fun _ => 0) (fun _ => 0) (fun _ => 0) (nI 0) (nI 0) ++ wX7 q7 cI cJ cB (fun _ => 0) (nI 0) ++ wX8 q8 cI cJ cB (fun _ => 0) (fun _ => 0) (nI 0) : va_W) H := hP
  have hD : va_D A ([(a, .inr (9, [.ref (q4 0), .ref (q7 0), .null, .null, .null, .null, .null, .null, .null, .int 0]))] ++ wX4 q4 cI cJ cB (fun _ => 0) (fun _ => 0) (fun _ => 0) (fun _ => 0) (nI 0) (nI 0) ++ wX7 q7 cI cJ cB (fun _ => 0) (nI 0) ++ wX8 q8 cI cJ cB (fun _ => 0) (fun _ => 0) (nI 0) : va_W) := hD
  refine W.widen (k := 10) (n := 2395) (by decide) (by decide) ?_
  refine k_putF (ci := 9) (ty := .object "MeetingRanks$ToCome") (v := .ref (q8 0)) (C := RX9) (Tb := TX9) (N := 10) (w' := ([(a, .inr (9, [.ref (q4 0), .ref (q7 0), .ref (q8 0), .null, .null, .null, .null, .null, .null, .int 0]))] ++ wX4 q4 cI cJ cB (fun _ => 0) (fun _ => 0) (fun _ => 0) (fun _ => 0) (nI 0) (nI 0) ++ wX7 q7 cI cJ cB (fun _ => 0) (nI 0) ++ wX8 q8 cI cJ cB (fun _ => 0) (fun _ => 0) (nI 0) : va_W)) hx hb hts hu_9 tyX9 tyX9_ok nmX9 hown hKW hP hD hS 0 rfl rfl 2 (by decide) (by decide +kernel) rfl rfl hin rfl (by decide +kernel) rfl rfl (Nat.le_of_ble_eq_true rfl) dX9_init_34 rfl (fun H locs hP hD hS => ?_)
  refine lv_aload_n hx hb dX9_init_37 rfl (lv_at hl 0 rfl) ?_
  refine va_new (ci := 0) (fs := [.null, .int 0, .int 0]) (C := RX0) (T := TX0) (N := 3) hx hb hts hu_0 tyX0 tyX0_ok hown (hts (.classLink RX9 30 RX0) (by decide +kernel)) (hts (.instantiable RX0 3) (by decide +kernel)) (hts (.initialized RX0) (by decide +kernel)) hKW.1 hP hD hS hA rfl (fun j hj => by rcases (show j = 0 ∨ j = 1 ∨ j = 2 by omega) with rfl | rfl | rfl <;> rfl) (Nat.le_of_ble_eq_true rfl) (Nat.le_of_ble_eq_true rfl) dX9_init_38 (fun b_0 H hP hD hS => ?_)
  have hP : va_P D vwCl ([(a, .inr (9, [.ref (q4 0), .ref (q7 0), .ref (q8 0), .null, .null, .null, .null, .null, .null, .int 0]))] ++ wX4 q4 cI cJ cB (fun _ => 0) (fun _ => 0) (fun _ => 0) (fun _ => 0) (nI 0) (nI 0) ++ wX7 q7 cI cJ cB (fun _ => 0) (nI 0) ++ wX8 q8 cI cJ cB (fun _ => 0) (fun _ => 0) (nI 0) ++ [(b_0, .inr (0, [.null, .int 0, .int 0]))] : va_W) H := hP
  have hD : va_D A ([(a, .inr (9, [.ref (q4 0), .ref (q7 0), .ref (q8 0), .null, .null, .null, .null, .null, .null, .int 0]))] ++ wX4 q4 cI cJ cB (fun _ => 0) (fun _ => 0) (fun _ => 0) (fun _ => 0) (nI 0) (nI 0) ++ wX7 q7 cI cJ cB (fun _ => 0) (nI 0) ++ wX8 q8 cI cJ cB (fun _ => 0) (fun _ => 0) (nI 0) ++ [(b_0, .inr (0, [.null, .int 0, .int 0]))] : va_W) := hD
  refine W.widen (k := 11) (n := 2398) (by decide) (by decide) ?_
  refine lv_dup hx hb dX9_init_41 rfl ?_
  have hs_42 : kSplit ([(a, .inr (9, [.ref (q4 0), .ref (q7 0), .ref (q8 0), .null, .null, .null, .null, .null, .null, .int 0]))] ++ wX4 q4 cI cJ cB (fun _ => 0) (fun _ => 0) (fun _ => 0) (fun _ => 0) (nI 0) (nI 0) ++ wX7 q7 cI cJ cB (fun _ => 0) (nI 0) ++ wX8 q8 cI cJ cB (fun _ => 0) (fun _ => 0) (nI 0) ++ [(b_0, .inr (0, [.null, .int 0, .int 0]))] : va_W) ([(b_0, .inr (0, [.null, .int 0, .int 0]))] : va_W) ([(a, .inr (9, [.ref (q4 0), .ref (q7 0), .ref (q8 0), .null, .null, .null, .null, .null, .null, .int 0]))] ++ wX4 q4 cI cJ cB (fun _ => 0) (fun _ => 0) (fun _ => 0) (fun _ => 0) (nI 0) (nI 0) ++ wX7 q7 cI cJ cB (fun _ => 0) (nI 0) ++ wX8 q8 cI cJ cB (fun _ => 0) (fun _ => 0) (nI 0) : va_W) [11] [0, 1, 2, 3, 4, 5, 6, 7, 8, 9, 10] := ⟨rfl, rfl, rfl, rfl, rfl, by decide⟩
  refine kc_n hP hD hS hA hs_42 (kIN (host := "MeetingRanks") (n := 0) (As := []) (rest := [.ref b_0, .ref a]) hx hb hml hown hts hKW hP hD hs_42 (c_X0_init l D cI cJ cB b_0) gX9_init_X0_init_n32 rfl rfl rfl (by decide +kernel) (by decide +kernel) (by decide +kernel) rfl (by decide +kernel) ⟨Nat.le_of_ble_eq_true rfl, Nat.le_of_ble_eq_true rfl⟩ rfl hl.1 rfl (Nat.le_of_ble_eq_true rfl) dX9_init_42 ⟨Nat.le_of_ble_eq_true rfl, Nat.le_of_ble_eq_true rfl⟩) (fun q0 H locs hw_42 hP9 hD9 hS => ?_)
  clear hP hD hs_42
  subst hw_42
  have hP := hP9
  have hD := hD9
  clear hP9 hD9
  have hP : va_P D vwCl ([(a, .inr (9, [.ref (q4 0), .ref (q7 0), .ref (q8 0), .null, .null, .null, .null, .null, .null, .int 0]))] ++ wX4 q4 cI cJ cB (fun _ => 0) (fun _ => 0) (fun _ => 0) (fun _ => 0) (nI 0) (nI 0) ++ wX7 q7 cI cJ cB (fun _ => 0) (nI 0) ++ wX8 q8 cI cJ cB (fun _ => 0) (fun _ => 0) (nI 0) ++ wX0 q0 cI cJ cB (fun _ => 0) (nI 0) (nI 0) : va_W) H := hP
  have hD : va_D A ([(a, .inr (9, [.ref (q4 0), .ref (q7 0), .ref (q8 0), .null, .null, .null, .null, .null, .null, .int 0]))] ++ wX4 q4 cI cJ cB (fun _ => 0) (fun _ => 0) (fun _ => 0) (fun _ => 0) (nI 0) (nI 0) ++ wX7 q7 cI cJ cB (fun _ => 0) (nI 0) ++ wX8 q8 cI cJ cB (fun _ => 0) (fun _ => 0) (nI 0) ++ wX0 q0 cI cJ cB (fun _ => 0) (nI 0) (nI 0) : va_W) := hD
  refine W.widen (k := 12) (n := 2638) (by decide) (by decide) ?_
  refine k_putF (ci := 9) (ty := .object "MeetingRanks$Acts") (v := .ref (q0 0)) (C := RX9) (Tb := TX9) (N := 10) (w' := ([(a, .inr (9, [.ref (q4 0), .ref (q7 0), .ref (q8 0), .ref (q0 0), .null, .null, .null, .null, .null, .int 0]))] ++ wX4 q4 cI cJ cB (fun _ => 0) (fun _ => 0) (fun _ => 0) (fun _ => 0) (nI 0) (nI 0) ++ wX7 q7 cI cJ cB (fun _ => 0) (nI 0) ++ wX8 q8 cI cJ cB (fun _ => 0) (fun _ => 0) (nI 0) ++ wX0 q0 cI cJ cB (fun _ => 0) (nI 0) (nI 0) : va_W)) hx hb hts hu_9 tyX9 tyX9_ok nmX9 hown hKW hP hD hS 0 rfl rfl 3 (by decide) (by decide +kernel) rfl rfl hin rfl (by decide +kernel) rfl rfl (Nat.le_of_ble_eq_true rfl) dX9_init_45 rfl (fun H locs hP hD hS => ?_)
  refine lv_aload_n hx hb dX9_init_48 rfl (lv_at hl 0 rfl) ?_
  refine va_new (ci := 6) (fs := [.null, .null, .null, .int 0, .int 0, .int 0, .int 0]) (C := RX6) (T := TX6) (N := 7) hx hb hts hu_6 tyX6 tyX6_ok hown (hts (.classLink RX9 37 RX6) (by decide +kernel)) (hts (.instantiable RX6 7) (by decide +kernel)) (hts (.initialized RX6) (by decide +kernel)) hKW.1 hP hD hS hA rfl (fun j hj => by rcases (show j = 0 ∨ j = 1 ∨ j = 2 ∨ j = 3 ∨ j = 4 ∨ j = 5 ∨ j = 6 by omega) with rfl | rfl | rfl | rfl | rfl | rfl | rfl <;> rfl) (Nat.le_of_ble_eq_true rfl) (Nat.le_of_ble_eq_true rfl) dX9_init_49 (fun b_6 H hP hD hS => ?_)
  have hP : va_P D vwCl ([(a, .inr (9, [.ref (q4 0), .ref (q7 0), .ref (q8 0), .ref (q0 0), .null, .null, .null, .null, .null, .int 0]))] ++ wX4 q4 cI cJ cB (fun _ => 0) (fun _ => 0) (fun _ => 0) (fun _ => 0) (nI 0) (nI 0) ++ wX7 q7 cI cJ cB (fun _ => 0) (nI 0) ++ wX8 q8 cI cJ cB (fun _ => 0) (fun _ => 0) (nI 0) ++ wX0 q0 cI cJ cB (fun _ => 0) (nI 0) (nI 0) ++ [(b_6, .inr (6, [.null, .null, .null, .int 0, .int 0, .int 0, .int 0]))] : va_W) H := hP
  have hD : va_D A ([(a, .inr (9, [.ref (q4 0), .ref (q7 0), .ref (q8 0), .ref (q0 0), .null, .null, .null, .null, .null, .int 0]))] ++ wX4 q4 cI cJ cB (fun _ => 0) (fun _ => 0) (fun _ => 0) (fun _ => 0) (nI 0) (nI 0) ++ wX7 q7 cI cJ cB (fun _ => 0) (nI 0) ++ wX8 q8 cI cJ cB (fun _ => 0) (fun _ => 0) (nI 0) ++ wX0 q0 cI cJ cB (fun _ => 0) (nI 0) (nI 0) ++ [(b_6, .inr (6, [.null, .null, .null, .int 0, .int 0, .int 0, .int 0]))] : va_W) := hD
  refine W.widen (k := 13) (n := 2645) (by decide) (by decide) ?_
  refine lv_dup hx hb dX9_init_52 rfl ?_
  have hs_53 : kSplit ([(a, .inr (9, [.ref (q4 0), .ref (q7 0), .ref (q8 0), .ref (q0 0), .null, .null, .null, .null, .null, .int 0]))] ++ wX4 q4 cI cJ cB (fun _ => 0) (fun _ => 0) (fun _ => 0) (fun _ => 0) (nI 0) (nI 0) ++ wX7 q7 cI cJ cB (fun _ => 0) (nI 0) ++ wX8 q8 cI cJ cB (fun _ => 0) (fun _ => 0) (nI 0) ++ wX0 q0 cI cJ cB (fun _ => 0) (nI 0) (nI 0) ++ [(b_6, .inr (6, [.null, .null, .null, .int 0, .int 0, .int 0, .int 0]))] : va_W) ([(b_6, .inr (6, [.null, .null, .null, .int 0, .int 0, .int 0, .int 0]))] : va_W) ([(a, .inr (9, [.ref (q4 0), .ref (q7 0), .ref (q8 0), .ref (q0 0), .null, .null, .null, .null, .null, .int 0]))] ++ wX4 q4 cI cJ cB (fun _ => 0) (fun _ => 0) (fun _ => 0) (fun _ => 0) (nI 0) (nI 0) ++ wX7 q7 cI cJ cB (fun _ => 0) (nI 0) ++ wX8 q8 cI cJ cB (fun _ => 0) (fun _ => 0) (nI 0) ++ wX0 q0 cI cJ cB (fun _ => 0) (nI 0) (nI 0) : va_W) [13] [0, 1, 2, 3, 4, 5, 6, 7, 8, 9, 10, 11, 12] := ⟨rfl, rfl, rfl, rfl, rfl, by decide⟩
  refine kc_n hP hD hS hA hs_53 (kIN (host := "MeetingRanks") (n := 0) (As := []) (rest := [.ref b_6, .ref a]) hx hb hml hown hts hKW hP hD hs_53 (c_X6_init l D cI cJ cB b_6) gX9_init_X6_init_n39 rfl rfl rfl (by decide +kernel) (by decide +kernel) (by decide +kernel) rfl (by decide +kernel) ⟨Nat.le_of_ble_eq_true rfl, Nat.le_of_ble_eq_true rfl⟩ rfl hl.1 rfl (Nat.le_of_ble_eq_true rfl) dX9_init_53 ⟨Nat.le_of_ble_eq_true rfl, Nat.le_of_ble_eq_true rfl⟩) (fun q6 H locs hw_53 hP9 hD9 hS => ?_)
  clear hP hD hs_53
  subst hw_53
  have hP := hP9
  have hD := hD9
  clear hP9 hD9
  have hP : va_P D vwCl ([(a, .inr (9, [.ref (q4 0), .ref (q7 0), .ref (q8 0), .ref (q0 0), .null, .null, .null, .null, .null, .int 0]))] ++ wX4 q4 cI cJ cB (fun _ => 0) (fun _ => 0) (fun _ => 0) (fun _ => 0) (nI 0) (nI 0) ++ wX7 q7 cI cJ cB (fun _ => 0) (nI 0) ++ wX8 q8 cI cJ cB (fun _ => 0) (fun _ => 0) (nI 0) ++ wX0 q0 cI cJ cB (fun _ => 0) (nI 0) (nI 0) ++ wX6 q6 cI cJ cB (fun _ => 0) (fun _ => 0) (fun _ => 0) (nI 0) (nI 2) (nI 1) (nI 0) : va_W) H := hP
  have hD : va_D A ([(a, .inr (9, [.ref (q4 0), .ref (q7 0), .ref (q8 0), .ref (q0 0), .null, .null, .null, .null, .null, .int 0]))] ++ wX4 q4 cI cJ cB (fun _ => 0) (fun _ => 0) (fun _ => 0) (fun _ => 0) (nI 0) (nI 0) ++ wX7 q7 cI cJ cB (fun _ => 0) (nI 0) ++ wX8 q8 cI cJ cB (fun _ => 0) (fun _ => 0) (nI 0) ++ wX0 q0 cI cJ cB (fun _ => 0) (nI 0) (nI 0) ++ wX6 q6 cI cJ cB (fun _ => 0) (fun _ => 0) (fun _ => 0) (nI 0) (nI 2) (nI 1) (nI 0) : va_W) := hD
  refine W.widen (k := 16) (n := 2709) (by decide) (by decide) ?_
  refine k_putF (ci := 9) (ty := .object "MeetingRanks$Standings") (v := .ref (q6 0)) (C := RX9) (Tb := TX9) (N := 10) (w' := ([(a, .inr (9, [.ref (q4 0), .ref (q7 0), .ref (q8 0), .ref (q0 0), .ref (q6 0), .null, .null, .null, .null, .int 0]))] ++ wX4 q4 cI cJ cB (fun _ => 0) (fun _ => 0) (fun _ => 0) (fun _ => 0) (nI 0) (nI 0) ++ wX7 q7 cI cJ cB (fun _ => 0) (nI 0) ++ wX8 q8 cI cJ cB (fun _ => 0) (fun _ => 0) (nI 0) ++ wX0 q0 cI cJ cB (fun _ => 0) (nI 0) (nI 0) ++ wX6 q6 cI cJ cB (fun _ => 0) (fun _ => 0) (fun _ => 0) (nI 0) (nI 2) (nI 1) (nI 0) : va_W)) hx hb hts hu_9 tyX9 tyX9_ok nmX9 hown hKW hP hD hS 0 rfl rfl 4 (by decide) (by decide +kernel) rfl rfl hin rfl (by decide +kernel) rfl rfl (Nat.le_of_ble_eq_true rfl) dX9_init_56 rfl (fun H locs hP hD hS => ?_)
  refine lv_aload_n hx hb dX9_init_59 rfl (lv_at hl 0 rfl) ?_
  refine va_new (ci := 3) (fs := [.null, .null]) (C := RX3) (T := TX3) (N := 2) hx hb hts hu_3 tyX3 tyX3_ok hown (hts (.classLink RX9 44 RX3) (by decide +kernel)) (hts (.instantiable RX3 2) (by decide +kernel)) (hts (.initialized RX3) (by decide +kernel)) hKW.1 hP hD hS hA rfl (fun j hj => by rcases (show j = 0 ∨ j = 1 by omega) with rfl | rfl <;> rfl) (Nat.le_of_ble_eq_true rfl) (Nat.le_of_ble_eq_true rfl) dX9_init_60 (fun b_3 H hP hD hS => ?_)
  have hP : va_P D vwCl ([(a, .inr (9, [.ref (q4 0), .ref (q7 0), .ref (q8 0), .ref (q0 0), .ref (q6 0), .null, .null, .null, .null, .int 0]))] ++ wX4 q4 cI cJ cB (fun _ => 0) (fun _ => 0) (fun _ => 0) (fun _ => 0) (nI 0) (nI 0) ++ wX7 q7 cI cJ cB (fun _ => 0) (nI 0) ++ wX8 q8 cI cJ cB (fun _ => 0) (fun _ => 0) (nI 0) ++ wX0 q0 cI cJ cB (fun _ => 0) (nI 0) (nI 0) ++ wX6 q6 cI cJ cB (fun _ => 0) (fun _ => 0) (fun _ => 0) (nI 0) (nI 2) (nI 1) (nI 0) ++ [(b_3, .inr (3, [.null, .null]))] : va_W) H := hP
  have hD : va_D A ([(a, .inr (9, [.ref (q4 0), .ref (q7 0), .ref (q8 0), .ref (q0 0), .ref (q6 0), .null, .null, .null, .null, .int 0]))] ++ wX4 q4 cI cJ cB (fun _ => 0) (fun _ => 0) (fun _ => 0) (fun _ => 0) (nI 0) (nI 0) ++ wX7 q7 cI cJ cB (fun _ => 0) (nI 0) ++ wX8 q8 cI cJ cB (fun _ => 0) (fun _ => 0) (nI 0) ++ wX0 q0 cI cJ cB (fun _ => 0) (nI 0) (nI 0) ++ wX6 q6 cI cJ cB (fun _ => 0) (fun _ => 0) (fun _ => 0) (nI 0) (nI 2) (nI 1) (nI 0) ++ [(b_3, .inr (3, [.null, .null]))] : va_W) := hD
  refine W.widen (k := 17) (n := 2711) (by decide) (by decide) ?_
  refine lv_dup hx hb dX9_init_63 rfl ?_
  have hs_64 : kSplit ([(a, .inr (9, [.ref (q4 0), .ref (q7 0), .ref (q8 0), .ref (q0 0), .ref (q6 0), .null, .null, .null, .null, .int 0]))] ++ wX4 q4 cI cJ cB (fun _ => 0) (fun _ => 0) (fun _ => 0) (fun _ => 0) (nI 0) (nI 0) ++ wX7 q7 cI cJ cB (fun _ => 0) (nI 0) ++ wX8 q8 cI cJ cB (fun _ => 0) (fun _ => 0) (nI 0) ++ wX0 q0 cI cJ cB (fun _ => 0) (nI 0) (nI 0) ++ wX6 q6 cI cJ cB (fun _ => 0) (fun _ => 0) (fun _ => 0) (nI 0) (nI 2) (nI 1) (nI 0) ++ [(b_3, .inr (3, [.null, .null]))] : va_W) ([(b_3, .inr (3, [.null, .null]))] : va_W) ([(a, .inr (9, [.ref (q4 0), .ref (q7 0), .ref (q8 0), .ref (q0 0), .ref (q6 0), .null, .null, .null, .null, .int 0]))] ++ wX4 q4 cI cJ cB (fun _ => 0) (fun _ => 0) (fun _ => 0) (fun _ => 0) (nI 0) (nI 0) ++ wX7 q7 cI cJ cB (fun _ => 0) (nI 0) ++ wX8 q8 cI cJ cB (fun _ => 0) (fun _ => 0) (nI 0) ++ wX0 q0 cI cJ cB (fun _ => 0) (nI 0) (nI 0) ++ wX6 q6 cI cJ cB (fun _ => 0) (fun _ => 0) (fun _ => 0) (nI 0) (nI 2) (nI 1) (nI 0) : va_W) [17] [0, 1, 2, 3, 4, 5, 6, 7, 8, 9, 10, 11, 12, 13, 14, 15, 16] := ⟨rfl, rfl, rfl, rfl, rfl, by decide⟩
  refine kc_n hP hD hS hA hs_64 (kIN (host := "MeetingRanks") (n := 0) (As := []) (rest := [.ref b_3, .ref a]) hx hb hml hown hts hKW hP hD hs_64 (c_X3_init l D cI cJ cB b_3) gX9_init_X3_init_n46 rfl rfl rfl (by decide +kernel) (by decide +kernel) (by decide +kernel) rfl (by decide +kernel) ⟨Nat.le_of_ble_eq_true rfl, Nat.le_of_ble_eq_true rfl⟩ rfl hl.1 rfl (Nat.le_of_ble_eq_true rfl) dX9_init_64 ⟨Nat.le_of_ble_eq_true rfl, Nat.le_of_ble_eq_true rfl⟩) (fun q3 H locs hw_64 hP9 hD9 hS => ?_)
  clear hP hD hs_64
  subst hw_64
  have hP := hP9
  have hD := hD9
  clear hP9 hD9
  have hP : va_P D vwCl ([(a, .inr (9, [.ref (q4 0), .ref (q7 0), .ref (q8 0), .ref (q0 0), .ref (q6 0), .null, .null, .null, .null, .int 0]))] ++ wX4 q4 cI cJ cB (fun _ => 0) (fun _ => 0) (fun _ => 0) (fun _ => 0) (nI 0) (nI 0) ++ wX7 q7 cI cJ cB (fun _ => 0) (nI 0) ++ wX8 q8 cI cJ cB (fun _ => 0) (fun _ => 0) (nI 0) ++ wX0 q0 cI cJ cB (fun _ => 0) (nI 0) (nI 0) ++ wX6 q6 cI cJ cB (fun _ => 0) (fun _ => 0) (fun _ => 0) (nI 0) (nI 2) (nI 1) (nI 0) ++ wX3 q3 cI cJ cB (fun _ => 0) (fun _ => 0) : va_W) H := hP
  have hD : va_D A ([(a, .inr (9, [.ref (q4 0), .ref (q7 0), .ref (q8 0), .ref (q0 0), .ref (q6 0), .null, .null, .null, .null, .int 0]))] ++ wX4 q4 cI cJ cB (fun _ => 0) (fun _ => 0) (fun _ => 0) (fun _ => 0) (nI 0) (nI 0) ++ wX7 q7 cI cJ cB (fun _ => 0) (nI 0) ++ wX8 q8 cI cJ cB (fun _ => 0) (fun _ => 0) (nI 0) ++ wX0 q0 cI cJ cB (fun _ => 0) (nI 0) (nI 0) ++ wX6 q6 cI cJ cB (fun _ => 0) (fun _ => 0) (fun _ => 0) (nI 0) (nI 2) (nI 1) (nI 0) ++ wX3 q3 cI cJ cB (fun _ => 0) (fun _ => 0) : va_W) := hD
  refine W.widen (k := 19) (n := 2731) (by decide) (by decide) ?_
  refine k_putF (ci := 9) (ty := .object "MeetingRanks$HeapSearch") (v := .ref (q3 0)) (C := RX9) (Tb := TX9) (N := 10) (w' := ([(a, .inr (9, [.ref (q4 0), .ref (q7 0), .ref (q8 0), .ref (q0 0), .ref (q6 0), .ref (q3 0), .null, .null, .null, .int 0]))] ++ wX4 q4 cI cJ cB (fun _ => 0) (fun _ => 0) (fun _ => 0) (fun _ => 0) (nI 0) (nI 0) ++ wX7 q7 cI cJ cB (fun _ => 0) (nI 0) ++ wX8 q8 cI cJ cB (fun _ => 0) (fun _ => 0) (nI 0) ++ wX0 q0 cI cJ cB (fun _ => 0) (nI 0) (nI 0) ++ wX6 q6 cI cJ cB (fun _ => 0) (fun _ => 0) (fun _ => 0) (nI 0) (nI 2) (nI 1) (nI 0) ++ wX3 q3 cI cJ cB (fun _ => 0) (fun _ => 0) : va_W)) hx hb hts hu_9 tyX9 tyX9_ok nmX9 hown hKW hP hD hS 0 rfl rfl 5 (by decide) (by decide +kernel) rfl rfl hin rfl (by decide +kernel) rfl rfl (Nat.le_of_ble_eq_true rfl) dX9_init_67 rfl (fun H locs hP hD hS => ?_)
  refine lv_aload_n hx hb dX9_init_70 rfl (lv_at hl 0 rfl) ?_
  refine va_new (ci := 2) (fs := [.null, .long 0]) (C := RX2) (T := TX2) (N := 2) hx hb hts hu_2 tyX2 tyX2_ok hown (hts (.classLink RX9 51 RX2) (by decide +kernel)) (hts (.instantiable RX2 2) (by decide +kernel)) (hts (.initialized RX2) (by decide +kernel)) hKW.1 hP hD hS hA rfl (fun j hj => by rcases (show j = 0 ∨ j = 1 by omega) with rfl | rfl <;> rfl) (Nat.le_of_ble_eq_true rfl) (Nat.le_of_ble_eq_true rfl) dX9_init_71 (fun b_2 H hP hD hS => ?_)
  have hP : va_P D vwCl ([(a, .inr (9, [.ref (q4 0), .ref (q7 0), .ref (q8 0), .ref (q0 0), .ref (q6 0), .ref (q3 0), .null, .null, .null, .int 0]))] ++ wX4 q4 cI cJ cB (fun _ => 0) (fun _ => 0) (fun _ => 0) (fun _ => 0) (nI 0) (nI 0) ++ wX7 q7 cI cJ cB (fun _ => 0) (nI 0) ++ wX8 q8 cI cJ cB (fun _ => 0) (fun _ => 0) (nI 0) ++ wX0 q0 cI cJ cB (fun _ => 0) (nI 0) (nI 0) ++ wX6 q6 cI cJ cB (fun _ => 0) (fun _ => 0) (fun _ => 0) (nI 0) (nI 2) (nI 1) (nI 0) ++ wX3 q3 cI cJ cB (fun _ => 0) (fun _ => 0) ++ [(b_2, .inr (2, [.null, .long 0]))] : va_W) H := hP
  have hD : va_D A ([(a, .inr (9, [.ref (q4 0), .ref (q7 0), .ref (q8 0), .ref (q0 0), .ref (q6 0), .ref (q3 0), .null, .null, .null, .int 0]))] ++ wX4 q4 cI cJ cB (fun _ => 0) (fun _ => 0) (fun _ => 0) (fun _ => 0) (nI 0) (nI 0) ++ wX7 q7 cI cJ cB (fun _ => 0) (nI 0) ++ wX8 q8 cI cJ cB (fun _ => 0) (fun _ => 0) (nI 0) ++ wX0 q0 cI cJ cB (fun _ => 0) (nI 0) (nI 0) ++ wX6 q6 cI cJ cB (fun _ => 0) (fun _ => 0) (fun _ => 0) (nI 0) (nI 2) (nI 1) (nI 0) ++ wX3 q3 cI cJ cB (fun _ => 0) (fun _ => 0) ++ [(b_2, .inr (2, [.null, .long 0]))] : va_W) := hD
  refine W.widen (k := 20) (n := 2733) (by decide) (by decide) ?_
  refine lv_dup hx hb dX9_init_74 rfl ?_
  have hs_75 : kSplit ([(a, .inr (9, [.ref (q4 0), .ref (q7 0), .ref (q8 0), .ref (q0 0), .ref (q6 0), .ref (q3 0), .null, .null, .null, .int 0]))] ++ wX4 q4 cI cJ cB (fun _ => 0) (fun _ => 0) (fun _ => 0) (fun _ => 0) (nI 0) (nI 0) ++ wX7 q7 cI cJ cB (fun _ => 0) (nI 0) ++ wX8 q8 cI cJ cB (fun _ => 0) (fun _ => 0) (nI 0) ++ wX0 q0 cI cJ cB (fun _ => 0) (nI 0) (nI 0) ++ wX6 q6 cI cJ cB (fun _ => 0) (fun _ => 0) (fun _ => 0) (nI 0) (nI 2) (nI 1) (nI 0) ++ wX3 q3 cI cJ cB (fun _ => 0) (fun _ => 0) ++ [(b_2, .inr (2, [.null, .long 0]))] : va_W) ([(b_2, .inr (2, [.null, .long 0]))] : va_W) ([(a, .inr (9, [.ref (q4 0), .ref (q7 0), .ref (q8 0), .ref (q0 0), .ref (q6 0), .ref (q3 0), .null, .null, .null, .int 0]))] ++ wX4 q4 cI cJ cB (fun _ => 0) (fun _ => 0) (fun _ => 0) (fun _ => 0) (nI 0) (nI 0) ++ wX7 q7 cI cJ cB (fun _ => 0) (nI 0) ++ wX8 q8 cI cJ cB (fun _ => 0) (fun _ => 0) (nI 0) ++ wX0 q0 cI cJ cB (fun _ => 0) (nI 0) (nI 0) ++ wX6 q6 cI cJ cB (fun _ => 0) (fun _ => 0) (fun _ => 0) (nI 0) (nI 2) (nI 1) (nI 0) ++ wX3 q3 cI cJ cB (fun _ => 0) (fun _ => 0) : va_W) [20] [0, 1, 2, 3, 4, 5, 6, 7, 8, 9, 10, 11, 12, 13, 14, 15, 16, 17, 18, 19] := ⟨rfl, rfl, rfl, rfl, rfl, by decide⟩
  refine kc_n hP hD hS hA hs_75 (kIN (host := "MeetingRanks") (n := 0) (As := []) (rest := [.ref b_2, .ref a]) hx hb hml hown hts hKW hP hD hs_75 (c_X2_init l D cI cJ cB b_2) gX9_init_X2_init_n53 rfl rfl rfl (by decide +kernel) (by decide +kernel) (by decide +kernel) rfl (by decide +kernel) ⟨Nat.le_of_ble_eq_true rfl, Nat.le_of_ble_eq_true rfl⟩ rfl hl.1 rfl (Nat.le_of_ble_eq_true rfl) dX9_init_75 ⟨Nat.le_of_ble_eq_true rfl, Nat.le_of_ble_eq_true rfl⟩) (fun q2 H locs hw_75 hP9 hD9 hS => ?_)
  clear hP hD hs_75
  subst hw_75
  have hP := hP9
  have hD := hD9
  clear hP9 hD9
  have hP : va_P D vwCl ([(a, .inr (9, [.ref (q4 0), .ref (q7 0), .ref (q8 0), .ref (q0 0), .ref (q6 0), .ref (q3 0), .null, .null, .null, .int 0]))] ++ wX4 q4 cI cJ cB (fun _ => 0) (fun _ => 0) (fun _ => 0) (fun _ => 0) (nI 0) (nI 0) ++ wX7 q7 cI cJ cB (fun _ => 0) (nI 0) ++ wX8 q8 cI cJ cB (fun _ => 0) (fun _ => 0) (nI 0) ++ wX0 q0 cI cJ cB (fun _ => 0) (nI 0) (nI 0) ++ wX6 q6 cI cJ cB (fun _ => 0) (fun _ => 0) (fun _ => 0) (nI 0) (nI 2) (nI 1) (nI 0) ++ wX3 q3 cI cJ cB (fun _ => 0) (fun _ => 0) ++ wX2 q2 cI cJ cB (fun _ => 0) (1 : Int64) : va_W) H := hP
  have hD : va_D A ([(a, .inr (9, [.ref (q4 0), .ref (q7 0), .ref (q8 0), .ref (q0 0), .ref (q6 0), .ref (q3 0), .null, .null, .null, .int 0]))] ++ wX4 q4 cI cJ cB (fun _ => 0) (fun _ => 0) (fun _ => 0) (fun _ => 0) (nI 0) (nI 0) ++ wX7 q7 cI cJ cB (fun _ => 0) (nI 0) ++ wX8 q8 cI cJ cB (fun _ => 0) (fun _ => 0) (nI 0) ++ wX0 q0 cI cJ cB (fun _ => 0) (nI 0) (nI 0) ++ wX6 q6 cI cJ cB (fun _ => 0) (fun _ => 0) (fun _ => 0) (nI 0) (nI 2) (nI 1) (nI 0) ++ wX3 q3 cI cJ cB (fun _ => 0) (fun _ => 0) ++ wX2 q2 cI cJ cB (fun _ => 0) (1 : Int64) : va_W) := hD
  refine W.widen (k := 21) (n := 2763) (by decide) (by decide) ?_
  refine k_putF (ci := 9) (ty := .object "MeetingRanks$GapSolver") (v := .ref (q2 0)) (C := RX9) (Tb := TX9) (N := 10) (w' := ([(a, .inr (9, [.ref (q4 0), .ref (q7 0), .ref (q8 0), .ref (q0 0), .ref (q6 0), .ref (q3 0), .ref (q2 0), .null, .null, .int 0]))] ++ wX4 q4 cI cJ cB (fun _ => 0) (fun _ => 0) (fun _ => 0) (fun _ => 0) (nI 0) (nI 0) ++ wX7 q7 cI cJ cB (fun _ => 0) (nI 0) ++ wX8 q8 cI cJ cB (fun _ => 0) (fun _ => 0) (nI 0) ++ wX0 q0 cI cJ cB (fun _ => 0) (nI 0) (nI 0) ++ wX6 q6 cI cJ cB (fun _ => 0) (fun _ => 0) (fun _ => 0) (nI 0) (nI 2) (nI 1) (nI 0) ++ wX3 q3 cI cJ cB (fun _ => 0) (fun _ => 0) ++ wX2 q2 cI cJ cB (fun _ => 0) (1 : Int64) : va_W)) hx hb hts hu_9 tyX9 tyX9_ok nmX9 hown hKW hP hD hS 0 rfl rfl 6 (by decide) (by decide +kernel) rfl rfl hin rfl (by decide +kernel) rfl rfl (Nat.le_of_ble_eq_true rfl) dX9_init_78 rfl (fun H locs hP hD hS => ?_)
  refine lv_aload_n hx hb dX9_init_81 rfl (lv_at hl 0 rfl) ?_
  refine va_new (ci := 5) (fs := [.null, .null, .int 0, .int 0]) (C := RX5) (T := TX5) (N := 4) hx hb hts hu_5 tyX5 tyX5_ok hown (hts (.classLink RX9 58 RX5) (by decide +kernel)) (hts (.instantiable RX5 4) (by decide +kernel)) (hts (.initialized RX5) (by decide +kernel)) hKW.1 hP hD hS hA rfl (fun j hj => by rcases (show j = 0 ∨ j = 1 ∨ j = 2 ∨ j = 3 by omega) with rfl | rfl | rfl | rfl <;> rfl) (Nat.le_of_ble_eq_true rfl) (Nat.le_of_ble_eq_true rfl) dX9_init_82 (fun b_5 H hP hD hS => ?_)
  have hP : va_P D vwCl ([(a, .inr (9, [.ref (q4 0), .ref (q7 0), .ref (q8 0), .ref (q0 0), .ref (q6 0), .ref (q3 0), .ref (q2 0), .null, .null, .int 0]))] ++ wX4 q4 cI cJ cB (fun _ => 0) (fun _ => 0) (fun _ => 0) (fun _ => 0) (nI 0) (nI 0) ++ wX7 q7 cI cJ cB (fun _ => 0) (nI 0) ++ wX8 q8 cI cJ cB (fun _ => 0) (fun _ => 0) (nI 0) ++ wX0 q0 cI cJ cB (fun _ => 0) (nI 0) (nI 0) ++ wX6 q6 cI cJ cB (fun _ => 0) (fun _ => 0) (fun _ => 0) (nI 0) (nI 2) (nI 1) (nI 0) ++ wX3 q3 cI cJ cB (fun _ => 0) (fun _ => 0) ++ wX2 q2 cI cJ cB (fun _ => 0) (1 : Int64) ++ [(b_5, .inr (5, [.null, .null, .int 0, .int 0]))] : va_W) H := hP
  have hD : va_D A ([(a, .inr (9, [.ref (q4 0), .ref (q7 0), .ref (q8 0), .ref (q0 0), .ref (q6 0), .ref (q3 0), .ref (q2 0), .null, .null, .int 0]))] ++ wX4 q4 cI cJ cB (fun _ => 0) (fun _ => 0) (fun _ => 0) (fun _ => 0) (nI 0) (nI 0) ++ wX7 q7 cI cJ cB (fun _ => 0) (nI 0) ++ wX8 q8 cI cJ cB (fun _ => 0) (fun _ => 0) (nI 0) ++ wX0 q0 cI cJ cB (fun _ => 0) (nI 0) (nI 0) ++ wX6 q6 cI cJ cB (fun _ => 0) (fun _ => 0) (fun _ => 0) (nI 0) (nI 2) (nI 1) (nI 0) ++ wX3 q3 cI cJ cB (fun _ => 0) (fun _ => 0) ++ wX2 q2 cI cJ cB (fun _ => 0) (1 : Int64) ++ [(b_5, .inr (5, [.null, .null, .int 0, .int 0]))] : va_W) := hD
  refine W.widen (k := 22) (n := 2767) (by decide) (by decide) ?_
  refine lv_dup hx hb dX9_init_85 rfl ?_
  have hs_86 : kSplit ([(a, .inr (9, [.ref (q4 0), .ref (q7 0), .ref (q8 0), .ref (q0 0), .ref (q6 0), .ref (q3 0), .ref (q2 0), .null, .null, .int 0]))] ++ wX4 q4 cI cJ cB (fun _ => 0) (fun _ => 0) (fun _ => 0) (fun _ => 0) (nI 0) (nI 0) ++ wX7 q7 cI cJ cB (fun _ => 0) (nI 0) ++ wX8 q8 cI cJ cB (fun _ => 0) (fun _ => 0) (nI 0) ++ wX0 q0 cI cJ cB (fun _ => 0) (nI 0) (nI 0) ++ wX6 q6 cI cJ cB (fun _ => 0) (fun _ => 0) (fun _ => 0) (nI 0) (nI 2) (nI 1) (nI 0) ++ wX3 q3 cI cJ cB (fun _ => 0) (fun _ => 0) ++ wX2 q2 cI cJ cB (fun _ => 0) (1 : Int64) ++ [(b_5, .inr (5, [.null, .null, .int 0, .int 0]))] : va_W) ([(b_5, .inr (5, [.null, .null, .int 0, .int 0]))] : va_W) ([(a, .inr (9, [.ref (q4 0), .ref (q7 0), .ref (q8 0), .ref (q0 0), .ref (q6 0), .ref (q3 0), .ref (q2 0), .null, .null, .int 0]))] ++ wX4 q4 cI cJ cB (fun _ => 0) (fun _ => 0) (fun _ => 0) (fun _ => 0) (nI 0) (nI 0) ++ wX7 q7 cI cJ cB (fun _ => 0) (nI 0) ++ wX8 q8 cI cJ cB (fun _ => 0) (fun _ => 0) (nI 0) ++ wX0 q0 cI cJ cB (fun _ => 0) (nI 0) (nI 0) ++ wX6 q6 cI cJ cB (fun _ => 0) (fun _ => 0) (fun _ => 0) (nI 0) (nI 2) (nI 1) (nI 0) ++ wX3 q3 cI cJ cB (fun _ => 0) (fun _ => 0) ++ wX2 q2 cI cJ cB (fun _ => 0) (1 : Int64) : va_W) [22] [0, 1, 2, 3, 4, 5, 6, 7, 8, 9, 10, 11, 12, 13, 14, 15, 16, 17, 18, 19, 20, 21] := ⟨rfl, rfl, rfl, rfl, rfl, by decide⟩
  refine kc_n hP hD hS hA hs_86 (kIN (host := "MeetingRanks") (n := 0) (As := []) (rest := [.ref b_5, .ref a]) hx hb hml hown hts hKW hP hD hs_86 (c_X5_init l D cI cJ cB b_5) gX9_init_X5_init_n60 rfl rfl rfl (by decide +kernel) (by decide +kernel) (by decide +kernel) rfl (by decide +kernel) ⟨Nat.le_of_ble_eq_true rfl, Nat.le_of_ble_eq_true rfl⟩ rfl hl.1 rfl (Nat.le_of_ble_eq_true rfl) dX9_init_86 ⟨Nat.le_of_ble_eq_true rfl, Nat.le_of_ble_eq_true rfl⟩) (fun q5 H locs hw_86 hP9 hD9 hS => ?_)
  clear hP hD hs_86
  subst hw_86
  have hP := hP9
  have hD := hD9
  clear hP9 hD9
  have hP : va_P D vwCl ([(a, .inr (9, [.ref (q4 0), .ref (q7 0), .ref (q8 0), .ref (q0 0), .ref (q6 0), .ref (q3 0), .ref (q2 0), .null, .null, .int 0]))] ++ wX4 q4 cI cJ cB (fun _ => 0) (fun _ => 0) (fun _ => 0) (fun _ => 0) (nI 0) (nI 0) ++ wX7 q7 cI cJ cB (fun _ => 0) (nI 0) ++ wX8 q8 cI cJ cB (fun _ => 0) (fun _ => 0) (nI 0) ++ wX0 q0 cI cJ cB (fun _ => 0) (nI 0) (nI 0) ++ wX6 q6 cI cJ cB (fun _ => 0) (fun _ => 0) (fun _ => 0) (nI 0) (nI 2) (nI 1) (nI 0) ++ wX3 q3 cI cJ cB (fun _ => 0) (fun _ => 0) ++ wX2 q2 cI cJ cB (fun _ => 0) (1 : Int64) ++ wX5 q5 cI cJ cB (fun _ => 0) (fun _ => 0) (-1) (-1) : va_W) H := hP
  have hD : va_D A ([(a, .inr (9, [.ref (q4 0), .ref (q7 0), .ref (q8 0), .ref (q0 0), .ref (q6 0), .ref (q3 0), .ref (q2 0), .null, .null, .int 0]))] ++ wX4 q4 cI cJ cB (fun _ => 0) (fun _ => 0) (fun _ => 0) (fun _ => 0) (nI 0) (nI 0) ++ wX7 q7 cI cJ cB (fun _ => 0) (nI 0) ++ wX8 q8 cI cJ cB (fun _ => 0) (fun _ => 0) (nI 0) ++ wX0 q0 cI cJ cB (fun _ => 0) (nI 0) (nI 0) ++ wX6 q6 cI cJ cB (fun _ => 0) (fun _ => 0) (fun _ => 0) (nI 0) (nI 2) (nI 1) (nI 0) ++ wX3 q3 cI cJ cB (fun _ => 0) (fun _ => 0) ++ wX2 q2 cI cJ cB (fun _ => 0) (1 : Int64) ++ wX5 q5 cI cJ cB (fun _ => 0) (fun _ => 0) (-1) (-1) : va_W) := hD
  refine W.widen (k := 24) (n := 4815) (by decide) (by decide) ?_
  refine k_putF (ci := 9) (ty := .object "MeetingRanks$RowSearch") (v := .ref (q5 0)) (C := RX9) (Tb := TX9) (N := 10) (w' := ([(a, .inr (9, [.ref (q4 0), .ref (q7 0), .ref (q8 0), .ref (q0 0), .ref (q6 0), .ref (q3 0), .ref (q2 0), .ref (q5 0), .null, .int 0]))] ++ wX4 q4 cI cJ cB (fun _ => 0) (fun _ => 0) (fun _ => 0) (fun _ => 0) (nI 0) (nI 0) ++ wX7 q7 cI cJ cB (fun _ => 0) (nI 0) ++ wX8 q8 cI cJ cB (fun _ => 0) (fun _ => 0) (nI 0) ++ wX0 q0 cI cJ cB (fun _ => 0) (nI 0) (nI 0) ++ wX6 q6 cI cJ cB (fun _ => 0) (fun _ => 0) (fun _ => 0) (nI 0) (nI 2) (nI 1) (nI 0) ++ wX3 q3 cI cJ cB (fun _ => 0) (fun _ => 0) ++ wX2 q2 cI cJ cB (fun _ => 0) (1 : Int64) ++ wX5 q5 cI cJ cB (fun _ => 0) (fun _ => 0) (-1) (-1) : va_W)) hx hb hts hu_9 tyX9 tyX9_ok nmX9 hown hKW hP hD hS 0 rfl rfl 7 (by decide) (by decide +kernel) rfl rfl hin rfl (by decide +kernel) rfl rfl (Nat.le_of_ble_eq_true rfl) dX9_init_89 rfl (fun H locs hP hD hS => ?_)
  refine lv_aload_n hx hb dX9_init_92 rfl (lv_at hl 0 rfl) ?_
  refine va_new (ci := 1) (fs := [.null, .null, .null]) (C := RX1) (T := TX1) (N := 3) hx hb hts hu_1 tyX1 tyX1_ok hown (hts (.classLink RX9 65 RX1) (by decide +kernel)) (hts (.instantiable RX1 3) (by decide +kernel)) (hts (.initialized RX1) (by decide +kernel)) hKW.1 hP hD hS hA rfl (fun j hj => by rcases (show j = 0 ∨ j = 1 ∨ j = 2 by omega) with rfl | rfl | rfl <;> rfl) (Nat.le_of_ble_eq_true rfl) (Nat.le_of_ble_eq_true rfl) dX9_init_93 (fun b_1 H hP hD hS => ?_)
  have hP : va_P D vwCl ([(a, .inr (9, [.ref (q4 0), .ref (q7 0), .ref (q8 0), .ref (q0 0), .ref (q6 0), .ref (q3 0), .ref (q2 0), .ref (q5 0), .null, .int 0]))] ++ wX4 q4 cI cJ cB (fun _ => 0) (fun _ => 0) (fun _ => 0) (fun _ => 0) (nI 0) (nI 0) ++ wX7 q7 cI cJ cB (fun _ => 0) (nI 0) ++ wX8 q8 cI cJ cB (fun _ => 0) (fun _ => 0) (nI 0) ++ wX0 q0 cI cJ cB (fun _ => 0) (nI 0) (nI 0) ++ wX6 q6 cI cJ cB (fun _ => 0) (fun _ => 0) (fun _ => 0) (nI 0) (nI 2) (nI 1) (nI 0) ++ wX3 q3 cI cJ cB (fun _ => 0) (fun _ => 0) ++ wX2 q2 cI cJ cB (fun _ => 0) (1 : Int64) ++ wX5 q5 cI cJ cB (fun _ => 0) (fun _ => 0) (-1) (-1) ++ [(b_1, .inr (1, [.null, .null, .null]))] : va_W) H := hP
  have hD : va_D A ([(a, .inr (9, [.ref (q4 0), .ref (q7 0), .ref (q8 0), .ref (q0 0), .ref (q6 0), .ref (q3 0), .ref (q2 0), .ref (q5 0), .null, .int 0]))] ++ wX4 q4 cI cJ cB (fun _ => 0) (fun _ => 0) (fun _ => 0) (fun _ => 0) (nI 0) (nI 0) ++ wX7 q7 cI cJ cB (fun _ => 0) (nI 0) ++ wX8 q8 cI cJ cB (fun _ => 0) (fun _ => 0) (nI 0) ++ wX0 q0 cI cJ cB (fun _ => 0) (nI 0) (nI 0) ++ wX6 q6 cI cJ cB (fun _ => 0) (fun _ => 0) (fun _ => 0) (nI 0) (nI 2) (nI 1) (nI 0) ++ wX3 q3 cI cJ cB (fun _ => 0) (fun _ => 0) ++ wX2 q2 cI cJ cB (fun _ => 0) (1 : Int64) ++ wX5 q5 cI cJ cB (fun _ => 0) (fun _ => 0) (-1) (-1) ++ [(b_1, .inr (1, [.null, .null, .null]))] : va_W) := hD
  refine W.widen (k := 25) (n := 4818) (by decide) (by decide) ?_
  refine lv_dup hx hb dX9_init_96 rfl ?_
  have hs_97 : kSplit ([(a, .inr (9, [.ref (q4 0), .ref (q7 0), .ref (q8 0), .ref (q0 0), .ref (q6 0), .ref (q3 0), .ref (q2 0), .ref (q5 0), .null, .int 0]))] ++ wX4 q4 cI cJ cB (fun _ => 0) (fun _ => 0) (fun _ => 0) (fun _ => 0) (nI 0) (nI 0) ++ wX7 q7 cI cJ cB (fun _ => 0) (nI 0) ++ wX8 q8 cI cJ cB (fun _ => 0) (fun _ => 0) (nI 0) ++ wX0 q0 cI cJ cB (fun _ => 0) (nI 0) (nI 0) ++ wX6 q6 cI cJ cB (fun _ => 0) (fun _ => 0) (fun _ => 0) (nI 0) (nI 2) (nI 1) (nI 0) ++ wX3 q3 cI cJ cB (fun _ => 0) (fun _ => 0) ++ wX2 q2 cI cJ cB (fun _ => 0) (1 : Int64) ++ wX5 q5 cI cJ cB (fun _ => 0) (fun _ => 0) (-1) (-1) ++ [(b_1, .inr (1, [.null, .null, .null]))] : va_W) ([(b_1, .inr (1, [.null, .null, .null]))] : va_W) ([(a, .inr (9, [.ref (q4 0), .ref (q7 0), .ref (q8 0), .ref (q0 0), .ref (q6 0), .ref (q3 0), .ref (q2 0), .ref (q5 0), .null, .int 0]))] ++ wX4 q4 cI cJ cB (fun _ => 0) (fun _ => 0) (fun _ => 0) (fun _ => 0) (nI 0) (nI 0) ++ wX7 q7 cI cJ cB (fun _ => 0) (nI 0) ++ wX8 q8 cI cJ cB (fun _ => 0) (fun _ => 0) (nI 0) ++ wX0 q0 cI cJ cB (fun _ => 0) (nI 0) (nI 0) ++ wX6 q6 cI cJ cB (fun _ => 0) (fun _ => 0) (fun _ => 0) (nI 0) (nI 2) (nI 1) (nI 0) ++ wX3 q3 cI cJ cB (fun _ => 0) (fun _ => 0) ++ wX2 q2 cI cJ cB (fun _ => 0) (1 : Int64) ++ wX5 q5 cI cJ cB (fun _ => 0) (fun _ => 0) (-1) (-1) : va_W) [25] [0, 1, 2, 3, 4, 5, 6, 7, 8, 9, 10, 11, 12, 13, 14, 15, 16, 17, 18, 19, 20, 21, 22, 23, 24] := ⟨rfl, rfl, rfl, rfl, rfl, by decide⟩
  refine kc_n hP hD hS hA hs_97 (kIN (host := "MeetingRanks") (n := 0) (As := []) (rest := [.ref b_1, .ref a]) hx hb hml hown hts hKW hP hD hs_97 (c_X1_init l D cI cJ cB b_1) gX9_init_X1_init_n67 rfl rfl rfl (by decide +kernel) (by decide +kernel) (by decide +kernel) rfl (by decide +kernel) ⟨Nat.le_of_ble_eq_true rfl, Nat.le_of_ble_eq_true rfl⟩ rfl hl.1 rfl (Nat.le_of_ble_eq_true rfl) dX9_init_97 ⟨Nat.le_of_ble_eq_true rfl, Nat.le_of_ble_eq_true rfl⟩) (fun q1 H locs hw_97 hP9 hD9 hS => ?_)
  clear hP hD hs_97
  subst hw_97
  have hP := hP9
  have hD := hD9
  clear hP9 hD9
  have hP : va_P D vwCl ([(a, .inr (9, [.ref (q4 0), .ref (q7 0), .ref (q8 0), .ref (q0 0), .ref (q6 0), .ref (q3 0), .ref (q2 0), .ref (q5 0), .null, .int 0]))] ++ wX4 q4 cI cJ cB (fun _ => 0) (fun _ => 0) (fun _ => 0) (fun _ => 0) (nI 0) (nI 0) ++ wX7 q7 cI cJ cB (fun _ => 0) (nI 0) ++ wX8 q8 cI cJ cB (fun _ => 0) (fun _ => 0) (nI 0) ++ wX0 q0 cI cJ cB (fun _ => 0) (nI 0) (nI 0) ++ wX6 q6 cI cJ cB (fun _ => 0) (fun _ => 0) (fun _ => 0) (nI 0) (nI 2) (nI 1) (nI 0) ++ wX3 q3 cI cJ cB (fun _ => 0) (fun _ => 0) ++ wX2 q2 cI cJ cB (fun _ => 0) (1 : Int64) ++ wX5 q5 cI cJ cB (fun _ => 0) (fun _ => 0) (-1) (-1) ++ wX1 q1 cI cJ cB (fun _ => 0) (fun _ => 0) (fun _ => 0) 0 : va_W) H := hP
  have hD : va_D A ([(a, .inr (9, [.ref (q4 0), .ref (q7 0), .ref (q8 0), .ref (q0 0), .ref (q6 0), .ref (q3 0), .ref (q2 0), .ref (q5 0), .null, .int 0]))] ++ wX4 q4 cI cJ cB (fun _ => 0) (fun _ => 0) (fun _ => 0) (fun _ => 0) (nI 0) (nI 0) ++ wX7 q7 cI cJ cB (fun _ => 0) (nI 0) ++ wX8 q8 cI cJ cB (fun _ => 0) (fun _ => 0) (nI 0) ++ wX0 q0 cI cJ cB (fun _ => 0) (nI 0) (nI 0) ++ wX6 q6 cI cJ cB (fun _ => 0) (fun _ => 0) (fun _ => 0) (nI 0) (nI 2) (nI 1) (nI 0) ++ wX3 q3 cI cJ cB (fun _ => 0) (fun _ => 0) ++ wX2 q2 cI cJ cB (fun _ => 0) (1 : Int64) ++ wX5 q5 cI cJ cB (fun _ => 0) (fun _ => 0) (-1) (-1) ++ wX1 q1 cI cJ cB (fun _ => 0) (fun _ => 0) (fun _ => 0) 0 : va_W) := hD
  refine W.widen (k := 28) (n := 4928) (by decide) (by decide) ?_
  refine k_putF (ci := 9) (ty := .object "MeetingRanks$Beating") (v := .ref (q1 0)) (C := RX9) (Tb := TX9) (N := 10) (w' := ([(a, .inr (9, [.ref (q4 0), .ref (q7 0), .ref (q8 0), .ref (q0 0), .ref (q6 0), .ref (q3 0), .ref (q2 0), .ref (q5 0), .ref (q1 0), .int 0]))] ++ wX4 q4 cI cJ cB (fun _ => 0) (fun _ => 0) (fun _ => 0) (fun _ => 0) (nI 0) (nI 0) ++ wX7 q7 cI cJ cB (fun _ => 0) (nI 0) ++ wX8 q8 cI cJ cB (fun _ => 0) (fun _ => 0) (nI 0) ++ wX0 q0 cI cJ cB (fun _ => 0) (nI 0) (nI 0) ++ wX6 q6 cI cJ cB (fun _ => 0) (fun _ => 0) (fun _ => 0) (nI 0) (nI 2) (nI 1) (nI 0) ++ wX3 q3 cI cJ cB (fun _ => 0) (fun _ => 0) ++ wX2 q2 cI cJ cB (fun _ => 0) (1 : Int64) ++ wX5 q5 cI cJ cB (fun _ => 0) (fun _ => 0) (-1) (-1) ++ wX1 q1 cI cJ cB (fun _ => 0) (fun _ => 0) (fun _ => 0) 0 : va_W)) hx hb hts hu_9 tyX9 tyX9_ok nmX9 hown hKW hP hD hS 0 rfl rfl 8 (by decide) (by decide +kernel) rfl rfl hin rfl (by decide +kernel) rfl rfl (Nat.le_of_ble_eq_true rfl) dX9_init_100 rfl (fun H locs hP hD hS => ?_)
  refine lv_aload_n hx hb dX9_init_103 rfl (lv_at hl 0 rfl) ?_
  refine lv_iconst (v := nI 1) hx hb dX9_init_104 (by decide) ?_
  refine k_put (ci := 9) (ty := .int) (v := .int (nI 1)) (C := RX9) (Tb := TX9) (N := 10) (w' := ([(a, .inr (9, [.ref (q4 0), .ref (q7 0), .ref (q8 0), .ref (q0 0), .ref (q6 0), .ref (q3 0), .ref (q2 0), .ref (q5 0), .ref (q1 0), .int (nI 1)]))] ++ wX4 q4 cI cJ cB (fun _ => 0) (fun _ => 0) (fun _ => 0) (fun _ => 0) (nI 0) (nI 0) ++ wX7 q7 cI cJ cB (fun _ => 0) (nI 0) ++ wX8 q8 cI cJ cB (fun _ => 0) (fun _ => 0) (nI 0) ++ wX0 q0 cI cJ cB (fun _ => 0) (nI 0) (nI 0) ++ wX6 q6 cI cJ cB (fun _ => 0) (fun _ => 0) (fun _ => 0) (nI 0) (nI 2) (nI 1) (nI 0) ++ wX3 q3 cI cJ cB (fun _ => 0) (fun _ => 0) ++ wX2 q2 cI cJ cB (fun _ => 0) (1 : Int64) ++ wX5 q5 cI cJ cB (fun _ => 0) (fun _ => 0) (-1) (-1) ++ wX1 q1 cI cJ cB (fun _ => 0) (fun _ => 0) (fun _ => 0) 0 : va_W)) hx hb hts hu_9 tyX9 tyX9_ok nmX9 hown hKW hP hD hS 0 rfl rfl 9 (by decide) (by decide +kernel) rfl rfl (by decide +kernel) rfl rfl (Nat.le_of_ble_eq_true rfl) dX9_init_105 rfl (fun H locs hP hD hS => ?_)
  subst hQ; subst hAe
  exact W.vret hx hb hr (fun tt9 ht9 _ => ⟨⟨(fun k => match k with | 0 => q0 | 1 => q1 | 2 => q2 | 3 => q3 | 4 => q4 | 5 => q5 | 6 => q6 | 7 => q7 | 8 => q8 | _ => fun _ => a), rfl, rfl, by rw [ht9]; exact hP, hD⟩, hS.F ht9⟩) hS.2.2 dX9_init_108
def rmX10_init : Room := { frames := 1, cells := 15, slots := 37610, locals := 12 }
set_option maxHeartbeats 4000000 in
set_option maxRecDepth 100000 in
theorem c_X10_init (l : Launch) (D : va_G) (cI cJ cB : ClassId) (a : Nat) : ∀ sz, Met l yX10_init wsX10_init rmX10_init (va_Pc [.ref a] (PW D (kT cI cJ cB) sz [(a, .inr (10, [.null, .null, .int 0, .int 0, .null, .int 0, .null, .null, .null, .null, .null, .null, .null, .null, .null, .null, .null, .null]))])) (va_Qv (S := Nat → Nat) (fun q => q 0 = a) (QW D sz [(a, .inr (10, [.null, .null, .int 0, .int 0, .null, .int 0, .null, .null, .null, .null, .null, .null, .null, .null, .null, .null, .null, .null]))] (fun q => wX10 q cI cJ cB (upd (upd (upd (fun _ => 0) 0 (nI 1)) 4 (nI 2)) 5 (nI 1)) (fun _ => 0) 0 0 (fun _ => 0) 0 (fun _ => 0) (fun _ => 0) (fun _ => 0) (fun _ => 0) (fun _ => 0) (fun _ => 0) (fun _ => 0) (fun _ => 0) (fun _ => 0) (fun _ => 0) (fun _ => 0) (fun _ => 0))) (va_A [(a, .inr (10, [.null, .null, .int 0, .int 0, .null, .int 0, .null, .null, .null, .null, .null, .null, .null, .null, .null, .null, .null, .null]))] sz)) 15 37610 (va_A [(a, .inr (10, [.null, .null, .int 0, .int 0, .null, .int 0, .null, .null, .null, .null, .null, .null, .null, .null, .null, .null, .null, .null]))] sz) := by
  intro sz
  refine Met.ofW (cc := cX10_init) (maxL := 1) (ret := none) (by decide) rfl ?_
  intro p e s m args below meth c s₁ B hml hv
  obtain ⟨hav, hsz, hP, hKW, hD0⟩ := hv
  have hx := B.exec
  have hb := B.bytes
  have hr := B.returns
  have hts := atoms_spec (ws := wsX10_init) B.pre
  have hown : s.vm.findClass RX10 = some m.cls := findClass_of_methodNamed B.named
  have hin : meth.name = "<init>" := (name_of_methodNamed B.named B.method).1
  subst hsz
  have hD := hD0.self (sz := s.heap.size)
  obtain ⟨A, hAe⟩ : ∃ A : Nat → Prop, A = va_A [(a, .inr (10, [.null, .null, .int 0, .int 0, .null, .int 0, .null, .null, .null, .null, .null, .null, .null, .null, .null, .null, .null, .null]))] s.heap.size := ⟨_, rfl⟩
  rw [← hAe] at hD
  have hA : ∀ q : Nat, s.heap.size ≤ q → A q := fun q h => by rw [hAe]; exact Or.inr h
  have hS : va_S A s.heap s.heap [] := va_S.rf
  refine k_gen (fun Q hQ => ?_)
  have hl := lv_entry ([.ref a]) (n := 1) (Nat.le_of_ble_eq_true rfl)
  refine k_entry hav (lg_entry_eq ..) ?_
  generalize (lg_sl ([.ref a]) ++ List.replicate (1 - (lg_sl ([.ref a])).length) Slot.unset).toArray = ls at hl ⊢
  have hl : lv_has ls 1 [(0, .ref a)] := hl
  have hu_10 : ∀ w ∈ u_ws RX10 TX10 18, w ∈ wsX10_init := by decide +kernel
  refine lv_aload_n hx hb dX10_init_0 rfl (lv_at hl 0 rfl) ?_
  refine W.objInit hx hb hown (hts (.methodLink RX10 1 objectInit) (by decide +kernel)) (hts (.instanceMethod objectInit) (by decide +kernel)) (hts (.code objectInit ⟨#[0xb1]⟩ 1 none) (by decide +kernel)) rfl (by rw [hml]; exact hl.1) rfl dX10_init_1 (Nat.le_of_ble_eq_true rfl) (Nat.le_of_ble_eq_true rfl) ?_
  refine W.eq (g2 := F0 m 4 ls []) rfl ?_
  refine lv_aload_n hx hb dX10_init_4 rfl (lv_at hl 0 rfl) ?_
  refine lv_sipush (v := nI 600) hx hb dX10_init_5 (by decide) ?_
  refine k_newa (atype := .int) (ty := .int) (N := 600) (a0 := (600, .inl (fun _ => 0))) hx hb (hts (.arrayClass .int) (by decide +kernel)) rfl hKW 0 rfl (fun _ h9 => FieldType.noConfusion h9) hP hD hS hA (fun _ => rfl) (by decide) (by decide) (Nat.le_of_ble_eq_true rfl) (Nat.le_of_ble_eq_true rfl) dX10_init_8 (fun q_1 H hP hD hS => ?_)
  have hP : va_P D vwCl ([(a, .inr (10, [.null, .null, .int 0, .int 0, .null, .int 0, .null, .null, .null, .null, .null, .null, .null, .null, .null, .null, .null, .null])), (q_1, .inl (cI, 600, .inl (fun _ => 0)))] : va_W) H := hP
  have hD : va_D A ([(a, .inr (10, [.null, .null, .int 0, .int 0, .null, .int 0, .null, .null, .null, .null, .null, .null, .null, .null, .null, .null, .null, .null])), (q_1, .inl (cI, 600, .inl (fun _ => 0)))] : va_W) := hD
  refine W.widen (k := 1) (n := 600) (by decide) (by decide) ?_
  refine k_putF (ci := 10) (ty := .array .int) (v := .ref q_1) (C := RX10) (Tb := TX10) (N := 18) (w' := ([(a, .inr (10, [.ref q_1, .null, .int 0, .int 0, .null, .int 0, .null, .null, .null, .null, .null, .null, .null, .null, .null, .null, .null, .null])), (q_1, .inl (cI, 600, .inl (fun _ => 0)))] : va_W)) hx hb hts hu_10 tyX10 tyX10_ok nmX10 hown hKW hP hD hS 0 rfl rfl 0 (by decide) (by decide +kernel) rfl rfl hin rfl (by decide +kernel) rfl rfl (Nat.le_of_ble_eq_true rfl) dX10_init_10 rfl (fun H locs hP hD hS => ?_)
  refine lv_aload_n hx hb dX10_init_13 rfl (lv_at hl 0 rfl) ?_
  refine lv_sipush (v := nI 24000) hx hb dX10_init_14 (by decide) ?_
  refine k_newa (atype := .int) (ty := .int) (N := 24000) (a0 := (24000, .inl (fun _ => 0))) hx hb (hts (.arrayClass .int) (by decide +kernel)) rfl hKW 0 rfl (fun _ h9 => FieldType.noConfusion h9) hP hD hS hA (fun _ => rfl) (by decide) (by decide) (Nat.le_of_ble_eq_true rfl) (Nat.le_of_ble_eq_true rfl) dX10_init_17 (fun q_2 H hP hD hS => ?_)
  have hP : va_P D vwCl ([(a, .inr (10, [.ref q_1, .null, .int 0, .int 0, .null, .int 0, .null, .null, .null, .null, .null, .null, .null, .null, .null, .null, .null, .null])), (q_1, .inl (cI, 600, .inl (fun _ => 0))), (q_2, .inl (cI, 24000, .inl (fun _ => 0)))] : va_W) H := hP
  have hD : va_D A ([(a, .inr (10, [.ref q_1, .null, .int 0, .int 0, .null, .int 0, .null, .null, .null, .null, .null, .null, .null, .null, .null, .null, .null, .null])), (q_1, .inl (cI, 600, .inl (fun _ => 0))), (q_2, .inl (cI, 24000, .inl (fun _ => 0)))] : va_W) := hD
  refine W.widen (k := 2) (n := 24600) (by decide) (by decide) ?_
  refine k_putF (ci := 10) (ty := .array .int) (v := .ref q_2) (C := RX10) (Tb := TX10) (N := 18) (w' := ([(a, .inr (10, [.ref q_1, .ref q_2, .int 0, .int 0, .null, .int 0, .null, .null, .null, .null, .null, .null, .null, .null, .null, .null, .null, .null])), (q_1, .inl (cI, 600, .inl (fun _ => 0))), (q_2, .inl (cI, 24000, .inl (fun _ => 0)))] : va_W)) hx hb hts hu_10 tyX10 tyX10_ok nmX10 hown hKW hP hD hS 0 rfl rfl 1 (by decide) (by decide +kernel) rfl rfl hin rfl (by decide +kernel) rfl rfl (Nat.le_of_ble_eq_true rfl) dX10_init_19 rfl (fun H locs hP hD hS => ?_)
  refine lv_aload_n hx hb dX10_init_22 rfl (lv_at hl 0 rfl) ?_
  refine lv_sipush (v := nI 480) hx hb dX10_init_23 (by decide) ?_
  refine k_newa (atype := .int) (ty := .int) (N := 480) (a0 := (480, .inl (fun _ => 0))) hx hb (hts (.arrayClass .int) (by decide +kernel)) rfl hKW 0 rfl (fun _ h9 => FieldType.noConfusion h9) hP hD hS hA (fun _ => rfl) (by decide) (by decide) (Nat.le_of_ble_eq_true rfl) (Nat.le_of_ble_eq_true rfl) dX10_init_26 (fun q_3 H hP hD hS => ?_)
  have hP : va_P D vwCl ([(a, .inr (10, [.ref q_1, .ref q_2, .int 0, .int 0, .null, .int 0, .null, .null, .null, .null, .null, .null, .null, .null, .null, .null, .null, .null])), (q_1, .inl (cI, 600, .inl (fun _ => 0))), (q_2, .inl (cI, 24000, .inl (fun _ => 0))), (q_3, .inl (cI, 480, .inl (fun _ => 0)))] : va_W) H := hP
  have hD : va_D A ([(a, .inr (10, [.ref q_1, .ref q_2, .int 0, .int 0, .null, .int 0, .null, .null, .null, .null, .null, .null, .null, .null, .null, .null, .null, .null])), (q_1, .inl (cI, 600, .inl (fun _ => 0))), (q_2, .inl (cI, 24000, .inl (fun _ => 0))), (q_3, .inl (cI, 480, .inl (fun _ => 0)))] : va_W) := hD
  refine W.widen (k := 3) (n := 25080) (by decide) (by decide) ?_
  refine k_putF (ci := 10) (ty := .array .int) (v := .ref q_3) (C := RX10) (Tb := TX10) (N := 18) (w' := ([(a, .inr (10, [.ref q_1, .ref q_2, .int 0, .int 0, .ref q_3, .int 0, .null, .null, .null, .null, .null, .null, .null, .null, .null, .null, .null, .null])), (q_1, .inl (cI, 600, .inl (fun _ => 0))), (q_2, .inl (cI, 24000, .inl (fun _ => 0))), (q_3, .inl (cI, 480, .inl (fun _ => 0)))] : va_W)) hx hb hts hu_10 tyX10 tyX10_ok nmX10 hown hKW hP hD hS 0 rfl rfl 4 (by decide) (by decide +kernel) rfl rfl hin rfl (by decide +kernel) rfl rfl (Nat.le_of_ble_eq_true rfl) dX10_init_28 rfl (fun H locs hP hD hS => ?_)
  refine lv_aload_n hx hb dX10_init_31 rfl (lv_at hl 0 rfl) ?_
  refine lv_bipush (v := nI 50) hx hb dX10_init_32 (by decide) ?_
  refine k_newa (atype := .int) (ty := .int) (N := 50) (a0 := (50, .inl (fun _ => 0))) hx hb (hts (.arrayClass .int) (by decide +kernel)) rfl hKW 0 rfl (fun _ h9 => FieldType.noConfusion h9) hP hD hS hA (fun _ => rfl) (by decide) (by decide) (Nat.le_of_ble_eq_true rfl) (Nat.le_of_ble_eq_true rfl) dX10_init_34 (fun q_4 H hP hD hS => ?_)
  have hP : va_P D vwCl ([(a, .inr (10, [.ref q_1, .ref q_2, .int 0, .int 0, .ref q_3, .int 0, .null, .null, .null, .null, .null, .null, .null, .null, .null, .null, .null, .null])), (q_1, .inl (cI, 600, .inl (fun _ => 0))), (q_2, .inl (cI, 24000, .inl (fun _ => 0))), (q_3, .inl (cI, 480, .inl (fun _ => 0))), (q_4, .inl (cI, 50, .inl (fun _ => 0)))] : va_W) H := hP
  have hD : va_D A ([(a, .inr (10, [.ref q_1, .ref q_2, .int 0, .int 0, .ref q_3, .int 0, .null, .null, .null, .null, .null, .null, .null, .null, .null, .null, .null, .null])), (q_1, .inl (cI, 600, .inl (fun _ => 0))), (q_2, .inl (cI, 24000, .inl (fun _ => 0))), (q_3, .inl (cI, 480, .inl (fun _ => 0))), (q_4, .inl (cI, 50, .inl (fun _ => 0)))] : va_W) := hD
  refine W.widen (k := 4) (n := 25130) (by decide) (by decide) ?_
  refine k_putF (ci := 10) (ty := .array .int) (v := .ref q_4) (C := RX10) (Tb := TX10) (N := 18) (w' := ([(a, .inr (10, [.ref q_1, .ref q_2, .int 0, .int 0, .ref q_3, .int 0, .ref q_4, .null, .null, .null, .null, .null, .null, .null, .null, .null, .null, .null])), (q_1, .inl (cI, 600, .inl (fun _ => 0))), (q_2, .inl (cI, 24000, .inl (fun _ => 0))), (q_3, .inl (cI, 480, .inl (fun _ => 0))), (q_4, .inl (cI, 50, .inl (fun _ => 0)))] : va_W)) hx hb hts hu_10 tyX10 tyX10_ok nmX10 hown hKW hP hD hS 0 rfl rfl 6 (by decide) (by decide +kernel) rfl rfl hin rfl (by decide +kernel) rfl rfl (Nat.le_of_ble_eq_true rfl) dX10_init_36 rfl (fun H locs hP hD hS => ?_)
  refine lv_aload_n hx hb dX10_init_39 rfl (lv_at hl 0 rfl) ?_
  refine lv_bipush (v := nI 10) hx hb dX10_init_40 (by decide) ?_
  refine k_newa (atype := .int) (ty := .int) (N := 10) (a0 := (10, .inl (fun _ => 0))) hx hb (hts (.arrayClass .int) (by decide +kernel)) rfl hKW 0 rfl (fun _ h9 => FieldType.noConfusion h9) hP hD hS hA (fun _ => rfl) (by decide) (by decide) (Nat.le_of_ble_eq_true rfl) (Nat.le_of_ble_eq_true rfl) dX10_init_42 (fun q_5 H hP hD hS => ?_)
  have hP : va_P D vwCl ([(a, .inr (10, [.ref q_1, .ref q_2, .int 0, .int 0, .ref q_3, .int 0, .ref q_4, .null, .null, .null, .null, .null, .null, .null, .null, .null, .null, .null])), (q_1, .inl (cI, 600, .inl (fun _ => 0))), (q_2, .inl (cI, 24000, .inl (fun _ => 0))), (q_3, .inl (cI, 480, .inl (fun _ => 0))), (q_4, .inl (cI, 50, .inl (fun _ => 0))), (q_5, .inl (cI, 10, .inl (fun _ => 0)))] : va_W) H := hP
  have hD : va_D A ([(a, .inr (10, [.ref q_1, .ref q_2, .int 0, .int 0, .ref q_3, .int 0, .ref q_4, .null, .null, .null, .null, .null, .null, .null, .null, .null, .null, .null])), (q_1, .inl (cI, 600, .inl (fun _ => 0))), (q_2, .inl (cI, 24000, .inl (fun _ => 0))), (q_3, .inl (cI, 480, .inl (fun _ => 0))), (q_4, .inl (cI, 50, .inl (fun _ => 0))), (q_5, .inl (cI, 10, .inl (fun _ => 0)))] : va_W) := hD
  refine W.widen (k := 5) (n := 25140) (by decide) (by decide) ?_
  refine k_putF (ci := 10) (ty := .array .int) (v := .ref q_5) (C := RX10) (Tb := TX10) (N := 18) (w' := ([(a, .inr (10, [.ref q_1, .ref q_2, .int 0, .int 0, .ref q_3, .int 0, .ref q_4, .ref q_5, .null, .null, .null, .null, .null, .null, .null, .null, .null, .null])), (q_1, .inl (cI, 600, .inl (fun _ => 0))), (q_2, .inl (cI, 24000, .inl (fun _ => 0))), (q_3, .inl (cI, 480, .inl (fun _ => 0))), (q_4, .inl (cI, 50, .inl (fun _ => 0))), (q_5, .inl (cI, 10, .inl (fun _ => 0)))] : va_W)) hx hb hts hu_10 tyX10 tyX10_ok nmX10 hown hKW hP hD hS 0 rfl rfl 7 (by decide) (by decide +kernel) rfl rfl hin rfl (by decide +kernel) rfl rfl (Nat.le_of_ble_eq_true rfl) dX10_init_44 rfl (fun H locs hP hD hS => ?_)
  refine lv_aload_n hx hb dX10_init_47 rfl (lv_at hl 0 rfl) ?_
  refine lv_bipush (v := nI 10) hx hb dX10_init_48 (by decide) ?_
  refine k_newa (atype := .int) (ty := .int) (N := 10) (a0 := (10, .inl (fun _ => 0))) hx hb (hts (.arrayClass .int) (by decide +kernel)) rfl hKW 0 rfl (fun _ h9 => FieldType.noConfusion h9) hP hD hS hA (fun _ => rfl) (by decide) (by decide) (Nat.le_of_ble_eq_true rfl) (Nat.le_of_ble_eq_true rfl) dX10_init_50 (fun q_6 H hP hD hS => ?_)
  have hP : va_P D vwCl ([(a, .inr (10, [.ref q_1, .ref q_2, .int 0, .int 0, .ref q_3, .int 0, .ref q_4, .ref q_5, .null, .null, .null, .null, .null, .null, .null, .null, .null, .null])), (q_1, .inl (cI, 600, .inl (fun _ => 0))), (q_2, .inl (cI, 24000, .inl (fun _ => 0))), (q_3, .inl (cI, 480, .inl (fun _ => 0))), (q_4, .inl (cI, 50, .inl (fun _ => 0))), (q_5, .inl (cI, 10, .inl (fun _ => 0))), (q_6, .inl (cI, 10, .inl (fun _ => 0)))] : va_W) H := hP
  have hD : va_D A ([(a, .inr (10, [.ref q_1, .ref q_2, .int 0, .int 0, .ref q_3, .int 0, .ref q_4, .ref q_5, .null, .null, .null, .null, .null, .null, .null, .null, .null, .null])), (q_1, .inl (cI, 600, .inl (fun _ => 0))), (q_2, .inl (cI, 24000, .inl (fun _ => 0))), (q_3, .inl (cI, 480, .inl (fun _ => 0))), (q_4, .inl (cI, 50, .inl (fun _ => 0))), (q_5, .inl (cI, 10, .inl (fun _ => 0))), (q_6, .inl (cI, 10, .inl (fun _ => 0)))] : va_W) := hD
  refine W.widen (k := 6) (n := 25150) (by decide) (by decide) ?_
  refine k_putF (ci := 10) (ty := .array .int) (v := .ref q_6) (C := RX10) (Tb := TX10) (N := 18) (w' := ([(a, .inr (10, [.ref q_1, .ref q_2, .int 0, .int 0, .ref q_3, .int 0, .ref q_4, .ref q_5, .ref q_6, .null, .null, .null, .null, .null, .null, .null, .null, .null])), (q_1, .inl (cI, 600, .inl (fun _ => 0))), (q_2, .inl (cI, 24000, .inl (fun _ => 0))), (q_3, .inl (cI, 480, .inl (fun _ => 0))), (q_4, .inl (cI, 50, .inl (fun _ => 0))), (q_5, .inl (cI, 10, .inl (fun _ => 0))), (q_6, .inl (cI, 10, .inl (fun _ => 0)))] : va_W)) hx hb hts hu_10 tyX10 tyX10_ok nmX10 hown hKW hP hD hS 0 rfl rfl 8 (by decide) (by decide +kernel) rfl rfl hin rfl (by decide +kernel) rfl rfl (Nat.le_of_ble_eq_true rfl) dX10_init_52 rfl (fun H locs hP hD hS => ?_)
  refine lv_aload_n hx hb dX10_init_55 rfl (lv_at hl 0 rfl) ?_
  refine lv_bipush (v := nI 10) hx hb dX10_init_56 (by decide) ?_
  refine k_newa (atype := .int) (ty := .int) (N := 10) (a0 := (10, .inl (fun _ => 0))) hx hb (hts (.arrayClass .int) (by decide +kernel)) rfl hKW 0 rfl (fun _ h9 => FieldType.noConfusion h9) hP hD hS hA (fun _ => rfl) (by decide) (by decide) (Nat.le_of_ble_eq_true rfl) (Nat.le_of_ble_eq_true rfl) dX10_init_58 (fun q_7 H hP hD hS => ?_)
  have hP : va_P D vwCl ([(a, .inr (10, [.ref q_1, .ref q_2, .int 0, .int 0, .ref q_3, .int 0, .ref q_4, .ref q_5, .ref q_6, .null, .null, .null, .null, .null, .null, .null, .null, .null])), (q_1, .inl (cI, 600, .inl (fun _ => 0))), (q_2, .inl (cI, 24000, .inl (fun _ => 0))), (q_3, .inl (cI, 480, .inl (fun _ => 0))), (q_4, .inl (cI, 50, .inl (fun _ => 0))), (q_5, .inl (cI, 10, .inl (fun _ => 0))), (q_6, .inl (cI, 10, .inl (fun _ => 0))), (q_7, .inl (cI, 10, .inl (fun _ => 0)))] : va_W) H := hP
  have hD : va_D A ([(a, .inr (10, [.ref q_1, .ref q_2, .int 0, .int 0, .ref q_3, .int 0, .ref q_4, .ref q_5, .ref q_6, .null, .null, .null, .null, .null, .null, .null, .null, .null])), (q_1, .inl (cI, 600, .inl (fun _ => 0))), (q_2, .inl (cI, 24000, .inl (fun _ => 0))), (q_3, .inl (cI, 480, .inl (fun _ => 0))), (q_4, .inl (cI, 50, .inl (fun _ => 0))), (q_5, .inl (cI, 10, .inl (fun _ => 0))), (q_6, .inl (cI, 10, .inl (fun _ => 0))), (q_7, .inl (cI, 10, .inl (fun _ => 0)))] : va_W) := hD
  refine W.widen (k := 7) (n := 25160) (by decide) (by decide) ?_
  refine k_putF (ci := 10) (ty := .array .int) (v := .ref q_7) (C := RX10) (Tb := TX10) (N := 18) (w' := ([(a, .inr (10, [.ref q_1, .ref q_2, .int 0, .int 0, .ref q_3, .int 0, .ref q_4, .ref q_5, .ref q_6, .ref q_7, .null, .null, .null, .null, .null, .null, .null, .null])), (q_1, .inl (cI, 600, .inl (fun _ => 0))), (q_2, .inl (cI, 24000, .inl (fun _ => 0))), (q_3, .inl (cI, 480, .inl (fun _ => 0))), (q_4, .inl (cI, 50, .inl (fun _ => 0))), (q_5, .inl (cI, 10, .inl (fun _ => 0))), (q_6, .inl (cI, 10, .inl (fun _ => 0))), (q_7, .inl (cI, 10, .inl (fun _ => 0)))] : va_W)) hx hb hts hu_10 tyX10 tyX10_ok nmX10 hown hKW hP hD hS 0 rfl rfl 9 (by decide) (by decide +kernel) rfl rfl hin rfl (by decide +kernel) rfl rfl (Nat.le_of_ble_eq_true rfl) dX10_init_60 rfl (fun H locs hP hD hS => ?_)
  refine lv_aload_n hx hb dX10_init_63 rfl (lv_at hl 0 rfl) ?_
  refine lv_bipush (v := nI 36) hx hb dX10_init_64 (by decide) ?_
  refine k_newa (atype := .long) (ty := .long) (N := 36) (a0 := (36, .inr (.inl (fun _ => 0)))) hx hb (hts (.arrayClass .long) (by decide +kernel)) rfl hKW 1 rfl (fun _ h9 => FieldType.noConfusion h9) hP hD hS hA (fun _ => rfl) (by decide) (by decide) (Nat.le_of_ble_eq_true rfl) (Nat.le_of_ble_eq_true rfl) dX10_init_66 (fun q_8 H hP hD hS => ?_)
  have hP : va_P D vwCl ([(a, .inr (10, [.ref q_1, .ref q_2, .int 0, .int 0, .ref q_3, .int 0, .ref q_4, .ref q_5, .ref q_6, .ref q_7, .null, .null, .null, .null, .null, .null, .null, .null])), (q_1, .inl (cI, 600, .inl (fun _ => 0))), (q_2, .inl (cI, 24000, .inl (fun _ => 0))), (q_3, .inl (cI, 480, .inl (fun _ => 0))), (q_4, .inl (cI, 50, .inl (fun _ => 0))), (q_5, .inl (cI, 10, .inl (fun _ => 0))), (q_6, .inl (cI, 10, .inl (fun _ => 0))), (q_7, .inl (cI, 10, .inl (fun _ => 0))), (q_8, .inl (cJ, 36, .inr (.inl (fun _ => 0))))] : va_W) H := hP
  have hD : va_D A ([(a, .inr (10, [.ref q_1, .ref q_2, .int 0, .int 0, .ref q_3, .int 0, .ref q_4, .ref q_5, .ref q_6, .ref q_7, .null, .null, .null, .null, .null, .null, .null, .null])), (q_1, .inl (cI, 600, .inl (fun _ => 0))), (q_2, .inl (cI, 24000, .inl (fun _ => 0))), (q_3, .inl (cI, 480, .inl (fun _ => 0))), (q_4, .inl (cI, 50, .inl (fun _ => 0))), (q_5, .inl (cI, 10, .inl (fun _ => 0))), (q_6, .inl (cI, 10, .inl (fun _ => 0))), (q_7, .inl (cI, 10, .inl (fun _ => 0))), (q_8, .inl (cJ, 36, .inr (.inl (fun _ => 0))))] : va_W) := hD
  refine W.widen (k := 8) (n := 25196) (by decide) (by decide) ?_
  refine k_putF (ci := 10) (ty := .array .long) (v := .ref q_8) (C := RX10) (Tb := TX10) (N := 18) (w' := ([(a, .inr (10, [.ref q_1, .ref q_2, .int 0, .int 0, .ref q_3, .int 0, .ref q_4, .ref q_5, .ref q_6, .ref q_7, .ref q_8, .null, .null, .null, .null, .null, .null, .null])), (q_1, .inl (cI, 600, .inl (fun _ => 0))), (q_2, .inl (cI, 24000, .inl (fun _ => 0))), (q_3, .inl (cI, 480, .inl (fun _ => 0))), (q_4, .inl (cI, 50, .inl (fun _ => 0))), (q_5, .inl (cI, 10, .inl (fun _ => 0))), (q_6, .inl (cI, 10, .inl (fun _ => 0))), (q_7, .inl (cI, 10, .inl (fun _ => 0))), (q_8, .inl (cJ, 36, .inr (.inl (fun _ => 0))))] : va_W)) hx hb hts hu_10 tyX10 tyX10_ok nmX10 hown hKW hP hD hS 0 rfl rfl 10 (by decide) (by decide +kernel) rfl rfl hin rfl (by decide +kernel) rfl rfl (Nat.le_of_ble_eq_true rfl) dX10_init_68 rfl (fun H locs hP hD hS => ?_)
  refine lv_aload_n hx hb dX10_init_71 rfl (lv_at hl 0 rfl) ?_
  refine lv_bipush (v := nI 6) hx hb dX10_init_72 (by decide) ?_
  refine k_newa (atype := .long) (ty := .long) (N := 6) (a0 := (6, .inr (.inl (fun _ => 0)))) hx hb (hts (.arrayClass .long) (by decide +kernel)) rfl hKW 1 rfl (fun _ h9 => FieldType.noConfusion h9) hP hD hS hA (fun _ => rfl) (by decide) (by decide) (Nat.le_of_ble_eq_true rfl) (Nat.le_of_ble_eq_true rfl) dX10_init_74 (fun q_9 H hP hD hS => ?_)
  have hP : va_P D vwCl ([(a, .inr (10, [.ref q_1, .ref q_2, .int 0, .int 0, .ref q_3, .int 0, .ref q_4, .ref q_5, .ref q_6, .ref q_7, .ref q_8, .null, .null, .null, .null, .null, .null, .null])), (q_1, .inl (cI, 600, .inl (fun _ => 0))), (q_2, .inl (cI, 24000, .inl (fun _ => 0))), (q_3, .inl (cI, 480, .inl (fun _ => 0))), (q_4, .inl (cI, 50, .inl (fun _ => 0))), (q_5, .inl (cI, 10, .inl (fun _ => 0))), (q_6, .inl (cI, 10, .inl (fun _ => 0))), (q_7, .inl (cI, 10, .inl (fun _ => 0))), (q_8, .inl (cJ, 36, .inr (.inl (fun _ => 0)))), (q_9, .inl (cJ, 6, .inr (.inl (fun _ => 0))))] : va_W) H := hP
  have hD : va_D A ([(a, .inr (10, [.ref q_1, .ref q_2, .int 0, .int 0, .ref q_3, .int 0, .ref q_4, .ref q_5, .ref q_6, .ref q_7, .ref q_8, .null, .null, .null, .null, .null, .null, .null])), (q_1, .inl (cI, 600, .inl (fun _ => 0))), (q_2, .inl (cI, 24000, .inl (fun _ => 0))), (q_3, .inl (cI, 480, .inl (fun _ => 0))), (q_4, .inl (cI, 50, .inl (fun _ => 0))), (q_5, .inl (cI, 10, .inl (fun _ => 0))), (q_6, .inl (cI, 10, .inl (fun _ => 0))), (q_7, .inl (cI, 10, .inl (fun _ => 0))), (q_8, .inl (cJ, 36, .inr (.inl (fun _ => 0)))), (q_9, .inl (cJ, 6, .inr (.inl (fun _ => 0))))] : va_W) := hD
  refine W.widen (k := 9) (n := 25202) (by decide) (by decide) ?_
  refine k_putF (ci := 10) (ty := .array .long) (v := .ref q_9) (C := RX10) (Tb := TX10) (N := 18) (w' := ([(a, .inr (10, [.ref q_1, .ref q_2, .int 0, .int 0, .ref q_3, .int 0, .ref q_4, .ref q_5, .ref q_6, .ref q_7, .ref q_8, .ref q_9, .null, .null, .null, .null, .null, .null])), (q_1, .inl (cI, 600, .inl (fun _ => 0))), (q_2, .inl (cI, 24000, .inl (fun _ => 0))), (q_3, .inl (cI, 480, .inl (fun _ => 0))), (q_4, .inl (cI, 50, .inl (fun _ => 0))), (q_5, .inl (cI, 10, .inl (fun _ => 0))), (q_6, .inl (cI, 10, .inl (fun _ => 0))), (q_7, .inl (cI, 10, .inl (fun _ => 0))), (q_8, .inl (cJ, 36, .inr (.inl (fun _ => 0)))), (q_9, .inl (cJ, 6, .inr (.inl (fun _ => 0))))] : va_W)) hx hb hts hu_10 tyX10 tyX10_ok nmX10 hown hKW hP hD hS 0 rfl rfl 11 (by decide) (by decide +kernel) rfl rfl hin rfl (by decide +kernel) rfl rfl (Nat.le_of_ble_eq_true rfl) dX10_init_76 rfl (fun H locs hP hD hS => ?_)
  refine lv_aload_n hx hb dX10_init_79 rfl (lv_at hl 0 rfl) ?_
  refine lv_bipush (v := nI 100) hx hb dX10_init_80 (by decide) ?_
  refine k_newa (atype := .int) (ty := .int) (N := 100) (a0 := (100, .inl (fun _ => 0))) hx hb (hts (.arrayClass .int) (by decide +kernel)) rfl hKW 0 rfl (fun _ h9 => FieldType.noConfusion h9) hP hD hS hA (fun _ => rfl) (by decide) (by decide) (Nat.le_of_ble_eq_true rfl) (Nat.le_of_ble_eq_true rfl) dX10_init_82 (fun q_10 H hP hD hS => ?_)
  have hP : va_P D vwCl ([(a, .inr (10, [.ref q_1, .ref q_2, .int 0, .int 0, .ref q_3, .int 0, .ref q_4, .ref q_5, .ref q_6, .ref q_7, .ref q_8, .ref q_9, .null, .null, .null, .null, .null, .null])), (q_1, .inl (cI, 600, .inl (fun _ => 0))), (q_2, .inl (cI, 24000, .inl (fun _ => 0))), (q_3, .inl (cI, 480, .inl (fun _ => 0))), (q_4, .inl (cI, 50, .inl (fun _ => 0))), (q_5, .inl (cI, 10, .inl (fun _ => 0))), (q_6, .inl (cI, 10, .inl (fun _ => 0))), (q_7, .inl (cI, 10, .inl (fun _ => 0))), (q_8, .inl (cJ, 36, .inr (.inl (fun _ => 0)))), (q_9, .inl (cJ, 6, .inr (.inl (fun _ => 0)))), (q_10, .inl (cI, 100, .inl (fun _ => 0)))] : va_W) H := hP
  have hD : va_D A ([(a, .inr (10, [.ref q_1, .ref q_2, .int 0, .int 0, .ref q_3, .int 0, .ref q_4, .ref q_5, .ref q_6, .ref q_7, .ref q_8, .ref q_9, .null, .null, .null, .null, .null, .null])), (q_1, .inl (cI, 600, .inl (fun _ => 0))), (q_2, .inl (cI, 24000, .inl (fun _ => 0))), (q_3, .inl (cI, 480, .inl (fun _ => 0))), (q_4, .inl (cI, 50, .inl (fun _ => 0))), (q_5, .inl (cI, 10, .inl (fun _ => 0))), (q_6, .inl (cI, 10, .inl (fun _ => 0))), (q_7, .inl (cI, 10, .inl (fun _ => 0))), (q_8, .inl (cJ, 36, .inr (.inl (fun _ => 0)))), (q_9, .inl (cJ, 6, .inr (.inl (fun _ => 0)))), (q_10, .inl (cI, 100, .inl (fun _ => 0)))] : va_W) := hD
  refine W.widen (k := 10) (n := 25302) (by decide) (by decide) ?_
  refine k_putF (ci := 10) (ty := .array .int) (v := .ref q_10) (C := RX10) (Tb := TX10) (N := 18) (w' := ([(a, .inr (10, [.ref q_1, .ref q_2, .int 0, .int 0, .ref q_3, .int 0, .ref q_4, .ref q_5, .ref q_6, .ref q_7, .ref q_8, .ref q_9, .ref q_10, .null, .null, .null, .null, .null])), (q_1, .inl (cI, 600, .inl (fun _ => 0))), (q_2, .inl (cI, 24000, .inl (fun _ => 0))), (q_3, .inl (cI, 480, .inl (fun _ => 0))), (q_4, .inl (cI, 50, .inl (fun _ => 0))), (q_5, .inl (cI, 10, .inl (fun _ => 0))), (q_6, .inl (cI, 10, .inl (fun _ => 0))), (q_7, .inl (cI, 10, .inl (fun _ => 0))), (q_8, .inl (cJ, 36, .inr (.inl (fun _ => 0)))), (q_9, .inl (cJ, 6, .inr (.inl (fun _ => 0)))), (q_10, .inl (cI, 100, .inl (fun _ => 0)))] : va_W)) hx hb hts hu_10 tyX10 tyX10_ok nmX10 hown hKW hP hD hS 0 rfl rfl 12 (by decide) (by decide +kernel) rfl rfl hin rfl (by decide +kernel) rfl rfl (Nat.le_of_ble_eq_true rfl) dX10_init_84 rfl (fun H locs hP hD hS => ?_)
  refine lv_aload_n hx hb dX10_init_87 rfl (lv_at hl 0 rfl) ?_
  refine lv_sipush (v := nI 1024) hx hb dX10_init_88 (by decide) ?_
  refine k_newa (atype := .int) (ty := .int) (N := 1024) (a0 := (1024, .inl (fun _ => 0))) hx hb (hts (.arrayClass .int) (by decide +kernel)) rfl hKW 0 rfl (fun _ h9 => FieldType.noConfusion h9) hP hD hS hA (fun _ => rfl) (by decide) (by decide) (Nat.le_of_ble_eq_true rfl) (Nat.le_of_ble_eq_true rfl) dX10_init_91 (fun q_11 H hP hD hS => ?_)
  have hP : va_P D vwCl ([(a, .inr (10, [.ref q_1, .ref q_2, .int 0, .int 0, .ref q_3, .int 0, .ref q_4, .ref q_5, .ref q_6, .ref q_7, .ref q_8, .ref q_9, .ref q_10, .null, .null, .null, .null, .null])), (q_1, .inl (cI, 600, .inl (fun _ => 0))), (q_2, .inl (cI, 24000, .inl (fun _ => 0))), (q_3, .inl (cI, 480, .inl (fun _ => 0))), (q_4, .inl (cI, 50, .inl (fun _ => 0))), (q_5, .inl (cI, 10, .inl (fun _ => 0))), (q_6, .inl (cI, 10, .inl (fun _ => 0))), (q_7, .inl (cI, 10, .inl (fun _ => 0))), (q_8, .inl (cJ, 36, .inr (.inl (fun _ => 0)))), (q_9, .inl (cJ, 6, .inr (.inl (fun _ => 0)))), (q_10, .inl (cI, 100, .inl (fun _ => 0))), (q_11, .inl (cI, 1024, .inl (fun _ => 0)))] : va_W) H := hP
  have hD : va_D A ([(a, .inr (10, [.ref q_1, .ref q_2, .int 0, .int 0, .ref q_3, .int 0, .ref q_4, .ref q_5, .ref q_6, .ref q_7, .ref q_8, .ref q_9, .ref q_10, .null, .null, .null, .null, .null])), (q_1, .inl (cI, 600, .inl (fun _ => 0))), (q_2, .inl (cI, 24000, .inl (fun _ => 0))), (q_3, .inl (cI, 480, .inl (fun _ => 0))), (q_4, .inl (cI, 50, .inl (fun _ => 0))), (q_5, .inl (cI, 10, .inl (fun _ => 0))), (q_6, .inl (cI, 10, .inl (fun _ => 0))), (q_7, .inl (cI, 10, .inl (fun _ => 0))), (q_8, .inl (cJ, 36, .inr (.inl (fun _ => 0)))), (q_9, .inl (cJ, 6, .inr (.inl (fun _ => 0)))), (q_10, .inl (cI, 100, .inl (fun _ => 0))), (q_11, .inl (cI, 1024, .inl (fun _ => 0)))] : va_W) := hD
  refine W.widen (k := 11) (n := 26326) (by decide) (by decide) ?_
  refine k_putF (ci := 10) (ty := .array .int) (v := .ref q_11) (C := RX10) (Tb := TX10) (N := 18) (w' := ([(a, .inr (10, [.ref q_1, .ref q_2, .int 0, .int 0, .ref q_3, .int 0, .ref q_4, .ref q_5, .ref q_6, .ref q_7, .ref q_8, .ref q_9, .ref q_10, .ref q_11, .null, .null, .null, .null])), (q_1, .inl (cI, 600, .inl (fun _ => 0))), (q_2, .inl (cI, 24000, .inl (fun _ => 0))), (q_3, .inl (cI, 480, .inl (fun _ => 0))), (q_4, .inl (cI, 50, .inl (fun _ => 0))), (q_5, .inl (cI, 10, .inl (fun _ => 0))), (q_6, .inl (cI, 10, .inl (fun _ => 0))), (q_7, .inl (cI, 10, .inl (fun _ => 0))), (q_8, .inl (cJ, 36, .inr (.inl (fun _ => 0)))), (q_9, .inl (cJ, 6, .inr (.inl (fun _ => 0)))), (q_10, .inl (cI, 100, .inl (fun _ => 0))), (q_11, .inl (cI, 1024, .inl (fun _ => 0)))] : va_W)) hx hb hts hu_10 tyX10 tyX10_ok nmX10 hown hKW hP hD hS 0 rfl rfl 13 (by decide) (by decide +kernel) rfl rfl hin rfl (by decide +kernel) rfl rfl (Nat.le_of_ble_eq_true rfl) dX10_init_93 rfl (fun H locs hP hD hS => ?_)
  refine lv_aload_n hx hb dX10_init_96 rfl (lv_at hl 0 rfl) ?_
  refine lv_sipush (v := nI 1024) hx hb dX10_init_97 (by decide) ?_
  refine k_newa (atype := .int) (ty := .int) (N := 1024) (a0 := (1024, .inl (fun _ => 0))) hx hb (hts (.arrayClass .int) (by decide +kernel)) rfl hKW 0 rfl (fun _ h9 => FieldType.noConfusion h9) hP hD hS hA (fun _ => rfl) (by decide) (by decide) (Nat.le_of_ble_eq_true rfl) (Nat.le_of_ble_eq_true rfl) dX10_init_100 (fun q_12 H hP hD hS => ?_)
  have hP : va_P D vwCl ([(a, .inr (10, [.ref q_1, .ref q_2, .int 0, .int 0, .ref q_3, .int 0, .ref q_4, .ref q_5, .ref q_6, .ref q_7, .ref q_8, .ref q_9, .ref q_10, .ref q_11, .null, .null, .null, .null])), (q_1, .inl (cI, 600, .inl (fun _ => 0))), (q_2, .inl (cI, 24000, .inl (fun _ => 0))), (q_3, .inl (cI, 480, .inl (fun _ => 0))), (q_4, .inl (cI, 50, .inl (fun _ => 0))), (q_5, .inl (cI, 10, .inl (fun _ => 0))), (q_6, .inl (cI, 10, .inl (fun _ => 0))), (q_7, .inl (cI, 10, .inl (fun _ => 0))), (q_8, .inl (cJ, 36, .inr (.inl (fun _ => 0)))), (q_9, .inl (cJ, 6, .inr (.inl (fun _ => 0)))), (q_10, .inl (cI, 100, .inl (fun _ => 0))), (q_11, .inl (cI, 1024, .inl (fun _ => 0))), (q_12, .inl (cI, 1024, .inl (fun _ => 0)))] : va_W) H := hP
  have hD : va_D A ([(a, .inr (10, [.ref q_1, .ref q_2, .int 0, .int 0, .ref q_3, .int 0, .ref q_4, .ref q_5, .ref q_6, .ref q_7, .ref q_8, .ref q_9, .ref q_10, .ref q_11, .null, .null, .null, .null])), (q_1, .inl (cI, 600, .inl (fun _ => 0))), (q_2, .inl (cI, 24000, .inl (fun _ => 0))), (q_3, .inl (cI, 480, .inl (fun _ => 0))), (q_4, .inl (cI, 50, .inl (fun _ => 0))), (q_5, .inl (cI, 10, .inl (fun _ => 0))), (q_6, .inl (cI, 10, .inl (fun _ => 0))), (q_7, .inl (cI, 10, .inl (fun _ => 0))), (q_8, .inl (cJ, 36, .inr (.inl (fun _ => 0)))), (q_9, .inl (cJ, 6, .inr (.inl (fun _ => 0)))), (q_10, .inl (cI, 100, .inl (fun _ => 0))), (q_11, .inl (cI, 1024, .inl (fun _ => 0))), (q_12, .inl (cI, 1024, .inl (fun _ => 0)))] : va_W) := hD
  refine W.widen (k := 12) (n := 27350) (by decide) (by decide) ?_
  refine k_putF (ci := 10) (ty := .array .int) (v := .ref q_12) (C := RX10) (Tb := TX10) (N := 18) (w' := ([(a, .inr (10, [.ref q_1, .ref q_2, .int 0, .int 0, .ref q_3, .int 0, .ref q_4, .ref q_5, .ref q_6, .ref q_7, .ref q_8, .ref q_9, .ref q_10, .ref q_11, .ref q_12, .null, .null, .null])), (q_1, .inl (cI, 600, .inl (fun _ => 0))), (q_2, .inl (cI, 24000, .inl (fun _ => 0))), (q_3, .inl (cI, 480, .inl (fun _ => 0))), (q_4, .inl (cI, 50, .inl (fun _ => 0))), (q_5, .inl (cI, 10, .inl (fun _ => 0))), (q_6, .inl (cI, 10, .inl (fun _ => 0))), (q_7, .inl (cI, 10, .inl (fun _ => 0))), (q_8, .inl (cJ, 36, .inr (.inl (fun _ => 0)))), (q_9, .inl (cJ, 6, .inr (.inl (fun _ => 0)))), (q_10, .inl (cI, 100, .inl (fun _ => 0))), (q_11, .inl (cI, 1024, .inl (fun _ => 0))), (q_12, .inl (cI, 1024, .inl (fun _ => 0)))] : va_W)) hx hb hts hu_10 tyX10 tyX10_ok nmX10 hown hKW hP hD hS 0 rfl rfl 14 (by decide) (by decide +kernel) rfl rfl hin rfl (by decide +kernel) rfl rfl (Nat.le_of_ble_eq_true rfl) dX10_init_102 rfl (fun H locs hP hD hS => ?_)
  refine lv_aload_n hx hb dX10_init_105 rfl (lv_at hl 0 rfl) ?_
  refine lv_bipush (v := nI 10) hx hb dX10_init_106 (by decide) ?_
  refine k_newa (atype := .int) (ty := .int) (N := 10) (a0 := (10, .inl (fun _ => 0))) hx hb (hts (.arrayClass .int) (by decide +kernel)) rfl hKW 0 rfl (fun _ h9 => FieldType.noConfusion h9) hP hD hS hA (fun _ => rfl) (by decide) (by decide) (Nat.le_of_ble_eq_true rfl) (Nat.le_of_ble_eq_true rfl) dX10_init_108 (fun q_13 H hP hD hS => ?_)
  have hP : va_P D vwCl ([(a, .inr (10, [.ref q_1, .ref q_2, .int 0, .int 0, .ref q_3, .int 0, .ref q_4, .ref q_5, .ref q_6, .ref q_7, .ref q_8, .ref q_9, .ref q_10, .ref q_11, .ref q_12, .null, .null, .null])), (q_1, .inl (cI, 600, .inl (fun _ => 0))), (q_2, .inl (cI, 24000, .inl (fun _ => 0))), (q_3, .inl (cI, 480, .inl (fun _ => 0))), (q_4, .inl (cI, 50, .inl (fun _ => 0))), (q_5, .inl (cI, 10, .inl (fun _ => 0))), (q_6, .inl (cI, 10, .inl (fun _ => 0))), (q_7, .inl (cI, 10, .inl (fun _ => 0))), (q_8, .inl (cJ, 36, .inr (.inl (fun _ => 0)))), (q_9, .inl (cJ, 6, .inr (.inl (fun _ => 0)))), (q_10, .inl (cI, 100, .inl (fun _ => 0))), (q_11, .inl (cI, 1024, .inl (fun _ => 0))), (q_12, .inl (cI, 1024, .inl (fun _ => 0))), (q_13, .inl (cI, 10, .inl (fun _ => 0)))] : va_W) H := hP
  have hD : va_D A ([(a, .inr (10, [.ref q_1, .ref q_2, .int 0, .int 0, .ref q_3, .int 0, .ref q_4, .ref q_5, .ref q_6, .ref q_7, .ref q_8, .ref q_9, .ref q_10, .ref q_11, .ref q_12, .null, .null, .null])), (q_1, .inl (cI, 600, .inl (fun _ => 0))), (q_2, .inl (cI, 24000, .inl (fun _ => 0))), (q_3, .inl (cI, 480, .inl (fun _ => 0))), (q_4, .inl (cI, 50, .inl (fun _ => 0))), (q_5, .inl (cI, 10, .inl (fun _ => 0))), (q_6, .inl (cI, 10, .inl (fun _ => 0))), (q_7, .inl (cI, 10, .inl (fun _ => 0))), (q_8, .inl (cJ, 36, .inr (.inl (fun _ => 0)))), (q_9, .inl (cJ, 6, .inr (.inl (fun _ => 0)))), (q_10, .inl (cI, 100, .inl (fun _ => 0))), (q_11, .inl (cI, 1024, .inl (fun _ => 0))), (q_12, .inl (cI, 1024, .inl (fun _ => 0))), (q_13, .inl (cI, 10, .inl (fun _ => 0)))] : va_W) := hD
  refine W.widen (k := 13) (n := 27360) (by decide) (by decide) ?_
  refine k_putF (ci := 10) (ty := .array .int) (v := .ref q_13) (C := RX10) (Tb := TX10) (N := 18) (w' := ([(a, .inr (10, [.ref q_1, .ref q_2, .int 0, .int 0, .ref q_3, .int 0, .ref q_4, .ref q_5, .ref q_6, .ref q_7, .ref q_8, .ref q_9, .ref q_10, .ref q_11, .ref q_12, .ref q_13, .null, .null])), (q_1, .inl (cI, 600, .inl (fun _ => 0))), (q_2, .inl (cI, 24000, .inl (fun _ => 0))), (q_3, .inl (cI, 480, .inl (fun _ => 0))), (q_4, .inl (cI, 50, .inl (fun _ => 0))), (q_5, .inl (cI, 10, .inl (fun _ => 0))), (q_6, .inl (cI, 10, .inl (fun _ => 0))), (q_7, .inl (cI, 10, .inl (fun _ => 0))), (q_8, .inl (cJ, 36, .inr (.inl (fun _ => 0)))), (q_9, .inl (cJ, 6, .inr (.inl (fun _ => 0)))), (q_10, .inl (cI, 100, .inl (fun _ => 0))), (q_11, .inl (cI, 1024, .inl (fun _ => 0))), (q_12, .inl (cI, 1024, .inl (fun _ => 0))), (q_13, .inl (cI, 10, .inl (fun _ => 0)))] : va_W)) hx hb hts hu_10 tyX10 tyX10_ok nmX10 hown hKW hP hD hS 0 rfl rfl 15 (by decide) (by decide +kernel) rfl rfl hin rfl (by decide +kernel) rfl rfl (Nat.le_of_ble_eq_true rfl) dX10_init_110 rfl (fun H locs hP hD hS => ?_)
  refine lv_aload_n hx hb dX10_init_113 rfl (lv_at hl 0 rfl) ?_
  refine lv_bipush (v := nI 10) hx hb dX10_init_114 (by decide) ?_
  refine k_newa (atype := .int) (ty := .int) (N := 10) (a0 := (10, .inl (fun _ => 0))) hx hb (hts (.arrayClass .int) (by decide +kernel)) rfl hKW 0 rfl (fun _ h9 => FieldType.noConfusion h9) hP hD hS hA (fun _ => rfl) (by decide) (by decide) (Nat.le_of_ble_eq_true rfl) (Nat.le_of_ble_eq_true rfl) dX10_init_116 (fun q_14 H hP hD hS => ?_)
  have hP : va_P D vwCl ([(a, .inr (10, [.ref q_1, .ref q_2, .int 0, .int 0, .ref q_3, .int 0, .ref q_4, .ref q_5, .ref q_6, .ref q_7, .ref q_8, .ref q_9, .ref q_10, .ref q_11, .ref q_12, .ref q_13, .null, .null])), (q_1, .inl (cI, 600, .inl (fun _ => 0))), (q_2, .inl (cI, 24000, .inl (fun _ => 0))), (q_3, .inl (cI, 480, .inl (fun _ => 0))), (q_4, .inl (cI, 50, .inl (fun _ => 0))), (q_5, .inl (cI, 10, .inl (fun _ => 0))), (q_6, .inl (cI, 10, .inl (fun _ => 0))), (q_7, .inl (cI, 10, .inl (fun _ => 0))), (q_8, .inl (cJ, 36, .inr (.inl (fun _ => 0)))), (q_9, .inl (cJ, 6, .inr (.inl (fun _ => 0)))), (q_10, .inl (cI, 100, .inl (fun _ => 0))), (q_11, .inl (cI, 1024, .inl (fun _ => 0))), (q_12, .inl (cI, 1024, .inl (fun _ => 0))), (q_13, .inl (cI, 10, .inl (fun _ => 0))), (q_14, .inl (cI, 10, .inl (fun _ => 0)))] : va_W) H := hP
  have hD : va_D A ([(a, .inr (10, [.ref q_1, .ref q_2, .int 0, .int 0, .ref q_3, .int 0, .ref q_4, .ref q_5, .ref q_6, .ref q_7, .ref q_8, .ref q_9, .ref q_10, .ref q_11, .ref q_12, .ref q_13, .null, .null])), (q_1, .inl (cI, 600, .inl (fun _ => 0))), (q_2, .inl (cI, 24000, .inl (fun _ => 0))), (q_3, .inl (cI, 480, .inl (fun _ => 0))), (q_4, .inl (cI, 50, .inl (fun _ => 0))), (q_5, .inl (cI, 10, .inl (fun _ => 0))), (q_6, .inl (cI, 10, .inl (fun _ => 0))), (q_7, .inl (cI, 10, .inl (fun _ => 0))), (q_8, .inl (cJ, 36, .inr (.inl (fun _ => 0)))), (q_9, .inl (cJ, 6, .inr (.inl (fun _ => 0)))), (q_10, .inl (cI, 100, .inl (fun _ => 0))), (q_11, .inl (cI, 1024, .inl (fun _ => 0))), (q_12, .inl (cI, 1024, .inl (fun _ => 0))), (q_13, .inl (cI, 10, .inl (fun _ => 0))), (q_14, .inl (cI, 10, .inl (fun _ => 0)))] : va_W) := hD
  refine W.widen (k := 14) (n := 27370) (by decide) (by decide) ?_
  refine k_putF (ci := 10) (ty := .array .int) (v := .ref q_14) (C := RX10) (Tb := TX10) (N := 18) (w' := ([(a, .inr (10, [.ref q_1, .ref q_2, .int 0, .int 0, .ref q_3, .int 0, .ref q_4, .ref q_5, .ref q_6, .ref q_7, .ref q_8, .ref q_9, .ref q_10, .ref q_11, .ref q_12, .ref q_13, .ref q_14, .null])), (q_1, .inl (cI, 600, .inl (fun _ => 0))), (q_2, .inl (cI, 24000, .inl (fun _ => 0))), (q_3, .inl (cI, 480, .inl (fun _ => 0))), (q_4, .inl (cI, 50, .inl (fun _ => 0))), (q_5, .inl (cI, 10, .inl (fun _ => 0))), (q_6, .inl (cI, 10, .inl (fun _ => 0))), (q_7, .inl (cI, 10, .inl (fun _ => 0))), (q_8, .inl (cJ, 36, .inr (.inl (fun _ => 0)))), (q_9, .inl (cJ, 6, .inr (.inl (fun _ => 0)))), (q_10, .inl (cI, 100, .inl (fun _ => 0))), (q_11, .inl (cI, 1024, .inl (fun _ => 0))), (q_12, .inl (cI, 1024, .inl (fun _ => 0))), (q_13, .inl (cI, 10, .inl (fun _ => 0))), (q_14, .inl (cI, 10, .inl (fun _ => 0)))] : va_W)) hx hb hts hu_10 tyX10 tyX10_ok nmX10 hown hKW hP hD hS 0 rfl rfl 16 (by decide) (by decide +kernel) rfl rfl hin rfl (by decide +kernel) rfl rfl (Nat.le_of_ble_eq_true rfl) dX10_init_118 rfl (fun H locs hP hD hS => ?_)
  refine lv_aload_n hx hb dX10_init_121 rfl (lv_at hl 0 rfl) ?_
  refine lv_sipush (v := nI 10240) hx hb dX10_init_122 (by decide) ?_
  refine k_newa (atype := .int) (ty := .int) (N := 10240) (a0 := (10240, .inl (fun _ => 0))) hx hb (hts (.arrayClass .int) (by decide +kernel)) rfl hKW 0 rfl (fun _ h9 => FieldType.noConfusion h9) hP hD hS hA (fun _ => rfl) (by decide) (by decide) (Nat.le_of_ble_eq_true rfl) (Nat.le_of_ble_eq_true rfl) dX10_init_125 (fun q_15 H hP hD hS => ?_)
  have hP : va_P D vwCl ([(a, .inr (10, [.ref q_1, .ref q_2, .int 0, .int 0, .ref q_3, .int 0, .ref q_4, .ref q_5, .ref q_6, .ref q_7, .ref q_8, .ref q_9, .ref q_10, .ref q_11, .ref q_12, .ref q_13, .ref q_14, .null])), (q_1, .inl (cI, 600, .inl (fun _ => 0))), (q_2, .inl (cI, 24000, .inl (fun _ => 0))), (q_3, .inl (cI, 480, .inl (fun _ => 0))), (q_4, .inl (cI, 50, .inl (fun _ => 0))), (q_5, .inl (cI, 10, .inl (fun _ => 0))), (q_6, .inl (cI, 10, .inl (fun _ => 0))), (q_7, .inl (cI, 10, .inl (fun _ => 0))), (q_8, .inl (cJ, 36, .inr (.inl (fun _ => 0)))), (q_9, .inl (cJ, 6, .inr (.inl (fun _ => 0)))), (q_10, .inl (cI, 100, .inl (fun _ => 0))), (q_11, .inl (cI, 1024, .inl (fun _ => 0))), (q_12, .inl (cI, 1024, .inl (fun _ => 0))), (q_13, .inl (cI, 10, .inl (fun _ => 0))), (q_14, .inl (cI, 10, .inl (fun _ => 0))), (q_15, .inl (cI, 10240, .inl (fun _ => 0)))] : va_W) H := hP
  have hD : va_D A ([(a, .inr (10, [.ref q_1, .ref q_2, .int 0, .int 0, .ref q_3, .int 0, .ref q_4, .ref q_5, .ref q_6, .ref q_7, .ref q_8, .ref q_9, .ref q_10, .ref q_11, .ref q_12, .ref q_13, .ref q_14, .null])), (q_1, .inl (cI, 600, .inl (fun _ => 0))), (q_2, .inl (cI, 24000, .inl (fun _ => 0))), (q_3, .inl (cI, 480, .inl (fun _ => 0))), (q_4, .inl (cI, 50, .inl (fun _ => 0))), (q_5, .inl (cI, 10, .inl (fun _ => 0))), (q_6, .inl (cI, 10, .inl (fun _ => 0))), (q_7, .inl (cI, 10, .inl (fun _ => 0))), (q_8, .inl (cJ, 36, .inr (.inl (fun _ => 0)))), (q_9, .inl (cJ, 6, .inr (.inl (fun _ => 0)))), (q_10, .inl (cI, 100, .inl (fun _ => 0))), (q_11, .inl (cI, 1024, .inl (fun _ => 0))), (q_12, .inl (cI, 1024, .inl (fun _ => 0))), (q_13, .inl (cI, 10, .inl (fun _ => 0))), (q_14, .inl (cI, 10, .inl (fun _ => 0))), (q_15, .inl (cI, 10240, .inl (fun _ => 0)))] : va_W) := hD
  refine W.widen (k := 15) (n := 37610) (by decide) (by decide) ?_
  refine k_putF (ci := 10) (ty := .array .int) (v := .ref q_15) (C := RX10) (Tb := TX10) (N := 18) (w' := ([(a, .inr (10, [.ref q_1, .ref q_2, .int 0, .int 0, .ref q_3, .int 0, .ref q_4, .ref q_5, .ref q_6, .ref q_7, .ref q_8, .ref q_9, .ref q_10, .ref q_11, .ref q_12, .ref q_13, .ref q_14, .ref q_15])), (q_1, .inl (cI, 600, .inl (fun _ => 0))), (q_2, .inl (cI, 24000, .inl (fun _ => 0))), (q_3, .inl (cI, 480, .inl (fun _ => 0))), (q_4, .inl (cI, 50, .inl (fun _ => 0))), (q_5, .inl (cI, 10, .inl (fun _ => 0))), (q_6, .inl (cI, 10, .inl (fun _ => 0))), (q_7, .inl (cI, 10, .inl (fun _ => 0))), (q_8, .inl (cJ, 36, .inr (.inl (fun _ => 0)))), (q_9, .inl (cJ, 6, .inr (.inl (fun _ => 0)))), (q_10, .inl (cI, 100, .inl (fun _ => 0))), (q_11, .inl (cI, 1024, .inl (fun _ => 0))), (q_12, .inl (cI, 1024, .inl (fun _ => 0))), (q_13, .inl (cI, 10, .inl (fun _ => 0))), (q_14, .inl (cI, 10, .inl (fun _ => 0))), (q_15, .inl (cI, 10240, .inl (fun _ => 0)))] : va_W)) hx hb hts hu_10 tyX10 tyX10_ok nmX10 hown hKW hP hD hS 0 rfl rfl 17 (by decide) (by decide +kernel) rfl rfl hin rfl (by decide +kernel) rfl rfl (Nat.le_of_ble_eq_true rfl) dX10_init_127 rfl (fun H locs hP hD hS => ?_)
  refine lv_aload_n hx hb dX10_init_130 rfl (lv_at hl 0 rfl) ?_
  refine k_get (ci := 10) (v := .ref q_1) (C := RX10) (Tb := TX10) (N := 18) hx hb hts hu_10 hown hKW hP 0 rfl rfl 0 (by decide) (by decide +kernel) rfl rfl dX10_init_131 ?_
  refine lv_iconst (v := nI 0) hx hb dX10_init_134 (by decide) ?_
  refine lv_iconst (v := nI 1) hx hb dX10_init_135 (by decide) ?_
  refine k_iast (n := 600) (i := 0) (x := nI 1) (w' := ([(a, .inr (10, [.ref q_1, .ref q_2, .int 0, .int 0, .ref q_3, .int 0, .ref q_4, .ref q_5, .ref q_6, .ref q_7, .ref q_8, .ref q_9, .ref q_10, .ref q_11, .ref q_12, .ref q_13, .ref q_14, .ref q_15])), (q_1, .inl (cI, 600, .inl (upd (fun _ => 0) 0 (nI 1)))), (q_2, .inl (cI, 24000, .inl (fun _ => 0))), (q_3, .inl (cI, 480, .inl (fun _ => 0))), (q_4, .inl (cI, 50, .inl (fun _ => 0))), (q_5, .inl (cI, 10, .inl (fun _ => 0))), (q_6, .inl (cI, 10, .inl (fun _ => 0))), (q_7, .inl (cI, 10, .inl (fun _ => 0))), (q_8, .inl (cJ, 36, .inr (.inl (fun _ => 0)))), (q_9, .inl (cJ, 6, .inr (.inl (fun _ => 0)))), (q_10, .inl (cI, 100, .inl (fun _ => 0))), (q_11, .inl (cI, 1024, .inl (fun _ => 0))), (q_12, .inl (cI, 1024, .inl (fun _ => 0))), (q_13, .inl (cI, 10, .inl (fun _ => 0))), (q_14, .inl (cI, 10, .inl (fun _ => 0))), (q_15, .inl (cI, 10240, .inl (fun _ => 0)))] : va_W)) hx hb hKW hP hD hS 1 0 rfl rfl (by decide) (by decide) dX10_init_136 rfl (fun H locs hP hD hS => ?_)
  refine lv_aload_n hx hb dX10_init_137 rfl (lv_at hl 0 rfl) ?_
  refine k_get (ci := 10) (v := .ref q_1) (C := RX10) (Tb := TX10) (N := 18) hx hb hts hu_10 hown hKW hP 0 rfl rfl 0 (by decide) (by decide +kernel) rfl rfl dX10_init_138 ?_
  refine lv_iconst (v := nI 4) hx hb dX10_init_141 (by decide) ?_
  refine lv_iconst (v := nI 2) hx hb dX10_init_142 (by decide) ?_
  refine k_iast (n := 600) (i := 4) (x := nI 2) (w' := ([(a, .inr (10, [.ref q_1, .ref q_2, .int 0, .int 0, .ref q_3, .int 0, .ref q_4, .ref q_5, .ref q_6, .ref q_7, .ref q_8, .ref q_9, .ref q_10, .ref q_11, .ref q_12, .ref q_13, .ref q_14, .ref q_15])), (q_1, .inl (cI, 600, .inl (upd (upd (fun _ => 0) 0 (nI 1)) 4 (nI 2)))), (q_2, .inl (cI, 24000, .inl (fun _ => 0))), (q_3, .inl (cI, 480, .inl (fun _ => 0))), (q_4, .inl (cI, 50, .inl (fun _ => 0))), (q_5, .inl (cI, 10, .inl (fun _ => 0))), (q_6, .inl (cI, 10, .inl (fun _ => 0))), (q_7, .inl (cI, 10, .inl (fun _ => 0))), (q_8, .inl (cJ, 36, .inr (.inl (fun _ => 0)))), (q_9, .inl (cJ, 6, .inr (.inl (fun _ => 0)))), (q_10, .inl (cI, 100, .inl (fun _ => 0))), (q_11, .inl (cI, 1024, .inl (fun _ => 0))), (q_12, .inl (cI, 1024, .inl (fun _ => 0))), (q_13, .inl (cI, 10, .inl (fun _ => 0))), (q_14, .inl (cI, 10, .inl (fun _ => 0))), (q_15, .inl (cI, 10240, .inl (fun _ => 0)))] : va_W)) hx hb hKW hP hD hS 1 0 rfl rfl (by decide) (by decide) dX10_init_143 rfl (fun H locs hP hD hS => ?_)
  refine lv_aload_n hx hb dX10_init_144 rfl (lv_at hl 0 rfl) ?_
  refine k_get (ci := 10) (v := .ref q_1) (C := RX10) (Tb := TX10) (N := 18) hx hb hts hu_10 hown hKW hP 0 rfl rfl 0 (by decide) (by decide +kernel) rfl rfl dX10_init_145 ?_
  refine lv_iconst (v := nI 5) hx hb dX10_init_148 (by decide) ?_
  refine lv_iconst (v := nI 1) hx hb dX10_init_149 (by decide) ?_
  refine k_iast (n := 600) (i := 5) (x := nI 1) (w' := ([(a, .inr (10, [.ref q_1, .ref q_2, .int 0, .int 0, .ref q_3, .int 0, .ref q_4, .ref q_5, .ref q_6, .ref q_7, .ref q_8, .ref q_9, .ref q_10, .ref q_11, .ref q_12, .ref q_13, .ref q_14, .ref q_15])), (q_1, .inl (cI, 600, .inl (upd (upd (upd (fun _ => 0) 0 (nI 1)) 4 (nI 2)) 5 (nI 1)))), (q_2, .inl (cI, 24000, .inl (fun _ => 0))), (q_3, .inl (cI, 480, .inl (fun _ => 0))), (q_4, .inl (cI, 50, .inl (fun _ => 0))), (q_5, .inl (cI, 10, .inl (fun _ => 0))), (q_6, .inl (cI, 10, .inl (fun _ => 0))), (q_7, .inl (cI, 10, .inl (fun _ => 0))), (q_8, .inl (cJ, 36, .inr (.inl (fun _ => 0)))), (q_9, .inl (cJ, 6, .inr (.inl (fun _ => 0)))), (q_10, .inl (cI, 100, .inl (fun _ => 0))), (q_11, .inl (cI, 1024, .inl (fun _ => 0))), (q_12, .inl (cI, 1024, .inl (fun _ => 0))), (q_13, .inl (cI, 10, .inl (fun _ => 0))), (q_14, .inl (cI, 10, .inl (fun _ => 0))), (q_15, .inl (cI, 10240, .inl (fun _ => 0)))] : va_W)) hx hb hKW hP hD hS 1 0 rfl rfl (by decide) (by decide) dX10_init_150 rfl (fun H locs hP hD hS => ?_)
  subst hQ; subst hAe
  exact W.vret hx hb hr (fun tt9 ht9 _ => ⟨⟨(fun j => match j with | 0 => a | 1 => q_1 | 2 => q_2 | 3 => q_3 | 4 => q_4 | 5 => q_5 | 6 => q_6 | 7 => q_7 | 8 => q_8 | 9 => q_9 | 10 => q_10 | 11 => q_11 | 12 => q_12 | 13 => q_13 | 14 => q_14 | _ => q_15), rfl, rfl, by rw [ht9]; exact hP, hD⟩, hS.F ht9⟩) hS.2.2 dX10_init_151
