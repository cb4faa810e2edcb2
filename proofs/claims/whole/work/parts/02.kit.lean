/-! MY KIT: one kind of contract for all methods that make nothing; calls in one row -/
def kNest : List Cond := [.methodLinkNest "MeetingRanks" 11 yX4_init "MeetingRanks", .methodLinkNest "MeetingRanks" 18 yX7_init "MeetingRanks", .methodLinkNest "MeetingRanks" 25 yX8_init "MeetingRanks", .methodLinkNest "MeetingRanks" 32 yX0_init "MeetingRanks", .methodLinkNest "MeetingRanks" 39 yX6_init "MeetingRanks", .methodLinkNest "MeetingRanks" 46 yX3_init "MeetingRanks", .methodLinkNest "MeetingRanks" 53 yX2_init "MeetingRanks", .methodLinkNest "MeetingRanks" 60 yX5_init "MeetingRanks", .methodLinkNest "MeetingRanks" 67 yX1_init "MeetingRanks", .methodLinkNest "MeetingRanks$Beating" 35 yX9_everyone "MeetingRanks", .methodLinkNest "MeetingRanks$Beating" 65 yX9_isIn "MeetingRanks", .methodLinkNest "MeetingRanks$HeapSearch" 22 yX9_everyone "MeetingRanks", .methodLinkNest "MeetingRanks$HeapSearch" 42 yX9_isIn "MeetingRanks", .methodLinkNest "MeetingRanks$Meetings" 58 yX9_isIn "MeetingRanks", .methodLinkNest "MeetingRanks$Meetings" 65 yX9_everyone "MeetingRanks", .methodLinkNest "MeetingRanks$RowSearch" 25 yX9_everyone "MeetingRanks", .methodLinkNest "MeetingRanks$RowSearch" 45 yX9_isIn "MeetingRanks", .methodLinkNest "MeetingRanks$ToCome" 26 yX9_everyone "MeetingRanks", .methodLinkNest "MeetingRanks$ToCome" 34 yX9_isIn "MeetingRanks"]
theorem kNest_w : ∀ w ∈ kNest, ∃ (a : String) (i : Nat) (x : MethodName) (h : String), w = Cond.methodLinkNest a i x h := by
  intro w hw
  simp only [kNest, List.mem_cons, List.not_mem_nil, or_false] at hw
  rcases hw with rfl | rfl | rfl | rfl | rfl | rfl | rfl | rfl | rfl | rfl | rfl | rfl | rfl | rfl | rfl | rfl | rfl | rfl | rfl <;> exact ⟨_, _, _, _, rfl⟩
/-- the three kinds of arrays -/
abbrev kT (cI cJ cB : ClassId) : List (ClassId × FieldType) := [(cI, .int), (cJ, .long), (cB, .byte)]
def KW (D : va_G) (T : List (ClassId × FieldType)) (U : State) : Prop := va_K D vwCl T U ∧ ∀ w ∈ kNest, va_Nw w U
theorem KW.warm {D : va_G} {T : List (ClassId × FieldType)} {s U : State} (hW : s.WarmedH U.vm) (h : KW D T s) : KW D T U := by
  refine ⟨va_K.moved hW.alike h.1, fun w hw => ?_⟩
  have h2 := h.2 w hw
  obtain ⟨a, i, x, g, rfl⟩ := kNest_w w hw
  exact va_Nw.warmM hW h2
theorem KW.same {D : va_G} {T : List (ClassId × FieldType)} {u U : State} (hv : u.vm = U.vm) (h : KW D T u) : KW D T U := by
  refine ⟨va_K.moved (by rw [hv]; exact Vm.Alike.refl _) h.1, fun w hw => ?_⟩
  have h2 := h.2 w hw
  obtain ⟨a, i, x, g, rfl⟩ := kNest_w w hw
  exact va_Nw.same rfl hv h2
/-- a contract's start: the world, the tables -/
def PW (D : va_G) (T : List (ClassId × FieldType)) (sz : Nat) (w : va_W) (U : State) : Prop := U.heap.size = sz ∧ va_P D vwCl w U.heap ∧ KW D T U ∧ va_D (fun _ => True) w
/-- a contract's end -/
def QW {S : Type} (D : va_G) (sz : Nat) (w : va_W) (w1 : S → va_W) (u : S) (t : State) : Prop := va_P D vwCl (w1 u) t.heap ∧ va_D (va_A w sz) (w1 u)
theorem PW.blind {D : va_G} {T : List (ClassId × FieldType)} {sz : Nat} {w : va_W} {av : List Value} : FrameBlind (va_Pc av (PW D T sz w)) := by
  intro a U g mk h
  obtain ⟨h0, h1, h2, h3, h4⟩ := h
  exact ⟨h0, h1, h2, KW.same (u := U) (U := U.calling g mk a) rfl h3, h4⟩
theorem PW.at {D : va_G} {T : List (ClassId × FieldType)} {w : va_W} {av : List Value} {s : State} {H : Heap} {A : Nat → Prop} (hK : KW D T s) (hP : va_P D vwCl w H) (hD : va_D A w) : ∀ U : State, U.heap = H → s.WarmedH U.vm → va_Pc av (PW D T H.size w) av.toArray U :=
  fun U hU hW => ⟨rfl, by rw [hU], by rw [hU]; exact hP, hK.warm hW, hD.weaken (fun _ _ _ _ => trivial)⟩
section KIT
variable {p : Program} {l : Launch} {e : Env} {R : Room} {s : State} {m : MethodId} {args : Array Value} {below : List Frame} {meth : Method} {c : Code} {H : Heap} {locs : List Loc} {cells slots : Nat} {Q : State → Prop} {pc : Nat} {ls : Array Slot} {rest st0 : List Value} {A : Nat → Prop} {D : va_G} {T : List (ClassId × FieldType)}
theorem k_gen {g : JFrame} (h : ∀ Q' : State → Prop, Q' = Q → W p l e R s m args below meth c H locs cells slots Q' g) : W p l e R s m args below meth c H locs cells slots Q g := h Q rfl
theorem k_top {x y : Int32} (h : x = y) (k : W p l e R s m args below meth c H locs cells slots Q (F0 m pc ls (.int y :: rest))) : W p l e R s m args below meth c H locs cells slots Q (F0 m pc ls (.int x :: rest)) := h ▸ k
theorem k_topl {x y : Int64} (h : x = y) (k : W p l e R s m args below meth c H locs cells slots Q (F0 m pc ls (.long y :: rest))) : W p l e R s m args below meth c H locs cells slots Q (F0 m pc ls (.long x :: rest)) := h ▸ k
theorem k_iadd {cc : ByteArray} (hx : p.tables.exec = Jvm.exec) (hb : c.code = cc) {x y : Nat} (hdg : decode cc pc = .ok (.iadd, 1)) (k : W p l e R s m args below meth c H locs cells slots Q (F0 m (pc + 1) ls (.int (nI (x + y)) :: rest))) : W p l e R s m args below meth c H locs cells slots Q (F0 m pc ls (.int (nI y) :: .int (nI x) :: rest)) := lv_iadd hx hb hdg (k_top (nI_add x y) k)
theorem k_imul {cc : ByteArray} (hx : p.tables.exec = Jvm.exec) (hb : c.code = cc) {x y : Nat} (hdg : decode cc pc = .ok (.imul, 1)) (k : W p l e R s m args below meth c H locs cells slots Q (F0 m (pc + 1) ls (.int (nI (x * y)) :: rest))) : W p l e R s m args below meth c H locs cells slots Q (F0 m pc ls (.int (nI y) :: .int (nI x) :: rest)) := lv_imul hx hb hdg (k_top (pk_mul x y) k)
theorem k_isub {cc : ByteArray} (hx : p.tables.exec = Jvm.exec) (hb : c.code = cc) {x y : Nat} (hle : y ≤ x) (hdg : decode cc pc = .ok (.isub, 1)) (k : W p l e R s m args below meth c H locs cells slots Q (F0 m (pc + 1) ls (.int (nI (x - y)) :: rest))) : W p l e R s m args below meth c H locs cells slots Q (F0 m pc ls (.int (nI y) :: .int (nI x) :: rest)) := lv_isub hx hb hdg (k_top (pk_sub hle) k)
/-- reading an array of ints at a place that is a number -/
theorem k_iald {cc : ByteArray} {a : Nat} {ws : va_W} (hx : p.tables.exec = Jvm.exec) (hb : c.code = cc) (hK : KW D T s) (hP : va_P D vwCl ws H) (q0 t0 : Nat) {cA : ClassId} {n : Nat} {f : Nat → Int32} (ha : ws[q0]? = some (a, .inl (cA, n, .inl f))) (ht : T[t0]? = some (cA, .int)) {i : Nat} (hin : i < n) (hn : n < 2 ^ 31) (hdg : decode cc pc = .ok (.iaload, 1))
    (kk : W p l e R s m args below meth c H locs cells slots Q (F0 m (pc + 1) ls (.int (f i) :: rest))) : W p l e R s m args below meth c H locs cells slots Q (F0 m pc ls (.int (nI i) :: .ref a :: rest)) :=
  va_iald hx hb hK.1 hP q0 t0 ha ht (vp_in_nI hin hn) hdg (by rw [nI_clamp (by omega)]; exact kk)
theorem k_lald {cc : ByteArray} {a : Nat} {ws : va_W} (hx : p.tables.exec = Jvm.exec) (hb : c.code = cc) (hK : KW D T s) (hP : va_P D vwCl ws H) (q0 t0 : Nat) {cA : ClassId} {n : Nat} {f : Nat → Int64} (ha : ws[q0]? = some (a, .inl (cA, n, .inr (.inl f)))) (ht : T[t0]? = some (cA, .long)) {i : Nat} (hin : i < n) (hn : n < 2 ^ 31) (hdg : decode cc pc = .ok (.laload, 1))
    (kk : W p l e R s m args below meth c H locs cells slots Q (F0 m (pc + 1) ls (.long (f i) :: rest))) : W p l e R s m args below meth c H locs cells slots Q (F0 m pc ls (.int (nI i) :: .ref a :: rest)) :=
  va_lald hx hb hK.1 hP q0 t0 ha ht (vp_in_nI hin hn) hdg (by rw [nI_clamp (by omega)]; exact kk)
theorem k_bald {cc : ByteArray} {a : Nat} {ws : va_W} (hx : p.tables.exec = Jvm.exec) (hb : c.code = cc) (hK : KW D T s) (hP : va_P D vwCl ws H) (q0 t0 : Nat) {cA : ClassId} {n : Nat} {f : Nat → Int32} (ha : ws[q0]? = some (a, .inl (cA, n, .inl f))) (ht : T[t0]? = some (cA, .byte)) {i : Nat} (hin : i < n) (hn : n < 2 ^ 31) (hdg : decode cc pc = .ok (.baload, 1))
    (kk : W p l e R s m args below meth c H locs cells slots Q (F0 m (pc + 1) ls (.int (f i) :: rest))) : W p l e R s m args below meth c H locs cells slots Q (F0 m pc ls (.int (nI i) :: .ref a :: rest)) :=
  va_bald hx hb hK.1 hP q0 t0 ha ht (vp_in_nI hin hn) hdg (by rw [nI_clamp (by omega)]; exact kk)
theorem k_iast {cc : ByteArray} {a : Nat} {ws w' : va_W} (hx : p.tables.exec = Jvm.exec) (hb : c.code = cc) (hK : KW D T s) (hP : va_P D vwCl ws H) (hD : va_D A ws) (hS : va_S A s.heap H locs) (q0 t0 : Nat) {cA : ClassId} {n : Nat} {f : Nat → Int32} (ha : ws[q0]? = some (a, .inl (cA, n, .inl f))) (ht : T[t0]? = some (cA, .int)) {i : Nat} {x : Int32} (hin : i < n) (hn : n < 2 ^ 31) (hdg : decode cc pc = .ok (.iastore, 1)) (hw : ws.set q0 (a, .inl (cA, n, .inl (upd f i x))) = w')
    (kk : ∀ (H1 : Heap) (locs1 : List Loc), va_P D vwCl w' H1 → va_D A w' → va_S A s.heap H1 locs1 → W p l e R s m args below meth c H1 locs1 cells slots Q (F0 m (pc + 1) ls rest)) : W p l e R s m args below meth c H locs cells slots Q (F0 m pc ls (.int x :: .int (nI i) :: .ref a :: rest)) := by
  refine va_iast hx hb hK.1 hP hD hS q0 t0 ha ht (vp_in_nI hin hn) hdg (fun H1 locs1 h1 h2 h3 => ?_)
  rw [nI_clamp (by omega), hw] at h1 h2
  exact kk H1 locs1 h1 h2 h3
theorem k_last {cc : ByteArray} {a : Nat} {ws w' : va_W} (hx : p.tables.exec = Jvm.exec) (hb : c.code = cc) (hK : KW D T s) (hP : va_P D vwCl ws H) (hD : va_D A ws) (hS : va_S A s.heap H locs) (q0 t0 : Nat) {cA : ClassId} {n : Nat} {f : Nat → Int64} (ha : ws[q0]? = some (a, .inl (cA, n, .inr (.inl f)))) (ht : T[t0]? = some (cA, .long)) {i : Nat} {x : Int64} (hin : i < n) (hn : n < 2 ^ 31) (hdg : decode cc pc = .ok (.lastore, 1)) (hw : ws.set q0 (a, .inl (cA, n, .inr (.inl (vp_updL f i x)))) = w')
    (kk : ∀ (H1 : Heap) (locs1 : List Loc), va_P D vwCl w' H1 → va_D A w' → va_S A s.heap H1 locs1 → W p l e R s m args below meth c H1 locs1 cells slots Q (F0 m (pc + 1) ls rest)) : W p l e R s m args below meth c H locs cells slots Q (F0 m pc ls (.long x :: .int (nI i) :: .ref a :: rest)) := by
  refine va_last hx hb hK.1 hP hD hS q0 t0 ha ht (vp_in_nI hin hn) hdg (fun H1 locs1 h1 h2 h3 => ?_)
  rw [nI_clamp (by omega), hw] at h1 h2
  exact kk H1 locs1 h1 h2 h3
theorem k_get {cc : ByteArray} {a : Nat} {ws : va_W} (hx : p.tables.exec = Jvm.exec) (hb : c.code = cc) {own ref C : String} {Tb : u_T} {N ci index : Nat} {Ts : List Cond} (hts : ∀ w ∈ Ts, w.before args s = true) (hin : ∀ w ∈ u_ws C Tb N, w ∈ Ts) (hown : s.vm.findClass own = some m.cls) (hK : KW D T s) (hP : va_P D vwCl ws H) (q0 : Nat) {fs : List Value} (he : ws[q0]? = some (a, .inr (ci, fs))) (hc : vwCl[ci]? = some (C, Tb, N)) (k : Nat) (hk : k < N) (hlink : (Cond.fieldLink own index ref (Tb k).2.1 (Tb k).2.2.1) ∈ Ts) (hsame : (Tb k).1 = ref) {v : Value} (hv : fs[k]? = some v) (hdg : decode cc pc = .ok (.getfield index, 3))
    (kk : W p l e R s m args below meth c H locs cells slots Q (F0 m (pc + 3) ls (v :: rest))) : W p l e R s m args below meth c H locs cells slots Q (F0 m pc ls (.ref a :: rest)) :=
  va_get hx hb hts hin hown hK.1 hP q0 he hc k hk (hts _ hlink) (fun _ h => by rw [← hsame]; exact h) hv hdg kk
theorem k_put {cc : ByteArray} {a : Nat} {ws w' : va_W} (hx : p.tables.exec = Jvm.exec) (hb : c.code = cc) {own ref C : String} {Tb : u_T} {N ci index : Nat} {Ts : List Cond} (hts : ∀ w ∈ Ts, w.before args s = true) (hin : ∀ w ∈ u_ws C Tb N, w ∈ Ts) (ty0 : Nat → FieldType) (hty : ∀ k, k < N → parseFieldDescriptor (Tb k).2.2.1 = some (ty0 k)) (hnm : ∀ a, a < N → ∀ b, b < N → a ≠ b → (Tb a).2.1 ≠ (Tb b).2.1) (hown : s.vm.findClass own = some m.cls) (hK : KW D T s) (hP : va_P D vwCl ws H) (hD : va_D A ws) (hS : va_S A s.heap H locs) (q0 : Nat) {fs : List Value} (he : ws[q0]? = some (a, .inr (ci, fs))) (hc : vwCl[ci]? = some (C, Tb, N)) (k : Nat) (hk : k < N) (hlink : (Cond.fieldLink own index ref (Tb k).2.1 (Tb k).2.2.1) ∈ Ts) (hsame : (Tb k).1 = ref) (hfin : (Tb k).2.2.2 = false) {ty : FieldType} {v : Value} (hd : parseFieldDescriptor (Tb k).2.2.1 = some ty) (hn : narrow ty v = v) (hfit : fits ty v = true) (hl : k < fs.length)
    (hdg : decode cc pc = .ok (.putfield index, 3)) (hw : ws.set q0 (a, .inr (ci, fs.set k v)) = w')
    (kk : ∀ (H1 : Heap) (locs1 : List Loc), va_P D vwCl w' H1 → va_D A w' → va_S A s.heap H1 locs1 → W p l e R s m args below meth c H1 locs1 cells slots Q (F0 m (pc + 3) ls rest)) : W p l e R s m args below meth c H locs cells slots Q (F0 m pc ls (v :: .ref a :: rest)) := by
  refine va_put hx hb hts hin ty0 hty hnm hown hK.1 hP hD hS q0 he hc k hk (hts _ hlink) (fun _ h => by rw [← hsame]; exact h) hfin hd hn hfit hl hdg (fun H1 locs1 h1 h2 h3 => ?_)
  rw [hw] at h1 h2
  exact kk H1 locs1 h1 h2 h3
/-- the callee's cells and the others -/
def kSplit (ws wc wr : va_W) (isC isR : List Nat) : Prop := isC.map (fun i => ws[i]?) = wc.map some ∧ isC.filterMap (fun i => ws[i]?) = wc ∧ va_nd isC = true ∧ isR.map (fun i => ws[i]?) = wr.map some ∧ va_nd isR = true ∧ ∀ i ∈ isR, i ∉ isC
theorem kc_i {S : Type} {post : Int32 → S → Prop} {w1 : S → va_W} {ws wc wr : va_W} {isC isR : List Nat} {a : Array Value} (hP : va_P D vwCl ws H) (hD : va_D A ws) (hS : va_S A s.heap H locs) (hA : ∀ q, s.heap.size ≤ q → A q) (hs : kSplit ws wc wr isC isR)
    (hr : va_Run p l e R s m args below meth c H locs cells slots 0 0 (F0 m pc ls st0) rest (va_Qi post (QW D H.size wc w1) (va_A wc H.size) a) (va_A wc H.size))
    (kk : ∀ (r : Int32) (u : S) (H1 : Heap) (locs1 : List Loc), post r u → va_P D vwCl (wr ++ w1 u) H1 → va_D A (wr ++ w1 u) → va_S A s.heap H1 locs1 → W p l e R s m args below meth c H1 locs1 cells slots Q (F0 m (pc + 3) ls (.int r :: rest))) : W p l e R s m args below meth c H locs cells slots Q (F0 m pc ls st0) := by
  obtain ⟨hC, hC2, hnC, hR, hnR, hdis⟩ := hs
  have hFc := va_free hD hS hA isC hC
  refine va_calli hr hS (fun q _ h => hFc q h) hFc (fun r u t H1 locs1 ht hvm hw hB hz hk hS1 => ?_)
  obtain ⟨hP1, hD1⟩ := hB
  rw [ht] at hP1
  obtain ⟨hP2, hD2⟩ := va_join hP hD isC isR hC hR hnR hdis hk hFc hP1 hD1
  exact kk r u H1 locs1 hw hP2 hD2 hS1
theorem kc_l {S : Type} {post : Int64 → S → Prop} {w1 : S → va_W} {ws wc wr : va_W} {isC isR : List Nat} {a : Array Value} (hP : va_P D vwCl ws H) (hD : va_D A ws) (hS : va_S A s.heap H locs) (hA : ∀ q, s.heap.size ≤ q → A q) (hs : kSplit ws wc wr isC isR)
    (hr : va_Run p l e R s m args below meth c H locs cells slots 0 0 (F0 m pc ls st0) rest (va_Ql post (QW D H.size wc w1) (va_A wc H.size) a) (va_A wc H.size))
    (kk : ∀ (r : Int64) (u : S) (H1 : Heap) (locs1 : List Loc), post r u → va_P D vwCl (wr ++ w1 u) H1 → va_D A (wr ++ w1 u) → va_S A s.heap H1 locs1 → W p l e R s m args below meth c H1 locs1 cells slots Q (F0 m (pc + 3) ls (.long r :: rest))) : W p l e R s m args below meth c H locs cells slots Q (F0 m pc ls st0) := by
  obtain ⟨hC, hC2, hnC, hR, hnR, hdis⟩ := hs
  have hFc := va_free hD hS hA isC hC
  refine va_calll hr hS (fun q _ h => hFc q h) hFc (fun r u t H1 locs1 ht hvm hw hB hz hk hS1 => ?_)
  obtain ⟨hP1, hD1⟩ := hB
  rw [ht] at hP1
  obtain ⟨hP2, hD2⟩ := va_join hP hD isC isR hC hR hnR hdis hk hFc hP1 hD1
  exact kk r u H1 locs1 hw hP2 hD2 hS1
theorem kc_v {S : Type} {post : S → Prop} {w1 : S → va_W} {ws wc wr : va_W} {isC isR : List Nat} {a : Array Value} (hP : va_P D vwCl ws H) (hD : va_D A ws) (hS : va_S A s.heap H locs) (hA : ∀ q, s.heap.size ≤ q → A q) (hs : kSplit ws wc wr isC isR)
    (hr : va_Run p l e R s m args below meth c H locs cells slots 0 0 (F0 m pc ls st0) rest (va_Qv post (QW D H.size wc w1) (va_A wc H.size) a) (va_A wc H.size))
    (kk : ∀ (u : S) (H1 : Heap) (locs1 : List Loc), post u → va_P D vwCl (wr ++ w1 u) H1 → va_D A (wr ++ w1 u) → va_S A s.heap H1 locs1 → W p l e R s m args below meth c H1 locs1 cells slots Q (F0 m (pc + 3) ls rest)) : W p l e R s m args below meth c H locs cells slots Q (F0 m pc ls st0) := by
  obtain ⟨hC, hC2, hnC, hR, hnR, hdis⟩ := hs
  have hFc := va_free hD hS hA isC hC
  refine va_callv hr hS (fun q _ h => hFc q h) hFc (fun u t H1 locs1 ht hvm hw hB hz hk hS1 => ?_)
  obtain ⟨hP1, hD1⟩ := hB
  rw [ht] at hP1
  obtain ⟨hP2, hD2⟩ := va_join hP hD isC isR hC hR hnR hdis hk hFc hP1 hD1
  exact kk u H1 locs1 hw hP2 hD2 hS1
variable {y : MethodName} {bytes cc : ByteArray} {maxL nL n index : Nat} {ret : Option FieldType} {wy : List Cond} {rm : Room} {Qc : Nat → Array Value → State → Outcome → State → Prop} {Ts : List Cond} {own C : String} {b : Addr} {As : List Value} {ws wc wr : va_W} {isC isR : List Nat}
/-- an instance method -/
theorem kV (hx : p.tables.exec = Jvm.exec) (hb : c.code = cc) (hml : c.maxLocals = nL) (hown : s.vm.findClass own = some m.cls) (hts : ∀ w ∈ Ts, w.before args s = true) (hK : KW D T s) (hP : va_P D vwCl ws H) (hD : va_D A ws) (hs : kSplit ws wc wr isC isR)
    (hM : ∀ sz, Met l y wy rm (va_Pc (.ref b :: As) (PW D T sz wc)) (Qc sz) 0 0 (va_A wc sz)) (cw : CallW R s args own C index y bytes maxL ret wy rm 0 0 n) (q0 ci : Nat) {q : vw_C} {fs : List Value} (hc : vwCl[ci]? = some q) (he : wc[q0]? = some (b, .inr (ci, fs))) (hq : q.1 = C)
    (hn : As.length = n) (hl : ls.size = nL) (hst : st0 = As.reverse ++ .ref b :: rest) (hroom : (rest.map fun v => v.category).sum ≤ 8) (hdg : decode cc pc = .ok (.invokevirtual index, 3)) (hf : cells ≤ R.cells ∧ slots ≤ R.slots) :
    va_Run p l e R s m args below meth c H locs cells slots 0 0 (F0 m pc ls st0) rest (Qc H.size (.ref b :: As).toArray) (va_A wc H.size) := by
  obtain ⟨hC, hC2, hnC, -⟩ := hs
  have hPc := hP.sub isC hC2
  have hDc := hD.sub isC hnC hC
  refine va_runV (g := F0 m pc ls st0) ⟨hx, hb, hml, hown, hts⟩ (hM H.size) cw ⟨PW.blind, ?_, PW.at hK hPc hDc⟩ rfl hn hl hst (lv_room hroom) hdg hf
  obtain ⟨cell, h1, h2, h3⟩ := va_recv hK.1 hPc hc he
  exact ⟨cell, h1, h2, by rw [← hq]; exact h3⟩
/-- a static method -/
theorem kS (hx : p.tables.exec = Jvm.exec) (hb : c.code = cc) (hml : c.maxLocals = nL) (hown : s.vm.findClass own = some m.cls) (hts : ∀ w ∈ Ts, w.before args s = true) (hK : KW D T s) (hP : va_P D vwCl ws H) (hD : va_D A ws) (hs : kSplit ws wc wr isC isR)
    (hM : ∀ sz, Met l y wy rm (va_Pc As (PW D T sz wc)) (Qc sz) 0 0 (va_A wc sz)) (cw : CallB R s args own index y bytes maxL ret wy rm 0 0 n ∧ (Cond.static y).before args s = true)
    (hn : As.length = n) (hl : ls.size = nL) (hst : st0 = As.reverse ++ rest) (hroom : (rest.map fun v => v.category).sum ≤ 8) (hdg : decode cc pc = .ok (.invokestatic index, 3)) (hf : cells ≤ R.cells ∧ slots ≤ R.slots) :
    va_Run p l e R s m args below meth c H locs cells slots 0 0 (F0 m pc ls st0) rest (Qc H.size As.toArray) (va_A wc H.size) := by
  obtain ⟨hC, hC2, hnC, -⟩ := hs
  exact va_runS (g := F0 m pc ls st0) ⟨hx, hb, hml, hown, hts⟩ (hM H.size) cw ⟨PW.blind, PW.at hK (hP.sub isC hC2) (hD.sub isC hnC hC)⟩ rfl hn hl hst (lv_room hroom) hdg hf
/-- a static method of a nest mate -/
theorem kSN {host : String} {wy' : List Cond} (hx : p.tables.exec = Jvm.exec) (hb : c.code = cc) (hml : c.maxLocals = nL) (hown : s.vm.findClass own = some m.cls) (hts : ∀ w ∈ Ts, w.before args s = true) (hK : KW D T s) (hP : va_P D vwCl ws H) (hD : va_D A ws) (hs : kSplit ws wc wr isC isR)
    (hM : ∀ sz, Met l y wy rm (va_Pc As (PW D T sz wc)) (Qc sz) 0 0 (va_A wc sz)) (hG : GoodIn Ts wy) (hw : wy = Cond.code y bytes maxL ret :: wy') (hrc : rm.cells = 0) (hrs : rm.slots = 0) (hnest : Cond.methodLinkNest own index y host ∈ kNest) (hini : Cond.initialized y.cls ∈ Ts) (hstat : Cond.static y ∈ Ts)
    (hd : y.cls ≠ "java/lang/invoke/MethodHandle" ∧ y.cls ≠ "java/lang/invoke/VarHandle" ∧ (parseMethodDescriptor y.desc).map (fun d => d.parameters.length) = some n) (hR : rm.frames + 1 ≤ R.frames ∧ 8 + (maxL + 11) + rm.locals ≤ R.locals)
    (hn : As.length = n) (hl : ls.size = nL) (hst : st0 = As.reverse ++ rest) (hroom : (rest.map fun v => v.category).sum ≤ 8) (hdg : decode cc pc = .ok (.invokestatic index, 3)) (hf : cells ≤ R.cells ∧ slots ≤ R.slots) :
    va_Run p l e R s m args below meth c H locs cells slots 0 0 (F0 m pc ls st0) rest (Qc H.size As.toArray) (va_A wc H.size) := by
  obtain ⟨hC, hC2, hnC, -⟩ := hs
  exact va_runSN (g := F0 m pc ls st0) ⟨hx, hb, hml, hown, hts⟩ (hM H.size) ⟨va_cnB n hts hG hw hrc hrs (hK.2 _ hnest) (hts _ hini) hd hR, hts _ hstat, trivial⟩ ⟨PW.blind, PW.at hK (hP.sub isC hC2) (hD.sub isC hnC hC)⟩ rfl hn hl hst (lv_room hroom) hdg hf
end KIT
theorem k_b0 {P : Prop} [Decidable P] (h : (if P then (1 : Int32) else 0) = 0) : ¬ P := fun hp => by rw [if_pos hp] at h; exact absurd h (by decide)
theorem k_b1 {P : Prop} [Decidable P] (h : ¬ (if P then (1 : Int32) else 0) = 0) : P := by
  by_cases hp : P
  · exact hp
  · exact absurd (if_neg hp) h
theorem k_z {P : Prop} [Decidable P] : narrow .boolean (.int (if P then (1 : Int32) else 0)) = .int (if P then (1 : Int32) else 0) := by
  by_cases h : P
  · rw [if_pos h]; decide
  · rw [if_neg h]; decide
