/-! new cells: arrays of the three kinds, objects, final fields, constructors -/
section KN
variable {p : Program} {l : Launch} {e : Env} {R : Room} {s : State} {m : MethodId} {args : Array Value} {below : List Frame} {meth : Method} {c : Code} {H : Heap} {locs : List Loc} {cells slots : Nat} {Q : State → Prop} {pc : Nat} {ls : Array Slot} {rest st0 : List Value} {A : Nat → Prop} {D : va_G} {T : List (ClassId × FieldType)}
theorem k_putF {cc : ByteArray} {a : Nat} {ws w' : va_W} (hx : p.tables.exec = Jvm.exec) (hb : c.code = cc) {own ref C : String} {Tb : u_T} {N ci index : Nat} {Ts : List Cond} (hts : ∀ w ∈ Ts, w.before args s = true) (hin : ∀ w ∈ u_ws C Tb N, w ∈ Ts) (ty0 : Nat → FieldType) (hty : ∀ k, k < N → parseFieldDescriptor (Tb k).2.2.1 = some (ty0 k)) (hnm : ∀ a, a < N → ∀ b, b < N → a ≠ b → (Tb a).2.1 ≠ (Tb b).2.1) (hown : s.vm.findClass own = some m.cls) (hK : KW D T s) (hP : va_P D vwCl ws H) (hD : va_D A ws) (hS : va_S A s.heap H locs) (q0 : Nat) {fs : List Value} (he : ws[q0]? = some (a, .inr (ci, fs))) (hc : vwCl[ci]? = some (C, Tb, N)) (k : Nat) (hk : k < N) (hlink : (Cond.fieldLink own index ref (Tb k).2.1 (Tb k).2.2.1) ∈ Ts) (hsame : (Tb k).1 = ref) (hfin : (Tb k).2.2.2 = true) (hin2 : meth.name = "<init>") (hdecl : (Tb k).1 = own) {ty : FieldType} {v : Value} (hd : parseFieldDescriptor (Tb k).2.2.1 = some ty) (hn : narrow ty v = v) (hfit : fits ty v = true) (hl : k < fs.length)
    (hdg : decode cc pc = .ok (.putfield index, 3)) (hw : ws.set q0 (a, .inr (ci, fs.set k v)) = w')
    (kk : ∀ (H1 : Heap) (locs1 : List Loc), va_P D vwCl w' H1 → va_D A w' → va_S A s.heap H1 locs1 → W p l e R s m args below meth c H1 locs1 cells slots Q (F0 m (pc + 3) ls rest)) : W p l e R s m args below meth c H locs cells slots Q (F0 m pc ls (v :: .ref a :: rest)) := by
  refine va_putF hx hb hts hin ty0 hty hnm hown hK.1 hP hD hS q0 he hc k hk (hts _ hlink) (fun _ h => by rw [← hsame]; exact h) hfin hin2 hdecl hd hn hfit hl hdg (fun H1 locs1 h1 h2 h3 => ?_)
  rw [hw] at h1 h2
  exact kk H1 locs1 h1 h2 h3
variable {y : MethodName} {bytes cc : ByteArray} {maxL nL n index mc ms : Nat} {wy wy' : List Cond} {rm : Room} {Qc : Nat → Array Value → State → Outcome → State → Prop} {Ts : List Cond} {own : String} {b : Addr} {As : List Value} {ws wc wr : va_W} {isC isR : List Nat}
/-- a constructor of a nest mate -/
theorem kIN {host : String} (hx : p.tables.exec = Jvm.exec) (hb : c.code = cc) (hml : c.maxLocals = nL) (hown : s.vm.findClass own = some m.cls) (hts : ∀ w ∈ Ts, w.before args s = true) (hK : KW D T s) (hP : va_P D vwCl ws H) (hD : va_D A ws) (hs : kSplit ws wc wr isC isR)
    (hM : ∀ sz, Met l y wy rm (va_Pc (.ref b :: As) (PW D T sz wc)) (Qc sz) mc ms (va_A wc sz)) (hG : GoodIn Ts wy) (hw : wy = Cond.code y bytes maxL none :: wy') (hrc : rm.cells = mc) (hrs : rm.slots = ms) (hnest : Cond.methodLinkNest own index y host ∈ kNest) (hini : Cond.initialized y.cls ∈ Ts) (hinst : Cond.instanceMethod y ∈ Ts) (hy : y.name = "<init>")
    (hd : y.cls ≠ "java/lang/invoke/MethodHandle" ∧ y.cls ≠ "java/lang/invoke/VarHandle" ∧ (parseMethodDescriptor y.desc).map (fun d => d.parameters.length) = some n) (hR : rm.frames + 1 ≤ R.frames ∧ 8 + (maxL + 11) + rm.locals ≤ R.locals)
    (hn : As.length = n) (hl : ls.size = nL) (hst : st0 = As.reverse ++ .ref b :: rest) (hroom : (rest.map fun v => v.category).sum ≤ 8) (hdg : decode cc pc = .ok (.invokespecial index, 3)) (hf : cells + mc ≤ R.cells ∧ slots + ms ≤ R.slots) :
    va_Run p l e R s m args below meth c H locs cells slots mc ms (F0 m pc ls st0) rest (Qc H.size (.ref b :: As).toArray) (va_A wc H.size) := by
  obtain ⟨hC, hC2, hnC, -⟩ := hs
  exact va_runIN (g := F0 m pc ls st0) ⟨hx, hb, hml, hown, hts⟩ (hM H.size) ⟨va_cnB n hts hG hw hrc hrs (hK.2 _ hnest) (hts _ hini) hd hR, hy, hts _ hinst⟩ ⟨PW.blind, PW.at hK (hP.sub isC hC2) (hD.sub isC hnC hC)⟩ rfl hn hl hst (lv_room hroom) hdg hf
/-- a constructor -/
theorem kI (hx : p.tables.exec = Jvm.exec) (hb : c.code = cc) (hml : c.maxLocals = nL) (hown : s.vm.findClass own = some m.cls) (hts : ∀ w ∈ Ts, w.before args s = true) (hK : KW D T s) (hP : va_P D vwCl ws H) (hD : va_D A ws) (hs : kSplit ws wc wr isC isR)
    (hM : ∀ sz, Met l y wy rm (va_Pc (.ref b :: As) (PW D T sz wc)) (Qc sz) mc ms (va_A wc sz)) (cw : CallB R s args own index y bytes maxL none wy rm mc ms n ∧ y.name = "<init>" ∧ (Cond.instanceMethod y).before args s = true)
    (hn : As.length = n) (hl : ls.size = nL) (hst : st0 = As.reverse ++ .ref b :: rest) (hroom : (rest.map fun v => v.category).sum ≤ 8) (hdg : decode cc pc = .ok (.invokespecial index, 3)) (hf : cells + mc ≤ R.cells ∧ slots + ms ≤ R.slots) :
    va_Run p l e R s m args below meth c H locs cells slots mc ms (F0 m pc ls st0) rest (Qc H.size (.ref b :: As).toArray) (va_A wc H.size) := by
  obtain ⟨hC, hC2, hnC, -⟩ := hs
  exact va_runI (g := F0 m pc ls st0) ⟨hx, hb, hml, hown, hts⟩ (hM H.size) cw ⟨PW.blind, PW.at hK (hP.sub isC hC2) (hD.sub isC hnC hC)⟩ rfl hn hl hst (lv_room hroom) hdg hf
end KN
