/-! rows of makers -/
def τ0 : MS := fun k _ => match k with
  | 0 => 5
  | 1 => 3
  | _ => 0
def σ0 : MS := fun _ _ => 0
section MI
variable {p : Program} {l : Launch} {e : Env} {R : Room} {s : State} {m : MethodId} {args : Array Value} {below : List Frame} {meth : Method} {c : Code} {H : Heap} {locs : List Loc} {cells slots : Nat} {Q : State → Prop}
variable {cc : ByteArray} {pc : Nat} {ls : Array Slot} {rest : List Value} {D : va_G} {A : Nat → Prop} {a : Nat} {tys : List (ClassId × FieldType)} {ws : va_W} {nL index : Nat} {own : String}
theorem g_objInit (hx : p.tables.exec = Jvm.exec) (hb : c.code = cc) (hown : s.vm.findClass own = some m.cls) (hml : c.maxLocals = nL) (hsize : ls.size = nL) (hlink : (Cond.methodLink own index Lib.objectInit).before args s = true) (hinst : (Cond.instanceMethod Lib.objectInit).before args s = true) (hcode : (Cond.code Lib.objectInit ⟨#[0xb1]⟩ 1 none).before args s = true) (hdg : decode cc pc = .ok (.invokespecial index, 3)) (hfr : 1 ≤ R.frames) (hlo : (rest.map fun v => v.category).sum + 12 ≤ R.locals)
    (k : W p l e R s m args below meth c H locs cells slots Q (F0 m (pc + 3) ls rest)) : W p l e R s m args below meth c H locs cells slots Q (F0 m pc ls (.ref a :: rest)) :=
  W.objInit hx hb hown hlink hinst hcode rfl (hsize.trans hml.symm) rfl hdg hfr (by show 2 * 0 + _ + 12 ≤ _; omega) k
theorem g_putF {ref C : String} {T : u_T} {N ci : Nat} {Ts : List Cond} (hx : p.tables.exec = Jvm.exec) (hb : c.code = cc) (hts : ∀ w ∈ Ts, w.before args s = true) (hin : ∀ w ∈ u_ws C T N, w ∈ Ts) (ty0 : Nat → FieldType) (hty : ∀ k, k < N → parseFieldDescriptor (T k).2.2.1 = some (ty0 k)) (hnm : ∀ a, a < N → ∀ b, b < N → a ≠ b → (T a).2.1 ≠ (T b).2.1) (hown : s.vm.findClass own = some m.cls) (hin2 : meth.name = "<init>") (hK : va_K D vwCl tys s) (hB : Bd D tys A s ws H locs) (q0 : Nat) {fs : List Value} (he : ws[q0]? = some (a, .inr (ci, fs))) (hc : vwCl[ci]? = some (C, T, N)) (k : Nat) (hk : Nat.blt k N = true) (hlink : (Cond.fieldLink own index ref (T k).2.1 (T k).2.2.1).before args s = true) (hsame : (T k).1 = ref) (hdecl : (T k).1 = own) (hfin : (T k).2.2.2 = true) {ty : FieldType} {v : Value} (hd : ty0 k = ty) (hn : narrow ty v = v) (hfit : fits ty v = true) (hl : Nat.blt k fs.length = true) (hdg : decode cc pc = .ok (.putfield index, 3)) {w2 : va_W} (hw : ws.set q0 (a, .inr (ci, fs.set k v)) = w2)
    (kk : ∀ (H : Heap) (locs : List Loc), Bd D tys A s w2 H locs → W p l e R s m args below meth c H locs cells slots Q (F0 m (pc + 3) ls rest)) : W p l e R s m args below meth c H locs cells slots Q (F0 m pc ls (v :: .ref a :: rest)) := by
  refine va_putF hx hb hts hin ty0 hty hnm hown hK hB.1 hB.2.1 hB.2.2 q0 he hc k (Nat.le_of_ble_eq_true hk) hlink (fun _ h => by rw [← hsame]; exact h) hfin hin2 hdecl (by rw [hty k (Nat.le_of_ble_eq_true hk), hd]) hn hfit (Nat.le_of_ble_eq_true hl) hdg (fun H locs hP hD hS => ?_)
  rw [hw] at hP hD
  exact kk H locs ⟨hP, hD, hS⟩
theorem g_newa {atype : ArrayType} {ty : FieldType} {cA : ClassId} (t0 : Nat) (ht : tys[t0]? = some (cA, ty)) (hx : p.tables.exec = Jvm.exec) (hb : c.code = cc) (harr : (Cond.arrayClass (newarray.typeOf atype)).before args s = true) (hty : newarray.typeOf atype = ty) (hK : va_K D vwCl tys s) (hB : Bd D tys A s ws H locs) (hA : ∀ q, s.heap.size ≤ q → A q) {n : Int32} (N' : Nat) (hdef : ∀ c : ClassId, vp_cell c (N', .inl (fun _ => 0)) = arrV c N' (fun _ => defaultValue ty)) (hra : ∀ c : ClassId, va_RA s c ty → s.vm.findClass ("[" ++ ty.toString) = some c) (hn : ¬ n < 0) (hN : n.toNatClampNeg = N') (hbytes : N' * componentBytes ty ≤ 536870912) (hcells : cells + 1 ≤ R.cells) (hslots : slots + N' ≤ R.slots) (hdg : decode cc pc = .ok (.newarray atype, 2))
    (kk : ∀ (q : Nat) (H : Heap) (locs : List Loc), Bd D tys A s (ws ++ [(q, .inl (cA, N', .inl (fun _ => 0)))]) H locs → W p l e R s m args below meth c H locs (cells + 1) (slots + N') Q (F0 m (pc + 2) ls (.ref q :: rest))) : W p l e R s m args below meth c H locs cells slots Q (F0 m pc ls (.int n :: rest)) := by
  refine va_newa hx hb harr hty hK hB.1 hB.2.1 hB.2.2 hA hdef hn hN hbytes hcells hslots hdg (fun q c2 H1 hK1 hP1 hD1 hS1 => ?_)
  have h1 := hra _ (hK.2 t0 _ ht).2
  have h2 := hra _ (hK1.2 tys.length (c2, ty) (by simp)).2
  have e : c2 = cA := Option.some.inj (h2.symm.trans h1)
  subst e
  exact kk q H1 locs ⟨hP1, hD1, hS1⟩
theorem g_new {C : String} {T : u_T} {N ci : Nat} {Ts : List Cond} (hx : p.tables.exec = Jvm.exec) (hb : c.code = cc) (hts : ∀ w ∈ Ts, w.before args s = true) (hin : ∀ w ∈ u_ws C T N, w ∈ Ts) (ty : Nat → FieldType) (hty : ∀ k, k < N → parseFieldDescriptor (T k).2.2.1 = some (ty k)) (hown : s.vm.findClass own = some m.cls) (hcl : (Cond.classLink own index C).before args s = true) (hinst : (Cond.instantiable C N).before args s = true) (hini : (Cond.initialized C).before args s = true) (hK : va_K D vwCl tys s) (hB : Bd D tys A s ws H locs) (hA : ∀ q, s.heap.size ≤ q → A q) (hc : vwCl[ci]? = some (C, T, N)) (fs : List Value) (hfs : ∀ j, j < N → defaultValue (ty j) = vp_V fs j) (hcells : cells + 1 ≤ R.cells) (hslots : slots + N ≤ R.slots) (hdg : decode cc pc = .ok (.new index, 3))
    (kk : ∀ (q : Nat) (H : Heap) (locs : List Loc), Bd D tys A s (ws ++ [(q, .inr (ci, fs))]) H locs → W p l e R s m args below meth c H locs (cells + 1) (slots + N) Q (F0 m (pc + 3) ls (.ref q :: rest))) : W p l e R s m args below meth c H locs cells slots Q (F0 m pc ls rest) :=
  va_new hx hb hts hin ty hty hown hcl hinst hini hK hB.1 hB.2.1 hB.2.2 hA hc hfs hcells hslots hdg (fun q H1 hP hD hS => kk q H1 locs ⟨hP, hD, hS⟩)
theorem g_vretX {S : Type} {w0 : va_W} {w1 : S → va_W} {u : S} {post : S → Prop} {mc ms : Nat} (hx : p.tables.exec = Jvm.exec) (hb : c.code = cc) (hr : meth.sig.returnType = none) (hlocks : meth.locks = false) (hK : va_K D vwCl tys s) (hB : Bd D tys (va_A w0 s.heap.size) s (w1 u) H locs) (hp : post u) (hc : cells ≤ mc) (hs : slots ≤ ms) (hdg : decode cc pc = .ok (.return_, 1)) : W p l e R s m args below meth c H locs cells slots (MQ below (va_Qv post (fun u t => va_P D vwCl (w1 u) t.heap ∧ va_K D vwCl tys t ∧ va_D (va_A w0 s.heap.size) (w1 u)) (va_A w0 s.heap.size)) args s mc ms (va_A w0 s.heap.size)) (F0 m pc ls []) :=
  W.widen (k := mc) (n := ms) hc hs (W.vret hx hb hr (fun t ht hW => ⟨⟨u, rfl, hp, by rw [ht]; exact hB.1, va_K.moved hW.alike hK, hB.2.1⟩, hB.2.2.F ht⟩) hB.2.2.2.2 hdg)
theorem g_icall {S : Type} {y : MethodName} {bytes : ByteArray} {maxL mc ms n : Nat} {wsy : List Cond} {rm : Room} {Ts : List Cond} {b : Addr} {As : List Value} {st0 : List Value} {wc wr : va_W} {w1 : S → va_W} {post : S → Prop} {tysc : List (ClassId × FieldType)} (S0 : CallFix p m c cc nL s args Ts own) (hM : Met l y wsy rm (PcF D tysc wc H.size (.ref b :: As)) (va_Qv post (fun u t => va_P D vwCl (w1 u) t.heap ∧ va_K D vwCl tysc t ∧ va_D (va_A wc H.size) (w1 u)) (va_A wc H.size)) mc ms (va_A wc H.size)) (cw : CallB R s args own index y bytes maxL none wsy rm mc ms n ∧ y.name = "<init>" ∧ (Cond.instanceMethod y).before args s = true) (hKc : va_K D vwCl tysc s) (hB0 : Bd D tys A s ws H locs) (hA : ∀ q, s.heap.size ≤ q → A q) (hp1 : ws.Perm (wc ++ wr))
    (hn : As.length = n) (hsize : ls.size = nL) (hstack : st0 = As.reverse ++ .ref b :: rest) (hW : (rest.map fun v => v.category).sum ≤ 8) (hdg : decode cc pc = .ok (.invokespecial index, 3)) (hf : cells + mc ≤ R.cells ∧ slots + ms ≤ R.slots)
    (k : ∀ (u : S) (H : Heap) (locs : List Loc), post u → Bd D tys A s (w1 u ++ wr) H locs → W p l e R s m args below meth c H locs (cells + mc) (slots + ms) Q (F0 m (pc + 3) ls rest)) : W p l e R s m args below meth c H locs cells slots Q (F0 m pc ls st0) := by
  have hB := hB0.perm hp1
  have hF := keep_left hB hA
  have hp := pcut_pre hB hKc (.ref b :: As)
  refine va_callv (va_runI S0 hM cw hp rfl hn hsize hstack (lv_room hW) hdg hf) hB.2.2 (fun q _ h => hF q h) hF (fun u t H1 locs1 ht hvm hpu hBt hz hk hS => ?_)
  obtain ⟨hP1, -, hD1⟩ := hBt
  rw [ht] at hP1
  exact k u H1 locs1 hpu (pcut_back hB hF hk hP1 hD1 hS)
theorem g_icallN {host : String} {S : Type} {y : MethodName} {bytes : ByteArray} {maxL mc ms n : Nat} {wsy : List Cond} {rm : Room} {Ts : List Cond} {b : Addr} {As : List Value} {st0 : List Value} {wc wr : va_W} {w1 : S → va_W} {post : S → Prop} {tysc : List (ClassId × FieldType)} (S0 : CallFix p m c cc nL s args Ts own) (hM : Met l y wsy rm (PcF D tysc wc H.size (.ref b :: As)) (va_Qv post (fun u t => va_P D vwCl (w1 u) t.heap ∧ va_K D vwCl tysc t ∧ va_D (va_A wc H.size) (w1 u)) (va_A wc H.size)) mc ms (va_A wc H.size)) (cw : va_CN R s args own index y host bytes maxL none wsy rm mc ms n ∧ y.name = "<init>" ∧ (Cond.instanceMethod y).before args s = true) (hKc : va_K D vwCl tysc s) (hB0 : Bd D tys A s ws H locs) (hA : ∀ q, s.heap.size ≤ q → A q) (hp1 : ws.Perm (wc ++ wr))
    (hn : As.length = n) (hsize : ls.size = nL) (hstack : st0 = As.reverse ++ .ref b :: rest) (hW : (rest.map fun v => v.category).sum ≤ 8) (hdg : decode cc pc = .ok (.invokespecial index, 3)) (hf : cells + mc ≤ R.cells ∧ slots + ms ≤ R.slots)
    (k : ∀ (u : S) (H : Heap) (locs : List Loc), post u → Bd D tys A s (w1 u ++ wr) H locs → W p l e R s m args below meth c H locs (cells + mc) (slots + ms) Q (F0 m (pc + 3) ls rest)) : W p l e R s m args below meth c H locs cells slots Q (F0 m pc ls st0) := by
  have hB := hB0.perm hp1
  have hF := keep_left hB hA
  have hp := pcut_pre hB hKc (.ref b :: As)
  refine va_callv (va_runIN S0 hM cw hp rfl hn hsize hstack (lv_room hW) hdg hf) hB.2.2 (fun q _ h => hF q h) hF (fun u t H1 locs1 ht hvm hpu hBt hz hk hS => ?_)
  obtain ⟨hP1, -, hD1⟩ := hBt
  rw [ht] at hP1
  exact k u H1 locs1 hpu (pcut_back hB hF hk hP1 hD1 hS)
theorem g_newq {C : String} {cA : ClassId} (t0 : Nat) (ht : tys[t0]? = some (cA, .object C)) (hx : p.tables.exec = Jvm.exec) (hb : c.code = cc) (hown : s.vm.findClass own = some m.cls) (hcl : (Cond.classLink own index C).before args s = true) (hAO : va_AO C s) (hK : va_K D vwCl tys s) (hB : Bd D tys A s ws H locs) (hA : ∀ q, s.heap.size ≤ q → A q) {n : Int32} (N' : Nat) (hn : ¬ n < 0) (hN : n.toNatClampNeg = N') (hbytes : N' * 4 ≤ 536870912) (hcells : cells + 1 ≤ R.cells) (hslots : slots + N' ≤ R.slots) (hdg : decode cc pc = .ok (.anewarray index, 3))
    (kk : ∀ (q : Nat) (H : Heap) (locs : List Loc), Bd D tys A s (ws ++ [(q, .inl (cA, N', .inr (.inr (.inr (.inr (fun _ => none))))))]) H locs → W p l e R s m args below meth c H locs (cells + 1) (slots + N') Q (F0 m (pc + 3) ls (.ref q :: rest))) : W p l e R s m args below meth c H locs cells slots Q (F0 m pc ls (.int n :: rest)) := by
  refine va_newq hx hb hown hcl hAO hK hB.1 hB.2.1 hB.2.2 hA hn hN hbytes hcells hslots hdg (fun q c2 H1 hK1 hP1 hD1 hS1 => ?_)
  obtain ⟨-, -, -, -, -, h1⟩ := (hK.2 t0 _ ht).2
  obtain ⟨-, -, -, -, -, h2⟩ := (hK1.2 tys.length (c2, .object C) (by simp)).2
  have e : c2 = cA := Option.some.inj (h2.symm.trans h1)
  subst e
  exact kk q H1 locs ⟨hP1, hD1, hS1⟩
theorem g_astq (hx : p.tables.exec = Jvm.exec) (hb : c.code = cc) (hK : va_K D vwCl tys s) (hB : Bd D tys A s ws H locs) (q0 t0 qk ci : Nat) {cA : ClassId} {r : vw_C} {n v : Nat} {vs : List Value} {f : Nat → Option Nat} (ha : ws[q0]? = some (a, .inl (cA, n, .inr (.inr (.inr (.inr f)))))) (ht : tys[t0]? = some (cA, .object r.1)) (hv : ws[qk]? = some (v, .inr (ci, vs))) (hc : vwCl[ci]? = some r) {i : Int32} (hin : vp_in i n) (hdg : decode cc pc = .ok (.aastore, 1)) {w2 : va_W} (hw : ws.set q0 (a, .inl (cA, n, .inr (.inr (.inr (.inr (va_up f i.toNatClampNeg (some v))))))) = w2)
    (kk : ∀ (H : Heap) (locs : List Loc), Bd D tys A s w2 H locs → W p l e R s m args below meth c H locs cells slots Q (F0 m (pc + 1) ls rest)) : W p l e R s m args below meth c H locs cells slots Q (F0 m pc ls (.ref v :: .int i :: .ref a :: rest)) := by
  refine va_astq hx hb hK hB.1 hB.2.1 hB.2.2 q0 t0 qk ci ha ht hv hc hin hdg (fun H locs hP hD hS => ?_)
  rw [hw] at hP hD
  exact kk H locs ⟨hP, hD, hS⟩
theorem va_AOA.warm {ty : FieldType} {s U : State} (hW : s.WarmedH U.vm) (h : va_AOA ty s) : va_AOA ty U := by
  have h1 : (Cond.arrayOver (.array ty)).before #[] (s.setVm U.vm) = true := (Cond.arrayOver_setVmC hW.alike (.array ty)).trans h
  exact h1
theorem va_AO.warm {C : String} {s U : State} (hW : s.WarmedH U.vm) (h : va_AO C s) : va_AO C U := va_AO.moved hW.alike h
end MI
abbrev rmX0_init : Room := { frames := 1, cells := 12, slots := 284, locals := 12 }
set_option maxHeartbeats 8000000 in
set_option maxRecDepth 100000 in
theorem kX0_init (l : Launch) (dC : Nat → ClassId) (dI : Nat → Nat → Nat) (cyI : ClassId) (h0 : Nat) (sz : Nat) : Met l yX0_init wsX0_init rmX0_init (PcF (dC, dI) [(cyI, .int)] [(h0, .inr (0, [.int 0, .int 0, .int 0, .null, .null, .int 0, .null, .null, .null, .null, .int 0, .null, .null, .null, .null, .null, .null]))] sz [.ref h0]) (va_Qv (fun u : Nat → Nat => u 0 = h0) (fun u t => va_P (dC, dI) vwCl (cS cyI u τ0) t.heap ∧ va_K (dC, dI) vwCl [(cyI, .int)] t ∧ va_D (va_A [(h0, .inr (0, [.int 0, .int 0, .int 0, .null, .null, .int 0, .null, .null, .null, .null, .int 0, .null, .null, .null, .null, .null, .null]))] sz) (cS cyI u τ0)) (va_A [(h0, .inr (0, [.int 0, .int 0, .int 0, .null, .null, .int 0, .null, .null, .null, .null, .int 0, .null, .null, .null, .null, .null, .null]))] sz)) 12 284 (va_A [(h0, .inr (0, [.int 0, .int 0, .int 0, .null, .null, .int 0, .null, .null, .null, .null, .int 0, .null, .null, .null, .null, .null, .null]))] sz) := by
  refine Met.ofW (cc := cX0_init) (maxL := 1) (ret := none) (by decide) rfl ?_
  intro p e s m args below meth c s₁ B hml hv
  obtain ⟨rfl, hsz, hP, hK, hD0⟩ := hv
  have hx := B.exec
  have hb := B.bytes
  have hr := B.returns
  have hts := atoms_spec (ws := wsX0_init) B.pre
  have hown : s.vm.findClass RX0 = some m.cls := findClass_of_methodNamed B.named
  have hlocks := B.notSynchronized
  have hin9 : meth.name = "<init>" := (name_of_methodNamed B.named B.method).1
  subst hsz
  have hA : ∀ q : Nat, s.heap.size ≤ q → va_A [(h0, .inr (0, [.int 0, .int 0, .int 0, .null, .null, .int 0, .null, .null, .null, .null, .int 0, .null, .null, .null, .null, .null, .null]))] s.heap.size q := fun q h => Or.inr h
  have hB : Bd (dC, dI) [(cyI, .int)] (va_A [(h0, .inr (0, [.int 0, .int 0, .int 0, .null, .null, .int 0, .null, .null, .null, .null, .int 0, .null, .null, .null, .null, .null, .null]))] s.heap.size) s [(h0, .inr (0, [.int 0, .int 0, .int 0, .null, .null, .int 0, .null, .null, .null, .null, .int 0, .null, .null, .null, .null, .null, .null]))] s.heap [] := ⟨hP, hD0.self, va_S.rf⟩
  have hq1 : (Cond.methodLink RX0 3 objectInit).before _ s = true := hts _ (List.mem_of_getElem? (i := 1) rfl)
  have hq2 : (Cond.instanceMethod objectInit).before _ s = true := hts _ (List.mem_of_getElem? (i := 2) rfl)
  have hq3 : (Cond.code objectInit ⟨#[0xb1]⟩ 1 none).before _ s = true := hts _ (List.mem_of_getElem? (i := 3) rfl)
  have hq4 : (Cond.fieldLink RX0 9 "UndoJourneys$Setup" "wait" "I").before _ s = true := hts _ (List.mem_of_getElem? (i := 4) rfl)
  have hq5 : (Cond.fieldLink RX0 15 "UndoJourneys$Setup" "patience" "I").before _ s = true := hts _ (List.mem_of_getElem? (i := 5) rfl)
  have hq6 : (Cond.fieldLink RX0 18 "UndoJourneys$Setup" "stocks" "I").before _ s = true := hts _ (List.mem_of_getElem? (i := 6) rfl)
  have hq7 : (Cond.arrayClass .int).before _ s = true := hts _ (List.mem_of_getElem? (i := 7) rfl)
  have hq8 : (Cond.fieldLink RX0 21 "UndoJourneys$Setup" "firstLevel" "[I").before _ s = true := hts _ (List.mem_of_getElem? (i := 8) rfl)
  have hq9 : (Cond.fieldLink RX0 25 "UndoJourneys$Setup" "guard" "[I").before _ s = true := hts _ (List.mem_of_getElem? (i := 9) rfl)
  have hq10 : (Cond.fieldLink RX0 28 "UndoJourneys$Setup" "journeys" "I").before _ s = true := hts _ (List.mem_of_getElem? (i := 10) rfl)
  have hq11 : (Cond.fieldLink RX0 31 "UndoJourneys$Setup" "start" "[I").before _ s = true := hts _ (List.mem_of_getElem? (i := 11) rfl)
  have hq12 : (Cond.fieldLink RX0 34 "UndoJourneys$Setup" "stageCount" "[I").before _ s = true := hts _ (List.mem_of_getElem? (i := 12) rfl)
  have hq13 : (Cond.fieldLink RX0 37 "UndoJourneys$Setup" "firstStep" "[I").before _ s = true := hts _ (List.mem_of_getElem? (i := 13) rfl)
  have hq14 : (Cond.fieldLink RX0 40 "UndoJourneys$Setup" "endStep" "[I").before _ s = true := hts _ (List.mem_of_getElem? (i := 14) rfl)
  have hq15 : (Cond.fieldLink RX0 43 "UndoJourneys$Setup" "steps" "I").before _ s = true := hts _ (List.mem_of_getElem? (i := 15) rfl)
  have hq16 : (Cond.fieldLink RX0 46 "UndoJourneys$Setup" "stageOf" "[I").before _ s = true := hts _ (List.mem_of_getElem? (i := 16) rfl)
  have hq17 : (Cond.fieldLink RX0 49 "UndoJourneys$Setup" "stockOf" "[I").before _ s = true := hts _ (List.mem_of_getElem? (i := 17) rfl)
  have hq18 : (Cond.fieldLink RX0 52 "UndoJourneys$Setup" "amount" "[I").before _ s = true := hts _ (List.mem_of_getElem? (i := 18) rfl)
  have hq19 : (Cond.fieldLink RX0 55 "UndoJourneys$Setup" "duration" "[I").before _ s = true := hts _ (List.mem_of_getElem? (i := 19) rfl)
  have hq20 : (Cond.fieldLink RX0 58 "UndoJourneys$Setup" "failures" "[I").before _ s = true := hts _ (List.mem_of_getElem? (i := 20) rfl)
  have hq21 : (Cond.fieldLink RX0 61 "UndoJourneys$Setup" "repeats" "[I").before _ s = true := hts _ (List.mem_of_getElem? (i := 21) rfl)
  have hinX0 : ∀ w ∈ wsX00, w ∈ wsX0_init := fun w h => List.mem_cons_of_mem _ (List.mem_append_right _ h)
  have hl := lv_entry [.ref h0] (n := 1) (Nat.le_of_ble_eq_true rfl)
  rw [lg_entry_eq]
  generalize (lg_sl [.ref h0] ++ List.replicate (1 - (lg_sl [.ref h0]).length) Slot.unset).toArray = ls at hl ⊢
  have hl : lv_has ls 1 [(0, .ref h0)] := hl
  refine lv_aload_n hx hb dX0_init_0 rfl (lv_at hl 0 rfl) ?_
  refine g_objInit hx hb hown hml hl.1 hq1 hq2 hq3 dX0_init_1 (Nat.le_of_ble_eq_true rfl) (Nat.le_of_ble_eq_true rfl) ?_
  refine lv_aload_n hx hb dX0_init_4 rfl (lv_at hl 0 rfl) ?_
  refine lv_iconst (v := (5 : Int32)) hx hb dX0_init_5 (by decide) ?_
  refine g_put (C := RX0) (T := TX0) (N := 17) hx hb hts hinX0 tyX0 tyX0_ok nmX0 hown hK hB 0 rfl rfl 0 rfl hq4 rfl rfl rfl rfl rfl rfl dX0_init_6 (w2 := [(h0, .inr (0, [.int (5 : Int32), .int 0, .int 0, .null, .null, .int 0, .null, .null, .null, .null, .int 0, .null, .null, .null, .null, .null, .null]))]) rfl (fun H locs hB => ?_)
  refine lv_aload_n hx hb dX0_init_9 rfl (lv_at hl 0 rfl) ?_
  refine lv_iconst (v := (3 : Int32)) hx hb dX0_init_10 (by decide) ?_
  refine g_put (C := RX0) (T := TX0) (N := 17) hx hb hts hinX0 tyX0 tyX0_ok nmX0 hown hK hB 0 rfl rfl 1 rfl hq5 rfl rfl rfl rfl rfl rfl dX0_init_11 (w2 := [(h0, .inr (0, [.int (5 : Int32), .int (3 : Int32), .int 0, .null, .null, .int 0, .null, .null, .null, .null, .int 0, .null, .null, .null, .null, .null, .null]))]) rfl (fun H locs hB => ?_)
  refine lv_aload_n hx hb dX0_init_14 rfl (lv_at hl 0 rfl) ?_
  refine lv_iconst (v := (0 : Int32)) hx hb dX0_init_15 (by decide) ?_
  refine g_put (C := RX0) (T := TX0) (N := 17) hx hb hts hinX0 tyX0 tyX0_ok nmX0 hown hK hB 0 rfl rfl 2 rfl hq6 rfl rfl rfl rfl rfl rfl dX0_init_16 (w2 := [(h0, .inr (0, [.int (5 : Int32), .int (3 : Int32), .int (0 : Int32), .null, .null, .int 0, .null, .null, .null, .null, .int 0, .null, .null, .null, .null, .null, .null]))]) rfl (fun H locs hB => ?_)
  refine lv_aload_n hx hb dX0_init_19 rfl (lv_at hl 0 rfl) ?_
  refine lv_bipush (v := (6 : Int32)) hx hb dX0_init_20 (by decide) ?_
  refine g_newa (atype := .int) (cA := cyI) 0 rfl hx hb hq7 rfl hK hB hA 6 (fun _ => rfl) (fun _ h => h) (by decide) (by decide) (Nat.le_of_ble_eq_true rfl) (Nat.le_of_ble_eq_true rfl) (Nat.le_of_ble_eq_true rfl) dX0_init_22 (fun q1 H locs hB => ?_)
  refine g_putF (C := RX0) (T := TX0) (N := 17) hx hb hts hinX0 tyX0 tyX0_ok nmX0 hown hin9 hK hB 0 rfl rfl 3 rfl hq8 rfl rfl rfl rfl rfl rfl rfl dX0_init_24 (w2 := [(h0, .inr (0, [.int (5 : Int32), .int (3 : Int32), .int (0 : Int32), .ref q1, .null, .int 0, .null, .null, .null, .null, .int 0, .null, .null, .null, .null, .null, .null])), (q1, .inl (cyI, 6, .inl (fun _ => 0)))]) rfl (fun H locs hB => ?_)
  refine lv_aload_n hx hb dX0_init_27 rfl (lv_at hl 0 rfl) ?_
  refine lv_bipush (v := (6 : Int32)) hx hb dX0_init_28 (by decide) ?_
  refine g_newa (atype := .int) (cA := cyI) 0 rfl hx hb hq7 rfl hK hB hA 6 (fun _ => rfl) (fun _ h => h) (by decide) (by decide) (Nat.le_of_ble_eq_true rfl) (Nat.le_of_ble_eq_true rfl) (Nat.le_of_ble_eq_true rfl) dX0_init_30 (fun q2 H locs hB => ?_)
  refine g_putF (C := RX0) (T := TX0) (N := 17) hx hb hts hinX0 tyX0 tyX0_ok nmX0 hown hin9 hK hB 0 rfl rfl 4 rfl hq9 rfl rfl rfl rfl rfl rfl rfl dX0_init_32 (w2 := [(h0, .inr (0, [.int (5 : Int32), .int (3 : Int32), .int (0 : Int32), .ref q1, .ref q2, .int 0, .null, .null, .null, .null, .int 0, .null, .null, .null, .null, .null, .null])), (q1, .inl (cyI, 6, .inl (fun _ => 0))), (q2, .inl (cyI, 6, .inl (fun _ => 0)))]) rfl (fun H locs hB => ?_)
  refine lv_aload_n hx hb dX0_init_35 rfl (lv_at hl 0 rfl) ?_
  refine lv_iconst (v := (0 : Int32)) hx hb dX0_init_36 (by decide) ?_
  refine g_put (C := RX0) (T := TX0) (N := 17) hx hb hts hinX0 tyX0 tyX0_ok nmX0 hown hK hB 0 rfl rfl 5 rfl hq10 rfl rfl rfl rfl rfl rfl dX0_init_37 (w2 := [(h0, .inr (0, [.int (5 : Int32), .int (3 : Int32), .int (0 : Int32), .ref q1, .ref q2, .int (0 : Int32), .null, .null, .null, .null, .int 0, .null, .null, .null, .null, .null, .null])), (q1, .inl (cyI, 6, .inl (fun _ => 0))), (q2, .inl (cyI, 6, .inl (fun _ => 0)))]) rfl (fun H locs hB => ?_)
  refine lv_aload_n hx hb dX0_init_40 rfl (lv_at hl 0 rfl) ?_
  refine lv_bipush (v := (8 : Int32)) hx hb dX0_init_41 (by decide) ?_
  refine g_newa (atype := .int) (cA := cyI) 0 rfl hx hb hq7 rfl hK hB hA 8 (fun _ => rfl) (fun _ h => h) (by decide) (by decide) (Nat.le_of_ble_eq_true rfl) (Nat.le_of_ble_eq_true rfl) (Nat.le_of_ble_eq_true rfl) dX0_init_43 (fun q3 H locs hB => ?_)
  refine g_putF (C := RX0) (T := TX0) (N := 17) hx hb hts hinX0 tyX0 tyX0_ok nmX0 hown hin9 hK hB 0 rfl rfl 6 rfl hq11 rfl rfl rfl rfl rfl rfl rfl dX0_init_45 (w2 := [(h0, .inr (0, [.int (5 : Int32), .int (3 : Int32), .int (0 : Int32), .ref q1, .ref q2, .int (0 : Int32), .ref q3, .null, .null, .null, .int 0, .null, .null, .null, .null, .null, .null])), (q1, .inl (cyI, 6, .inl (fun _ => 0))), (q2, .inl (cyI, 6, .inl (fun _ => 0))), (q3, .inl (cyI, 8, .inl (fun _ => 0)))]) rfl (fun H locs hB => ?_)
  refine lv_aload_n hx hb dX0_init_48 rfl (lv_at hl 0 rfl) ?_
  refine lv_bipush (v := (8 : Int32)) hx hb dX0_init_49 (by decide) ?_
  refine g_newa (atype := .int) (cA := cyI) 0 rfl hx hb hq7 rfl hK hB hA 8 (fun _ => rfl) (fun _ h => h) (by decide) (by decide) (Nat.le_of_ble_eq_true rfl) (Nat.le_of_ble_eq_true rfl) (Nat.le_of_ble_eq_true rfl) dX0_init_51 (fun q4 H locs hB => ?_)
  refine g_putF (C := RX0) (T := TX0) (N := 17) hx hb hts hinX0 tyX0 tyX0_ok nmX0 hown hin9 hK hB 0 rfl rfl 7 rfl hq12 rfl rfl rfl rfl rfl rfl rfl dX0_init_53 (w2 := [(h0, .inr (0, [.int (5 : Int32), .int (3 : Int32), .int (0 : Int32), .ref q1, .ref q2, .int (0 : Int32), .ref q3, .ref q4, .null, .null, .int 0, .null, .null, .null, .null, .null, .null])), (q1, .inl (cyI, 6, .inl (fun _ => 0))), (q2, .inl (cyI, 6, .inl (fun _ => 0))), (q3, .inl (cyI, 8, .inl (fun _ => 0))), (q4, .inl (cyI, 8, .inl (fun _ => 0)))]) rfl (fun H locs hB => ?_)
  refine lv_aload_n hx hb dX0_init_56 rfl (lv_at hl 0 rfl) ?_
  refine lv_bipush (v := (8 : Int32)) hx hb dX0_init_57 (by decide) ?_
  refine g_newa (atype := .int) (cA := cyI) 0 rfl hx hb hq7 rfl hK hB hA 8 (fun _ => rfl) (fun _ h => h) (by decide) (by decide) (Nat.le_of_ble_eq_true rfl) (Nat.le_of_ble_eq_true rfl) (Nat.le_of_ble_eq_true rfl) dX0_init_59 (fun q5 H locs hB => ?_)
  refine g_putF (C := RX0) (T := TX0) (N := 17) hx hb hts hinX0 tyX0 tyX0_ok nmX0 hown hin9 hK hB 0 rfl rfl 8 rfl hq13 rfl rfl rfl rfl rfl rfl rfl dX0_init_61 (w2 := [(h0, .inr (0, [.int (5 : Int32), .int (3 : Int32), .int (0 : Int32), .ref q1, .ref q2, .int (0 : Int32), .ref q3, .ref q4, .ref q5, .null, .int 0, .null, .null, .null, .null, .null, .null])), (q1, .inl (cyI, 6, .inl (fun _ => 0))), (q2, .inl (cyI, 6, .inl (fun _ => 0))), (q3, .inl (cyI, 8, .inl (fun _ => 0))), (q4, .inl (cyI, 8, .inl (fun _ => 0))), (q5, .inl (cyI, 8, .inl (fun _ => 0)))]) rfl (fun H locs hB => ?_)
  refine lv_aload_n hx hb dX0_init_64 rfl (lv_at hl 0 rfl) ?_
  refine lv_bipush (v := (8 : Int32)) hx hb dX0_init_65 (by decide) ?_
  refine g_newa (atype := .int) (cA := cyI) 0 rfl hx hb hq7 rfl hK hB hA 8 (fun _ => rfl) (fun _ h => h) (by decide) (by decide) (Nat.le_of_ble_eq_true rfl) (Nat.le_of_ble_eq_true rfl) (Nat.le_of_ble_eq_true rfl) dX0_init_67 (fun q6 H locs hB => ?_)
  refine g_putF (C := RX0) (T := TX0) (N := 17) hx hb hts hinX0 tyX0 tyX0_ok nmX0 hown hin9 hK hB 0 rfl rfl 9 rfl hq14 rfl rfl rfl rfl rfl rfl rfl dX0_init_69 (w2 := [(h0, .inr (0, [.int (5 : Int32), .int (3 : Int32), .int (0 : Int32), .ref q1, .ref q2, .int (0 : Int32), .ref q3, .ref q4, .ref q5, .ref q6, .int 0, .null, .null, .null, .null, .null, .null])), (q1, .inl (cyI, 6, .inl (fun _ => 0))), (q2, .inl (cyI, 6, .inl (fun _ => 0))), (q3, .inl (cyI, 8, .inl (fun _ => 0))), (q4, .inl (cyI, 8, .inl (fun _ => 0))), (q5, .inl (cyI, 8, .inl (fun _ => 0))), (q6, .inl (cyI, 8, .inl (fun _ => 0)))]) rfl (fun H locs hB => ?_)
  refine lv_aload_n hx hb dX0_init_72 rfl (lv_at hl 0 rfl) ?_
  refine lv_iconst (v := (0 : Int32)) hx hb dX0_init_73 (by decide) ?_
  refine g_put (C := RX0) (T := TX0) (N := 17) hx hb hts hinX0 tyX0 tyX0_ok nmX0 hown hK hB 0 rfl rfl 10 rfl hq15 rfl rfl rfl rfl rfl rfl dX0_init_74 (w2 := [(h0, .inr (0, [.int (5 : Int32), .int (3 : Int32), .int (0 : Int32), .ref q1, .ref q2, .int (0 : Int32), .ref q3, .ref q4, .ref q5, .ref q6, .int (0 : Int32), .null, .null, .null, .null, .null, .null])), (q1, .inl (cyI, 6, .inl (fun _ => 0))), (q2, .inl (cyI, 6, .inl (fun _ => 0))), (q3, .inl (cyI, 8, .inl (fun _ => 0))), (q4, .inl (cyI, 8, .inl (fun _ => 0))), (q5, .inl (cyI, 8, .inl (fun _ => 0))), (q6, .inl (cyI, 8, .inl (fun _ => 0)))]) rfl (fun H locs hB => ?_)
  refine lv_aload_n hx hb dX0_init_77 rfl (lv_at hl 0 rfl) ?_
  refine lv_bipush (v := (40 : Int32)) hx hb dX0_init_78 (by decide) ?_
  refine g_newa (atype := .int) (cA := cyI) 0 rfl hx hb hq7 rfl hK hB hA 40 (fun _ => rfl) (fun _ h => h) (by decide) (by decide) (Nat.le_of_ble_eq_true rfl) (Nat.le_of_ble_eq_true rfl) (Nat.le_of_ble_eq_true rfl) dX0_init_80 (fun q7 H locs hB => ?_)
  refine g_putF (C := RX0) (T := TX0) (N := 17) hx hb hts hinX0 tyX0 tyX0_ok nmX0 hown hin9 hK hB 0 rfl rfl 11 rfl hq16 rfl rfl rfl rfl rfl rfl rfl dX0_init_82 (w2 := [(h0, .inr (0, [.int (5 : Int32), .int (3 : Int32), .int (0 : Int32), .ref q1, .ref q2, .int (0 : Int32), .ref q3, .ref q4, .ref q5, .ref q6, .int (0 : Int32), .ref q7, .null, .null, .null, .null, .null])), (q1, .inl (cyI, 6, .inl (fun _ => 0))), (q2, .inl (cyI, 6, .inl (fun _ => 0))), (q3, .inl (cyI, 8, .inl (fun _ => 0))), (q4, .inl (cyI, 8, .inl (fun _ => 0))), (q5, .inl (cyI, 8, .inl (fun _ => 0))), (q6, .inl (cyI, 8, .inl (fun _ => 0))), (q7, .inl (cyI, 40, .inl (fun _ => 0)))]) rfl (fun H locs hB => ?_)
  refine lv_aload_n hx hb dX0_init_85 rfl (lv_at hl 0 rfl) ?_
  refine lv_bipush (v := (40 : Int32)) hx hb dX0_init_86 (by decide) ?_
  refine g_newa (atype := .int) (cA := cyI) 0 rfl hx hb hq7 rfl hK hB hA 40 (fun _ => rfl) (fun _ h => h) (by decide) (by decide) (Nat.le_of_ble_eq_true rfl) (Nat.le_of_ble_eq_true rfl) (Nat.le_of_ble_eq_true rfl) dX0_init_88 (fun q8 H locs hB => ?_)
  refine g_putF (C := RX0) (T := TX0) (N := 17) hx hb hts hinX0 tyX0 tyX0_ok nmX0 hown hin9 hK hB 0 rfl rfl 12 rfl hq17 rfl rfl rfl rfl rfl rfl rfl dX0_init_90 (w2 := [(h0, .inr (0, [.int (5 : Int32), .int (3 : Int32), .int (0 : Int32), .ref q1, .ref q2, .int (0 : Int32), .ref q3, .ref q4, .ref q5, .ref q6, .int (0 : Int32), .ref q7, .ref q8, .null, .null, .null, .null])), (q1, .inl (cyI, 6, .inl (fun _ => 0))), (q2, .inl (cyI, 6, .inl (fun _ => 0))), (q3, .inl (cyI, 8, .inl (fun _ => 0))), (q4, .inl (cyI, 8, .inl (fun _ => 0))), (q5, .inl (cyI, 8, .inl (fun _ => 0))), (q6, .inl (cyI, 8, .inl (fun _ => 0))), (q7, .inl (cyI, 40, .inl (fun _ => 0))), (q8, .inl (cyI, 40, .inl (fun _ => 0)))]) rfl (fun H locs hB => ?_)
  refine lv_aload_n hx hb dX0_init_93 rfl (lv_at hl 0 rfl) ?_
  refine lv_bipush (v := (40 : Int32)) hx hb dX0_init_94 (by decide) ?_
  refine g_newa (atype := .int) (cA := cyI) 0 rfl hx hb hq7 rfl hK hB hA 40 (fun _ => rfl) (fun _ h => h) (by decide) (by decide) (Nat.le_of_ble_eq_true rfl) (Nat.le_of_ble_eq_true rfl) (Nat.le_of_ble_eq_true rfl) dX0_init_96 (fun q9 H locs hB => ?_)
  refine g_putF (C := RX0) (T := TX0) (N := 17) hx hb hts hinX0 tyX0 tyX0_ok nmX0 hown hin9 hK hB 0 rfl rfl 13 rfl hq18 rfl rfl rfl rfl rfl rfl rfl dX0_init_98 (w2 := [(h0, .inr (0, [.int (5 : Int32), .int (3 : Int32), .int (0 : Int32), .ref q1, .ref q2, .int (0 : Int32), .ref q3, .ref q4, .ref q5, .ref q6, .int (0 : Int32), .ref q7, .ref q8, .ref q9, .null, .null, .null])), (q1, .inl (cyI, 6, .inl (fun _ => 0))), (q2, .inl (cyI, 6, .inl (fun _ => 0))), (q3, .inl (cyI, 8, .inl (fun _ => 0))), (q4, .inl (cyI, 8, .inl (fun _ => 0))), (q5, .inl (cyI, 8, .inl (fun _ => 0))), (q6, .inl (cyI, 8, .inl (fun _ => 0))), (q7, .inl (cyI, 40, .inl (fun _ => 0))), (q8, .inl (cyI, 40, .inl (fun _ => 0))), (q9, .inl (cyI, 40, .inl (fun _ => 0)))]) rfl (fun H locs hB => ?_)
  refine lv_aload_n hx hb dX0_init_101 rfl (lv_at hl 0 rfl) ?_
  refine lv_bipush (v := (40 : Int32)) hx hb dX0_init_102 (by decide) ?_
  refine g_newa (atype := .int) (cA := cyI) 0 rfl hx hb hq7 rfl hK hB hA 40 (fun _ => rfl) (fun _ h => h) (by decide) (by decide) (Nat.le_of_ble_eq_true rfl) (Nat.le_of_ble_eq_true rfl) (Nat.le_of_ble_eq_true rfl) dX0_init_104 (fun q10 H locs hB => ?_)
  refine g_putF (C := RX0) (T := TX0) (N := 17) hx hb hts hinX0 tyX0 tyX0_ok nmX0 hown hin9 hK hB 0 rfl rfl 14 rfl hq19 rfl rfl rfl rfl rfl rfl rfl dX0_init_106 (w2 := [(h0, .inr (0, [.int (5 : Int32), .int (3 : Int32), .int (0 : Int32), .ref q1, .ref q2, .int (0 : Int32), .ref q3, .ref q4, .ref q5, .ref q6, .int (0 : Int32), .ref q7, .ref q8, .ref q9, .ref q10, .null, .null])), (q1, .inl (cyI, 6, .inl (fun _ => 0))), (q2, .inl (cyI, 6, .inl (fun _ => 0))), (q3, .inl (cyI, 8, .inl (fun _ => 0))), (q4, .inl (cyI, 8, .inl (fun _ => 0))), (q5, .inl (cyI, 8, .inl (fun _ => 0))), (q6, .inl (cyI, 8, .inl (fun _ => 0))), (q7, .inl (cyI, 40, .inl (fun _ => 0))), (q8, .inl (cyI, 40, .inl (fun _ => 0))), (q9, .inl (cyI, 40, .inl (fun _ => 0))), (q10, .inl (cyI, 40, .inl (fun _ => 0)))]) rfl (fun H locs hB => ?_)
  refine lv_aload_n hx hb dX0_init_109 rfl (lv_at hl 0 rfl) ?_
  refine lv_bipush (v := (40 : Int32)) hx hb dX0_init_110 (by decide) ?_
  refine g_newa (atype := .int) (cA := cyI) 0 rfl hx hb hq7 rfl hK hB hA 40 (fun _ => rfl) (fun _ h => h) (by decide) (by decide) (Nat.le_of_ble_eq_true rfl) (Nat.le_of_ble_eq_true rfl) (Nat.le_of_ble_eq_true rfl) dX0_init_112 (fun q11 H locs hB => ?_)
  refine g_putF (C := RX0) (T := TX0) (N := 17) hx hb hts hinX0 tyX0 tyX0_ok nmX0 hown hin9 hK hB 0 rfl rfl 15 rfl hq20 rfl rfl rfl rfl rfl rfl rfl dX0_init_114 (w2 := [(h0, .inr (0, [.int (5 : Int32), .int (3 : Int32), .int (0 : Int32), .ref q1, .ref q2, .int (0 : Int32), .ref q3, .ref q4, .ref q5, .ref q6, .int (0 : Int32), .ref q7, .ref q8, .ref q9, .ref q10, .ref q11, .null])), (q1, .inl (cyI, 6, .inl (fun _ => 0))), (q2, .inl (cyI, 6, .inl (fun _ => 0))), (q3, .inl (cyI, 8, .inl (fun _ => 0))), (q4, .inl (cyI, 8, .inl (fun _ => 0))), (q5, .inl (cyI, 8, .inl (fun _ => 0))), (q6, .inl (cyI, 8, .inl (fun _ => 0))), (q7, .inl (cyI, 40, .inl (fun _ => 0))), (q8, .inl (cyI, 40, .inl (fun _ => 0))), (q9, .inl (cyI, 40, .inl (fun _ => 0))), (q10, .inl (cyI, 40, .inl (fun _ => 0))), (q11, .inl (cyI, 40, .inl (fun _ => 0)))]) rfl (fun H locs hB => ?_)
  refine lv_aload_n hx hb dX0_init_117 rfl (lv_at hl 0 rfl) ?_
  refine lv_bipush (v := (40 : Int32)) hx hb dX0_init_118 (by decide) ?_
  refine g_newa (atype := .int) (cA := cyI) 0 rfl hx hb hq7 rfl hK hB hA 40 (fun _ => rfl) (fun _ h => h) (by decide) (by decide) (Nat.le_of_ble_eq_true rfl) (Nat.le_of_ble_eq_true rfl) (Nat.le_of_ble_eq_true rfl) dX0_init_120 (fun q12 H locs hB => ?_)
  refine g_putF (C := RX0) (T := TX0) (N := 17) hx hb hts hinX0 tyX0 tyX0_ok nmX0 hown hin9 hK hB 0 rfl rfl 16 rfl hq21 rfl rfl rfl rfl rfl rfl rfl dX0_init_122 (w2 := [(h0, .inr (0, [.int (5 : Int32), .int (3 : Int32), .int (0 : Int32), .ref q1, .ref q2, .int (0 : Int32), .ref q3, .ref q4, .ref q5, .ref q6, .int (0 : Int32), .ref q7, .ref q8, .ref q9, .ref q10, .ref q11, .ref q12])), (q1, .inl (cyI, 6, .inl (fun _ => 0))), (q2, .inl (cyI, 6, .inl (fun _ => 0))), (q3, .inl (cyI, 8, .inl (fun _ => 0))), (q4, .inl (cyI, 8, .inl (fun _ => 0))), (q5, .inl (cyI, 8, .inl (fun _ => 0))), (q6, .inl (cyI, 8, .inl (fun _ => 0))), (q7, .inl (cyI, 40, .inl (fun _ => 0))), (q8, .inl (cyI, 40, .inl (fun _ => 0))), (q9, .inl (cyI, 40, .inl (fun _ => 0))), (q10, .inl (cyI, 40, .inl (fun _ => 0))), (q11, .inl (cyI, 40, .inl (fun _ => 0))), (q12, .inl (cyI, 40, .inl (fun _ => 0)))]) rfl (fun H locs hB => ?_)
  have hB : Bd (dC, dI) [(cyI, .int)] (va_A [(h0, .inr (0, [.int 0, .int 0, .int 0, .null, .null, .int 0, .null, .null, .null, .null, .int 0, .null, .null, .null, .null, .null, .null]))] s.heap.size) s ((fun u : Nat → Nat => cS cyI u τ0) (fun k => if k = 3 then q1 else if k = 4 then q2 else if k = 6 then q3 else if k = 7 then q4 else if k = 8 then q5 else if k = 9 then q6 else if k = 11 then q7 else if k = 12 then q8 else if k = 13 then q9 else if k = 14 then q10 else if k = 15 then q11 else if k = 16 then q12 else h0)) H locs := hB
  exact g_vretX (S := Nat → Nat) (w1 := fun u => cS cyI u τ0) (u := fun k => if k = 3 then q1 else if k = 4 then q2 else if k = 6 then q3 else if k = 7 then q4 else if k = 8 then q5 else if k = 9 then q6 else if k = 11 then q7 else if k = 12 then q8 else if k = 13 then q9 else if k = 14 then q10 else if k = 15 then q11 else if k = 16 then q12 else h0) hx hb hr hlocks hK hB rfl (Nat.le_of_ble_eq_true rfl) (Nat.le_of_ble_eq_true rfl) dX0_init_125

abbrev rmX2_init : Room := { frames := 1, cells := 11, slots := 244, locals := 12 }
set_option maxHeartbeats 8000000 in
set_option maxRecDepth 100000 in
theorem kX2_init (l : Launch) (dC : Nat → ClassId) (dI : Nat → Nat → Nat) (cyI : ClassId) (h0 bs : Nat) (sz : Nat) : Met l yX2_init wsX2_init rmX2_init (PcF (dC, dI) [(cyI, .int)] [(h0, .inr (2, [.null, .int 0, .int 0, .null, .null, .null, .null, .null, .null, .null, .null, .null, .null, .null]))] sz [.ref h0, .ref bs]) (va_Qv (fun u : Nat → Nat => u 0 = h0) (fun u t => va_P (dC, dI) vwCl (cW1 cyI u bs σ0) t.heap ∧ va_K (dC, dI) vwCl [(cyI, .int)] t ∧ va_D (va_A [(h0, .inr (2, [.null, .int 0, .int 0, .null, .null, .null, .null, .null, .null, .null, .null, .null, .null, .null]))] sz) (cW1 cyI u bs σ0)) (va_A [(h0, .inr (2, [.null, .int 0, .int 0, .null, .null, .null, .null, .null, .null, .null, .null, .null, .null, .null]))] sz)) 11 244 (va_A [(h0, .inr (2, [.null, .int 0, .int 0, .null, .null, .null, .null, .null, .null, .null, .null, .null, .null, .null]))] sz) := by
  refine Met.ofW (cc := cX2_init) (maxL := 2) (ret := none) (by decide) rfl ?_
  intro p e s m args below meth c s₁ B hml hv
  obtain ⟨rfl, hsz, hP, hK, hD0⟩ := hv
  have hx := B.exec
  have hb := B.bytes
  have hr := B.returns
  have hts := atoms_spec (ws := wsX2_init) B.pre
  have hown : s.vm.findClass RX2 = some m.cls := findClass_of_methodNamed B.named
  have hlocks := B.notSynchronized
  have hin9 : meth.name = "<init>" := (name_of_methodNamed B.named B.method).1
  subst hsz
  have hA : ∀ q : Nat, s.heap.size ≤ q → va_A [(h0, .inr (2, [.null, .int 0, .int 0, .null, .null, .null, .null, .null, .null, .null, .null, .null, .null, .null]))] s.heap.size q := fun q h => Or.inr h
  have hB : Bd (dC, dI) [(cyI, .int)] (va_A [(h0, .inr (2, [.null, .int 0, .int 0, .null, .null, .null, .null, .null, .null, .null, .null, .null, .null, .null]))] s.heap.size) s [(h0, .inr (2, [.null, .int 0, .int 0, .null, .null, .null, .null, .null, .null, .null, .null, .null, .null, .null]))] s.heap [] := ⟨hP, hD0.self, va_S.rf⟩
  have hq1 : (Cond.methodLink RX2 3 objectInit).before _ s = true := hts _ (List.mem_of_getElem? (i := 1) rfl)
  have hq2 : (Cond.instanceMethod objectInit).before _ s = true := hts _ (List.mem_of_getElem? (i := 2) rfl)
  have hq3 : (Cond.code objectInit ⟨#[0xb1]⟩ 1 none).before _ s = true := hts _ (List.mem_of_getElem? (i := 3) rfl)
  have hq4 : (Cond.fieldLink RX2 9 "UndoJourneys$World" "time" "I").before _ s = true := hts _ (List.mem_of_getElem? (i := 4) rfl)
  have hq5 : (Cond.fieldLink RX2 15 "UndoJourneys$World" "failedUndos" "I").before _ s = true := hts _ (List.mem_of_getElem? (i := 5) rfl)
  have hq6 : (Cond.arrayClass .int).before _ s = true := hts _ (List.mem_of_getElem? (i := 6) rfl)
  have hq7 : (Cond.fieldLink RX2 18 "UndoJourneys$World" "level" "[I").before _ s = true := hts _ (List.mem_of_getElem? (i := 7) rfl)
  have hq8 : (Cond.fieldLink RX2 22 "UndoJourneys$World" "leastLack" "[I").before _ s = true := hts _ (List.mem_of_getElem? (i := 8) rfl)
  have hq9 : (Cond.fieldLink RX2 25 "UndoJourneys$World" "journeyState" "[I").before _ s = true := hts _ (List.mem_of_getElem? (i := 9) rfl)
  have hq10 : (Cond.fieldLink RX2 28 "UndoJourneys$World" "presentStage" "[I").before _ s = true := hts _ (List.mem_of_getElem? (i := 10) rfl)
  have hq11 : (Cond.fieldLink RX2 31 "UndoJourneys$World" "restTime" "[I").before _ s = true := hts _ (List.mem_of_getElem? (i := 11) rfl)
  have hq12 : (Cond.fieldLink RX2 34 "UndoJourneys$World" "undoFails" "[I").before _ s = true := hts _ (List.mem_of_getElem? (i := 12) rfl)
  have hq13 : (Cond.fieldLink RX2 37 "UndoJourneys$World" "stepState" "[I").before _ s = true := hts _ (List.mem_of_getElem? (i := 13) rfl)
  have hq14 : (Cond.fieldLink RX2 40 "UndoJourneys$World" "failuresLeft" "[I").before _ s = true := hts _ (List.mem_of_getElem? (i := 14) rfl)
  have hq15 : (Cond.fieldLink RX2 43 "UndoJourneys$World" "repeatsLeft" "[I").before _ s = true := hts _ (List.mem_of_getElem? (i := 15) rfl)
  have hq16 : (Cond.fieldLink RX2 46 "UndoJourneys$World" "beginTime" "[I").before _ s = true := hts _ (List.mem_of_getElem? (i := 16) rfl)
  have hq17 : (Cond.fieldLink RX2 49 "UndoJourneys$World" "ticksWaited" "[I").before _ s = true := hts _ (List.mem_of_getElem? (i := 17) rfl)
  have hq18 : (Cond.fieldLink RX2 52 "UndoJourneys$World" "setup" "LUndoJourneys$Setup;").before _ s = true := hts _ (List.mem_of_getElem? (i := 18) rfl)
  have hinX2 : ∀ w ∈ wsX20, w ∈ wsX2_init := fun w h => List.mem_cons_of_mem _ (List.mem_append_right _ h)
  have hl := lv_entry [.ref h0, .ref bs] (n := 2) (Nat.le_of_ble_eq_true rfl)
  rw [lg_entry_eq]
  generalize (lg_sl [.ref h0, .ref bs] ++ List.replicate (2 - (lg_sl [.ref h0, .ref bs]).length) Slot.unset).toArray = ls at hl ⊢
  have hl : lv_has ls 2 [(0, .ref h0), (1, .ref bs)] := hl
  refine lv_aload_n hx hb dX2_init_0 rfl (lv_at hl 0 rfl) ?_
  refine g_objInit hx hb hown hml hl.1 hq1 hq2 hq3 dX2_init_1 (Nat.le_of_ble_eq_true rfl) (Nat.le_of_ble_eq_true rfl) ?_
  refine lv_aload_n hx hb dX2_init_4 rfl (lv_at hl 0 rfl) ?_
  refine lv_iconst (v := (0 : Int32)) hx hb dX2_init_5 (by decide) ?_
  refine g_put (C := RX2) (T := TX2) (N := 14) hx hb hts hinX2 tyX2 tyX2_ok nmX2 hown hK hB 0 rfl rfl 1 rfl hq4 rfl rfl rfl rfl rfl rfl dX2_init_6 (w2 := [(h0, .inr (2, [.null, .int (0 : Int32), .int 0, .null, .null, .null, .null, .null, .null, .null, .null, .null, .null, .null]))]) rfl (fun H locs hB => ?_)
  refine lv_aload_n hx hb dX2_init_9 rfl (lv_at hl 0 rfl) ?_
  refine lv_iconst (v := (0 : Int32)) hx hb dX2_init_10 (by decide) ?_
  refine g_put (C := RX2) (T := TX2) (N := 14) hx hb hts hinX2 tyX2 tyX2_ok nmX2 hown hK hB 0 rfl rfl 2 rfl hq5 rfl rfl rfl rfl rfl rfl dX2_init_11 (w2 := [(h0, .inr (2, [.null, .int (0 : Int32), .int (0 : Int32), .null, .null, .null, .null, .null, .null, .null, .null, .null, .null, .null]))]) rfl (fun H locs hB => ?_)
  refine lv_aload_n hx hb dX2_init_14 rfl (lv_at hl 0 rfl) ?_
  refine lv_bipush (v := (6 : Int32)) hx hb dX2_init_15 (by decide) ?_
  refine g_newa (atype := .int) (cA := cyI) 0 rfl hx hb hq6 rfl hK hB hA 6 (fun _ => rfl) (fun _ h => h) (by decide) (by decide) (Nat.le_of_ble_eq_true rfl) (Nat.le_of_ble_eq_true rfl) (Nat.le_of_ble_eq_true rfl) dX2_init_17 (fun q1 H locs hB => ?_)
  refine g_putF (C := RX2) (T := TX2) (N := 14) hx hb hts hinX2 tyX2 tyX2_ok nmX2 hown hin9 hK hB 0 rfl rfl 3 rfl hq7 rfl rfl rfl rfl rfl rfl rfl dX2_init_19 (w2 := [(h0, .inr (2, [.null, .int (0 : Int32), .int (0 : Int32), .ref q1, .null, .null, .null, .null, .null, .null, .null, .null, .null, .null])), (q1, .inl (cyI, 6, .inl (fun _ => 0)))]) rfl (fun H locs hB => ?_)
  refine lv_aload_n hx hb dX2_init_22 rfl (lv_at hl 0 rfl) ?_
  refine lv_bipush (v := (6 : Int32)) hx hb dX2_init_23 (by decide) ?_
  refine g_newa (atype := .int) (cA := cyI) 0 rfl hx hb hq6 rfl hK hB hA 6 (fun _ => rfl) (fun _ h => h) (by decide) (by decide) (Nat.le_of_ble_eq_true rfl) (Nat.le_of_ble_eq_true rfl) (Nat.le_of_ble_eq_true rfl) dX2_init_25 (fun q2 H locs hB => ?_)
  refine g_putF (C := RX2) (T := TX2) (N := 14) hx hb hts hinX2 tyX2 tyX2_ok nmX2 hown hin9 hK hB 0 rfl rfl 4 rfl hq8 rfl rfl rfl rfl rfl rfl rfl dX2_init_27 (w2 := [(h0, .inr (2, [.null, .int (0 : Int32), .int (0 : Int32), .ref q1, .ref q2, .null, .null, .null, .null, .null, .null, .null, .null, .null])), (q1, .inl (cyI, 6, .inl (fun _ => 0))), (q2, .inl (cyI, 6, .inl (fun _ => 0)))]) rfl (fun H locs hB => ?_)
  refine lv_aload_n hx hb dX2_init_30 rfl (lv_at hl 0 rfl) ?_
  refine lv_bipush (v := (8 : Int32)) hx hb dX2_init_31 (by decide) ?_
  refine g_newa (atype := .int) (cA := cyI) 0 rfl hx hb hq6 rfl hK hB hA 8 (fun _ => rfl) (fun _ h => h) (by decide) (by decide) (Nat.le_of_ble_eq_true rfl) (Nat.le_of_ble_eq_true rfl) (Nat.le_of_ble_eq_true rfl) dX2_init_33 (fun q3 H locs hB => ?_)
  refine g_putF (C := RX2) (T := TX2) (N := 14) hx hb hts hinX2 tyX2 tyX2_ok nmX2 hown hin9 hK hB 0 rfl rfl 5 rfl hq9 rfl rfl rfl rfl rfl rfl rfl dX2_init_35 (w2 := [(h0, .inr (2, [.null, .int (0 : Int32), .int (0 : Int32), .ref q1, .ref q2, .ref q3, .null, .null, .null, .null, .null, .null, .null, .null])), (q1, .inl (cyI, 6, .inl (fun _ => 0))), (q2, .inl (cyI, 6, .inl (fun _ => 0))), (q3, .inl (cyI, 8, .inl (fun _ => 0)))]) rfl (fun H locs hB => ?_)
  refine lv_aload_n hx hb dX2_init_38 rfl (lv_at hl 0 rfl) ?_
  refine lv_bipush (v := (8 : Int32)) hx hb dX2_init_39 (by decide) ?_
  refine g_newa (atype := .int) (cA := cyI) 0 rfl hx hb hq6 rfl hK hB hA 8 (fun _ => rfl) (fun _ h => h) (by decide) (by decide) (Nat.le_of_ble_eq_true rfl) (Nat.le_of_ble_eq_true rfl) (Nat.le_of_ble_eq_true rfl) dX2_init_41 (fun q4 H locs hB => ?_)
  refine g_putF (C := RX2) (T := TX2) (N := 14) hx hb hts hinX2 tyX2 tyX2_ok nmX2 hown hin9 hK hB 0 rfl rfl 6 rfl hq10 rfl rfl rfl rfl rfl rfl rfl dX2_init_43 (w2 := [(h0, .inr (2, [.null, .int (0 : Int32), .int (0 : Int32), .ref q1, .ref q2, .ref q3, .ref q4, .null, .null, .null, .null, .null, .null, .null])), (q1, .inl (cyI, 6, .inl (fun _ => 0))), (q2, .inl (cyI, 6, .inl (fun _ => 0))), (q3, .inl (cyI, 8, .inl (fun _ => 0))), (q4, .inl (cyI, 8, .inl (fun _ => 0)))]) rfl (fun H locs hB => ?_)
  refine lv_aload_n hx hb dX2_init_46 rfl (lv_at hl 0 rfl) ?_
  refine lv_bipush (v := (8 : Int32)) hx hb dX2_init_47 (by decide) ?_
  refine g_newa (atype := .int) (cA := cyI) 0 rfl hx hb hq6 rfl hK hB hA 8 (fun _ => rfl) (fun _ h => h) (by decide) (by decide) (Nat.le_of_ble_eq_true rfl) (Nat.le_of_ble_eq_true rfl) (Nat.le_of_ble_eq_true rfl) dX2_init_49 (fun q5 H locs hB => ?_)
  refine g_putF (C := RX2) (T := TX2) (N := 14) hx hb hts hinX2 tyX2 tyX2_ok nmX2 hown hin9 hK hB 0 rfl rfl 7 rfl hq11 rfl rfl rfl rfl rfl rfl rfl dX2_init_51 (w2 := [(h0, .inr (2, [.null, .int (0 : Int32), .int (0 : Int32), .ref q1, .ref q2, .ref q3, .ref q4, .ref q5, .null, .null, .null, .null, .null, .null])), (q1, .inl (cyI, 6, .inl (fun _ => 0))), (q2, .inl (cyI, 6, .inl (fun _ => 0))), (q3, .inl (cyI, 8, .inl (fun _ => 0))), (q4, .inl (cyI, 8, .inl (fun _ => 0))), (q5, .inl (cyI, 8, .inl (fun _ => 0)))]) rfl (fun H locs hB => ?_)
  refine lv_aload_n hx hb dX2_init_54 rfl (lv_at hl 0 rfl) ?_
  refine lv_bipush (v := (8 : Int32)) hx hb dX2_init_55 (by decide) ?_
  refine g_newa (atype := .int) (cA := cyI) 0 rfl hx hb hq6 rfl hK hB hA 8 (fun _ => rfl) (fun _ h => h) (by decide) (by decide) (Nat.le_of_ble_eq_true rfl) (Nat.le_of_ble_eq_true rfl) (Nat.le_of_ble_eq_true rfl) dX2_init_57 (fun q6 H locs hB => ?_)
  refine g_putF (C := RX2) (T := TX2) (N := 14) hx hb hts hinX2 tyX2 tyX2_ok nmX2 hown hin9 hK hB 0 rfl rfl 8 rfl hq12 rfl rfl rfl rfl rfl rfl rfl dX2_init_59 (w2 := [(h0, .inr (2, [.null, .int (0 : Int32), .int (0 : Int32), .ref q1, .ref q2, .ref q3, .ref q4, .ref q5, .ref q6, .null, .null, .null, .null, .null])), (q1, .inl (cyI, 6, .inl (fun _ => 0))), (q2, .inl (cyI, 6, .inl (fun _ => 0))), (q3, .inl (cyI, 8, .inl (fun _ => 0))), (q4, .inl (cyI, 8, .inl (fun _ => 0))), (q5, .inl (cyI, 8, .inl (fun _ => 0))), (q6, .inl (cyI, 8, .inl (fun _ => 0)))]) rfl (fun H locs hB => ?_)
  refine lv_aload_n hx hb dX2_init_62 rfl (lv_at hl 0 rfl) ?_
  refine lv_bipush (v := (40 : Int32)) hx hb dX2_init_63 (by decide) ?_
  refine g_newa (atype := .int) (cA := cyI) 0 rfl hx hb hq6 rfl hK hB hA 40 (fun _ => rfl) (fun _ h => h) (by decide) (by decide) (Nat.le_of_ble_eq_true rfl) (Nat.le_of_ble_eq_true rfl) (Nat.le_of_ble_eq_true rfl) dX2_init_65 (fun q7 H locs hB => ?_)
  refine g_putF (C := RX2) (T := TX2) (N := 14) hx hb hts hinX2 tyX2 tyX2_ok nmX2 hown hin9 hK hB 0 rfl rfl 9 rfl hq13 rfl rfl rfl rfl rfl rfl rfl dX2_init_67 (w2 := [(h0, .inr (2, [.null, .int (0 : Int32), .int (0 : Int32), .ref q1, .ref q2, .ref q3, .ref q4, .ref q5, .ref q6, .ref q7, .null, .null, .null, .null])), (q1, .inl (cyI, 6, .inl (fun _ => 0))), (q2, .inl (cyI, 6, .inl (fun _ => 0))), (q3, .inl (cyI, 8, .inl (fun _ => 0))), (q4, .inl (cyI, 8, .inl (fun _ => 0))), (q5, .inl (cyI, 8, .inl (fun _ => 0))), (q6, .inl (cyI, 8, .inl (fun _ => 0))), (q7, .inl (cyI, 40, .inl (fun _ => 0)))]) rfl (fun H locs hB => ?_)
  refine lv_aload_n hx hb dX2_init_70 rfl (lv_at hl 0 rfl) ?_
  refine lv_bipush (v := (40 : Int32)) hx hb dX2_init_71 (by decide) ?_
  refine g_newa (atype := .int) (cA := cyI) 0 rfl hx hb hq6 rfl hK hB hA 40 (fun _ => rfl) (fun _ h => h) (by decide) (by decide) (Nat.le_of_ble_eq_true rfl) (Nat.le_of_ble_eq_true rfl) (Nat.le_of_ble_eq_true rfl) dX2_init_73 (fun q8 H locs hB => ?_)
  refine g_putF (C := RX2) (T := TX2) (N := 14) hx hb hts hinX2 tyX2 tyX2_ok nmX2 hown hin9 hK hB 0 rfl rfl 10 rfl hq14 rfl rfl rfl rfl rfl rfl rfl dX2_init_75 (w2 := [(h0, .inr (2, [.null, .int (0 : Int32), .int (0 : Int32), .ref q1, .ref q2, .ref q3, .ref q4, .ref q5, .ref q6, .ref q7, .ref q8, .null, .null, .null])), (q1, .inl (cyI, 6, .inl (fun _ => 0))), (q2, .inl (cyI, 6, .inl (fun _ => 0))), (q3, .inl (cyI, 8, .inl (fun _ => 0))), (q4, .inl (cyI, 8, .inl (fun _ => 0))), (q5, .inl (cyI, 8, .inl (fun _ => 0))), (q6, .inl (cyI, 8, .inl (fun _ => 0))), (q7, .inl (cyI, 40, .inl (fun _ => 0))), (q8, .inl (cyI, 40, .inl (fun _ => 0)))]) rfl (fun H locs hB => ?_)
  refine lv_aload_n hx hb dX2_init_78 rfl (lv_at hl 0 rfl) ?_
  refine lv_bipush (v := (40 : Int32)) hx hb dX2_init_79 (by decide) ?_
  refine g_newa (atype := .int) (cA := cyI) 0 rfl hx hb hq6 rfl hK hB hA 40 (fun _ => rfl) (fun _ h => h) (by decide) (by decide) (Nat.le_of_ble_eq_true rfl) (Nat.le_of_ble_eq_true rfl) (Nat.le_of_ble_eq_true rfl) dX2_init_81 (fun q9 H locs hB => ?_)
  refine g_putF (C := RX2) (T := TX2) (N := 14) hx hb hts hinX2 tyX2 tyX2_ok nmX2 hown hin9 hK hB 0 rfl rfl 11 rfl hq15 rfl rfl rfl rfl rfl rfl rfl dX2_init_83 (w2 := [(h0, .inr (2, [.null, .int (0 : Int32), .int (0 : Int32), .ref q1, .ref q2, .ref q3, .ref q4, .ref q5, .ref q6, .ref q7, .ref q8, .ref q9, .null, .null])), (q1, .inl (cyI, 6, .inl (fun _ => 0))), (q2, .inl (cyI, 6, .inl (fun _ => 0))), (q3, .inl (cyI, 8, .inl (fun _ => 0))), (q4, .inl (cyI, 8, .inl (fun _ => 0))), (q5, .inl (cyI, 8, .inl (fun _ => 0))), (q6, .inl (cyI, 8, .inl (fun _ => 0))), (q7, .inl (cyI, 40, .inl (fun _ => 0))), (q8, .inl (cyI, 40, .inl (fun _ => 0))), (q9, .inl (cyI, 40, .inl (fun _ => 0)))]) rfl (fun H locs hB => ?_)
  refine lv_aload_n hx hb dX2_init_86 rfl (lv_at hl 0 rfl) ?_
  refine lv_bipush (v := (40 : Int32)) hx hb dX2_init_87 (by decide) ?_
  refine g_newa (atype := .int) (cA := cyI) 0 rfl hx hb hq6 rfl hK hB hA 40 (fun _ => rfl) (fun _ h => h) (by decide) (by decide) (Nat.le_of_ble_eq_true rfl) (Nat.le_of_ble_eq_true rfl) (Nat.le_of_ble_eq_true rfl) dX2_init_89 (fun q10 H locs hB => ?_)
  refine g_putF (C := RX2) (T := TX2) (N := 14) hx hb hts hinX2 tyX2 tyX2_ok nmX2 hown hin9 hK hB 0 rfl rfl 12 rfl hq16 rfl rfl rfl rfl rfl rfl rfl dX2_init_91 (w2 := [(h0, .inr (2, [.null, .int (0 : Int32), .int (0 : Int32), .ref q1, .ref q2, .ref q3, .ref q4, .ref q5, .ref q6, .ref q7, .ref q8, .ref q9, .ref q10, .null])), (q1, .inl (cyI, 6, .inl (fun _ => 0))), (q2, .inl (cyI, 6, .inl (fun _ => 0))), (q3, .inl (cyI, 8, .inl (fun _ => 0))), (q4, .inl (cyI, 8, .inl (fun _ => 0))), (q5, .inl (cyI, 8, .inl (fun _ => 0))), (q6, .inl (cyI, 8, .inl (fun _ => 0))), (q7, .inl (cyI, 40, .inl (fun _ => 0))), (q8, .inl (cyI, 40, .inl (fun _ => 0))), (q9, .inl (cyI, 40, .inl (fun _ => 0))), (q10, .inl (cyI, 40, .inl (fun _ => 0)))]) rfl (fun H locs hB => ?_)
  refine lv_aload_n hx hb dX2_init_94 rfl (lv_at hl 0 rfl) ?_
  refine lv_bipush (v := (40 : Int32)) hx hb dX2_init_95 (by decide) ?_
  refine g_newa (atype := .int) (cA := cyI) 0 rfl hx hb hq6 rfl hK hB hA 40 (fun _ => rfl) (fun _ h => h) (by decide) (by decide) (Nat.le_of_ble_eq_true rfl) (Nat.le_of_ble_eq_true rfl) (Nat.le_of_ble_eq_true rfl) dX2_init_97 (fun q11 H locs hB => ?_)
  refine g_putF (C := RX2) (T := TX2) (N := 14) hx hb hts hinX2 tyX2 tyX2_ok nmX2 hown hin9 hK hB 0 rfl rfl 13 rfl hq17 rfl rfl rfl rfl rfl rfl rfl dX2_init_99 (w2 := [(h0, .inr (2, [.null, .int (0 : Int32), .int (0 : Int32), .ref q1, .ref q2, .ref q3, .ref q4, .ref q5, .ref q6, .ref q7, .ref q8, .ref q9, .ref q10, .ref q11])), (q1, .inl (cyI, 6, .inl (fun _ => 0))), (q2, .inl (cyI, 6, .inl (fun _ => 0))), (q3, .inl (cyI, 8, .inl (fun _ => 0))), (q4, .inl (cyI, 8, .inl (fun _ => 0))), (q5, .inl (cyI, 8, .inl (fun _ => 0))), (q6, .inl (cyI, 8, .inl (fun _ => 0))), (q7, .inl (cyI, 40, .inl (fun _ => 0))), (q8, .inl (cyI, 40, .inl (fun _ => 0))), (q9, .inl (cyI, 40, .inl (fun _ => 0))), (q10, .inl (cyI, 40, .inl (fun _ => 0))), (q11, .inl (cyI, 40, .inl (fun _ => 0)))]) rfl (fun H locs hB => ?_)
  refine lv_aload_n hx hb dX2_init_102 rfl (lv_at hl 0 rfl) ?_
  refine lv_aload_n hx hb dX2_init_103 rfl (lv_at hl 1 rfl) ?_
  refine g_put (C := RX2) (T := TX2) (N := 14) hx hb hts hinX2 tyX2 tyX2_ok nmX2 hown hK hB 0 rfl rfl 0 rfl hq18 rfl rfl rfl rfl rfl rfl dX2_init_104 (w2 := [(h0, .inr (2, [.ref bs, .int (0 : Int32), .int (0 : Int32), .ref q1, .ref q2, .ref q3, .ref q4, .ref q5, .ref q6, .ref q7, .ref q8, .ref q9, .ref q10, .ref q11])), (q1, .inl (cyI, 6, .inl (fun _ => 0))), (q2, .inl (cyI, 6, .inl (fun _ => 0))), (q3, .inl (cyI, 8, .inl (fun _ => 0))), (q4, .inl (cyI, 8, .inl (fun _ => 0))), (q5, .inl (cyI, 8, .inl (fun _ => 0))), (q6, .inl (cyI, 8, .inl (fun _ => 0))), (q7, .inl (cyI, 40, .inl (fun _ => 0))), (q8, .inl (cyI, 40, .inl (fun _ => 0))), (q9, .inl (cyI, 40, .inl (fun _ => 0))), (q10, .inl (cyI, 40, .inl (fun _ => 0))), (q11, .inl (cyI, 40, .inl (fun _ => 0)))]) rfl (fun H locs hB => ?_)
  have hB : Bd (dC, dI) [(cyI, .int)] (va_A [(h0, .inr (2, [.null, .int 0, .int 0, .null, .null, .null, .null, .null, .null, .null, .null, .null, .null, .null]))] s.heap.size) s ((fun u : Nat → Nat => cW1 cyI u bs σ0) (fun k => if k = 3 then q1 else if k = 4 then q2 else if k = 5 then q3 else if k = 6 then q4 else if k = 7 then q5 else if k = 8 then q6 else if k = 9 then q7 else if k = 10 then q8 else if k = 11 then q9 else if k = 12 then q10 else if k = 13 then q11 else h0)) H locs := hB
  exact g_vretX (S := Nat → Nat) (w1 := fun u => cW1 cyI u bs σ0) (u := fun k => if k = 3 then q1 else if k = 4 then q2 else if k = 5 then q3 else if k = 6 then q4 else if k = 7 then q5 else if k = 8 then q6 else if k = 9 then q7 else if k = 10 then q8 else if k = 11 then q9 else if k = 12 then q10 else if k = 13 then q11 else h0) hx hb hr hlocks hK hB rfl (Nat.le_of_ble_eq_true rfl) (Nat.le_of_ble_eq_true rfl) dX2_init_107

