/-! the law's own wrappers: a call in a try, its answer or the number of its handler -/
/-- the number that a handler answers; the answer -/
def xC : List (String × Int32) → String → Int32
  | [], _ => 0
  | h :: t, E => if E = h.1 then h.2 else xC t E
def xE {X : Type} (hs : List (String × Int32)) (val : X → Int32) (o : String ⊕ X) : Int32 := match o with
  | .inl E => xC hs E
  | .inr x => val x
def xU {X : Type} (w0 : va_W) (w1 : X → va_W) (o : String ⊕ X) : va_W := match o with
  | .inl _ => w0
  | .inr x => w1 x
def ncP : List (String × String) := [("java/lang/IllegalArgumentException", "java/lang/IndexOutOfBoundsException"), ("java/util/NoSuchElementException", "java/lang/IndexOutOfBoundsException"), ("java/lang/IllegalArgumentException", "java/util/NoSuchElementException"), ("java/lang/IllegalStateException", "java/lang/IndexOutOfBoundsException")]
def NC (U : State) : Prop := ∀ q ∈ ncP, va_Nc q.1 q.2 U
def PcV (D : va_G) (tys : List (ClassId × FieldType)) (w0 : va_W) (sz : Nat) (av : List Value) : Array Value → State → Prop := va_Pc av (fun U => (U.heap.size = sz ∧ va_P D vwCl w0 U.heap ∧ va_K D vwCl tys U ∧ va_D (fun _ => True) w0) ∧ EX (va_A w0 sz) U U.heap ∧ NC U)
def PcVJ (D : va_G) (tys : List (ClassId × FieldType)) (kS : Nat → Nat) (w0 : va_W) (sz : Nat) (av : List Value) : Array Value → State → Prop := va_Pc av (fun U => (U.heap.size = sz ∧ va_P D vwCl w0 U.heap ∧ va_K D vwCl tys U ∧ va_D (fun _ => True) w0) ∧ EX (va_A w0 sz) U U.heap ∧ NC U ∧ JS kS (va_A w0 sz) U U.heap ∧ va_Nw (.methodLinkNest RX1 11 yX0_init RX3) U)
theorem PcV_blind (D : va_G) (tys : List (ClassId × FieldType)) (w0 : va_W) (sz : Nat) (av : List Value) : FrameBlind (PcV D tys w0 sz av) := fun a U g mk q => by
  obtain ⟨q0, ⟨q1, qP, qK, qD⟩, qE, qN⟩ := q
  exact ⟨q0, ⟨q1, qP, va_K.moved (u := U) (U := U.calling g mk a) (Vm.Alike.refl U.vm) qK, qD⟩, EX.same (u := U) rfl qE, fun q hq => va_Nc.moved (u := U) (U := U.calling g mk a) (Vm.Alike.refl U.vm) (qN q hq)⟩
theorem PcVJ_blind (D : va_G) (tys : List (ClassId × FieldType)) (kS : Nat → Nat) (w0 : va_W) (sz : Nat) (av : List Value) : FrameBlind (PcVJ D tys kS w0 sz av) := fun a U g mk q => by
  obtain ⟨q0, ⟨q1, qP, qK, qD⟩, qE, qN, qJ, qW⟩ := q
  exact ⟨q0, ⟨q1, qP, va_K.moved (u := U) (U := U.calling g mk a) (Vm.Alike.refl U.vm) qK, qD⟩, EX.same (u := U) rfl qE, fun q hq => va_Nc.moved (u := U) (U := U.calling g mk a) (Vm.Alike.refl U.vm) (qN q hq), JS.same (u := U) rfl qJ, va_Nw.same rfl rfl qW⟩
section WL
variable {p : Program} {l : Launch} {e : Env} {R : Room} {s : State} {m : MethodId} {args : Array Value} {below : List Frame} {meth : Method} {c : Code} {H : Heap} {locs : List Loc} {cells slots : Nat} {Q : State → Prop}
variable {cc : ByteArray} {pc : Nat} {ls : Array Slot} {rest : List Value} {D : va_G} {A : Nat → Prop} {a : Nat} {tys : List (ClassId × FieldType)} {ws : va_W}
variable {y : MethodName} {bytes : ByteArray} {maxL nL mc ms mc1 ms1 n index : Nat} {ret : Option FieldType} {wsy : List Cond} {rm : Room} {Ts : List Cond} {own C : String} {b : Addr} {As : List Value} {st0 : List Value} {w0 w1 : va_W} {kS : Nat → Nat}
/-- a call that may throw, over a part of the world: both ways of going on -/
theorem g_xcut {X S : Type} {o : String ⊕ X} {Pc : Array Value → State → Prop} {po : Int32 → S → Prop} {w1 : S → va_W} {wc wr : va_W} {tysc : List (ClassId × FieldType)} (S0 : CallFix p m c cc nL s args Ts own) (hM : vx_Met l y wsy rm Pc (va_Qi po (fun x t => BX D tysc wc (w1 x) H.size t) (va_A wc H.size)) (XF D tysc wc H.size o) mc1 ms1 (va_A wc H.size)) (cw : CallW R s args own C index y bytes maxL ret wsy rm mc1 ms1 n) (hp : FrameBlind Pc ∧ ∀ U : State, U.heap = H → s.WarmedH U.vm → Pc (Value.ref b :: As).toArray U) (hB0 : Bd D tys A s ws H locs) (hA : ∀ q, s.heap.size ≤ q → A q) (hrec : ∃ cell : Cell, H[b]? = some cell ∧ cell.vm.isStatics = false ∧ s.vm.findClass C = some cell.cls) (hp1 : ws.Perm (wc ++ wr))
    (hn : As.length = n) (hsize : ls.size = nL) (hstack : st0 = As.reverse ++ .ref b :: rest) (hW : (rest.map fun v => v.category).sum ≤ 8) (hdg : decode cc pc = .ok (.invokevirtual index, 3)) (hf : cells + mc1 ≤ R.cells ∧ slots + ms1 ≤ R.slots)
    (kx : ∀ (E : String) (ce : Cell) (q9 : Addr) (H : Heap) (locs : List Loc), o = .inl E → Bd D tys A s (wc ++ wr) H locs → H[q9]? = some ce → ce.vm = .none → s.vm.findClass E = some ce.cls → vx_W p l e R s m args below meth c H locs (cells + mc1) (slots + ms1) Q (F0 m pc ls rest) q9)
    (kk : ∀ (r : Int32) (x : S) (H : Heap) (locs : List Loc), po r x → Bd D tys A s (w1 x ++ wr) H locs → W p l e R s m args below meth c H locs (cells + mc1) (slots + ms1) Q (F0 m (pc + 3) ls (.int r :: rest))) : W p l e R s m args below meth c H locs cells slots Q (F0 m pc ls st0) := by
  have hB := hB0.perm hp1
  have hF := keep_left hB hA
  refine vx_calli (vx_runV S0 hM cw ⟨hp.1, hrec, hp.2⟩ rfl hn hsize hstack (lv_room hW) hdg hf) hB.2.2 (fun q _ h => hF q h) hF (fun q _ h => hF q h) (fun E ce q9 u t H1 locs1 ht9 hvm _ hBt hz hk hS hq9 hv9 hc9 => ?_) (fun r u t H1 locs1 ht9 hvm hr hBt hz hk hS => ?_)
  · obtain ⟨ho, hP1, -, hD1⟩ := hBt
    rw [ht9] at hP1
    exact kx E ce q9 H1 locs1 ho (pcut_back hB hF hk hP1 hD1 hS) hq9 hv9 hc9
  · obtain ⟨hP1, -, hD1⟩ := hBt
    rw [ht9] at hP1
    exact kk r u H1 locs1 hr (pcut_back hB hF hk hP1 hD1 hS)
theorem g_liret {v r : Int32} (hx : p.tables.exec = Jvm.exec) (hb : c.code = cc) (hr : meth.sig.returnType = some .int) (hlocks : meth.locks = false) (hK : va_K D vwCl tys s) (hB : Bd D tys (va_A w0 s.heap.size) s w1 H locs) (hv : v = r) (hc : cells ≤ mc) (hs : slots ≤ ms) (hdg : decode cc pc = .ok (.ireturn, 1)) : W p l e R s m args below meth c H locs cells slots (MQ below (QiF D tys w0 w1 s.heap.size r) args s mc ms (va_A w0 s.heap.size)) (F0 m pc ls [.int v]) :=
  W.widen (k := mc) (n := ms) hc hs (W.iret hx hb hr (fun t ht hW => ⟨⟨v, (), rfl, hv, by rw [ht]; exact hB.1, va_K.moved hW.alike hK, hB.2.1⟩, hB.2.2.F ht⟩) hB.2.2.2.2 hdg)
theorem g_liretY {Y : Type} {rv : Int32} {u : Y} {w1 : Y → va_W} {v : Int32} (hx : p.tables.exec = Jvm.exec) (hb : c.code = cc) (hr : meth.sig.returnType = some .int) (hlocks : meth.locks = false) (hK : va_K D vwCl tys s) (hB : Bd D tys (va_A w0 s.heap.size) s (w1 u) H locs) (hv : v = rv) (hc : cells ≤ mc) (hs : slots ≤ ms) (hdg : decode cc pc = .ok (.ireturn, 1)) : W p l e R s m args below meth c H locs cells slots (MQ below (va_Qi (fun r (_ : Y) => r = rv) (fun x t => BX D tys w0 (w1 x) s.heap.size t) (va_A w0 s.heap.size)) args s mc ms (va_A w0 s.heap.size)) (F0 m pc ls [.int v]) :=
  W.widen (k := mc) (n := ms) hc hs (W.iret hx hb hr (fun t ht hW => ⟨⟨v, u, rfl, hv, by rw [ht]; exact hB.1, va_K.moved hW.alike hK, hB.2.1⟩, hB.2.2.F ht⟩) hB.2.2.2.2 hdg)
theorem xpre_left (hJ : EX A s s.heap) {wc wr : va_W} {tysc : List (ClassId × FieldType)} (hB : Bd D tys A s (wc ++ wr) H locs) (hA : ∀ q, s.heap.size ≤ q → A q) (hK : va_K D vwCl tysc s) (av : List Value) : FrameBlind (PcX D tysc wc H.size av) ∧ ∀ U : State, U.heap = H → s.WarmedH U.vm → PcX D tysc wc H.size av av.toArray U :=
  ⟨PcX_blind _ _ _ _ _, fun U hU hW => ⟨rfl, ((pcut_pre hB hK av).2 U hU hW).2, EX_at hJ hB.2.2 (keep_left hB hA) hU hW⟩⟩
theorem lpre_left (hE : EX A s s.heap) (hJ : JS kS A s s.heap) (hN : va_Nw (.methodLinkNest RX1 11 yX0_init RX3) s) {wc wr : va_W} {tysc : List (ClassId × FieldType)} (hB : Bd D tys A s (wc ++ wr) H locs) (hA : ∀ q, s.heap.size ≤ q → A q) (hK : va_K D vwCl tysc s) (av : List Value) : FrameBlind (PcL D tysc kS wc H.size av) ∧ ∀ U : State, U.heap = H → s.WarmedH U.vm → PcL D tysc kS wc H.size av av.toArray U :=
  ⟨PcL_blind _ _ _ _ _ _, fun U hU hW => ⟨rfl, ((pcut_pre hB hK av).2 U hU hW).2, EX_at hE hB.2.2 (keep_left hB hA) hU hW, JS_at hJ hB.2.2 (keep_left hB hA) hU hW, va_Nw.warmM hW hN⟩⟩
/-- caught by the one row that names its class, past rows that name others -/
theorem g_catch {E : String} {ce : Cell} {q : Addr} (hown : s.vm.findClass RL = some m.cls) (hEX : EX A s s.heap) (hNC : NC s) (pre : List ExceptionTableEntry) (x : ExceptionTableEntry) (suf : List ExceptionTableEntry) (hsplit : c.exceptionTable.toList = pre ++ x :: suf) (nms : List String) (hpre : ∀ z ∈ pre, z.catchType ≠ 0 ∧ ∃ nm ∈ nms, (Cond.classLink RL z.catchType nm).before args s = true) (hnc : ∀ nm ∈ nms, (E, nm) ∈ ncP) (hx : covers x pc = true) (h0 : x.catchType ≠ 0)
    (hlink : (Cond.classLink RL x.catchType E).before args s = true) (hcast : Cond.castable E E ∈ eBad) (hcell : H[q]? = some ce) (hv : ce.vm = .none) (hcl : s.vm.findClass E = some ce.cls)
    (kk : W p l e R s m args below meth c H locs cells slots Q (F0 m x.handlerPc ls [.ref q])) : vx_W p l e R s m args below meth c H locs cells slots Q (F0 m pc ls rest) q :=
  vx_catch hown pre x suf hsplit (fun z hz => Or.inr ⟨(hpre z hz).1, (hpre z hz).2.imp fun nm h => ⟨h.2, hNC _ (hnc nm h.1)⟩⟩) hx h0 hlink (va_Nw.use rfl (hEX.2.2.2 _ hcast)) hcell hv hcl kk
end WL
