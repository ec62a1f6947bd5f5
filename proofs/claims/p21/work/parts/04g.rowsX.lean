/-! the class's own methods: views of a world, and methods that may throw -/
def eRef : List (Nat × String) := [(48, "the buffer has not so many bytes"), (107, "no such step"), (120, "not so many steps are done"), (136, "ticks is out of range"), (165, "amount is out of range"), (181, "no such stock"), (184, "no such journey"), (188, "the journey is not parked"), (191, "what is out of range")]
def eCls : List String := ["java/lang/IllegalArgumentException", "java/lang/IndexOutOfBoundsException", "java/util/NoSuchElementException", "java/lang/IllegalStateException"]
def eBad : List Cond := [Cond.codeSync Bundle.tFill LibCode.Throwable.Fill.code 1 (some (.object Bundle.tN)), Cond.declares (Bundle.initS "java/lang/RuntimeException"), Cond.declares (Bundle.initS "java/lang/Exception"), Cond.declares (Bundle.initS Bundle.tN)] ++ eCls.map fun E => Cond.castable E E
theorem va_Nw.warmY {x : MethodName} {b : ByteArray} {n : Nat} {r : Option FieldType} {s U : State} (hW : s.WarmedH U.vm) (hZ : va_Nw (.codeSync x b n r) s) : va_Nw (.codeSync x b n r) U := va_tabs rfl (rfl : (s.setVm U.vm).vm = U.vm) (by
  have h := Cond.value_setVm₂ (args := #[]) (s := s) (o := none) (vm' := U.vm) hW.alike hW.alike (.codeSync x b n r) [] rfl
  unfold va_Nw Cond.before Cond.holds at hZ
  unfold Cond.before Cond.holds
  rw [h]; exact hZ)
theorem eBad_tabs : ∀ w ∈ eBad, w.onTables = true := by decide +kernel
theorem eBad_warm {s U : State} (hW : s.WarmedH U.vm) {w : Cond} (hw : w ∈ eBad) (h : va_Nw w s) : va_Nw w U := by
  rcases List.mem_append.mp hw with hw | hw
  · rcases List.mem_cons.mp hw with rfl | hw
    · exact h.warmY hW
    · rcases List.mem_cons.mp hw with rfl | hw
      · exact h.warmD hW
      · rcases List.mem_cons.mp hw with rfl | hw
        · exact h.warmD hW
        · rcases List.mem_cons.mp hw with rfl | hw
          · exact h.warmD hW
          · cases hw
  · obtain ⟨E, -, rfl⟩ := List.mem_map.mp hw
    exact h.warmC hW
/-- what a throw needs of the start -/
def EX (A : Nat → Prop) (U : State) (H : Heap) : Prop := vx_Zq Bundle.tN "UNASSIGNED_STACK" Bundle.steD A U H ∧ vx_Zq Bundle.tN "SUPPRESSED_SENTINEL" Bundle.listD A U H ∧ (∀ q ∈ eRef, ∃ sa, vk_R RX3 q.1 q.2 sa U) ∧ ∀ w ∈ eBad, va_Nw w U
theorem EX.kept {A : Nat → Prop} {U : State} {H H1 : Heap} (h : EX A U H) (hq : ∀ a : Nat, a < H.size → ¬ A a → H1[a]? = H[a]?) : EX A U H1 := ⟨h.1.kept hq, h.2.1.kept hq, h.2.2⟩
theorem EX.narrow {A B : Nat → Prop} {U : State} {H : Heap} (h : EX A U H) (hAB : ∀ q, B q → A q) : EX B U H := ⟨h.1.narrow hAB, h.2.1.narrow hAB, h.2.2⟩
theorem EX.warm {A : Nat → Prop} {s U : State} {H : Heap} (hW : s.WarmedH U.vm) (h : EX A s H) : EX A U H := ⟨vx_Zq.moved hW.alike h.1, vx_Zq.moved hW.alike h.2.1, fun q hq => (h.2.2.1 q hq).imp fun _ hh => hh.warm hW, fun w hw => eBad_warm hW hw (h.2.2.2 w hw)⟩
theorem EX.same {A : Nat → Prop} {u U : State} {H : Heap} (hv : U.vm = u.vm) (h : EX A u H) : EX A U H := by
  have hvm : u.vm.Alike U.vm := by rw [hv]; exact Vm.Alike.refl _
  exact ⟨vx_Zq.moved hvm h.1, vx_Zq.moved hvm h.2.1, fun q hq => (h.2.2.1 q hq).imp fun _ hh => vk_R.same hv hh, fun w hw => va_Nw.same (eBad_tabs w hw) hv.symm (h.2.2.2 w hw)⟩
def PcX (D : va_G) (tys : List (ClassId × FieldType)) (w0 : va_W) (sz : Nat) (av : List Value) : Array Value → State → Prop := va_Pc av (fun U => (U.heap.size = sz ∧ va_P D vwCl w0 U.heap ∧ va_K D vwCl tys U ∧ va_D (fun _ => True) w0) ∧ EX (va_A w0 sz) U U.heap)
theorem PcX_blind (D : va_G) (tys : List (ClassId × FieldType)) (w0 : va_W) (sz : Nat) (av : List Value) : FrameBlind (PcX D tys w0 sz av) := fun a U g mk q => by
  obtain ⟨q0, ⟨q1, qP, qK, qD⟩, qJ⟩ := q
  exact ⟨q0, ⟨q1, qP, va_K.moved (u := U) (U := U.calling g mk a) (Vm.Alike.refl U.vm) qK, qD⟩, EX.same (u := U) rfl qJ⟩
abbrev BX (D : va_G) (tys : List (ClassId × FieldType)) (w0 w1 : va_W) (sz : Nat) (t : State) : Prop := va_P D vwCl w1 t.heap ∧ va_K D vwCl tys t ∧ va_D (va_A w0 sz) w1
/-- the throw's end: the world as it was -/
abbrev XF {X : Type} (D : va_G) (tys : List (ClassId × FieldType)) (w0 : va_W) (sz : Nat) (o : String ⊕ X) : String → State → State → Prop := vx_X (fun _ : Unit => True) (fun E _ t => o = .inl E ∧ BX D tys w0 w0 sz t) (va_A w0 sz)
abbrev QiX {X : Type} (D : va_G) (tys : List (ClassId × FieldType)) (w0 : va_W) (w1 : X → va_W) (val : X → Int32) (sz : Nat) (o : String ⊕ X) : Array Value → State → Outcome → State → Prop := va_Qi (fun r (x : X) => o = .inr x ∧ r = val x) (fun x t => BX D tys w0 (w1 x) sz t) (va_A w0 sz)
abbrev QvX {X : Type} (D : va_G) (tys : List (ClassId × FieldType)) (w0 : va_W) (w1 : X → va_W) (sz : Nat) (o : String ⊕ X) : Array Value → State → Outcome → State → Prop := va_Qv (fun (x : X) => o = .inr x) (fun x t => BX D tys w0 (w1 x) sz t) (va_A w0 sz)
theorem ns_dec : decode nsB 0 = .ok (.aload_n 0, 1) ∧ decode nsB 1 = .ok (.aload_n 1, 1) ∧ decode nsB 2 = .ok (.invokespecial 13, 3) ∧ decode nsB 5 = .ok (.return_, 1) := by decide +kernel
theorem ns_f1 : ∀ w ∈ Bundle.throwableAtoms, nsFix w = w := by decide +kernel
theorem ns_f2 : ∀ w ∈ Bundle.throwableSAtoms, nsFix w = w := by decide +kernel
theorem ns_f3 : ∀ w ∈ Bundle.chainSAtoms "java/lang/RuntimeException" ["java/lang/Exception"], nsFix w = w := by decide +kernel
theorem ns_f4 : ∀ w ∈ Bundle.passSAtoms nsN "java/lang/RuntimeException" 13 nsB, w ∈ nsA := by decide +kernel
theorem ns_bad : ∀ w ∈ vx_atN.filter (fun w => !goodWord w), w ∈ eBad := by decide +kernel
section NS
variable {p : Program} {l : Launch} {e : Env} {R : Room} {s : State} {m : MethodId} {args : Array Value} {below : List Frame} {meth : Method} {c : Code} {H : Heap} {locs : List Loc} {cells slots : Nat} {V : State}
set_option maxHeartbeats 2000000 in
/-- new NoSuchElementException(text), thrown at once: what a throw's caller needs of it -/
theorem ns_ctor (X : Stand p l e R s m args below meth c V locs cells slots) (hx : p.tables.exec = Jvm.exec) (htr : e.platform.stackTraces = false) (hown : s.vm.findClass "UndoJourneys" = some m.cls) (h : ∀ w ∈ nsA, w.before args s = true) (hlocs : ∀ z ∈ locs, ∀ cell, s.heap[z.base]? = some cell → cell.vm.isStatics = false)
    {a : Addr} {cX : ClassId} {kX : Class} (hfX : s.vm.findClass nsN = some cX) (hkX : s.vm.classes[cX]? = some kX) (hcell : V.heap[a]? = some (freshCell cX kX)) (hnew : s.heap.size ≤ a) {msg : Value} (hmsg : msg.isRef = true)
    {g : JFrame} (hg : g.method = m) (hsize : g.locals.size = c.maxLocals) (hlocked : g.locked = none) (hentered : g.entered = []) {rest : List Value} (hstack : g.stack = msg :: .ref a :: .ref a :: rest)
    (hd6 : decode c.code g.pc = .ok (.invokespecial 109, 3)) (hd9 : decode c.code (g.pc + 3) = .ok (.athrow, 1)) (hout : ∀ z ∈ c.exceptionTable.toList, covers z (g.pc + 3) = false)
    (hRf : 5 < R.frames) (hRl : 2 * g.monitorRoom + ((Value.ref a :: rest).map fun v => v.category).sum + 81 ≤ R.locals) (hlocks : meth.locks = false) :
    ∃ U : State, Steps p.tables e below (V.setTop g) U ∧ U.status = .running ∧ Ended U below (.threw a) ∧ s.WarmedH U.vm ∧ s.sameButNew ({ U with vm := s.vm } : State) locs cells slots ∧ ∃ ce, U.heap[a]? = some ce ∧ s.vm.findClass nsN = some ce.cls ∧ ce.vm = .none := by
  have hpl : e.platform.magicAccessors = ({} : Platform).magicAccessors := by rw [X.admits.platform]
  have k0 : ∀ w ∈ Bundle.ownAtoms "UndoJourneys" 109 nsN nsL, nsFix w = w → w.before args s = true := fun w hw hf => h _ (List.mem_map.mpr ⟨w, hw, hf⟩)
  obtain ⟨T, Z0, L, -, Y⟩ := ThrowableC.of_atoms (args := args) (s := s) (pl := e.platform) (by rw [X.admits.platform]) (by rw [X.admits.platform]) hpl (fun w hw => k0 w (by simp [Bundle.ownAtoms, hw]) (ns_f1 w hw))
  obtain ⟨Z, M, LZ, LM, hnZ⟩ := Init0T.ofS_atoms (args := args) hpl L Y (fun w hw => k0 w (by simp [Bundle.ownAtoms, hw]) (ns_f2 w hw))
  obtain ⟨P1, L1, hP1m, hP1s⟩ := PassC.ofS_atoms (args := args) (s := s) hpl (X := nsN) (Y := "java/lang/RuntimeException") (by decide) (by decide) ns_dec.1 ns_dec.2.1 ns_dec.2.2.1 ns_dec.2.2.2 (fun w hw => h w (ns_f4 w hw))
  obtain ⟨P2, Ps, hlen, L2, hL, hP2m, hlink2, hlink⟩ := Bundle.chainS (args := args) (s := s) hpl hnZ ["java/lang/Exception"] "java/lang/RuntimeException" (by decide) (by decide) (fun w hw => k0 w (List.mem_append_left _ (List.mem_append_right _ (List.mem_append_right (as := Bundle.passSAtoms nsN "java/lang/RuntimeException" 7 Bundle.six) hw))) (ns_f3 w hw))
  have hlk : PassesOn (Z.m T.toThrowableT) ((P2 :: Ps).map (·.toPassT)) := ⟨hlink2, hlink⟩
  have hsup : P1.sup = firstOf (Z.m T.toThrowableT) ((P2 :: Ps).map (·.toPassT)) := Option.some.inj (hP1s.symm.trans hP2m)
  have hfound : s.vm.findClass nsN = some P1.m.cls := findClass_of_methodNamed hP1m
  cases Option.some.inj (hfX.symm.trans hfound)
  obtain ⟨c1, k1, hc1, hk, hord, -, -, -⟩ := Cond.instantiable_spec (k0 (.instantiable nsN 6) (by simp [Bundle.ownAtoms]) rfl)
  cases Option.some.inj (hc1.symm.trans hfound)
  cases Option.some.inj (hkX.symm.trans hk)
  have hsl : ∀ {y : MethodName} {m0 : MethodId}, s.methodNamed? y = some m0 → s.methodFound? y.cls y.name y.desc = some m0 → (Cond.selects nsN y y).before args s = true → selectMethod e.platform s.vm P1.m.cls m0 = .method m0 := by
    intro y m0 hy hf hw
    obtain ⟨c2, r2, m2, q1, q2, q3, q4, -⟩ := Cond.selects_spec hw
    cases Option.some.inj (q1.symm.trans hfound)
    cases Option.some.inj (q2.symm.trans hf)
    cases Option.some.inj (q3.symm.trans hy)
    rw [Launch.admits_selectMethod X.admits]; exact q4
  have hsel0 := hsl Y.fill0 (State.methodFound?_of_named Y.fill0 (by decide)) (k0 (.selects nsN Bundle.tFill0 Bundle.tFill0) (by simp [Bundle.ownAtoms]) rfl)
  have hselF := hsl Y.fill (State.methodFound?_of_named Y.fill (by decide)) (k0 (.selects nsN Bundle.tFill Bundle.tFill) (by simp [Bundle.ownAtoms]) rfl)
  obtain ⟨z0, hz0, hz1⟩ := Y.statics
  obtain ⟨u0, hu0⟩ := Cond.staticRefV Y.unassigned L.unassignedStatic L.statics hz0 hz1 (k0 (.isRef (.static Bundle.tN "UNASSIGNED_STACK" Bundle.steD)) (by simp [Bundle.ownAtoms]) rfl)
  obtain ⟨sen, hsen⟩ := Cond.staticRefV Y.sentinel L.sentinelStatic L.statics hz0 hz1 (k0 (.isRef (.static Bundle.tN "SUPPRESSED_SENTINEL" Bundle.listD)) (by simp [Bundle.ownAtoms]) rfl)
  obtain ⟨cB, iB, fB, b1, b2, b3, b4, -, b5, b6, b7⟩ := Cond.ownField (t := .object "java/lang/Object") Y.found L.cls (by decide +kernel) (k0 (.fieldLink Bundle.tN 198 Bundle.tN "backtrace" "Ljava/lang/Object;") (by simp [Bundle.ownAtoms]) rfl) (k0 (.lays Bundle.tN Bundle.tN "backtrace" "Ljava/lang/Object;") (by simp [Bundle.ownAtoms]) rfl) e.platform hpl
  obtain ⟨zS, hzS, heS, -, hkeep⟩ := X.same.2.2.2.2.2 T.aS z0 hz0
  have hno : ∀ i, (⟨T.aS, i⟩ : Loc) ∉ locs := fun i hi => by
    have h9 := hlocs _ hi z0 hz0
    rw [hz1] at h9; cases h9
  have hknown : zS.vm ≠ .unknown := by
    rw [heS]; intro hu
    rw [show z0.vm = .unknown from hu] at hz1
    cases hz1
  have hne : T.aS ≠ a := Nat.ne_of_lt (Nat.lt_of_lt_of_le (Array.getElem?_eq_some_iff.mp hz0).1 hnew)
  obtain ⟨iM, hM⟩ := Y.msg
  obtain ⟨tC, dC, lC, nC⟩ := Cond.laysAt hfound hk Y.cause (k0 (.lays nsN Bundle.tN "cause" "Ljava/lang/Throwable;") (by simp [Bundle.ownAtoms]) rfl)
  obtain ⟨tS, dS, lS, nS⟩ := Cond.laysAt hfound hk Y.stack (k0 (.lays nsN Bundle.tN "stackTrace" Bundle.steD) (by simp [Bundle.ownAtoms]) rfl)
  obtain ⟨tP, dP, lP, nP⟩ := Cond.laysAt hfound hk Y.supp (k0 (.lays nsN Bundle.tN "suppressedExceptions" Bundle.listD) (by simp [Bundle.ownAtoms]) rfl)
  obtain ⟨tM, dM, lM, nM⟩ := Cond.laysAt hfound hk hM (k0 (.lays nsN Bundle.tN "detailMessage" "Ljava/lang/String;") (by simp [Bundle.ownAtoms]) rfl)
  obtain ⟨tB, dB, lB, nB⟩ := Cond.laysAt hfound hk b7 (k0 (.lays nsN Bundle.tN "backtrace" "Ljava/lang/Object;") (by simp [Bundle.ownAtoms]) rfl)
  have eC := Cond.laysApart lB lC nB nC (by rw [b5, Y.causeName]; decide)
  have eS := Cond.laysApart lB lS nB nS (by rw [b5, Y.stackName]; decide)
  have eP := Cond.laysApart lB lP nB nP (by rw [b5, Y.suppName]; decide)
  have hskip : SkipFacts T e.platform s (fun u => u) u0 ((preparedCellV T.toThrowableT (freshCell P1.m.cls kX) a u0 sen).withEntry V.cur) :=
    ⟨{ ci198 := cB, i198 := iB, fBack := fB }, ⟨b1, b2, b3, b4⟩, by
      have h9 := fresh_default (c := P1.m.cls) tB
      rw [b6] at h9
      simpa [preparedCellV, Cell.setSlot, Cell.withEntry, Array.getElem?_setIfInBounds, eC, eS, eP, eC.symm, eS.symm, eP.symm, defaultValue] using h9, fun _ _ => rfl⟩
  obtain ⟨tm, mC, cdC, kC, vm1, hnC, -, -, -, -, -, -, -, hW1, st1⟩ := Steps.initColdS (tb := p.tables) (e := e) (below := below) (s := s) (U := V) X.here hx X.warmed hpl hown (t := Bundle.initS nsN) rfl rfl (by decide)
    (k0 (.methodLink "UndoJourneys" 109 (Bundle.initS nsN)) (by simp [Bundle.ownAtoms]) rfl) (h (.instanceMethod (Bundle.initS nsN)) (ns_f4 _ (by simp [Bundle.passSAtoms]))) (bytes := nsB) (maxL := 2) (h (.code (Bundle.initS nsN) nsB 2 none) (ns_f4 _ (by simp [Bundle.passSAtoms])))
    (f := g) hg (a := a) (msg := msg) (rest := .ref a :: rest) hstack hd6
  cases Option.some.inj (hnC.symm.trans hP1m)
  have X1 := X.noted hW1
  obtain ⟨vm2, X2, st2⟩ := X1.ctorMessageOffV hx (g := { g with stack := .ref a :: rest }) hg hsize T L Z LZ M LM (P1 :: P2 :: Ps)
    (fun P hP => by
      rcases List.mem_cons.mp hP with rfl | hP
      · exact L1
      · rcases List.mem_cons.mp hP with rfl | hP
        · exact L2
        · exact hL P hP) ⟨hsup, hlk⟩ (u0 := u0) (sen := sen) (self := a) hmsg (cell := freshCell P1.m.cls kX) (cellS := zS)
    hcell (fun _ => by simp) (by simp) rfl rfl hsel0 hselF hzS hne hknown (by rw [hkeep _ (hno _)]; exact hu0) (by rw [hkeep _ (hno _)]; exact hsen)
    (Takes.of_laid hk hord tC (by rw [Y.causeType]; rfl)) (Takes.of_laid hk hord tS (by rw [Y.stackType]; exact fits_refV_array _ u0)) (Takes.of_laid hk hord tP (by rw [Y.suppType]; exact fits_refV_object _ sen))
    (Takes.of_laid hk hord tM (by rw [Y.msgType]; exact fits_refV_object _ ⟨msg, hmsg⟩)) Y.objLocals hskip htr [] hd6
    (by simp only [List.length_cons, hlen, List.length_nil]; omega) (by simp only [List.length_cons, hlen, List.length_nil]; omega)
  obtain ⟨hwalk, hrun, hend, hWU, hsame⟩ := X2.athrowLeaves hx (g := { g with stack := .ref a :: rest, pc := g.pc + 3 }) hg hlocked hentered hout (a := a) (rest := rest) rfl hd9
  have hlt : a < ((V.setVm vm1).setVm vm2).heap.size := (Array.getElem?_eq_some_iff.mp hcell).1
  have hU := heapAt_setCell_self (s := (V.setVm vm1).setVm vm2) (plainBareV T.toThrowableT (freshCell P1.m.cls kX) a u0 sen msg) hlt
  refine ⟨_, st1 _ (fun acts => ?_), hrun, hend, hWU, hsame.weaken (fun y hy hlt9 => ?_) (Nat.le_refl _) (Nat.le_refl _), _, hU, hfound, rfl⟩
  · rw [doInvoke_state]
    exact st2 _ hwalk
  · rcases List.mem_append.mp hy with h1 | h1
    · exact h1
    · exfalso
      have hb9 : y.base = a := by
        simp only [List.mem_cons, List.not_mem_nil, or_false] at h1
        rcases h1 with rfl | rfl | rfl | rfl | rfl <;> rfl
      rw [hb9] at hlt9
      exact Nat.not_lt.mpr hnew hlt9
variable {Q : State → Prop} {mc ms : Nat} {free : Addr → Prop} {A : Nat → Prop} {ls : Array Slot} {rest : List Value} {Qc : Array Value → State → Outcome → State → Prop} {XC : String → State → State → Prop}
theorem ns_ot : ∀ w ∈ Cond.classLink "UndoJourneys" 105 nsN :: Cond.initialized nsN :: vx_atN, vx_ot w = true := by decide +kernel
theorem ns_own {L : List Cond} (h1 : ∀ w ∈ L.filter vx_no, w.before args s = true) (h2 : (Cond.isRef (.static Bundle.tN "UNASSIGNED_STACK" Bundle.steD)).before args s = true) (h3 : (Cond.isRef (.static Bundle.tN "SUPPRESSED_SENTINEL" Bundle.listD)).before args s = true) (h4 : (Cond.laysStatic Bundle.tN "UNASSIGNED_STACK" Bundle.steD).before args s = true) (h5 : (Cond.laysStatic Bundle.tN "SUPPRESSED_SENTINEL" Bundle.listD).before args s = true) : ∀ w ∈ L, w.before args s = true := vx_own h1 h2 h3 h4 h5
theorem ns_throw {cc : ByteArray} {pc : Nat} (hx : p.tables.exec = Jvm.exec) (hb : c.code = cc) (hl : l.stackTraces = false) {text : String} {is sa : Nat} (hown : s.vm.findClass "UndoJourneys" = some m.cls) (hk : (Cond.classLink "UndoJourneys" 105 nsN).before args s = true) (hini : (Cond.initialized nsN).before args s = true) (hstr : vk_R "UndoJourneys" is text sa s) (hat : ∀ w ∈ vx_atN, w.before args s = true)
    (hU : vx_Zq Bundle.tN "UNASSIGNED_STACK" Bundle.steD A s s.heap) (hN : vx_Zq Bundle.tN "SUPPRESSED_SENTINEL" Bundle.listD A s s.heap) (hS : va_S A s.heap H locs) (hsize : ls.size = c.maxLocals)
    (d0 : decode cc pc = .ok (.new 105, 3)) (d3 : decode cc (pc + 3) = .ok (.dup, 1)) (d4 : decode cc (pc + 4) = .ok (.ldc is, 2)) (d6 : decode cc (pc + 6) = .ok (.invokespecial 109, 3)) (d9 : decode cc (pc + 9) = .ok (.athrow, 1)) (hout : ∀ x ∈ c.exceptionTable.toList, covers x (pc + 9) = false)
    (hRf : 5 < R.frames) (hRl : (rest.map fun v => v.category).sum + 82 ≤ R.locals) (hRc : cells + 1 ≤ R.cells) (hRs : slots + 6 ≤ R.slots) (hlocks : meth.locks = false)
    (hXC : ∀ t : State, s.vm.Alike t.vm → H.size ≤ t.heap.size → (∀ q : Nat, q < H.size → t.heap[q]? = H[q]?) → XC nsN s t) (hf : ∀ z ∈ locs, free z.base) (hc : cells + 1 ≤ mc) (hs : slots + 6 ≤ ms) :
    W p l e R s m args below meth c H locs cells slots (vx_MQ below Qc XC args s mc ms free) (F0 m pc ls rest) := by
  intro T hT X
  have htr : e.platform.stackTraces = false := (show e.platform.stackTraces = l.stackTraces by rw [X.admits.platform]).trans hl
  have Y := vx_rebase X (R' := { frames := R.frames, locals := R.locals, cells := 1, slots := 6 }) (Nat.le_refl _) (Nat.le_refl _) hRc hRs
  obtain ⟨u, hA⟩ : ∃ z, z = (T.setVm s.vm).setFrames (.invoking m args :: below) := ⟨_, rfl⟩
  rw [← hA] at Y
  have hvm : u.vm = s.vm := by rw [hA]; rfl
  have hhp : u.heap = H := by rw [hA]; exact hT
  have hW0 : s.WarmedH u.vm := by rw [hvm]; exact State.WarmedH.refl s
  have hU1 : vx_Zq Bundle.tN "UNASSIGNED_STACK" Bundle.steD A u u.heap := by rw [hhp]; exact vx_Zq.moved hW0.alike (hU.kept hS.2.1)
  have hN1 : vx_Zq Bundle.tN "SUPPRESSED_SENTINEL" Bundle.listD A u u.heap := by rw [hhp]; exact vx_Zq.moved hW0.alike (hN.kept hS.2.1)
  have h : ∀ w ∈ nsA, w.before args u = true := vx_own (fun w hw => vx_ot_at hW0 hvm.symm (ns_ot w (List.mem_cons_of_mem _ (List.mem_cons_of_mem _ hw))) (hat w hw)) (vx_isRefq hU1.1) (vx_isRefq hN1.1) hU1.2.word hN1.2.word
  have hown1 : u.vm.findClass "UndoJourneys" = some m.cls := by rw [hvm]; exact hown
  have hins : (Cond.instantiable nsN 6).before args u = true := h _ (List.mem_map.mpr ⟨.instantiable nsN 6, by simp [Bundle.ownAtoms], rfl⟩)
  obtain ⟨vm1, cX, kX, hfX, hkX, -, -, X1, st1⟩ := Y.newCold hx (own := "UndoJourneys") (C := nsN) (index := 105) (n := 6) hown1 (vx_ot_at hW0 hvm.symm (ns_ot _ List.mem_cons_self) hk) hins (vx_ot_at hW0 hvm.symm (ns_ot _ (List.mem_cons_of_mem _ List.mem_cons_self)) hini)
    (g := F0 m pc ls rest) rfl (by rw [hb]; exact d0) (Nat.le_refl _) (Nat.le_refl _)
  generalize hT1 : (T.setVm vm1).pushCell { cls := cX, slots := kX.instanceTypes.map defaultValue, vm := .none } = T1 at X1 st1
  have hcat : (Value.ref T.heap.size).category = 1 := rfl
  have hcellA : T1.heap[T.heap.size]? = some (freshCell cX kX) := by rw [← hT1]; exact State.heap_pushCell_size _ _
  have d3' : decode c.code (pc + 3) = .ok (.dup, 1) := by rw [hb]; exact d3
  have d4' : decode c.code (pc + 4) = .ok (.ldc is, 2) := by rw [hb]; exact d4
  have hstr1 : vk_R "UndoJourneys" is text sa u := vk_R.warm hW0 hstr
  obtain ⟨U, hsteps, hrun, hend, hW, hsame, ce, hce, hcls9, hvm9⟩ := ns_ctor X1 hx htr hown1 h (fun x hx => nomatch hx) hfX hkX hcellA (by rw [hhp, hT]; exact Nat.le_refl _) (msg := .ref sa) rfl
    (g := { method := m, pc := pc + 6, locals := ls, stack := .ref sa :: .ref T.heap.size :: .ref T.heap.size :: rest, locked := none }) rfl hsize rfl rfl (rest := rest) rfl
    (by rw [hb]; exact d6) (by rw [hb]; exact d9) hout hRf (by simp only [List.map_cons, List.sum_cons, hcat]; omega) hlocks
  obtain ⟨f1, f2⟩ := vx_frame hsame
  rw [hhp] at f1 f2
  have hWs : s.WarmedH U.vm := State.WarmedH.trans hW0 hW
  have hcl : s.vm.findClass nsN = some ce.cls := by rw [hvm] at hcls9; exact hcls9
  have hall : s.sameButNew ({ U with vm := s.vm } : State) locs mc ms := by
    subst hA
    obtain ⟨e1, e2⟩ := hsame
    rw [State.setFrames_setFrames] at e1
    have h2 : (T.setVm s.vm).sameButNew ({ U with vm := s.vm } : State) [] (0 + 1) (0 + 6) := ⟨e1, e2⟩
    have h3 := X.same.trans h2
    rw [List.append_nil] at h3
    exact h3.mono hc hs
  refine ⟨U, ?_, .threw T.heap.size, hrun, hend, Or.inr ⟨T.heap.size, rfl, nsN, ce, locs, hXC U hWs.alike f1 (fun q hq => f2 q hq (fun z hz => nomatch hz)), hce, hvm9, hcl, hWs, hall, hf⟩⟩
  refine st1 _ ?_
  show Steps p.tables e below (T1.setTop { method := m, pc := pc + 3, locals := ls, stack := .ref T.heap.size :: rest, locked := none }) _
  jvm_step X1.here [X1.here.top, hx, d3', Value.category]
  exact X1.ldcString hx (own := "UndoJourneys") (text := text) (index := is) (a := sa) hown1 hstr1.1 hstr1.2
    (g := { method := m, pc := pc + 4, locals := ls, stack := .ref T.heap.size :: .ref T.heap.size :: rest, locked := none }) rfl d4' _ hsteps
end NS
section MX
variable {p : Program} {l : Launch} {e : Env} {R : Room} {s : State} {m : MethodId} {args : Array Value} {below : List Frame} {meth : Method} {c : Code} {H : Heap} {locs : List Loc} {cells slots : Nat} {Q : State → Prop}
variable {cc : ByteArray} {pc : Nat} {ls : Array Slot} {rest : List Value} {D : va_G} {A : Nat → Prop} {a : Nat} {tys : List (ClassId × FieldType)} {ws : va_W}
variable {y : MethodName} {bytes : ByteArray} {maxL nL mc ms mc1 ms1 n index : Nat} {ret : Option FieldType} {wsy : List Cond} {rm : Room} {Ts : List Cond} {own C : String} {b : Addr} {As : List Value} {st0 : List Value} {w0 : va_W}
theorem EX_at {wc : va_W} (hJ : EX A s s.heap) (hS : va_S A s.heap H locs) (hF : ∀ q, va_A wc H.size q → A q) {U : State} (hU : U.heap = H) (hW : s.WarmedH U.vm) : EX (va_A wc H.size) U U.heap := by
  rw [hU]
  exact ((hJ.kept hS.2.1).narrow hF).warm hW
theorem xpre_all (hJ : EX A s s.heap) (hB : Bd D tys A s ws H locs) (hA : ∀ q, s.heap.size ≤ q → A q) (hK : va_K D vwCl tys s) (av : List Value) : FrameBlind (PcX D tys ws H.size av) ∧ ∀ U : State, U.heap = H → s.WarmedH U.vm → PcX D tys ws H.size av av.toArray U :=
  ⟨PcX_blind _ _ _ _ _, fun U hU hW => ⟨rfl, ((pre_all hB hK av).2 U hU hW).2, EX_at hJ hB.2.2 (keep_all hB hA) hU hW⟩⟩
/-- thrown here, with nothing changed since the start -/
theorem g_throw {X : Type} {o : String ⊕ X} {Qc : Array Value → State → Outcome → State → Prop} {text : String} {ik is ic : Nat} {names : List String} {cls : String} (hl : l.stackTraces = false) (hx : p.tables.exec = Jvm.exec) (hb : c.code = cc) (hown : s.vm.findClass RX3 = some m.cls) (hEX : EX A s s.heap) (ht : ∀ x ∈ c.exceptionTable.toList, False) (hlocks : meth.locks = false) (hK : va_K D vwCl tys s) (hB : Bd D tys A s w0 H locs) (hAe : A = va_A w0 s.heap.size) (ho : o = .inl cls) (hml : c.maxLocals = nL) (hsize : ls.size = nL)
    (hcls : Bundle.fit cls = true) (hnames : ∀ n ∈ names, Bundle.fit n = true) (hk : (Cond.classLink RX3 ik cls).before args s = true) (hini : (Cond.initialized cls).before args s = true) (hstr : (is, text) ∈ eRef) (hgood : ∀ w ∈ (vx_atS RX3 ic cls names).filter goodWord, w.before args s = true) (hbad : ∀ w ∈ (vx_atS RX3 ic cls names).filter (fun w => !goodWord w), w ∈ eBad) (hot : ∀ w ∈ Cond.classLink RX3 ik cls :: Cond.initialized cls :: vx_atS RX3 ic cls names, vx_ot w = true)
    (d0 : decode cc pc = .ok (.new ik, 3)) (d3 : decode cc (pc + 3) = .ok (.dup, 1)) (d4 : decode cc (pc + 4) = .ok (.ldc is, 2)) (d6 : decode cc (pc + 6) = .ok (.invokespecial ic, 3)) (d9 : decode cc (pc + 9) = .ok (.athrow, 1))
    (hRf : names.length + 3 < R.frames) (hRl : (rest.map fun v => v.category).sum + (13 * (names.length + 1) + 43) ≤ R.locals) (hRc : cells + 1 ≤ R.cells) (hRs : slots + 6 ≤ R.slots) (hc : cells + 1 ≤ mc) (hs : slots + 6 ≤ ms) :
    W p l e R s m args below meth c H locs cells slots (vx_MQ below Qc (XF D tys w0 s.heap.size o) args s mc ms (va_A w0 s.heap.size)) (F0 m pc ls rest) := by
  subst hAe
  obtain ⟨sa, hsa⟩ := hEX.2.2.1 _ hstr
  refine vx_throwS hx hb hl hown hcls hnames hk hini hsa (vx_hat hgood hbad (fun w hw => va_Nw.use (eBad_tabs w hw) (hEX.2.2.2 w hw))) hot hEX.1 hEX.2.1 hB.2.2 (hsize.trans hml.symm) d0 d3 d4 d6 d9 (fun x h => (ht x h).elim) hRf hRl hRc hRs hlocks (fun t hvm hsz hk => ?_) hB.2.2.2.2 hc hs
  refine ⟨(), trivial, ⟨ho, ?_, va_K.moved hvm hK, hB.2.1⟩, ?_⟩
  · exact hB.1.kept fun k q hq => hk q.1 (hB.1 k q hq).lt
  · exact ⟨Nat.le_trans hB.2.2.1 hsz, fun q h1 h2 => by rw [hk q (Nat.lt_of_lt_of_le h1 hB.2.2.1)]; exact hB.2.2.2.1 q h1 h2⟩
theorem g_throwN {X : Type} {o : String ⊕ X} {Qc : Array Value → State → Outcome → State → Prop} {text : String} {is : Nat} (hl : l.stackTraces = false) (hx : p.tables.exec = Jvm.exec) (hb : c.code = cc) (hown : s.vm.findClass RX3 = some m.cls) (hEX : EX A s s.heap) (ht : ∀ x ∈ c.exceptionTable.toList, False) (hlocks : meth.locks = false) (hK : va_K D vwCl tys s) (hB : Bd D tys A s w0 H locs) (hAe : A = va_A w0 s.heap.size) (ho : o = .inl nsN) (hml : c.maxLocals = nL) (hsize : ls.size = nL)
    (hk : (Cond.classLink "UndoJourneys" 105 nsN).before args s = true) (hini : (Cond.initialized nsN).before args s = true) (hstr : (is, text) ∈ eRef) (hgood : ∀ w ∈ vx_atN.filter goodWord, w.before args s = true)
    (d0 : decode cc pc = .ok (.new 105, 3)) (d3 : decode cc (pc + 3) = .ok (.dup, 1)) (d4 : decode cc (pc + 4) = .ok (.ldc is, 2)) (d6 : decode cc (pc + 6) = .ok (.invokespecial 109, 3)) (d9 : decode cc (pc + 9) = .ok (.athrow, 1))
    (hRf : 5 < R.frames) (hRl : (rest.map fun v => v.category).sum + 82 ≤ R.locals) (hRc : cells + 1 ≤ R.cells) (hRs : slots + 6 ≤ R.slots) (hc : cells + 1 ≤ mc) (hs : slots + 6 ≤ ms) :
    W p l e R s m args below meth c H locs cells slots (vx_MQ below Qc (XF D tys w0 s.heap.size o) args s mc ms (va_A w0 s.heap.size)) (F0 m pc ls rest) := by
  subst hAe
  obtain ⟨sa, hsa⟩ := hEX.2.2.1 _ hstr
  refine ns_throw hx hb hl hown hk hini hsa (vx_hat hgood ns_bad (fun w hw => va_Nw.use (eBad_tabs w hw) (hEX.2.2.2 w hw))) hEX.1 hEX.2.1 hB.2.2 (hsize.trans hml.symm) d0 d3 d4 d6 d9 (fun x h => (ht x h).elim) hRf hRl hRc hRs hlocks (fun t hvm hsz hk => ?_) hB.2.2.2.2 hc hs
  refine ⟨(), trivial, ⟨ho, ?_, va_K.moved hvm hK, hB.2.1⟩, ?_⟩
  · exact hB.1.kept fun k q hq => hk q.1 (hB.1 k q hq).lt
  · exact ⟨Nat.le_trans hB.2.2.1 hsz, fun q h1 h2 => by rw [hk q (Nat.lt_of_lt_of_le h1 hB.2.2.1)]; exact hB.2.2.2.1 q h1 h2⟩
theorem g_xiret {X : Type} {o : String ⊕ X} {w1 : X → va_W} {val : X → Int32} {x : X} (hx : p.tables.exec = Jvm.exec) (hb : c.code = cc) (hr : meth.sig.returnType = some .int) (hlocks : meth.locks = false) (hK : va_K D vwCl tys s) (hB : Bd D tys (va_A w0 s.heap.size) s (w1 x) H locs) (ho : o = .inr x) (hc : cells ≤ mc) (hs : slots ≤ ms) (hdg : decode cc pc = .ok (.ireturn, 1)) : W p l e R s m args below meth c H locs cells slots (vx_MQ below (QiX D tys w0 w1 val s.heap.size o) (XF D tys w0 s.heap.size o) args s mc ms (va_A w0 s.heap.size)) (F0 m pc ls [.int (val x)]) :=
  W.widen (k := mc) (n := ms) hc hs (vx_ret (W.iret hx hb hr (fun t ht hW => ⟨⟨val x, x, rfl, ⟨ho, rfl⟩, by rw [ht]; exact hB.1, va_K.moved hW.alike hK, hB.2.1⟩, hB.2.2.F ht⟩) hB.2.2.2.2 hdg))
theorem g_xvret {X : Type} {o : String ⊕ X} {w1 : X → va_W} {x : X} (hx : p.tables.exec = Jvm.exec) (hb : c.code = cc) (hr : meth.sig.returnType = none) (hlocks : meth.locks = false) (hK : va_K D vwCl tys s) (hB : Bd D tys (va_A w0 s.heap.size) s (w1 x) H locs) (ho : o = .inr x) (hc : cells ≤ mc) (hs : slots ≤ ms) (hdg : decode cc pc = .ok (.return_, 1)) : W p l e R s m args below meth c H locs cells slots (vx_MQ below (QvX D tys w0 w1 s.heap.size o) (XF D tys w0 s.heap.size o) args s mc ms (va_A w0 s.heap.size)) (F0 m pc ls []) :=
  W.widen (k := mc) (n := ms) hc hs (vx_ret (W.vret hx hb hr (fun t ht hW => ⟨⟨x, rfl, ho, by rw [ht]; exact hB.1, va_K.moved hW.alike hK, hB.2.1⟩, hB.2.2.F ht⟩) hB.2.2.2.2 hdg))
/-- a check is called: it throws, and so does the caller; or it goes on -/
theorem g_chkV {X : Type} {o : String ⊕ X} {o1 : String ⊕ Unit} {Qc : Array Value → State → Outcome → State → Prop} (S : CallFix p m c cc nL s args Ts own) (hEX : EX A s s.heap) (hM : vx_Met l y wsy rm (PcX D tys ws H.size (.ref b :: As)) (QvX D tys ws (fun _ : Unit => ws) H.size o1) (XF D tys ws H.size o1) mc1 ms1 (va_A ws H.size)) (cw : CallW R s args own C index y bytes maxL ret wsy rm mc1 ms1 n) (hK : va_K D vwCl tys s) (hB : Bd D tys A s ws H locs) (hA : ∀ q, s.heap.size ≤ q → A q) (hrec : ∃ cell : Cell, H[b]? = some cell ∧ cell.vm.isStatics = false ∧ s.vm.findClass C = some cell.cls) (ht : ∀ x ∈ c.exceptionTable.toList, False) (hlocks : meth.locks = false) (hAe : A = va_A ws s.heap.size) (hE : ∀ E, o1 = .inl E → o = .inl E)
    (hn : As.length = n) (hsize : ls.size = nL) (hstack : st0 = As.reverse ++ .ref b :: rest) (hW : (rest.map fun v => v.category).sum ≤ 8) (hdg : decode cc pc = .ok (.invokevirtual index, 3)) (hf : cells + mc1 ≤ R.cells ∧ slots + ms1 ≤ R.slots) (hc : cells + mc1 ≤ mc) (hs : slots + ms1 ≤ ms)
    (k : o1 = .inr () → ∀ (H : Heap) (locs : List Loc), Bd D tys A s ws H locs → W p l e R s m args below meth c H locs (cells + mc1) (slots + ms1) (vx_MQ below Qc (XF D tys ws s.heap.size o) args s mc ms (va_A ws s.heap.size)) (F0 m (pc + 3) ls rest)) : W p l e R s m args below meth c H locs cells slots (vx_MQ below Qc (XF D tys ws s.heap.size o) args s mc ms (va_A ws s.heap.size)) (F0 m pc ls st0) := by
  have hF := keep_all hB hA
  have hp := xpre_all hEX hB hA hK (.ref b :: As)
  refine vx_callv (vx_runV S hM cw ⟨hp.1, hrec, hp.2⟩ rfl hn hsize hstack (lv_room hW) hdg hf) hB.2.2 (fun q _ h => hF q h) hF (fun q _ h => hF q h) (fun E ce q9 u t H1 locs1 ht9 hvm _ hBt hz hk hS hq9 hv9 hc9 => ?_) (fun u t H1 locs1 ht9 hvm hr hBt hz hk hS => ?_)
  · obtain ⟨ho, hP1, -, hD1⟩ := hBt
    rw [ht9] at hP1
    subst hAe
    refine vx_out (fun x h => (ht x h).elim) hlocks hq9 hv9 hc9 (fun t2 h2 hvm2 => ?_) hS.2.2 hc hs
    exact ⟨(), trivial, ⟨hE E ho, by rw [h2]; exact hP1, va_K.moved hvm2 hK, hD1.weaken (fun _ q _ h => hF q.1 h)⟩, hS.F h2⟩
  · obtain ⟨hP1, -, hD1⟩ := hBt
    rw [ht9] at hP1
    exact k hr H1 locs1 ⟨hP1, hD1.weaken (fun _ q _ h => hF q.1 h), hS⟩
theorem g_chkS {X : Type} {o : String ⊕ X} {o1 : String ⊕ Unit} {Qc : Array Value → State → Outcome → State → Prop} (S : CallFix p m c cc nL s args Ts own) (hEX : EX A s s.heap) (hM : vx_Met l y wsy rm (PcX D tys ws H.size As) (QvX D tys ws (fun _ : Unit => ws) H.size o1) (XF D tys ws H.size o1) mc1 ms1 (va_A ws H.size)) (cw : CallB R s args own index y bytes maxL ret wsy rm mc1 ms1 n ∧ (Cond.static y).before args s = true) (hK : va_K D vwCl tys s) (hB : Bd D tys A s ws H locs) (hA : ∀ q, s.heap.size ≤ q → A q) (ht : ∀ x ∈ c.exceptionTable.toList, False) (hlocks : meth.locks = false) (hAe : A = va_A ws s.heap.size) (hE : ∀ E, o1 = .inl E → o = .inl E)
    (hn : As.length = n) (hsize : ls.size = nL) (hstack : st0 = As.reverse ++ rest) (hW : (rest.map fun v => v.category).sum ≤ 8) (hdg : decode cc pc = .ok (.invokestatic index, 3)) (hf : cells + mc1 ≤ R.cells ∧ slots + ms1 ≤ R.slots) (hc : cells + mc1 ≤ mc) (hs : slots + ms1 ≤ ms)
    (k : o1 = .inr () → ∀ (H : Heap) (locs : List Loc), Bd D tys A s ws H locs → W p l e R s m args below meth c H locs (cells + mc1) (slots + ms1) (vx_MQ below Qc (XF D tys ws s.heap.size o) args s mc ms (va_A ws s.heap.size)) (F0 m (pc + 3) ls rest)) : W p l e R s m args below meth c H locs cells slots (vx_MQ below Qc (XF D tys ws s.heap.size o) args s mc ms (va_A ws s.heap.size)) (F0 m pc ls st0) := by
  have hF := keep_all hB hA
  have hp := xpre_all hEX hB hA hK As
  refine vx_callv (vx_runS S hM cw hp rfl hn hsize hstack (lv_room hW) hdg hf) hB.2.2 (fun q _ h => hF q h) hF (fun q _ h => hF q h) (fun E ce q9 u t H1 locs1 ht9 hvm _ hBt hz hk hS hq9 hv9 hc9 => ?_) (fun u t H1 locs1 ht9 hvm hr hBt hz hk hS => ?_)
  · obtain ⟨ho, hP1, -, hD1⟩ := hBt
    rw [ht9] at hP1
    subst hAe
    refine vx_out (fun x h => (ht x h).elim) hlocks hq9 hv9 hc9 (fun t2 h2 hvm2 => ?_) hS.2.2 hc hs
    exact ⟨(), trivial, ⟨hE E ho, by rw [h2]; exact hP1, va_K.moved hvm2 hK, hD1.weaken (fun _ q _ h => hF q.1 h)⟩, hS.F h2⟩
  · obtain ⟨hP1, -, hD1⟩ := hBt
    rw [ht9] at hP1
    exact k hr H1 locs1 ⟨hP1, hD1.weaken (fun _ q _ h => hF q.1 h), hS⟩
theorem g_aaldq (hx : p.tables.exec = Jvm.exec) (hb : c.code = cc) (hK : va_K D vwCl tys s) (hB : Bd D tys A s ws H locs) (q0 t0 : Nat) {cA : ClassId} {C : String} {n j : Nat} {g : Nat → Nat} (ha : ws[q0]? = some (a, .inl (cA, n, .inr (.inr (.inr (.inr (fun k => some (g k)))))))) (ht : tys[t0]? = some (cA, .object C)) {i : Int32} (hr : vp_in i n ∧ i.toNatClampNeg = j) (hdg : decode cc pc = .ok (.aaload, 1))
    (k : W p l e R s m args below meth c H locs cells slots Q (F0 m (pc + 1) ls (.ref (g j) :: rest))) : W p l e R s m args below meth c H locs cells slots Q (F0 m pc ls (.int i :: .ref a :: rest)) := by
  obtain ⟨hin, rfl⟩ := hr
  exact va_aldq hx hb hK hB.1 q0 t0 ha ht hin hdg k
end MX
/-! views of the class's cells -/
def cUwE (cyI : ClassId) (aw : Nat → Nat → Nat) (bs : Nat → Nat) (ω : Nat → MS) (l : List Nat) : va_W := l.flatMap fun w => cW1 cyI (aw w) (bs w) (ω w)
def cUsE (cyI : ClassId) (as' : Nat → Nat → Nat) (τs : Nat → MS) (l : List Nat) : va_W := l.flatMap fun i => cS cyI (as' i) (τs i)
def rU (cyI cyB cyO : ClassId) (ua ub up : Nat) (aw as' : Nat → Nat → Nat) (pa : Nat → Nat) (β : FS) (υ : MS) (ω : Nat → MS) (sid : Nat → Nat) (τs : Nat → MS) (n w : Nat) : va_W := cU0 cyB cyO ua ub up aw pa β υ ++ (cUwE cyI aw (fun w => as' (sid w) 0) ω ((List.range 10).erase w) ++ cUsE cyI as' τs ((List.range n).erase (sid w)))
theorem fm_perm {α β : Type} [DecidableEq α] (f : α → List β) {l : List α} {w : α} (h : w ∈ l) : (l.flatMap f).Perm (f w ++ (l.erase w).flatMap f) := by
  have := (List.perm_cons_erase h).flatMap_right f
  simpa using this
theorem p4 (a b b' c c' : va_W) : (a ++ ((b ++ b') ++ (c ++ c'))).Perm ((b ++ c) ++ (a ++ (b' ++ c'))) := by
  simp only [List.append_assoc]
  refine (List.perm_append_comm_assoc a b _).trans (List.Perm.append_left b ?_)
  refine (List.Perm.append_left a (List.perm_append_comm_assoc b' c c')).trans ?_
  exact List.perm_append_comm_assoc a c _
theorem p5 (a b b' b'' c : va_W) : (a ++ ((b ++ (b' ++ b'')) ++ c)).Perm ((b ++ b') ++ (a ++ (b'' ++ c))) := by
  simp only [List.append_assoc]
  refine (List.perm_append_comm_assoc a b _).trans (List.Perm.append_left b ?_)
  exact List.perm_append_comm_assoc a b' _
theorem cU_view (cyI cyB cyO : ClassId) (ua ub up : Nat) (aw as' : Nat → Nat → Nat) (pa : Nat → Nat) (β : FS) (υ : MS) (ω : Nat → MS) (sid : Nat → Nat) (τs : Nat → MS) (n : Nat) {w : Nat} (hw : w < 10 ∧ sid w < n) : (cU cyI cyB cyO ua ub up aw as' pa β υ ω sid τs n).Perm (cW cyI (aw w) (as' (sid w)) (τs (sid w)) (ω w) ++ rU cyI cyB cyO ua ub up aw as' pa β υ ω sid τs n w) := by
  have h1 := fm_perm (fun w => cW1 cyI (aw w) (as' (sid w) 0) (ω w)) (l := List.range 10) (w := w) (List.mem_range.mpr hw.1)
  have h2 := fm_perm (fun i => cS cyI (as' i) (τs i)) (l := List.range n) (w := sid w) (List.mem_range.mpr hw.2)
  show (cU0 cyB cyO ua ub up aw pa β υ ++ (cUw cyI aw (fun w => as' (sid w) 0) ω ++ cUs cyI as' τs n)).Perm ((cW1 cyI (aw w) (as' (sid w) 0) (ω w) ++ cS cyI (as' (sid w)) (τs (sid w))) ++ (cU0 cyB cyO ua ub up aw pa β υ ++ (cUwE cyI aw (fun w => as' (sid w) 0) ω ((List.range 10).erase w) ++ cUsE cyI as' τs ((List.range n).erase (sid w)))))
  exact ((List.Perm.refl _).append (List.Perm.append h1 h2)).trans (p4 _ _ _ _ _)
theorem cUwE_up (cyI : ClassId) (aw : Nat → Nat → Nat) (bs bs' : Nat → Nat) (ω ω' : Nat → MS) (l : List Nat) (h : ∀ v ∈ l, ω' v = ω v ∧ bs' v = bs v) : cUwE cyI aw bs' ω' l = cUwE cyI aw bs ω l := by
  unfold cUwE
  rw [List.flatMap_def, List.flatMap_def]
  congr 1
  apply List.map_congr_left
  intro v hv
  rw [(h v hv).1, (h v hv).2]
theorem ne_of_erase {l : List Nat} {w v : Nat} (hl : l.Nodup) (hv : v ∈ l.erase w) : v ≠ w := ((hl.mem_erase_iff).mp hv).1
theorem cU_back (cyI cyB cyO : ClassId) (ua ub up : Nat) (aw as' : Nat → Nat → Nat) (pa : Nat → Nat) (β : FS) (υ : MS) (ω : Nat → MS) (sid : Nat → Nat) (τs : Nat → MS) (n : Nat) {w : Nat} (hw : w < 10 ∧ sid w < n) (σ1 : MS) : (cW cyI (aw w) (as' (sid w)) (τs (sid w)) σ1 ++ rU cyI cyB cyO ua ub up aw as' pa β υ ω sid τs n w).Perm (cU cyI cyB cyO ua ub up aw as' pa β υ (va_up ω w σ1) sid τs n) := by
  have h := cU_view cyI cyB cyO ua ub up aw as' pa β υ (va_up ω w σ1) sid τs n hw
  rw [va_up_self] at h
  unfold rU at h ⊢
  rw [cUwE_up cyI aw (fun w => as' (sid w) 0) (fun w => as' (sid w) 0) ω (va_up ω w σ1) _ (fun v hv => ⟨va_up_ne _ _ (ne_of_erase List.nodup_range hv), rfl⟩)] at h
  exact h.symm
/-- a setup alone stands first -/
theorem cU_viewS (cyI cyB cyO : ClassId) (ua ub up : Nat) (aw as' : Nat → Nat → Nat) (pa : Nat → Nat) (β : FS) (υ : MS) (ω : Nat → MS) (sid : Nat → Nat) (τs : Nat → MS) (n : Nat) {w : Nat} (hw : w < 10 ∧ sid w < n) : (cU cyI cyB cyO ua ub up aw as' pa β υ ω sid τs n).Perm (cS cyI (as' (sid w)) (τs (sid w)) ++ (cW1 cyI (aw w) (as' (sid w) 0) (ω w) ++ rU cyI cyB cyO ua ub up aw as' pa β υ ω sid τs n w)) := by
  refine (cU_view cyI cyB cyO ua ub up aw as' pa β υ ω sid τs n hw).trans ?_
  rw [← List.append_assoc]
  exact (cW_perm cyI (aw w) (as' (sid w)) (τs (sid w)) (ω w)).append (List.Perm.refl _)
def rU2 (cyI cyB cyO : ClassId) (ua ub up : Nat) (aw as' : Nat → Nat → Nat) (pa : Nat → Nat) (β : FS) (υ : MS) (ω : Nat → MS) (sid : Nat → Nat) (τs : Nat → MS) (n w v : Nat) : va_W := cU0 cyB cyO ua ub up aw pa β υ ++ (cUwE cyI aw (fun w => as' (sid w) 0) ω (((List.range 10).erase w).erase v) ++ cUs cyI as' τs n)
theorem cU_view2 (cyI cyB cyO : ClassId) (ua ub up : Nat) (aw as' : Nat → Nat → Nat) (pa : Nat → Nat) (β : FS) (υ : MS) (ω : Nat → MS) (sid : Nat → Nat) (τs : Nat → MS) (n : Nat) {w v : Nat} (hw : w < 10) (hv : v < 10) (hne : w ≠ v) : (cU cyI cyB cyO ua ub up aw as' pa β υ ω sid τs n).Perm (cC cyI (aw w) (aw v) (as' (sid v) 0) (as' (sid w) 0) (ω v) (ω w) ++ rU2 cyI cyB cyO ua ub up aw as' pa β υ ω sid τs n w v) := by
  have h1 := fm_perm (fun w => cW1 cyI (aw w) (as' (sid w) 0) (ω w)) (l := List.range 10) (w := w) (List.mem_range.mpr hw)
  have h2 := fm_perm (fun w => cW1 cyI (aw w) (as' (sid w) 0) (ω w)) (l := (List.range 10).erase w) (w := v) ((List.mem_erase_of_ne (Ne.symm hne)).mpr (List.mem_range.mpr hv))
  show (cU0 cyB cyO ua ub up aw pa β υ ++ (cUw cyI aw (fun w => as' (sid w) 0) ω ++ cUs cyI as' τs n)).Perm ((cW1 cyI (aw w) (as' (sid w) 0) (ω w) ++ cW1 cyI (aw v) (as' (sid v) 0) (ω v)) ++ (cU0 cyB cyO ua ub up aw pa β υ ++ (cUwE cyI aw (fun w => as' (sid w) 0) ω (((List.range 10).erase w).erase v) ++ cUs cyI as' τs n)))
  exact ((List.Perm.refl _).append (List.Perm.append (h1.trans (List.Perm.append_left _ h2)) (List.Perm.refl _))).trans (p5 _ _ _ _ _)
theorem cU_back2 (cyI cyB cyO : ClassId) (ua ub up : Nat) (aw as' : Nat → Nat → Nat) (pa : Nat → Nat) (β : FS) (υ : MS) (ω : Nat → MS) (sid : Nat → Nat) (τs : Nat → MS) (n : Nat) {w v : Nat} (hw : w < 10) (hv : v < 10) (hne : w ≠ v) (σ1 : MS) : (cC cyI (aw w) (aw v) (as' (sid v) 0) (as' (sid v) 0) (ω v) σ1 ++ rU2 cyI cyB cyO ua ub up aw as' pa β υ ω sid τs n w v).Perm (cU cyI cyB cyO ua ub up aw as' pa β υ (va_up ω w σ1) (va_up sid w (sid v)) τs n) := by
  have h := cU_view2 cyI cyB cyO ua ub up aw as' pa β υ (va_up ω w σ1) (va_up sid w (sid v)) τs n hw hv hne
  rw [va_up_self, va_up_self, va_up_ne _ _ (Ne.symm hne), va_up_ne _ _ (Ne.symm hne)] at h
  unfold rU2 at h ⊢
  rw [cUwE_up cyI aw (fun w => as' (sid w) 0) _ ω _ _ (fun u hu => ?_)] at h
  · exact h.symm
  · have hu1 : u ≠ w := ne_of_erase List.nodup_range (List.mem_of_mem_erase hu)
    exact ⟨va_up_ne _ _ hu1, by show as' (va_up sid w (sid v) u) 0 = _; rw [va_up_ne _ _ hu1]⟩
/-- a world is a cell of the class's -/
theorem cU_at (cyI cyB cyO : ClassId) (ua ub up : Nat) (aw as' : Nat → Nat → Nat) (pa : Nat → Nat) (β : FS) (υ : MS) (ω : Nat → MS) (sid : Nat → Nat) (τs : Nat → MS) (n : Nat) {w : Nat} (hw : w < 10) : ∃ (k : Nat) (vs : List Value), (cU cyI cyB cyO ua ub up aw as' pa β υ ω sid τs n)[k]? = some (aw w 0, .inr (2, vs)) := by
  have hm : (aw w 0, (.inr (2, [.ref (as' (sid w) 0), .int (ω w 1 0), .int (ω w 2 0), .ref (aw w 3), .ref (aw w 4), .ref (aw w 5), .ref (aw w 6), .ref (aw w 7), .ref (aw w 8), .ref (aw w 9), .ref (aw w 10), .ref (aw w 11), .ref (aw w 12), .ref (aw w 13)]) : va_E)) ∈ cU cyI cyB cyO ua ub up aw as' pa β υ ω sid τs n := by
    refine List.mem_append_right _ (List.mem_append_left _ (List.mem_flatMap.mpr ⟨w, List.mem_range.mpr hw, ?_⟩))
    exact List.mem_cons_self
  obtain ⟨k, hk⟩ := List.getElem?_of_mem hm
  exact ⟨k, _, hk⟩
theorem past_up (aw : Nat → Nat → Nat) (pa : Nat → Nat) (j w : Nat) : va_up (fun k => some (aw (pa k) 0)) j (some (aw w 0)) = fun k => some (aw (va_up pa j w k) 0) := by
  funext k
  by_cases h : k = j
  · subst h; rw [va_up_self, va_up_self]
  · rw [va_up_ne _ _ h, va_up_ne _ _ h]
