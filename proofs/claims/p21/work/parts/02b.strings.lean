/-! the nine words of the two readers: String constants, and the JDK's length and charAt over them -/
def sTab : List (List Int32) := [[116, 114, 105, 112, 115], [115, 116, 111, 99, 107], [106, 111, 117, 114, 110, 101, 121], [119, 97, 105, 116], [112, 97, 116, 105, 101, 110, 99, 101], [97, 110, 100], [116, 104, 101, 110], [117, 110, 100, 111], [97, 103, 97, 105, 110], [116, 114, 105, 112, 115, 59], [115, 116, 111, 99, 107, 32], [32], [59], [106, 111, 117, 114, 110, 101, 121, 32], [116, 104, 101, 110], [32, 97, 110, 100, 32], [42], [58], [117, 110, 100, 111], [32, 97, 103, 97, 105, 110, 32], [119, 97, 105, 116, 32], [112, 97, 116, 105, 101, 110, 99, 101], [32, 59]]
def sW (w : Nat) : List Int32 := sTab.getD w []
def sLen (w : Nat) : Int32 := nI (sW w).length
def sChr (w : Nat) (k : Int32) : Option Int32 := if k < 0 ∨ (sW w).length ≤ k.toNatClampNeg then none else some ((sW w).getD k.toNatClampNeg 0)
theorem sChr_s {w : Nat} {k r : Int32} (h : sChr w k = some r) : vp_in k (sW w).length ∧ (sW w).getD k.toNatClampNeg 0 = r := by
  unfold sChr at h
  split at h
  · cases h
  · next q => exact ⟨q, Option.some.inj h⟩
theorem sW_len : ∀ w, w < 23 → (sW w).length < 10 := by decide +kernel
theorem sW_chr : ∀ w, w < 23 → ∀ k, k < (sW w).length → (((sW w).getD k 0 &&& 255).toUInt32 % 65536).toInt32 = (sW w).getD k 0 ∧ narrow .char (.int ((sW w).getD k 0)) = .int ((sW w).getD k 0) := by decide +kernel
/-- one word: the object, its coder, its bytes -/
def sOk (kS : Nat → Nat) (w : Nat) (A : Nat → Prop) (U : State) (H : Heap) : Prop := va_O "java/lang/String" (kS w) A U H ∧ va_OF "java/lang/String" "coder" "B" (.int 0) (kS w) A U H ∧ va_OF "java/lang/String" "value" "[B" (.ref (kS (100 + w))) (kS w) A U H ∧ va_T .byte (kS (100 + w)) (sW w).length (fun j => .int ((sW w).getD j 0)) A U H
/-- the places of the constants in the two classes -/
def sRef : List (String × Nat × String × Nat) := [("UndoJourneys$SetupReader", 63, "trips", 0), ("UndoJourneys$SetupReader", 73, "stock", 1), ("UndoJourneys$SetupReader", 82, "journey", 2), ("UndoJourneys$SetupReader", 87, "wait", 3), ("UndoJourneys$SetupReader", 94, "patience", 4), ("UndoJourneys$SetupReader", 119, "and", 5), ("UndoJourneys$SetupReader", 121, "then", 6), ("UndoJourneys$SetupReader", 129, "undo", 7), ("UndoJourneys$SetupReader", 134, "again", 8), ("UndoJourneysLaw", 105, "trips;", 9), ("UndoJourneysLaw", 120, "stock ", 10), ("UndoJourneysLaw", 126, " ", 11), ("UndoJourneysLaw", 128, ";", 12), ("UndoJourneysLaw", 144, "journey ", 13), ("UndoJourneysLaw", 146, "then", 14), ("UndoJourneysLaw", 151, " and ", 15), ("UndoJourneysLaw", 153, "*", 16), ("UndoJourneysLaw", 155, ":", 17), ("UndoJourneysLaw", 157, "undo", 18), ("UndoJourneysLaw", 159, " again ", 19), ("UndoJourneysLaw", 164, "wait ", 20), ("UndoJourneysLaw", 169, "patience", 21), ("UndoJourneysLaw", 170, " ;", 22)]
def JS (kS : Nat → Nat) (A : Nat → Prop) (U : State) (H : Heap) : Prop :=
  (∀ w, w < 23 → sOk kS w A U H) ∧ va_Z "java/lang/String" "COMPACT_STRINGS" "Z" (.int 1) A U H ∧ va_Zq "jdk/internal/util/Preconditions" "SIOOBE_FORMATTER" "Ljava/util/function/BiFunction;" A U H ∧ ∀ q ∈ sRef, vk_R q.1 q.2.1 q.2.2.1 (kS q.2.2.2) U
theorem JS.kept {kS : Nat → Nat} {A : Nat → Prop} {U : State} {H H1 : Heap} (h : JS kS A U H) (hq : ∀ a : Nat, a < H.size → ¬ A a → H1[a]? = H[a]?) : JS kS A U H1 := by
  obtain ⟨h1, h2, h3, h4⟩ := h
  refine ⟨fun w hw => ?_, h2.kept hq, h3.kept hq, h4⟩
  obtain ⟨a1, a2, a3, a4⟩ := h1 w hw
  exact ⟨a1.kept hq, a2.kept hq, a3.kept hq, a4.kept hq⟩
theorem JS.narrow {kS : Nat → Nat} {A B : Nat → Prop} {U : State} {H : Heap} (h : JS kS A U H) (hAB : ∀ q, B q → A q) : JS kS B U H := by
  obtain ⟨h1, h2, h3, h4⟩ := h
  refine ⟨fun w hw => ?_, h2.narrow hAB, h3.narrow hAB, h4⟩
  obtain ⟨a1, a2, a3, a4⟩ := h1 w hw
  exact ⟨a1.narrow hAB, a2.narrow hAB, a3.narrow hAB, a4.narrow hAB⟩
theorem JS.warm {kS : Nat → Nat} {A : Nat → Prop} {s U : State} {H : Heap} (hW : s.WarmedH U.vm) (h : JS kS A s H) : JS kS A U H := by
  obtain ⟨h1, h2, h3, h4⟩ := h
  refine ⟨fun w hw => ?_, va_Z.moved hW.alike h2, va_Zq.moved hW.alike h3, fun q hq => (h4 q hq).warm hW⟩
  obtain ⟨a1, a2, a3, a4⟩ := h1 w hw
  exact ⟨a1.moved hW.alike, a2.moved hW.alike, a3.moved hW.alike, va_T.moved hW.alike a4⟩
theorem JS.same {kS : Nat → Nat} {A : Nat → Prop} {u U : State} {H : Heap} (hv : U.vm = u.vm) (h : JS kS A u H) : JS kS A U H := by
  obtain ⟨h1, h2, h3, h4⟩ := h
  have hvm : u.vm.Alike U.vm := by rw [hv]; exact Vm.Alike.refl _
  refine ⟨fun w hw => ?_, va_Z.moved hvm h2, va_Zq.moved hvm h3, fun q hq => vk_R.same hv (h4 q hq)⟩
  obtain ⟨a1, a2, a3, a4⟩ := h1 w hw
  exact ⟨a1.moved hvm, a2.moved hvm, a3.moved hvm, va_T.moved hvm a4⟩
def PcJ (D : va_G) (tys : List (ClassId × FieldType)) (kS : Nat → Nat) (w0 : va_W) (sz : Nat) (av : List Value) : Array Value → State → Prop := va_Pc av (fun U => (U.heap.size = sz ∧ va_P D vwCl w0 U.heap ∧ va_K D vwCl tys U ∧ va_D (fun _ => True) w0) ∧ JS kS (va_A w0 sz) U U.heap)
theorem PcJ_blind (D : va_G) (tys : List (ClassId × FieldType)) (kS : Nat → Nat) (w0 : va_W) (sz : Nat) (av : List Value) : FrameBlind (PcJ D tys kS w0 sz av) := fun a U g mk q => by
  obtain ⟨q0, ⟨q1, qP, qK, qD⟩, qJ⟩ := q
  exact ⟨q0, ⟨q1, qP, va_K.moved (u := U) (U := U.calling g mk a) (Vm.Alike.refl U.vm) qK, qD⟩, JS.same (u := U) rfl qJ⟩
section MJ
variable {p : Program} {l : Launch} {e : Env} {R : Room} {s : State} {m : MethodId} {args : Array Value} {below : List Frame} {meth : Method} {c : Code} {H : Heap} {locs : List Loc} {cells slots : Nat} {Q : State → Prop}
variable {cc : ByteArray} {pc : Nat} {ls : Array Slot} {rest : List Value} {D : va_G} {A : Nat → Prop} {a : Nat} {tys : List (ClassId × FieldType)} {ws : va_W}
variable {y : MethodName} {bytes : ByteArray} {maxL nL mc ms n index : Nat} {ret : Option FieldType} {wsy : List Cond} {rm : Room} {Ts : List Cond} {own C : String} {b : Addr} {As : List Value} {st0 : List Value} {w0 w1 : va_W} {kS : Nat → Nat}
theorem JS_at {wc : va_W} (hJ : JS kS A s s.heap) (hS : va_S A s.heap H locs) (hF : ∀ q, va_A wc H.size q → A q) {U : State} (hU : U.heap = H) (hW : s.WarmedH U.vm) : JS kS (va_A wc H.size) U U.heap := by
  rw [hU]
  exact ((hJ.kept hS.2.1).narrow hF).warm hW
theorem jpre_all (hJ : JS kS A s s.heap) (hB : Bd D tys A s ws H locs) (hA : ∀ q, s.heap.size ≤ q → A q) (hK : va_K D vwCl tys s) (av : List Value) : FrameBlind (PcJ D tys kS ws H.size av) ∧ ∀ U : State, U.heap = H → s.WarmedH U.vm → PcJ D tys kS ws H.size av av.toArray U :=
  ⟨PcJ_blind _ _ _ _ _ _, fun U hU hW => ⟨rfl, ((pre_all hB hK av).2 U hU hW).2, JS_at hJ hB.2.2 (keep_all hB hA) hU hW⟩⟩
theorem jpre_cut {wc : va_W} {tysc : List (ClassId × FieldType)} (hJ : JS kS A s s.heap) (hB : Bd D tys A s ws H locs) (hA : ∀ q, s.heap.size ≤ q → A q) (hK : va_K D vwCl tysc s) (isC : List Nat) (hn : va_nd isC = true) (hC : isC.map (fun i => ws[i]?) = wc.map some) (av : List Value) : FrameBlind (PcJ D tysc kS wc H.size av) ∧ ∀ U : State, U.heap = H → s.WarmedH U.vm → PcJ D tysc kS wc H.size av av.toArray U :=
  ⟨PcJ_blind _ _ _ _ _ _, fun U hU hW => ⟨rfl, ((cut_pre hB hK isC hn hC av).2 U hU hW).2, JS_at hJ hB.2.2 (keep_cut hB hA isC hC) hU hW⟩⟩
theorem recvS (hJ : JS kS A s s.heap) (hB : Bd D tys A s ws H locs) {w : Nat} (hw : w < 23) : ∃ cell : Cell, H[kS w]? = some cell ∧ cell.vm.isStatics = false ∧ s.vm.findClass "java/lang/String" = some cell.cls := by
  obtain ⟨h, -⟩ := hJ.1 w hw
  obtain ⟨cell, h1, h2, h3, -⟩ := h.kept hB.2.2.2.1
  exact ⟨cell, h1, h2, h3⟩
theorem g_ldcS {own tx : String} {w : Nat} (hx : p.tables.exec = Jvm.exec) (hb : c.code = cc) (hown : s.vm.findClass own = some m.cls) (hJ : JS kS A s s.heap) (k0 : Nat) (hk : sRef[k0]? = some (own, index, tx, w)) (hdg : decode cc pc = .ok (.ldc index, 2))
    (k : W p l e R s m args below meth c H locs cells slots Q (F0 m (pc + 2) ls (.ref (kS w) :: rest))) : W p l e R s m args below meth c H locs cells slots Q (F0 m pc ls rest) :=
  va_ldcS hx hb hown (hJ.2.2.2 _ (List.mem_of_getElem? hk)) hdg k
theorem g_nret {w0 w1 : va_W} {v : Int32} {ty : FieldType} (hx : p.tables.exec = Jvm.exec) (hb : c.code = cc) (hr : meth.sig.returnType = some ty) (hlocks : meth.locks = false) (hn : narrow ty (.int v) = .int v) (hK : va_K D vwCl tys s) (hB : Bd D tys (va_A w0 s.heap.size) s w1 H locs) (hdg : decode cc pc = .ok (.ireturn, 1)) : W p l e R s m args below meth c H locs cells slots (MQ below (QiF D tys w0 w1 s.heap.size v) args s cells slots (va_A w0 s.heap.size)) (F0 m pc ls [.int v]) :=
  W.zret hx hb hr hn (fun t ht hW => ⟨⟨v, (), rfl, rfl, by rw [ht]; exact hB.1, va_K.moved hW.alike hK, hB.2.1⟩, hB.2.2.F ht⟩) hB.2.2.2.2 hdg
theorem g_jcallVi {r0 : Int32} (S : CallFix p m c cc nL s args Ts own) (hJ : JS kS A s s.heap) (hM : Met l y wsy rm (PcJ D tys kS ws H.size (.ref b :: As)) (QiF D tys ws w1 H.size r0) 0 0 (va_A ws H.size)) (cw : CallW R s args own C index y bytes maxL ret wsy rm 0 0 n) (hK : va_K D vwCl tys s) (hB : Bd D tys A s ws H locs) (hA : ∀ q, s.heap.size ≤ q → A q) (hrec : ∃ cell : Cell, H[b]? = some cell ∧ cell.vm.isStatics = false ∧ s.vm.findClass C = some cell.cls)
    (hn : As.length = n) (hsize : ls.size = nL) (hstack : st0 = As.reverse ++ .ref b :: rest) (hW : (rest.map fun v => v.category).sum ≤ 8) (hdg : decode cc pc = .ok (.invokevirtual index, 3)) (hf : cells ≤ R.cells ∧ slots ≤ R.slots)
    (k : ∀ (H : Heap) (locs : List Loc), Bd D tys A s w1 H locs → W p l e R s m args below meth c H locs cells slots Q (F0 m (pc + 3) ls (.int r0 :: rest))) : W p l e R s m args below meth c H locs cells slots Q (F0 m pc ls st0) := by
  have hF := keep_all hB hA
  have hp := jpre_all hJ hB hA hK (.ref b :: As)
  refine va_calli (va_runV S hM cw ⟨hp.1, hrec, hp.2⟩ rfl hn hsize hstack (lv_room hW) hdg hf) hB.2.2 (fun q _ h => hF q h) hF (fun r u t H1 locs1 ht hvm hr hBt hz hk hS => ?_)
  subst hr
  obtain ⟨hP1, -, hD1⟩ := hBt
  rw [ht] at hP1
  exact k H1 locs1 ⟨hP1, hD1.weaken (fun _ q _ h => hF q.1 h), hS⟩
theorem g_jcutVi {r0 : Int32} {wc w2 : va_W} {tysc : List (ClassId × FieldType)} (S : CallFix p m c cc nL s args Ts own) (hJ : JS kS A s s.heap) (hM : Met l y wsy rm (PcJ D tysc kS wc H.size (.ref b :: As)) (QiF D tysc wc w1 H.size r0) 0 0 (va_A wc H.size)) (cw : CallW R s args own C index y bytes maxL ret wsy rm 0 0 n) (hKc : va_K D vwCl tysc s) (hB : Bd D tys A s ws H locs) (hA : ∀ q, s.heap.size ≤ q → A q) (hrec : ∃ cell : Cell, H[b]? = some cell ∧ cell.vm.isStatics = false ∧ s.vm.findClass C = some cell.cls) (isC : List Nat) (hnd : va_nd isC = true) (hC : isC.map (fun i => ws[i]?) = wc.map some) (hlen : w1.length = isC.length) (hw : spl ws isC w1 = w2)
    (hn : As.length = n) (hsize : ls.size = nL) (hstack : st0 = As.reverse ++ .ref b :: rest) (hW : (rest.map fun v => v.category).sum ≤ 8) (hdg : decode cc pc = .ok (.invokevirtual index, 3)) (hf : cells ≤ R.cells ∧ slots ≤ R.slots)
    (k : ∀ (H : Heap) (locs : List Loc), Bd D tys A s w2 H locs → W p l e R s m args below meth c H locs cells slots Q (F0 m (pc + 3) ls (.int r0 :: rest))) : W p l e R s m args below meth c H locs cells slots Q (F0 m pc ls st0) := by
  have hF := keep_cut hB hA isC hC
  have hp := jpre_cut hJ hB hA hKc isC hnd hC (.ref b :: As)
  refine va_calli (va_runV S hM cw ⟨hp.1, hrec, hp.2⟩ rfl hn hsize hstack (lv_room hW) hdg hf) hB.2.2 (fun q _ h => hF q h) hF (fun r u t H1 locs1 ht hvm hr hBt hz hk hS => ?_)
  subst hr
  obtain ⟨hP1, -, hD1⟩ := hBt
  rw [ht] at hP1
  exact k H1 locs1 (cut_back hB isC hC hF hk hP1 hD1 hS hlen hw)
theorem g_jcallSi {r0 : Int32} (S : CallFix p m c cc nL s args Ts own) (hJ : JS kS A s s.heap) (hM : Met l y wsy rm (PcJ D tys kS ws H.size (As)) (QiF D tys ws w1 H.size r0) 0 0 (va_A ws H.size)) (cw : CallB R s args own index y bytes maxL ret wsy rm 0 0 n ∧ (Cond.static y).before args s = true) (hK : va_K D vwCl tys s) (hB : Bd D tys A s ws H locs) (hA : ∀ q, s.heap.size ≤ q → A q)
    (hn : As.length = n) (hsize : ls.size = nL) (hstack : st0 = As.reverse ++ rest) (hW : (rest.map fun v => v.category).sum ≤ 8) (hdg : decode cc pc = .ok (.invokestatic index, 3)) (hf : cells ≤ R.cells ∧ slots ≤ R.slots)
    (k : ∀ (H : Heap) (locs : List Loc), Bd D tys A s w1 H locs → W p l e R s m args below meth c H locs cells slots Q (F0 m (pc + 3) ls (.int r0 :: rest))) : W p l e R s m args below meth c H locs cells slots Q (F0 m pc ls st0) := by
  have hF := keep_all hB hA
  have hp := jpre_all hJ hB hA hK (As)
  refine va_calli (va_runS S hM cw hp rfl hn hsize hstack (lv_room hW) hdg hf) hB.2.2 (fun q _ h => hF q h) hF (fun r u t H1 locs1 ht hvm hr hBt hz hk hS => ?_)
  subst hr
  obtain ⟨hP1, -, hD1⟩ := hBt
  rw [ht] at hP1
  exact k H1 locs1 ⟨hP1, hD1.weaken (fun _ q _ h => hF q.1 h), hS⟩
theorem g_jcutSi {r0 : Int32} {wc w2 : va_W} {tysc : List (ClassId × FieldType)} (S : CallFix p m c cc nL s args Ts own) (hJ : JS kS A s s.heap) (hM : Met l y wsy rm (PcJ D tysc kS wc H.size (As)) (QiF D tysc wc w1 H.size r0) 0 0 (va_A wc H.size)) (cw : CallB R s args own index y bytes maxL ret wsy rm 0 0 n ∧ (Cond.static y).before args s = true) (hKc : va_K D vwCl tysc s) (hB : Bd D tys A s ws H locs) (hA : ∀ q, s.heap.size ≤ q → A q) (isC : List Nat) (hnd : va_nd isC = true) (hC : isC.map (fun i => ws[i]?) = wc.map some) (hlen : w1.length = isC.length) (hw : spl ws isC w1 = w2)
    (hn : As.length = n) (hsize : ls.size = nL) (hstack : st0 = As.reverse ++ rest) (hW : (rest.map fun v => v.category).sum ≤ 8) (hdg : decode cc pc = .ok (.invokestatic index, 3)) (hf : cells ≤ R.cells ∧ slots ≤ R.slots)
    (k : ∀ (H : Heap) (locs : List Loc), Bd D tys A s w2 H locs → W p l e R s m args below meth c H locs cells slots Q (F0 m (pc + 3) ls (.int r0 :: rest))) : W p l e R s m args below meth c H locs cells slots Q (F0 m pc ls st0) := by
  have hF := keep_cut hB hA isC hC
  have hp := jpre_cut hJ hB hA hKc isC hnd hC (As)
  refine va_calli (va_runS S hM cw hp rfl hn hsize hstack (lv_room hW) hdg hf) hB.2.2 (fun q _ h => hF q h) hF (fun r u t H1 locs1 ht hvm hr hBt hz hk hS => ?_)
  subst hr
  obtain ⟨hP1, -, hD1⟩ := hBt
  rw [ht] at hP1
  exact k H1 locs1 (cut_back hB isC hC hF hk hP1 hD1 hS hlen hw)
theorem g_jcallVz {r0 : Int32} (S : CallFix p m c cc nL s args Ts own) (hJ : JS kS A s s.heap) (hM : Met l y wsy rm (PcJ D tys kS ws H.size (.ref b :: As)) (QzF D tys ws w1 H.size r0) 0 0 (va_A ws H.size)) (cw : CallW R s args own C index y bytes maxL ret wsy rm 0 0 n) (hK : va_K D vwCl tys s) (hB : Bd D tys A s ws H locs) (hA : ∀ q, s.heap.size ≤ q → A q) (hrec : ∃ cell : Cell, H[b]? = some cell ∧ cell.vm.isStatics = false ∧ s.vm.findClass C = some cell.cls)
    (hn : As.length = n) (hsize : ls.size = nL) (hstack : st0 = As.reverse ++ .ref b :: rest) (hW : (rest.map fun v => v.category).sum ≤ 8) (hdg : decode cc pc = .ok (.invokevirtual index, 3)) (hf : cells ≤ R.cells ∧ slots ≤ R.slots)
    (k : (r0 = 0 ∨ r0 = 1) → ∀ (H : Heap) (locs : List Loc), Bd D tys A s w1 H locs → W p l e R s m args below meth c H locs cells slots Q (F0 m (pc + 3) ls (.int r0 :: rest))) : W p l e R s m args below meth c H locs cells slots Q (F0 m pc ls st0) := by
  have hF := keep_all hB hA
  have hp := jpre_all hJ hB hA hK (.ref b :: As)
  refine va_calli (va_runV S hM cw ⟨hp.1, hrec, hp.2⟩ rfl hn hsize hstack (lv_room hW) hdg hf) hB.2.2 (fun q _ h => hF q h) hF (fun r u t H1 locs1 ht hvm hr hBt hz hk hS => ?_)
  obtain ⟨hr, hzz⟩ := hr
  subst hr
  obtain ⟨hP1, -, hD1⟩ := hBt
  rw [ht] at hP1
  exact k hzz H1 locs1 ⟨hP1, hD1.weaken (fun _ q _ h => hF q.1 h), hS⟩
theorem g_jcutVz {r0 : Int32} {wc w2 : va_W} {tysc : List (ClassId × FieldType)} (S : CallFix p m c cc nL s args Ts own) (hJ : JS kS A s s.heap) (hM : Met l y wsy rm (PcJ D tysc kS wc H.size (.ref b :: As)) (QzF D tysc wc w1 H.size r0) 0 0 (va_A wc H.size)) (cw : CallW R s args own C index y bytes maxL ret wsy rm 0 0 n) (hKc : va_K D vwCl tysc s) (hB : Bd D tys A s ws H locs) (hA : ∀ q, s.heap.size ≤ q → A q) (hrec : ∃ cell : Cell, H[b]? = some cell ∧ cell.vm.isStatics = false ∧ s.vm.findClass C = some cell.cls) (isC : List Nat) (hnd : va_nd isC = true) (hC : isC.map (fun i => ws[i]?) = wc.map some) (hlen : w1.length = isC.length) (hw : spl ws isC w1 = w2)
    (hn : As.length = n) (hsize : ls.size = nL) (hstack : st0 = As.reverse ++ .ref b :: rest) (hW : (rest.map fun v => v.category).sum ≤ 8) (hdg : decode cc pc = .ok (.invokevirtual index, 3)) (hf : cells ≤ R.cells ∧ slots ≤ R.slots)
    (k : (r0 = 0 ∨ r0 = 1) → ∀ (H : Heap) (locs : List Loc), Bd D tys A s w2 H locs → W p l e R s m args below meth c H locs cells slots Q (F0 m (pc + 3) ls (.int r0 :: rest))) : W p l e R s m args below meth c H locs cells slots Q (F0 m pc ls st0) := by
  have hF := keep_cut hB hA isC hC
  have hp := jpre_cut hJ hB hA hKc isC hnd hC (.ref b :: As)
  refine va_calli (va_runV S hM cw ⟨hp.1, hrec, hp.2⟩ rfl hn hsize hstack (lv_room hW) hdg hf) hB.2.2 (fun q _ h => hF q h) hF (fun r u t H1 locs1 ht hvm hr hBt hz hk hS => ?_)
  obtain ⟨hr, hzz⟩ := hr
  subst hr
  obtain ⟨hP1, -, hD1⟩ := hBt
  rw [ht] at hP1
  exact k hzz H1 locs1 (cut_back hB isC hC hF hk hP1 hD1 hS hlen hw)
theorem g_jcallSz {r0 : Int32} (S : CallFix p m c cc nL s args Ts own) (hJ : JS kS A s s.heap) (hM : Met l y wsy rm (PcJ D tys kS ws H.size (As)) (QzF D tys ws w1 H.size r0) 0 0 (va_A ws H.size)) (cw : CallB R s args own index y bytes maxL ret wsy rm 0 0 n ∧ (Cond.static y).before args s = true) (hK : va_K D vwCl tys s) (hB : Bd D tys A s ws H locs) (hA : ∀ q, s.heap.size ≤ q → A q)
    (hn : As.length = n) (hsize : ls.size = nL) (hstack : st0 = As.reverse ++ rest) (hW : (rest.map fun v => v.category).sum ≤ 8) (hdg : decode cc pc = .ok (.invokestatic index, 3)) (hf : cells ≤ R.cells ∧ slots ≤ R.slots)
    (k : (r0 = 0 ∨ r0 = 1) → ∀ (H : Heap) (locs : List Loc), Bd D tys A s w1 H locs → W p l e R s m args below meth c H locs cells slots Q (F0 m (pc + 3) ls (.int r0 :: rest))) : W p l e R s m args below meth c H locs cells slots Q (F0 m pc ls st0) := by
  have hF := keep_all hB hA
  have hp := jpre_all hJ hB hA hK (As)
  refine va_calli (va_runS S hM cw hp rfl hn hsize hstack (lv_room hW) hdg hf) hB.2.2 (fun q _ h => hF q h) hF (fun r u t H1 locs1 ht hvm hr hBt hz hk hS => ?_)
  obtain ⟨hr, hzz⟩ := hr
  subst hr
  obtain ⟨hP1, -, hD1⟩ := hBt
  rw [ht] at hP1
  exact k hzz H1 locs1 ⟨hP1, hD1.weaken (fun _ q _ h => hF q.1 h), hS⟩
theorem g_jcutSz {r0 : Int32} {wc w2 : va_W} {tysc : List (ClassId × FieldType)} (S : CallFix p m c cc nL s args Ts own) (hJ : JS kS A s s.heap) (hM : Met l y wsy rm (PcJ D tysc kS wc H.size (As)) (QzF D tysc wc w1 H.size r0) 0 0 (va_A wc H.size)) (cw : CallB R s args own index y bytes maxL ret wsy rm 0 0 n ∧ (Cond.static y).before args s = true) (hKc : va_K D vwCl tysc s) (hB : Bd D tys A s ws H locs) (hA : ∀ q, s.heap.size ≤ q → A q) (isC : List Nat) (hnd : va_nd isC = true) (hC : isC.map (fun i => ws[i]?) = wc.map some) (hlen : w1.length = isC.length) (hw : spl ws isC w1 = w2)
    (hn : As.length = n) (hsize : ls.size = nL) (hstack : st0 = As.reverse ++ rest) (hW : (rest.map fun v => v.category).sum ≤ 8) (hdg : decode cc pc = .ok (.invokestatic index, 3)) (hf : cells ≤ R.cells ∧ slots ≤ R.slots)
    (k : (r0 = 0 ∨ r0 = 1) → ∀ (H : Heap) (locs : List Loc), Bd D tys A s w2 H locs → W p l e R s m args below meth c H locs cells slots Q (F0 m (pc + 3) ls (.int r0 :: rest))) : W p l e R s m args below meth c H locs cells slots Q (F0 m pc ls st0) := by
  have hF := keep_cut hB hA isC hC
  have hp := jpre_cut hJ hB hA hKc isC hnd hC (As)
  refine va_calli (va_runS S hM cw hp rfl hn hsize hstack (lv_room hW) hdg hf) hB.2.2 (fun q _ h => hF q h) hF (fun r u t H1 locs1 ht hvm hr hBt hz hk hS => ?_)
  obtain ⟨hr, hzz⟩ := hr
  subst hr
  obtain ⟨hP1, -, hD1⟩ := hBt
  rw [ht] at hP1
  exact k hzz H1 locs1 (cut_back hB isC hC hF hk hP1 hD1 hS hlen hw)
theorem g_jcallVv (S : CallFix p m c cc nL s args Ts own) (hJ : JS kS A s s.heap) (hM : Met l y wsy rm (PcJ D tys kS ws H.size (.ref b :: As)) (QvF D tys ws w1 H.size) 0 0 (va_A ws H.size)) (cw : CallW R s args own C index y bytes maxL ret wsy rm 0 0 n) (hK : va_K D vwCl tys s) (hB : Bd D tys A s ws H locs) (hA : ∀ q, s.heap.size ≤ q → A q) (hrec : ∃ cell : Cell, H[b]? = some cell ∧ cell.vm.isStatics = false ∧ s.vm.findClass C = some cell.cls)
    (hn : As.length = n) (hsize : ls.size = nL) (hstack : st0 = As.reverse ++ .ref b :: rest) (hW : (rest.map fun v => v.category).sum ≤ 8) (hdg : decode cc pc = .ok (.invokevirtual index, 3)) (hf : cells ≤ R.cells ∧ slots ≤ R.slots)
    (k : ∀ (H : Heap) (locs : List Loc), Bd D tys A s w1 H locs → W p l e R s m args below meth c H locs cells slots Q (F0 m (pc + 3) ls (rest))) : W p l e R s m args below meth c H locs cells slots Q (F0 m pc ls st0) := by
  have hF := keep_all hB hA
  have hp := jpre_all hJ hB hA hK (.ref b :: As)
  refine va_callv (va_runV S hM cw ⟨hp.1, hrec, hp.2⟩ rfl hn hsize hstack (lv_room hW) hdg hf) hB.2.2 (fun q _ h => hF q h) hF (fun u t H1 locs1 ht hvm hr hBt hz hk hS => ?_)
  obtain ⟨hP1, -, hD1⟩ := hBt
  rw [ht] at hP1
  exact k H1 locs1 ⟨hP1, hD1.weaken (fun _ q _ h => hF q.1 h), hS⟩
theorem g_jcutVv {wc w2 : va_W} {tysc : List (ClassId × FieldType)} (S : CallFix p m c cc nL s args Ts own) (hJ : JS kS A s s.heap) (hM : Met l y wsy rm (PcJ D tysc kS wc H.size (.ref b :: As)) (QvF D tysc wc w1 H.size) 0 0 (va_A wc H.size)) (cw : CallW R s args own C index y bytes maxL ret wsy rm 0 0 n) (hKc : va_K D vwCl tysc s) (hB : Bd D tys A s ws H locs) (hA : ∀ q, s.heap.size ≤ q → A q) (hrec : ∃ cell : Cell, H[b]? = some cell ∧ cell.vm.isStatics = false ∧ s.vm.findClass C = some cell.cls) (isC : List Nat) (hnd : va_nd isC = true) (hC : isC.map (fun i => ws[i]?) = wc.map some) (hlen : w1.length = isC.length) (hw : spl ws isC w1 = w2)
    (hn : As.length = n) (hsize : ls.size = nL) (hstack : st0 = As.reverse ++ .ref b :: rest) (hW : (rest.map fun v => v.category).sum ≤ 8) (hdg : decode cc pc = .ok (.invokevirtual index, 3)) (hf : cells ≤ R.cells ∧ slots ≤ R.slots)
    (k : ∀ (H : Heap) (locs : List Loc), Bd D tys A s w2 H locs → W p l e R s m args below meth c H locs cells slots Q (F0 m (pc + 3) ls (rest))) : W p l e R s m args below meth c H locs cells slots Q (F0 m pc ls st0) := by
  have hF := keep_cut hB hA isC hC
  have hp := jpre_cut hJ hB hA hKc isC hnd hC (.ref b :: As)
  refine va_callv (va_runV S hM cw ⟨hp.1, hrec, hp.2⟩ rfl hn hsize hstack (lv_room hW) hdg hf) hB.2.2 (fun q _ h => hF q h) hF (fun u t H1 locs1 ht hvm hr hBt hz hk hS => ?_)
  obtain ⟨hP1, -, hD1⟩ := hBt
  rw [ht] at hP1
  exact k H1 locs1 (cut_back hB isC hC hF hk hP1 hD1 hS hlen hw)
theorem g_jcallSv (S : CallFix p m c cc nL s args Ts own) (hJ : JS kS A s s.heap) (hM : Met l y wsy rm (PcJ D tys kS ws H.size (As)) (QvF D tys ws w1 H.size) 0 0 (va_A ws H.size)) (cw : CallB R s args own index y bytes maxL ret wsy rm 0 0 n ∧ (Cond.static y).before args s = true) (hK : va_K D vwCl tys s) (hB : Bd D tys A s ws H locs) (hA : ∀ q, s.heap.size ≤ q → A q)
    (hn : As.length = n) (hsize : ls.size = nL) (hstack : st0 = As.reverse ++ rest) (hW : (rest.map fun v => v.category).sum ≤ 8) (hdg : decode cc pc = .ok (.invokestatic index, 3)) (hf : cells ≤ R.cells ∧ slots ≤ R.slots)
    (k : ∀ (H : Heap) (locs : List Loc), Bd D tys A s w1 H locs → W p l e R s m args below meth c H locs cells slots Q (F0 m (pc + 3) ls (rest))) : W p l e R s m args below meth c H locs cells slots Q (F0 m pc ls st0) := by
  have hF := keep_all hB hA
  have hp := jpre_all hJ hB hA hK (As)
  refine va_callv (va_runS S hM cw hp rfl hn hsize hstack (lv_room hW) hdg hf) hB.2.2 (fun q _ h => hF q h) hF (fun u t H1 locs1 ht hvm hr hBt hz hk hS => ?_)
  obtain ⟨hP1, -, hD1⟩ := hBt
  rw [ht] at hP1
  exact k H1 locs1 ⟨hP1, hD1.weaken (fun _ q _ h => hF q.1 h), hS⟩
theorem g_jcutSv {wc w2 : va_W} {tysc : List (ClassId × FieldType)} (S : CallFix p m c cc nL s args Ts own) (hJ : JS kS A s s.heap) (hM : Met l y wsy rm (PcJ D tysc kS wc H.size (As)) (QvF D tysc wc w1 H.size) 0 0 (va_A wc H.size)) (cw : CallB R s args own index y bytes maxL ret wsy rm 0 0 n ∧ (Cond.static y).before args s = true) (hKc : va_K D vwCl tysc s) (hB : Bd D tys A s ws H locs) (hA : ∀ q, s.heap.size ≤ q → A q) (isC : List Nat) (hnd : va_nd isC = true) (hC : isC.map (fun i => ws[i]?) = wc.map some) (hlen : w1.length = isC.length) (hw : spl ws isC w1 = w2)
    (hn : As.length = n) (hsize : ls.size = nL) (hstack : st0 = As.reverse ++ rest) (hW : (rest.map fun v => v.category).sum ≤ 8) (hdg : decode cc pc = .ok (.invokestatic index, 3)) (hf : cells ≤ R.cells ∧ slots ≤ R.slots)
    (k : ∀ (H : Heap) (locs : List Loc), Bd D tys A s w2 H locs → W p l e R s m args below meth c H locs cells slots Q (F0 m (pc + 3) ls (rest))) : W p l e R s m args below meth c H locs cells slots Q (F0 m pc ls st0) := by
  have hF := keep_cut hB hA isC hC
  have hp := jpre_cut hJ hB hA hKc isC hnd hC (As)
  refine va_callv (va_runS S hM cw hp rfl hn hsize hstack (lv_room hW) hdg hf) hB.2.2 (fun q _ h => hF q h) hF (fun u t H1 locs1 ht hvm hr hBt hz hk hS => ?_)
  obtain ⟨hP1, -, hD1⟩ := hBt
  rw [ht] at hP1
  exact k H1 locs1 (cut_back hB isC hC hF hk hP1 hD1 hS hlen hw)
end MJ
abbrev rmJ0_coder_7d493 : Room := { frames := 0, cells := 0, slots := 0, locals := 0 }
set_option maxHeartbeats 4000000 in
set_option maxRecDepth 100000 in
theorem kJ0_coder_7d493 (l : Launch) (dC : Nat → ClassId) (dI : Nat → Nat → Nat) (tys : List (ClassId × FieldType)) (sz : Nat) {kS : Nat → Nat} {w : Nat} (hw : w < 23) : Met l yJ0_coder_7d493 wsJ0_coder_7d493 rmJ0_coder_7d493 (PcJ (dC, dI) tys kS [] sz [.ref (kS w)]) (QiF (dC, dI) tys [] [] sz 0) 0 0 (va_A [] sz) := by
  refine Met.ofW (cc := cJ0_coder_7d493) (maxL := 1) (ret := (some .byte)) (by decide) rfl ?_
  intro p e s m args below meth c s₁ B hml hv
  obtain ⟨rfl, ⟨hsz, hP, hK, hD0⟩, hJ⟩ := hv
  have hx := B.exec
  have hb := B.bytes
  have hr := B.returns
  have hts := atoms_spec (ws := wsJ0_coder_7d493) B.pre
  have hown : s.vm.findClass RJ0 = some m.cls := findClass_of_methodNamed B.named
  have hlocks := B.notSynchronized
  subst hsz
  have hA : ∀ q : Nat, s.heap.size ≤ q → va_A [] s.heap.size q := fun q h => Or.inr h
  have hB : Bd (dC, dI) tys (va_A [] s.heap.size) s [] s.heap [] := ⟨hP, hD0.self, va_S.rf⟩
  have hl := lv_entry [.ref (kS w)] (n := 1) (Nat.le_of_ble_eq_true rfl)
  rw [lg_entry_eq]
  generalize (lg_sl [.ref (kS w)] ++ List.replicate (1 - (lg_sl [.ref (kS w)]).length) Slot.unset).toArray = ls at hl ⊢
  have hl : lv_has ls 1 [(0, .ref (kS w))] := hl
  obtain ⟨hO, hC, hV, hT⟩ := hJ.1 w hw
  refine va_gets hx hb hJ.2.1 hB.2.2 hown (hts _ (List.mem_of_getElem? (i := 1) rfl)) (fun _ h => h) dJ0_coder_7d493_0 ?_
  refine lv_if_eq (tgt := 13) hx hb dJ0_coder_7d493_3 (by decide) (fun c => absurd c (by decide)) (fun c => ?_)
  refine lv_aload_n hx hb dJ0_coder_7d493_6 rfl (lv_at hl 0 rfl) ?_
  refine vk_getf hx hb hC hB.2.2 hown (hts _ (List.mem_of_getElem? (i := 2) rfl)) (fun _ h => h) dJ0_coder_7d493_7 ?_
  refine lv_goto (tgt := 14) hx hb dJ0_coder_7d493_10 (by decide) ?_
  exact g_nret hx hb hr hlocks (by decide) hK hB dJ0_coder_7d493_14
abbrev rmJ0_length_8abf5 : Room := { frames := 1, cells := 0, slots := 0, locals := 20 }
set_option maxHeartbeats 4000000 in
set_option maxRecDepth 100000 in
theorem kJ0_length_8abf5 (l : Launch) (dC : Nat → ClassId) (dI : Nat → Nat → Nat) (tys : List (ClassId × FieldType)) (sz : Nat) {kS : Nat → Nat} {w : Nat} (hw : w < 23) : Met l yJ0_length_8abf5 wsJ0_length_8abf5 rmJ0_length_8abf5 (PcJ (dC, dI) tys kS [] sz [.ref (kS w)]) (QiF (dC, dI) tys [] [] sz (sLen w)) 0 0 (va_A [] sz) := by
  refine Met.ofW (cc := cJ0_length_8abf5) (maxL := 1) (ret := (some .int)) (by decide) rfl ?_
  intro p e s m args below meth c s₁ B hml hv
  obtain ⟨rfl, ⟨hsz, hP, hK, hD0⟩, hJ⟩ := hv
  have hx := B.exec
  have hb := B.bytes
  have hr := B.returns
  have hts := atoms_spec (ws := wsJ0_length_8abf5) B.pre
  have hown : s.vm.findClass RJ0 = some m.cls := findClass_of_methodNamed B.named
  have hlocks := B.notSynchronized
  subst hsz
  have hA : ∀ q : Nat, s.heap.size ≤ q → va_A [] s.heap.size q := fun q h => Or.inr h
  have hB : Bd (dC, dI) tys (va_A [] s.heap.size) s [] s.heap [] := ⟨hP, hD0.self, va_S.rf⟩
  have hl := lv_entry [.ref (kS w)] (n := 1) (Nat.le_of_ble_eq_true rfl)
  rw [lg_entry_eq]
  generalize (lg_sl [.ref (kS w)] ++ List.replicate (1 - (lg_sl [.ref (kS w)]).length) Slot.unset).toArray = ls at hl ⊢
  have hl : lv_has ls 1 [(0, .ref (kS w))] := hl
  obtain ⟨hO, hC, hV, hT⟩ := hJ.1 w hw
  refine lv_aload_n hx hb dJ0_length_8abf5_0 rfl (lv_at hl 0 rfl) ?_
  refine vk_getf hx hb hV hB.2.2 hown (hts _ (List.mem_of_getElem? (i := 1) rfl)) (fun _ h => h) dJ0_length_8abf5_1 ?_
  refine va_tlen hx hb hT hB.2.2 (v := sLen w) rfl dJ0_length_8abf5_4 ?_
  refine lv_aload_n hx hb dJ0_length_8abf5_5 rfl (lv_at hl 0 rfl) ?_
  refine g_jcallVi (As := []) (rest := [.int (sLen w)]) ⟨hx, hb, hml, hown, hts⟩ hJ (kJ0_coder_7d493 l dC dI tys s.heap.size hw) (cwV 0 hts gJ0_length_8abf5_J0_coder_7d493 rfl rfl rfl (by decide +kernel) ⟨Nat.le_of_ble_eq_true rfl, Nat.le_of_ble_eq_true rfl⟩) hK hB hA (recvS hJ hB hw) rfl hl.1 rfl (Nat.le_of_ble_eq_true rfl) dJ0_length_8abf5_6 ⟨Nat.zero_le _, Nat.zero_le _⟩ (fun H locs hB => ?_)
  refine lv_ishr hx hb dJ0_length_8abf5_9 ?_
  rw [sb_shr0]
  exact g_iret hx hb hr hlocks hK hB dJ0_length_8abf5_10
abbrev rmJ0_isLatin1_aae02 : Room := { frames := 0, cells := 0, slots := 0, locals := 0 }
set_option maxHeartbeats 4000000 in
set_option maxRecDepth 100000 in
theorem kJ0_isLatin1_aae02 (l : Launch) (dC : Nat → ClassId) (dI : Nat → Nat → Nat) (tys : List (ClassId × FieldType)) (sz : Nat) {kS : Nat → Nat} {w : Nat} (hw : w < 23) : Met l yJ0_isLatin1_aae02 wsJ0_isLatin1_aae02 rmJ0_isLatin1_aae02 (PcJ (dC, dI) tys kS [] sz [.ref (kS w)]) (QzF (dC, dI) tys [] [] sz 1) 0 0 (va_A [] sz) := by
  refine Met.ofW (cc := cJ0_isLatin1_aae02) (maxL := 1) (ret := (some .boolean)) (by decide) rfl ?_
  intro p e s m args below meth c s₁ B hml hv
  obtain ⟨rfl, ⟨hsz, hP, hK, hD0⟩, hJ⟩ := hv
  have hx := B.exec
  have hb := B.bytes
  have hr := B.returns
  have hts := atoms_spec (ws := wsJ0_isLatin1_aae02) B.pre
  have hown : s.vm.findClass RJ0 = some m.cls := findClass_of_methodNamed B.named
  have hlocks := B.notSynchronized
  subst hsz
  have hA : ∀ q : Nat, s.heap.size ≤ q → va_A [] s.heap.size q := fun q h => Or.inr h
  have hB : Bd (dC, dI) tys (va_A [] s.heap.size) s [] s.heap [] := ⟨hP, hD0.self, va_S.rf⟩
  have hl := lv_entry [.ref (kS w)] (n := 1) (Nat.le_of_ble_eq_true rfl)
  rw [lg_entry_eq]
  generalize (lg_sl [.ref (kS w)] ++ List.replicate (1 - (lg_sl [.ref (kS w)]).length) Slot.unset).toArray = ls at hl ⊢
  have hl : lv_has ls 1 [(0, .ref (kS w))] := hl
  obtain ⟨hO, hC, hV, hT⟩ := hJ.1 w hw
  refine va_gets hx hb hJ.2.1 hB.2.2 hown (hts _ (List.mem_of_getElem? (i := 1) rfl)) (fun _ h => h) dJ0_isLatin1_aae02_0 ?_
  refine lv_if_eq (tgt := 17) hx hb dJ0_isLatin1_aae02_3 (by decide) (fun c => absurd c (by decide)) (fun c => ?_)
  refine lv_aload_n hx hb dJ0_isLatin1_aae02_6 rfl (lv_at hl 0 rfl) ?_
  refine vk_getf hx hb hC hB.2.2 hown (hts _ (List.mem_of_getElem? (i := 2) rfl)) (fun _ h => h) dJ0_isLatin1_aae02_7 ?_
  refine lv_if_ne (tgt := 17) hx hb dJ0_isLatin1_aae02_10 (by decide) (fun c => absurd rfl c) (fun c => ?_)
  refine lv_iconst (v := (1 : Int32)) hx hb dJ0_isLatin1_aae02_13 (by decide) ?_
  refine lv_goto (tgt := 18) hx hb dJ0_isLatin1_aae02_14 (by decide) ?_
  exact g_zret hx hb hr hlocks hK hB (Or.inr rfl) dJ0_isLatin1_aae02_18
abbrev rmJ3_checkIndex_8e157 : Room := { frames := 0, cells := 0, slots := 0, locals := 0 }
set_option maxHeartbeats 4000000 in
set_option maxRecDepth 100000 in
theorem kJ3_checkIndex_8e157_n (l : Launch) (dC : Nat → ClassId) (dI : Nat → Nat → Nat) (tys : List (ClassId × FieldType)) (sz : Nat) {k n : Nat} (hk : k < n) (hn : n < 100) : Met l yJ3_checkIndex_8e157 wsJ3_checkIndex_8e157 rmJ3_checkIndex_8e157 (PcF (dC, dI) tys [] sz [.int (nI k), .int (nI n), .null]) (QiF (dC, dI) tys [] [] sz (nI k)) 0 0 (va_A [] sz) := by
  refine Met.ofW (cc := cJ3_checkIndex_8e157) (maxL := 3) (ret := (some .int)) (by decide) rfl ?_
  intro p e s m args below meth c s₁ B hml hv
  obtain ⟨rfl, hsz, hP, hK, hD0⟩ := hv
  have hx := B.exec
  have hb := B.bytes
  have hr := B.returns
  have hts := atoms_spec (ws := wsJ3_checkIndex_8e157) B.pre
  have hown : s.vm.findClass RJ3 = some m.cls := findClass_of_methodNamed B.named
  have hlocks := B.notSynchronized
  subst hsz
  have hA : ∀ q : Nat, s.heap.size ≤ q → va_A [] s.heap.size q := fun q h => Or.inr h
  have hB : Bd (dC, dI) tys (va_A [] s.heap.size) s [] s.heap [] := ⟨hP, hD0.self, va_S.rf⟩
  have hl := lv_entry [.int (nI k), .int (nI n), .null] (n := 3) (Nat.le_of_ble_eq_true rfl)
  rw [lg_entry_eq]
  generalize (lg_sl [.int (nI k), .int (nI n), .null] ++ List.replicate (3 - (lg_sl [.int (nI k), .int (nI n), .null]).length) Slot.unset).toArray = ls at hl ⊢
  have hl : lv_has ls 3 [(0, .int (nI k)), (1, .int (nI n)), (2, .null)] := hl
  refine lv_iload_n hx hb dJ3_checkIndex_8e157_0 rfl (lv_at hl 0 rfl) ?_
  refine lv_if_lt (tgt := 9) hx hb dJ3_checkIndex_8e157_1 (by decide) (fun c => absurd c (nI_pos (by omega))) (fun c => ?_)
  refine lv_iload_n hx hb dJ3_checkIndex_8e157_4 rfl (lv_at hl 0 rfl) ?_
  refine lv_iload_n hx hb dJ3_checkIndex_8e157_5 rfl (lv_at hl 1 rfl) ?_
  refine lv_icmp_lt (tgt := 16) hx hb dJ3_checkIndex_8e157_6 (by decide) (fun c => ?_) (fun c => absurd (nI_lt hk (by omega)) c)
  refine lv_iload_n hx hb dJ3_checkIndex_8e157_16 rfl (lv_at hl 0 rfl) ?_
  exact g_iret hx hb hr hlocks hK hB dJ3_checkIndex_8e157_17
set_option maxHeartbeats 4000000 in
set_option maxRecDepth 100000 in
theorem kJ3_checkIndex_8e157_r (l : Launch) (dC : Nat → ClassId) (dI : Nat → Nat → Nat) (tys : List (ClassId × FieldType)) (sz : Nat) {k n : Nat} {q : Nat} (hk : k < n) (hn : n < 100) : Met l yJ3_checkIndex_8e157 wsJ3_checkIndex_8e157 rmJ3_checkIndex_8e157 (PcF (dC, dI) tys [] sz [.int (nI k), .int (nI n), .ref q]) (QiF (dC, dI) tys [] [] sz (nI k)) 0 0 (va_A [] sz) := by
  refine Met.ofW (cc := cJ3_checkIndex_8e157) (maxL := 3) (ret := (some .int)) (by decide) rfl ?_
  intro p e s m args below meth c s₁ B hml hv
  obtain ⟨rfl, hsz, hP, hK, hD0⟩ := hv
  have hx := B.exec
  have hb := B.bytes
  have hr := B.returns
  have hts := atoms_spec (ws := wsJ3_checkIndex_8e157) B.pre
  have hown : s.vm.findClass RJ3 = some m.cls := findClass_of_methodNamed B.named
  have hlocks := B.notSynchronized
  subst hsz
  have hA : ∀ q : Nat, s.heap.size ≤ q → va_A [] s.heap.size q := fun q h => Or.inr h
  have hB : Bd (dC, dI) tys (va_A [] s.heap.size) s [] s.heap [] := ⟨hP, hD0.self, va_S.rf⟩
  have hl := lv_entry [.int (nI k), .int (nI n), .ref q] (n := 3) (Nat.le_of_ble_eq_true rfl)
  rw [lg_entry_eq]
  generalize (lg_sl [.int (nI k), .int (nI n), .ref q] ++ List.replicate (3 - (lg_sl [.int (nI k), .int (nI n), .ref q]).length) Slot.unset).toArray = ls at hl ⊢
  have hl : lv_has ls 3 [(0, .int (nI k)), (1, .int (nI n)), (2, .ref q)] := hl
  refine lv_iload_n hx hb dJ3_checkIndex_8e157_0 rfl (lv_at hl 0 rfl) ?_
  refine lv_if_lt (tgt := 9) hx hb dJ3_checkIndex_8e157_1 (by decide) (fun c => absurd c (nI_pos (by omega))) (fun c => ?_)
  refine lv_iload_n hx hb dJ3_checkIndex_8e157_4 rfl (lv_at hl 0 rfl) ?_
  refine lv_iload_n hx hb dJ3_checkIndex_8e157_5 rfl (lv_at hl 1 rfl) ?_
  refine lv_icmp_lt (tgt := 16) hx hb dJ3_checkIndex_8e157_6 (by decide) (fun c => ?_) (fun c => absurd (nI_lt hk (by omega)) c)
  refine lv_iload_n hx hb dJ3_checkIndex_8e157_16 rfl (lv_at hl 0 rfl) ?_
  exact g_iret hx hb hr hlocks hK hB dJ3_checkIndex_8e157_17
abbrev rmJ0_checkIndex_df160 : Room := { frames := 1, cells := 0, slots := 0, locals := 22 }
set_option maxHeartbeats 4000000 in
set_option maxRecDepth 100000 in
theorem kJ0_checkIndex_df160 (l : Launch) (dC : Nat → ClassId) (dI : Nat → Nat → Nat) (tys : List (ClassId × FieldType)) (sz : Nat) {kS : Nat → Nat} {k n : Nat} (hk : k < n) (hn : n < 100) : Met l yJ0_checkIndex_df160 wsJ0_checkIndex_df160 rmJ0_checkIndex_df160 (PcJ (dC, dI) tys kS [] sz [.int (nI k), .int (nI n)]) (QvF (dC, dI) tys [] [] sz) 0 0 (va_A [] sz) := by
  refine Met.ofW (cc := cJ0_checkIndex_df160) (maxL := 2) (ret := none) (by decide) rfl ?_
  intro p e s m args below meth c s₁ B hml hv
  obtain ⟨rfl, ⟨hsz, hP, hK, hD0⟩, hJ⟩ := hv
  have hx := B.exec
  have hb := B.bytes
  have hr := B.returns
  have hts := atoms_spec (ws := wsJ0_checkIndex_df160) B.pre
  have hown : s.vm.findClass RJ0 = some m.cls := findClass_of_methodNamed B.named
  have hlocks := B.notSynchronized
  subst hsz
  have hA : ∀ q : Nat, s.heap.size ≤ q → va_A [] s.heap.size q := fun q h => Or.inr h
  have hB : Bd (dC, dI) tys (va_A [] s.heap.size) s [] s.heap [] := ⟨hP, hD0.self, va_S.rf⟩
  have hl := lv_entry [.int (nI k), .int (nI n)] (n := 2) (Nat.le_of_ble_eq_true rfl)
  rw [lg_entry_eq]
  generalize (lg_sl [.int (nI k), .int (nI n)] ++ List.replicate (2 - (lg_sl [.int (nI k), .int (nI n)]).length) Slot.unset).toArray = ls at hl ⊢
  have hl : lv_has ls 2 [(0, .int (nI k)), (1, .int (nI n))] := hl
  have hcw : CallB ((headSpec wsJ0_checkIndex_df160 rmJ0_checkIndex_df160).room) s (([.int (nI k), .int (nI n)] : List Value).toArray) RJ0 1059 yJ3_checkIndex_8e157 cJ3_checkIndex_8e157 3 (some .int) wsJ3_checkIndex_8e157 rmJ3_checkIndex_8e157 0 0 3 ∧ (Cond.static yJ3_checkIndex_8e157).before (([.int (nI k), .int (nI n)] : List Value).toArray) s = true := va_cwS 3 hts gJ0_checkIndex_df160_J3_checkIndex_8e157 rfl rfl rfl (by decide +kernel) ⟨Nat.le_of_ble_eq_true rfl, Nat.le_of_ble_eq_true rfl⟩
  refine lv_iload_n hx hb dJ0_checkIndex_df160_0 rfl (lv_at hl 0 rfl) ?_
  refine lv_iload_n hx hb dJ0_checkIndex_df160_1 rfl (lv_at hl 1 rfl) ?_
  rcases hJ.2.2.1 with hZ | ⟨q, hZ⟩
  · refine va_gets hx hb hZ hB.2.2 hown (hts _ (List.mem_of_getElem? (i := 1) rfl)) (fun _ h => h) dJ0_checkIndex_df160_2 ?_
    refine g_cutSi (As := [.int (nI k), .int (nI n), .null]) (rest := []) (w2 := []) ⟨hx, hb, hml, hown, hts⟩ (kJ3_checkIndex_8e157_n l dC dI tys s.heap.size hk hn) hcw hK hB hA [] rfl rfl rfl rfl rfl hl.1 rfl (Nat.le_of_ble_eq_true rfl) dJ0_checkIndex_df160_5 ⟨Nat.zero_le _, Nat.zero_le _⟩ (fun H locs hB => ?_)
    refine lv_pop hx hb dJ0_checkIndex_df160_8 rfl ?_
    exact g_vret hx hb hr hlocks hK hB dJ0_checkIndex_df160_9
  · refine va_gets hx hb hZ hB.2.2 hown (hts _ (List.mem_of_getElem? (i := 1) rfl)) (fun _ h => h) dJ0_checkIndex_df160_2 ?_
    refine g_cutSi (As := [.int (nI k), .int (nI n), .ref q]) (rest := []) (w2 := []) ⟨hx, hb, hml, hown, hts⟩ (kJ3_checkIndex_8e157_r l dC dI tys s.heap.size hk hn) hcw hK hB hA [] rfl rfl rfl rfl rfl hl.1 rfl (Nat.le_of_ble_eq_true rfl) dJ0_checkIndex_df160_5 ⟨Nat.zero_le _, Nat.zero_le _⟩ (fun H locs hB => ?_)
    refine lv_pop hx hb dJ0_checkIndex_df160_8 rfl ?_
    exact g_vret hx hb hr hlocks hK hB dJ0_checkIndex_df160_9
abbrev rmJ1_charAt_3b067 : Room := { frames := 2, cells := 0, slots := 0, locals := 43 }
set_option maxHeartbeats 4000000 in
set_option maxRecDepth 100000 in
theorem kJ1_charAt_3b067 (l : Launch) (dC : Nat → ClassId) (dI : Nat → Nat → Nat) (tys : List (ClassId × FieldType)) (sz : Nat) {kS : Nat → Nat} {w k : Nat} (hw : w < 23) (hk : k < (sW w).length) : Met l yJ1_charAt_3b067 wsJ1_charAt_3b067 rmJ1_charAt_3b067 (PcJ (dC, dI) tys kS [] sz [.ref (kS (100 + w)), .int (nI k)]) (QiF (dC, dI) tys [] [] sz ((sW w).getD k 0)) 0 0 (va_A [] sz) := by
  refine Met.ofW (cc := cJ1_charAt_3b067) (maxL := 2) (ret := (some .char)) (by decide) rfl ?_
  intro p e s m args below meth c s₁ B hml hv
  obtain ⟨rfl, ⟨hsz, hP, hK, hD0⟩, hJ⟩ := hv
  have hx := B.exec
  have hb := B.bytes
  have hr := B.returns
  have hts := atoms_spec (ws := wsJ1_charAt_3b067) B.pre
  have hown : s.vm.findClass RJ1 = some m.cls := findClass_of_methodNamed B.named
  have hlocks := B.notSynchronized
  subst hsz
  have hA : ∀ q : Nat, s.heap.size ≤ q → va_A [] s.heap.size q := fun q h => Or.inr h
  have hB : Bd (dC, dI) tys (va_A [] s.heap.size) s [] s.heap [] := ⟨hP, hD0.self, va_S.rf⟩
  have hl := lv_entry [.ref (kS (100 + w)), .int (nI k)] (n := 2) (Nat.le_of_ble_eq_true rfl)
  rw [lg_entry_eq]
  generalize (lg_sl [.ref (kS (100 + w)), .int (nI k)] ++ List.replicate (2 - (lg_sl [.ref (kS (100 + w)), .int (nI k)]).length) Slot.unset).toArray = ls at hl ⊢
  have hl : lv_has ls 2 [(0, .ref (kS (100 + w))), (1, .int (nI k))] := hl
  obtain ⟨hO, hC, hV, hT⟩ := hJ.1 w hw
  have hlen := sW_len w hw
  obtain ⟨hc1, hc2⟩ := sW_chr w hw k hk
  refine lv_iload_n hx hb dJ1_charAt_3b067_0 rfl (lv_at hl 1 rfl) ?_
  refine lv_aload_n hx hb dJ1_charAt_3b067_1 rfl (lv_at hl 0 rfl) ?_
  refine va_tlen hx hb hT hB.2.2 (v := nI (sW w).length) rfl dJ1_charAt_3b067_2 ?_
  refine g_jcallSv (As := [.int (nI k), .int (nI (sW w).length)]) (rest := []) ⟨hx, hb, hml, hown, hts⟩ hJ (kJ0_checkIndex_df160 l dC dI tys s.heap.size hk (by omega)) (va_cwS 2 hts gJ1_charAt_3b067_J0_checkIndex_df160 rfl rfl rfl (by decide +kernel) ⟨Nat.le_of_ble_eq_true rfl, Nat.le_of_ble_eq_true rfl⟩) hK hB hA rfl hl.1 rfl (Nat.le_of_ble_eq_true rfl) dJ1_charAt_3b067_3 ⟨Nat.zero_le _, Nat.zero_le _⟩ (fun H locs hB => ?_)
  refine lv_aload_n hx hb dJ1_charAt_3b067_6 rfl (lv_at hl 0 rfl) ?_
  refine lv_iload_n hx hb dJ1_charAt_3b067_7 rfl (lv_at hl 1 rfl) ?_
  refine va_tb hx hb hT hB.2.2 (vp_in_nI hk (by omega)) (v := .int ((sW w).getD k 0)) (by rw [nI_clamp (by omega)]) dJ1_charAt_3b067_8 ?_
  refine lv_sipush (v := (255 : Int32)) hx hb dJ1_charAt_3b067_9 (by decide) ?_
  refine lv_iand hx hb dJ1_charAt_3b067_12 ?_
  refine lv_i2c hx hb dJ1_charAt_3b067_13 hc1 ?_
  exact g_nret hx hb hr hlocks hc2 hK hB dJ1_charAt_3b067_14
abbrev rmJ0_charAt_5068e : Room := { frames := 3, cells := 0, slots := 0, locals := 64 }
set_option maxHeartbeats 4000000 in
set_option maxRecDepth 100000 in
theorem kJ0_charAt_5068e (l : Launch) (dC : Nat → ClassId) (dI : Nat → Nat → Nat) (tys : List (ClassId × FieldType)) (sz : Nat) {kS : Nat → Nat} {w k : Nat} (hw : w < 23) (hk : k < (sW w).length) : Met l yJ0_charAt_5068e wsJ0_charAt_5068e rmJ0_charAt_5068e (PcJ (dC, dI) tys kS [] sz [.ref (kS w), .int (nI k)]) (QiF (dC, dI) tys [] [] sz ((sW w).getD k 0)) 0 0 (va_A [] sz) := by
  refine Met.ofW (cc := cJ0_charAt_5068e) (maxL := 2) (ret := (some .char)) (by decide) rfl ?_
  intro p e s m args below meth c s₁ B hml hv
  obtain ⟨rfl, ⟨hsz, hP, hK, hD0⟩, hJ⟩ := hv
  have hx := B.exec
  have hb := B.bytes
  have hr := B.returns
  have hts := atoms_spec (ws := wsJ0_charAt_5068e) B.pre
  have hown : s.vm.findClass RJ0 = some m.cls := findClass_of_methodNamed B.named
  have hlocks := B.notSynchronized
  subst hsz
  have hA : ∀ q : Nat, s.heap.size ≤ q → va_A [] s.heap.size q := fun q h => Or.inr h
  have hB : Bd (dC, dI) tys (va_A [] s.heap.size) s [] s.heap [] := ⟨hP, hD0.self, va_S.rf⟩
  have hl := lv_entry [.ref (kS w), .int (nI k)] (n := 2) (Nat.le_of_ble_eq_true rfl)
  rw [lg_entry_eq]
  generalize (lg_sl [.ref (kS w), .int (nI k)] ++ List.replicate (2 - (lg_sl [.ref (kS w), .int (nI k)]).length) Slot.unset).toArray = ls at hl ⊢
  have hl : lv_has ls 2 [(0, .ref (kS w)), (1, .int (nI k))] := hl
  obtain ⟨hO, hC, hV, hT⟩ := hJ.1 w hw
  obtain ⟨hc1, hc2⟩ := sW_chr w hw k hk
  refine lv_aload_n hx hb dJ0_charAt_5068e_0 rfl (lv_at hl 0 rfl) ?_
  refine g_jcallVz (As := []) (rest := []) ⟨hx, hb, hml, hown, hts⟩ hJ (kJ0_isLatin1_aae02 l dC dI tys s.heap.size hw) (cwV 0 hts gJ0_charAt_5068e_J0_isLatin1_aae02 rfl rfl rfl (by decide +kernel) ⟨Nat.le_of_ble_eq_true rfl, Nat.le_of_ble_eq_true rfl⟩) hK hB hA (recvS hJ hB hw) rfl hl.1 rfl (Nat.le_of_ble_eq_true rfl) dJ0_charAt_5068e_1 ⟨Nat.zero_le _, Nat.zero_le _⟩ (fun _ H locs hB => ?_)
  refine lv_if_eq (tgt := 16) hx hb dJ0_charAt_5068e_4 (by decide) (fun c => absurd c (by decide)) (fun c => ?_)
  refine lv_aload_n hx hb dJ0_charAt_5068e_7 rfl (lv_at hl 0 rfl) ?_
  refine vk_getf hx hb hV hB.2.2 hown (hts _ (List.mem_of_getElem? (i := 1) rfl)) (fun _ h => h) dJ0_charAt_5068e_8 ?_
  refine lv_iload_n hx hb dJ0_charAt_5068e_11 rfl (lv_at hl 1 rfl) ?_
  refine g_jcallSi (As := [.ref (kS (100 + w)), .int (nI k)]) (rest := []) ⟨hx, hb, hml, hown, hts⟩ hJ (kJ1_charAt_3b067 l dC dI tys H.size hw hk) (va_cwS 2 hts gJ0_charAt_5068e_J1_charAt_3b067 rfl rfl rfl (by decide +kernel) ⟨Nat.le_of_ble_eq_true rfl, Nat.le_of_ble_eq_true rfl⟩) hK hB hA rfl hl.1 rfl (Nat.le_of_ble_eq_true rfl) dJ0_charAt_5068e_12 ⟨Nat.zero_le _, Nat.zero_le _⟩ (fun H locs hB => ?_)
  exact g_nret hx hb hr hlocks hc2 hK hB dJ0_charAt_5068e_15
theorem kChr (l : Launch) (dC : Nat → ClassId) (dI : Nat → Nat → Nat) (tys : List (ClassId × FieldType)) (sz : Nat) {kS : Nat → Nat} {w : Nat} {k r : Int32} (hw : w < 23) (h : sChr w k = some r) : Met l yJ0_charAt_5068e wsJ0_charAt_5068e rmJ0_charAt_5068e (PcJ (dC, dI) tys kS [] sz [.ref (kS w), .int k]) (QiF (dC, dI) tys [] [] sz r) 0 0 (va_A [] sz) := by
  obtain ⟨hin, rfl⟩ := sChr_s h
  have hlen := sW_len w hw
  obtain ⟨j, hj, rfl⟩ := vp_in_of hin (by omega)
  rw [nI_clamp (by omega)]
  exact kJ0_charAt_5068e l dC dI tys sz hw hj
