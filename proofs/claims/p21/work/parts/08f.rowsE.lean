/-! rows of the law's own methods: what they need of the machine, cells as lists of lists, calls -/
abbrev wF (L : List va_W) : va_W := L.flatten
theorem wperm {L L' : List va_W} (is : List Nat) (h : is.isPerm (List.range is.length) = true) (hn : L.length = is.length) (e : is.filterMap (fun i => L[i]?) = L') : (wF L).Perm (wF L') := by
  rw [← hn] at h
  subst e
  have h0 : ∀ n, (List.range n).filterMap (fun i => L[i]?) = L.take n := by
    intro n
    induction n with
    | zero => rfl
    | succ n ih =>
      rw [List.range_succ, List.filterMap_append, ih, List.take_succ]
      congr 1
  have h1 : (List.range L.length).filterMap (fun i => L[i]?) = L := by rw [h0, List.take_length]
  have h2 : ((List.range L.length).filterMap (fun i => L[i]?)).Perm (is.filterMap (fun i => L[i]?)) := ((List.isPerm_iff.mp h).symm).filterMap _
  rw [h1] at h2
  exact h2.flatten
theorem wF_cut {a b : List va_W} : (wF (a ++ b)).Perm (wF a ++ wF b) := List.Perm.of_eq List.flatten_append
theorem wF_uncut {a b : List va_W} : (wF a ++ wF b).Perm (wF (a ++ b)) := List.Perm.of_eq List.flatten_append.symm
/-- what the law's own methods need beside their cells -/
def EV (kS : Nat → Nat) (A : Nat → Prop) (U : State) (H : Heap) : Prop := EX A U H ∧ NC U ∧ JS kS A U H ∧ va_Nw (.methodLinkNest RX1 11 yX0_init RX3) U ∧ va_Nw (.methodLinkNest RX3 31 yX0_init RX3) U ∧ va_AO "UndoJourneys$World" U ∧ va_Nw (.methodLinkNest RL 104 yX6_init RL) U ∧ va_Nw (.methodLinkNest RL 136 yX5_init RL) U ∧ va_AO "UndoJourneysLaw$Trip" U ∧ va_AO "UndoJourneysLaw$World" U ∧ va_AOA .int U ∧ va_Nw (.castable "[I" "java/lang/Cloneable") U
theorem EV.same {kS : Nat → Nat} {A : Nat → Prop} {u U : State} {H : Heap} (hv : U.vm = u.vm) (h : EV kS A u H) : EV kS A U H := by
  have hvm : u.vm.Alike U.vm := by rw [hv]; exact Vm.Alike.refl _
  obtain ⟨h1, h2, h3, h4, h5, h6, h7, h8, h9, h10, h11, h12⟩ := h
  refine ⟨EX.same hv h1, fun q hq => va_Nc.moved hvm (h2 q hq), JS.same hv h3, va_Nw.same rfl hv.symm h4, va_Nw.same rfl hv.symm h5, va_AO.moved hvm h6, va_Nw.same rfl hv.symm h7, va_Nw.same rfl hv.symm h8, va_AO.moved hvm h9, va_AO.moved hvm h10, ?_, va_Nw.same rfl hv.symm h12⟩
  have h1 : (Cond.arrayOver (.array .int)).before #[] (u.setVm U.vm) = true := (Cond.arrayOver_setVmC hvm (.array .int)).trans h11
  exact h1
def PcE (D : va_G) (tys : List (ClassId × FieldType)) (kS : Nat → Nat) (w0 : va_W) (sz : Nat) (av : List Value) : Array Value → State → Prop := va_Pc av (fun U => (U.heap.size = sz ∧ va_P D vwCl w0 U.heap ∧ va_K D vwCl tys U ∧ va_D (fun _ => True) w0) ∧ EV kS (va_A w0 sz) U U.heap)
theorem PcE_blind (D : va_G) (tys : List (ClassId × FieldType)) (kS : Nat → Nat) (w0 : va_W) (sz : Nat) (av : List Value) : FrameBlind (PcE D tys kS w0 sz av) := fun a U g mk q => by
  obtain ⟨q0, ⟨q1, qP, qK, qD⟩, qE⟩ := q
  exact ⟨q0, ⟨q1, qP, va_K.moved (u := U) (U := U.calling g mk a) (Vm.Alike.refl U.vm) qK, qD⟩, EV.same (u := U) rfl qE⟩
section WE
variable {p : Program} {l : Launch} {e : Env} {R : Room} {s : State} {m : MethodId} {args : Array Value} {below : List Frame} {meth : Method} {c : Code} {H : Heap} {locs : List Loc} {cells slots : Nat} {Q : State → Prop}
variable {cc : ByteArray} {pc : Nat} {ls : Array Slot} {rest : List Value} {D : va_G} {A : Nat → Prop} {a : Nat} {tys : List (ClassId × FieldType)} {ws : va_W}
variable {y : MethodName} {bytes : ByteArray} {maxL nL mc ms mc1 ms1 n index : Nat} {ret : Option FieldType} {wsy : List Cond} {rm : Room} {Ts : List Cond} {own C : String} {b : Addr} {As : List Value} {st0 : List Value} {w0 w1 : va_W} {kS : Nat → Nat}
theorem EV_at {wc : va_W} (h : EV kS A s s.heap) (hS : va_S A s.heap H locs) (hF : ∀ q, va_A wc H.size q → A q) {U : State} (hU : U.heap = H) (hW : s.WarmedH U.vm) : EV kS (va_A wc H.size) U U.heap := by
  obtain ⟨h1, h2, h3, h4, h5, h6, h7, h8, h9, h10, h11, h12⟩ := h
  exact ⟨EX_at h1 hS hF hU hW, fun q hq => va_Nc.moved hW.alike (h2 q hq), JS_at h3 hS hF hU hW, va_Nw.warmM hW h4, va_Nw.warmM hW h5, va_AO.warm hW h6, va_Nw.warmM hW h7, va_Nw.warmM hW h8, va_AO.warm hW h9, va_AO.warm hW h10, va_AOA.warm hW h11, va_Nw.warmC hW h12⟩
theorem epre_left (hE : EV kS A s s.heap) {wc wr : va_W} {tysc : List (ClassId × FieldType)} (hB : Bd D tys A s (wc ++ wr) H locs) (hA : ∀ q, s.heap.size ≤ q → A q) (hK : va_K D vwCl tysc s) (av : List Value) : FrameBlind (PcE D tysc kS wc H.size av) ∧ ∀ U : State, U.heap = H → s.WarmedH U.vm → PcE D tysc kS wc H.size av av.toArray U :=
  ⟨PcE_blind _ _ _ _ _ _, fun U hU hW => ⟨rfl, ((pcut_pre hB hK av).2 U hU hW).2, EV_at hE hB.2.2 (keep_left hB hA) hU hW⟩⟩
/-- a precondition with a fact of the state beside the cells -/
theorem apre_left {O : State → Prop} (hO : ∀ U : State, s.WarmedH U.vm → O U) (hOb : ∀ (a : Array Value) (U : State) (g : JFrame) (mk : MethodId), O U → O (U.calling g mk a)) {wc wr : va_W} {tysc : List (ClassId × FieldType)} (hB : Bd D tys A s (wc ++ wr) H locs) (hA : ∀ q, s.heap.size ≤ q → A q) (hK : va_K D vwCl tysc s) (av : List Value) : FrameBlind (PcA D tysc O wc H.size av) ∧ ∀ U : State, U.heap = H → s.WarmedH U.vm → PcA D tysc O wc H.size av av.toArray U := by
  have hp := pcut_pre hB hK av
  refine ⟨fun a U g mk q => ?_, fun U hU hW => ⟨rfl, ((hp.2 U hU hW).2 : _), hO U hW⟩⟩
  obtain ⟨q0, ⟨q1, qP, qK, qD⟩, qO⟩ := q
  exact ⟨q0, ⟨q1, qP, va_K.moved (u := U) (U := U.calling g mk a) (Vm.Alike.refl U.vm) qK, qD⟩, hOb a U g mk qO⟩
theorem e_Vi {S : Type} {Pc : Array Value → State → Prop} {po : Int32 → S → Prop} {w1 : S → va_W} {wc wr : va_W} {tysc : List (ClassId × FieldType)} (S0 : CallFix p m c cc nL s args Ts own) (hM : Met l y wsy rm Pc (va_Qi po (fun x t => BX D tysc wc (w1 x) H.size t) (va_A wc H.size)) mc1 ms1 (va_A wc H.size)) (cw : CallW R s args own C index y bytes maxL ret wsy rm mc1 ms1 n) (hp : FrameBlind Pc ∧ ∀ U : State, U.heap = H → s.WarmedH U.vm → Pc (Value.ref b :: As : List Value).toArray U) (hB0 : Bd D tys A s ws H locs) (hA : ∀ q, s.heap.size ≤ q → A q) (hrec : ∃ cell : Cell, H[b]? = some cell ∧ cell.vm.isStatics = false ∧ s.vm.findClass C = some cell.cls) (hp1 : ws.Perm (wc ++ wr))
    (hn : As.length = n) (hsize : ls.size = nL) (hstack : st0 = As.reverse ++ .ref b :: rest) (hW : (rest.map fun v => v.category).sum ≤ 8) (hdg : decode cc pc = .ok (.invokevirtual index, 3)) (hf : cells + mc1 ≤ R.cells ∧ slots + ms1 ≤ R.slots)
    (kk : ∀ (r : Int32) (x : S) (H : Heap) (locs : List Loc), po r x → Bd D tys A s (w1 x ++ wr) H locs → W p l e R s m args below meth c H locs (cells + mc1) (slots + ms1) Q (F0 m (pc + 3) ls (.int r :: rest))) : W p l e R s m args below meth c H locs cells slots Q (F0 m pc ls st0) := by
  have hB := hB0.perm hp1
  have hF := keep_left hB hA
  refine va_calli (va_runV S0 hM cw ⟨hp.1, hrec, hp.2⟩ rfl hn hsize hstack (lv_room hW) hdg hf) hB.2.2 (fun q _ h => hF q h) hF (fun r u t H1 locs1 ht hvm hr hBt hz hk hS => ?_)
  obtain ⟨hP1, -, hD1⟩ := hBt
  rw [ht] at hP1
  exact kk r u H1 locs1 hr (pcut_back hB hF hk hP1 hD1 hS)
theorem e_Vl {S : Type} {Pc : Array Value → State → Prop} {po : Int64 → S → Prop} {w1 : S → va_W} {wc wr : va_W} {tysc : List (ClassId × FieldType)} (S0 : CallFix p m c cc nL s args Ts own) (hM : Met l y wsy rm Pc (va_Ql po (fun x t => BX D tysc wc (w1 x) H.size t) (va_A wc H.size)) mc1 ms1 (va_A wc H.size)) (cw : CallW R s args own C index y bytes maxL ret wsy rm mc1 ms1 n) (hp : FrameBlind Pc ∧ ∀ U : State, U.heap = H → s.WarmedH U.vm → Pc (Value.ref b :: As : List Value).toArray U) (hB0 : Bd D tys A s ws H locs) (hA : ∀ q, s.heap.size ≤ q → A q) (hrec : ∃ cell : Cell, H[b]? = some cell ∧ cell.vm.isStatics = false ∧ s.vm.findClass C = some cell.cls) (hp1 : ws.Perm (wc ++ wr))
    (hn : As.length = n) (hsize : ls.size = nL) (hstack : st0 = As.reverse ++ .ref b :: rest) (hW : (rest.map fun v => v.category).sum ≤ 8) (hdg : decode cc pc = .ok (.invokevirtual index, 3)) (hf : cells + mc1 ≤ R.cells ∧ slots + ms1 ≤ R.slots)
    (kk : ∀ (r : Int64) (x : S) (H : Heap) (locs : List Loc), po r x → Bd D tys A s (w1 x ++ wr) H locs → W p l e R s m args below meth c H locs (cells + mc1) (slots + ms1) Q (F0 m (pc + 3) ls (.long r :: rest))) : W p l e R s m args below meth c H locs cells slots Q (F0 m pc ls st0) := by
  have hB := hB0.perm hp1
  have hF := keep_left hB hA
  refine va_calll (va_runV S0 hM cw ⟨hp.1, hrec, hp.2⟩ rfl hn hsize hstack (lv_room hW) hdg hf) hB.2.2 (fun q _ h => hF q h) hF (fun r u t H1 locs1 ht hvm hr hBt hz hk hS => ?_)
  obtain ⟨hP1, -, hD1⟩ := hBt
  rw [ht] at hP1
  exact kk r u H1 locs1 hr (pcut_back hB hF hk hP1 hD1 hS)
theorem e_Vv {S : Type} {Pc : Array Value → State → Prop} {po : S → Prop} {w1 : S → va_W} {wc wr : va_W} {tysc : List (ClassId × FieldType)} (S0 : CallFix p m c cc nL s args Ts own) (hM : Met l y wsy rm Pc (va_Qv po (fun x t => BX D tysc wc (w1 x) H.size t) (va_A wc H.size)) mc1 ms1 (va_A wc H.size)) (cw : CallW R s args own C index y bytes maxL ret wsy rm mc1 ms1 n) (hp : FrameBlind Pc ∧ ∀ U : State, U.heap = H → s.WarmedH U.vm → Pc (Value.ref b :: As : List Value).toArray U) (hB0 : Bd D tys A s ws H locs) (hA : ∀ q, s.heap.size ≤ q → A q) (hrec : ∃ cell : Cell, H[b]? = some cell ∧ cell.vm.isStatics = false ∧ s.vm.findClass C = some cell.cls) (hp1 : ws.Perm (wc ++ wr))
    (hn : As.length = n) (hsize : ls.size = nL) (hstack : st0 = As.reverse ++ .ref b :: rest) (hW : (rest.map fun v => v.category).sum ≤ 8) (hdg : decode cc pc = .ok (.invokevirtual index, 3)) (hf : cells + mc1 ≤ R.cells ∧ slots + ms1 ≤ R.slots)
    (kk : ∀ (x : S) (H : Heap) (locs : List Loc), po x → Bd D tys A s (w1 x ++ wr) H locs → W p l e R s m args below meth c H locs (cells + mc1) (slots + ms1) Q (F0 m (pc + 3) ls (rest))) : W p l e R s m args below meth c H locs cells slots Q (F0 m pc ls st0) := by
  have hB := hB0.perm hp1
  have hF := keep_left hB hA
  refine va_callv (va_runV S0 hM cw ⟨hp.1, hrec, hp.2⟩ rfl hn hsize hstack (lv_room hW) hdg hf) hB.2.2 (fun q _ h => hF q h) hF (fun u t H1 locs1 ht hvm hr hBt hz hk hS => ?_)
  obtain ⟨hP1, -, hD1⟩ := hBt
  rw [ht] at hP1
  exact kk u H1 locs1 hr (pcut_back hB hF hk hP1 hD1 hS)
theorem e_Vr {S : Type} {Pc : Array Value → State → Prop} {po : S → Prop} {w1 : S → Nat → va_W} {wc wr : va_W} {tysc : List (ClassId × FieldType)} (S0 : CallFix p m c cc nL s args Ts own) (hM : Met l y wsy rm Pc (va_Qr po (fun x r t => BX D tysc wc (w1 x r) H.size t) (va_A wc H.size)) mc1 ms1 (va_A wc H.size)) (cw : CallW R s args own C index y bytes maxL ret wsy rm mc1 ms1 n) (hp : FrameBlind Pc ∧ ∀ U : State, U.heap = H → s.WarmedH U.vm → Pc (Value.ref b :: As : List Value).toArray U) (hB0 : Bd D tys A s ws H locs) (hA : ∀ q, s.heap.size ≤ q → A q) (hrec : ∃ cell : Cell, H[b]? = some cell ∧ cell.vm.isStatics = false ∧ s.vm.findClass C = some cell.cls) (hp1 : ws.Perm (wc ++ wr))
    (hn : As.length = n) (hsize : ls.size = nL) (hstack : st0 = As.reverse ++ .ref b :: rest) (hW : (rest.map fun v => v.category).sum ≤ 8) (hdg : decode cc pc = .ok (.invokevirtual index, 3)) (hf : cells + mc1 ≤ R.cells ∧ slots + ms1 ≤ R.slots)
    (kk : ∀ (x : S) (r : Nat) (H : Heap) (locs : List Loc), po x → Bd D tys A s (w1 x r ++ wr) H locs → W p l e R s m args below meth c H locs (cells + mc1) (slots + ms1) Q (F0 m (pc + 3) ls (.ref r :: rest))) : W p l e R s m args below meth c H locs cells slots Q (F0 m pc ls st0) := by
  have hB := hB0.perm hp1
  have hF := keep_left hB hA
  refine va_callr (va_runV S0 hM cw ⟨hp.1, hrec, hp.2⟩ rfl hn hsize hstack (lv_room hW) hdg hf) hB.2.2 (fun q _ h => hF q h) hF (fun u r t H1 locs1 ht hvm hr hBt hz hk hS => ?_)
  obtain ⟨hP1, -, hD1⟩ := hBt
  rw [ht] at hP1
  exact kk u r H1 locs1 hr (pcut_back hB hF hk hP1 hD1 hS)
theorem e_Si {S : Type} {Pc : Array Value → State → Prop} {po : Int32 → S → Prop} {w1 : S → va_W} {wc wr : va_W} {tysc : List (ClassId × FieldType)} (S0 : CallFix p m c cc nL s args Ts own) (hM : Met l y wsy rm Pc (va_Qi po (fun x t => BX D tysc wc (w1 x) H.size t) (va_A wc H.size)) mc1 ms1 (va_A wc H.size)) (cw : CallB R s args own index y bytes maxL ret wsy rm mc1 ms1 n ∧ (Cond.static y).before args s = true) (hp : FrameBlind Pc ∧ ∀ U : State, U.heap = H → s.WarmedH U.vm → Pc (As : List Value).toArray U) (hB0 : Bd D tys A s ws H locs) (hA : ∀ q, s.heap.size ≤ q → A q) (hp1 : ws.Perm (wc ++ wr))
    (hn : As.length = n) (hsize : ls.size = nL) (hstack : st0 = As.reverse ++ rest) (hW : (rest.map fun v => v.category).sum ≤ 8) (hdg : decode cc pc = .ok (.invokestatic index, 3)) (hf : cells + mc1 ≤ R.cells ∧ slots + ms1 ≤ R.slots)
    (kk : ∀ (r : Int32) (x : S) (H : Heap) (locs : List Loc), po r x → Bd D tys A s (w1 x ++ wr) H locs → W p l e R s m args below meth c H locs (cells + mc1) (slots + ms1) Q (F0 m (pc + 3) ls (.int r :: rest))) : W p l e R s m args below meth c H locs cells slots Q (F0 m pc ls st0) := by
  have hB := hB0.perm hp1
  have hF := keep_left hB hA
  refine va_calli (va_runS S0 hM cw hp rfl hn hsize hstack (lv_room hW) hdg hf) hB.2.2 (fun q _ h => hF q h) hF (fun r u t H1 locs1 ht hvm hr hBt hz hk hS => ?_)
  obtain ⟨hP1, -, hD1⟩ := hBt
  rw [ht] at hP1
  exact kk r u H1 locs1 hr (pcut_back hB hF hk hP1 hD1 hS)
theorem e_Sl {S : Type} {Pc : Array Value → State → Prop} {po : Int64 → S → Prop} {w1 : S → va_W} {wc wr : va_W} {tysc : List (ClassId × FieldType)} (S0 : CallFix p m c cc nL s args Ts own) (hM : Met l y wsy rm Pc (va_Ql po (fun x t => BX D tysc wc (w1 x) H.size t) (va_A wc H.size)) mc1 ms1 (va_A wc H.size)) (cw : CallB R s args own index y bytes maxL ret wsy rm mc1 ms1 n ∧ (Cond.static y).before args s = true) (hp : FrameBlind Pc ∧ ∀ U : State, U.heap = H → s.WarmedH U.vm → Pc (As : List Value).toArray U) (hB0 : Bd D tys A s ws H locs) (hA : ∀ q, s.heap.size ≤ q → A q) (hp1 : ws.Perm (wc ++ wr))
    (hn : As.length = n) (hsize : ls.size = nL) (hstack : st0 = As.reverse ++ rest) (hW : (rest.map fun v => v.category).sum ≤ 8) (hdg : decode cc pc = .ok (.invokestatic index, 3)) (hf : cells + mc1 ≤ R.cells ∧ slots + ms1 ≤ R.slots)
    (kk : ∀ (r : Int64) (x : S) (H : Heap) (locs : List Loc), po r x → Bd D tys A s (w1 x ++ wr) H locs → W p l e R s m args below meth c H locs (cells + mc1) (slots + ms1) Q (F0 m (pc + 3) ls (.long r :: rest))) : W p l e R s m args below meth c H locs cells slots Q (F0 m pc ls st0) := by
  have hB := hB0.perm hp1
  have hF := keep_left hB hA
  refine va_calll (va_runS S0 hM cw hp rfl hn hsize hstack (lv_room hW) hdg hf) hB.2.2 (fun q _ h => hF q h) hF (fun r u t H1 locs1 ht hvm hr hBt hz hk hS => ?_)
  obtain ⟨hP1, -, hD1⟩ := hBt
  rw [ht] at hP1
  exact kk r u H1 locs1 hr (pcut_back hB hF hk hP1 hD1 hS)
theorem e_Sv {S : Type} {Pc : Array Value → State → Prop} {po : S → Prop} {w1 : S → va_W} {wc wr : va_W} {tysc : List (ClassId × FieldType)} (S0 : CallFix p m c cc nL s args Ts own) (hM : Met l y wsy rm Pc (va_Qv po (fun x t => BX D tysc wc (w1 x) H.size t) (va_A wc H.size)) mc1 ms1 (va_A wc H.size)) (cw : CallB R s args own index y bytes maxL ret wsy rm mc1 ms1 n ∧ (Cond.static y).before args s = true) (hp : FrameBlind Pc ∧ ∀ U : State, U.heap = H → s.WarmedH U.vm → Pc (As : List Value).toArray U) (hB0 : Bd D tys A s ws H locs) (hA : ∀ q, s.heap.size ≤ q → A q) (hp1 : ws.Perm (wc ++ wr))
    (hn : As.length = n) (hsize : ls.size = nL) (hstack : st0 = As.reverse ++ rest) (hW : (rest.map fun v => v.category).sum ≤ 8) (hdg : decode cc pc = .ok (.invokestatic index, 3)) (hf : cells + mc1 ≤ R.cells ∧ slots + ms1 ≤ R.slots)
    (kk : ∀ (x : S) (H : Heap) (locs : List Loc), po x → Bd D tys A s (w1 x ++ wr) H locs → W p l e R s m args below meth c H locs (cells + mc1) (slots + ms1) Q (F0 m (pc + 3) ls (rest))) : W p l e R s m args below meth c H locs cells slots Q (F0 m pc ls st0) := by
  have hB := hB0.perm hp1
  have hF := keep_left hB hA
  refine va_callv (va_runS S0 hM cw hp rfl hn hsize hstack (lv_room hW) hdg hf) hB.2.2 (fun q _ h => hF q h) hF (fun u t H1 locs1 ht hvm hr hBt hz hk hS => ?_)
  obtain ⟨hP1, -, hD1⟩ := hBt
  rw [ht] at hP1
  exact kk u H1 locs1 hr (pcut_back hB hF hk hP1 hD1 hS)
theorem e_Sr {S : Type} {Pc : Array Value → State → Prop} {po : S → Prop} {w1 : S → Nat → va_W} {wc wr : va_W} {tysc : List (ClassId × FieldType)} (S0 : CallFix p m c cc nL s args Ts own) (hM : Met l y wsy rm Pc (va_Qr po (fun x r t => BX D tysc wc (w1 x r) H.size t) (va_A wc H.size)) mc1 ms1 (va_A wc H.size)) (cw : CallB R s args own index y bytes maxL ret wsy rm mc1 ms1 n ∧ (Cond.static y).before args s = true) (hp : FrameBlind Pc ∧ ∀ U : State, U.heap = H → s.WarmedH U.vm → Pc (As : List Value).toArray U) (hB0 : Bd D tys A s ws H locs) (hA : ∀ q, s.heap.size ≤ q → A q) (hp1 : ws.Perm (wc ++ wr))
    (hn : As.length = n) (hsize : ls.size = nL) (hstack : st0 = As.reverse ++ rest) (hW : (rest.map fun v => v.category).sum ≤ 8) (hdg : decode cc pc = .ok (.invokestatic index, 3)) (hf : cells + mc1 ≤ R.cells ∧ slots + ms1 ≤ R.slots)
    (kk : ∀ (x : S) (r : Nat) (H : Heap) (locs : List Loc), po x → Bd D tys A s (w1 x r ++ wr) H locs → W p l e R s m args below meth c H locs (cells + mc1) (slots + ms1) Q (F0 m (pc + 3) ls (.ref r :: rest))) : W p l e R s m args below meth c H locs cells slots Q (F0 m pc ls st0) := by
  have hB := hB0.perm hp1
  have hF := keep_left hB hA
  refine va_callr (va_runS S0 hM cw hp rfl hn hsize hstack (lv_room hW) hdg hf) hB.2.2 (fun q _ h => hF q h) hF (fun u r t H1 locs1 ht hvm hr hBt hz hk hS => ?_)
  obtain ⟨hP1, -, hD1⟩ := hBt
  rw [ht] at hP1
  exact kk u r H1 locs1 hr (pcut_back hB hF hk hP1 hD1 hS)
theorem e_Wi {S : Type} {hh : List (Nat × Nat × Nat × Nat)} {Pc : Array Value → State → Prop} {po : Int32 → S → Prop} {w1 : S → va_W} {wc wr : va_W} {tysc : List (ClassId × FieldType)} (S0 : CallFix p m c cc nL s args Ts own) (hM : Met l y wsy rm Pc (va_Qi po (fun x t => BX D tysc wc (w1 x) H.size t) (va_A wc H.size)) mc1 ms1 (va_A wc H.size)) (cw : vx_CSW R s args own index y bytes maxL ret hh wsy rm mc1 ms1 n) (hp : FrameBlind Pc ∧ ∀ U : State, U.heap = H → s.WarmedH U.vm → Pc (As : List Value).toArray U) (hB0 : Bd D tys A s ws H locs) (hA : ∀ q, s.heap.size ≤ q → A q) (hp1 : ws.Perm (wc ++ wr))
    (hn : As.length = n) (hsize : ls.size = nL) (hstack : st0 = As.reverse ++ rest) (hW : (rest.map fun v => v.category).sum ≤ 8) (hdg : decode cc pc = .ok (.invokestatic index, 3)) (hf : cells + mc1 ≤ R.cells ∧ slots + ms1 ≤ R.slots)
    (kk : ∀ (r : Int32) (x : S) (H : Heap) (locs : List Loc), po r x → Bd D tys A s (w1 x ++ wr) H locs → W p l e R s m args below meth c H locs (cells + mc1) (slots + ms1) Q (F0 m (pc + 3) ls (.int r :: rest))) : W p l e R s m args below meth c H locs cells slots Q (F0 m pc ls st0) := by
  have hB := hB0.perm hp1
  have hF := keep_left hB hA
  refine va_calli (vx_runSW S0 hM cw hp rfl hn hsize hstack (lv_room hW) hdg hf) hB.2.2 (fun q _ h => hF q h) hF (fun r u t H1 locs1 ht hvm hr hBt hz hk hS => ?_)
  obtain ⟨hP1, -, hD1⟩ := hBt
  rw [ht] at hP1
  exact kk r u H1 locs1 hr (pcut_back hB hF hk hP1 hD1 hS)
theorem e_Iv {S : Type} {Pc : Array Value → State → Prop} {po : S → Prop} {w1 : S → va_W} {wc wr : va_W} {tysc : List (ClassId × FieldType)} (S0 : CallFix p m c cc nL s args Ts own) (hM : Met l y wsy rm Pc (va_Qv po (fun x t => BX D tysc wc (w1 x) H.size t) (va_A wc H.size)) mc1 ms1 (va_A wc H.size)) (cw : CallB R s args own index y bytes maxL none wsy rm mc1 ms1 n ∧ y.name = "<init>" ∧ (Cond.instanceMethod y).before args s = true) (hp : FrameBlind Pc ∧ ∀ U : State, U.heap = H → s.WarmedH U.vm → Pc (Value.ref b :: As : List Value).toArray U) (hB0 : Bd D tys A s ws H locs) (hA : ∀ q, s.heap.size ≤ q → A q) (hp1 : ws.Perm (wc ++ wr))
    (hn : As.length = n) (hsize : ls.size = nL) (hstack : st0 = As.reverse ++ .ref b :: rest) (hW : (rest.map fun v => v.category).sum ≤ 8) (hdg : decode cc pc = .ok (.invokespecial index, 3)) (hf : cells + mc1 ≤ R.cells ∧ slots + ms1 ≤ R.slots)
    (kk : ∀ (x : S) (H : Heap) (locs : List Loc), po x → Bd D tys A s (w1 x ++ wr) H locs → W p l e R s m args below meth c H locs (cells + mc1) (slots + ms1) Q (F0 m (pc + 3) ls rest)) : W p l e R s m args below meth c H locs cells slots Q (F0 m pc ls st0) := by
  have hB := hB0.perm hp1
  have hF := keep_left hB hA
  refine va_callv (va_runI S0 hM cw hp rfl hn hsize hstack (lv_room hW) hdg hf) hB.2.2 (fun q _ h => hF q h) hF (fun u t H1 locs1 ht hvm hr hBt hz hk hS => ?_)
  obtain ⟨hP1, -, hD1⟩ := hBt
  rw [ht] at hP1
  exact kk u H1 locs1 hr (pcut_back hB hF hk hP1 hD1 hS)
theorem e_Nv {S : Type} {host : String} {Pc : Array Value → State → Prop} {po : S → Prop} {w1 : S → va_W} {wc wr : va_W} {tysc : List (ClassId × FieldType)} (S0 : CallFix p m c cc nL s args Ts own) (hM : Met l y wsy rm Pc (va_Qv po (fun x t => BX D tysc wc (w1 x) H.size t) (va_A wc H.size)) mc1 ms1 (va_A wc H.size)) (cw : va_CN R s args own index y host bytes maxL none wsy rm mc1 ms1 n ∧ y.name = "<init>" ∧ (Cond.instanceMethod y).before args s = true) (hp : FrameBlind Pc ∧ ∀ U : State, U.heap = H → s.WarmedH U.vm → Pc (Value.ref b :: As : List Value).toArray U) (hB0 : Bd D tys A s ws H locs) (hA : ∀ q, s.heap.size ≤ q → A q) (hp1 : ws.Perm (wc ++ wr))
    (hn : As.length = n) (hsize : ls.size = nL) (hstack : st0 = As.reverse ++ .ref b :: rest) (hW : (rest.map fun v => v.category).sum ≤ 8) (hdg : decode cc pc = .ok (.invokespecial index, 3)) (hf : cells + mc1 ≤ R.cells ∧ slots + ms1 ≤ R.slots)
    (kk : ∀ (x : S) (H : Heap) (locs : List Loc), po x → Bd D tys A s (w1 x ++ wr) H locs → W p l e R s m args below meth c H locs (cells + mc1) (slots + ms1) Q (F0 m (pc + 3) ls rest)) : W p l e R s m args below meth c H locs cells slots Q (F0 m pc ls st0) := by
  have hB := hB0.perm hp1
  have hF := keep_left hB hA
  refine va_callv (va_runIN S0 hM cw hp rfl hn hsize hstack (lv_room hW) hdg hf) hB.2.2 (fun q _ h => hF q h) hF (fun u t H1 locs1 ht hvm hr hBt hz hk hS => ?_)
  obtain ⟨hP1, -, hD1⟩ := hBt
  rw [ht] at hP1
  exact kk u H1 locs1 hr (pcut_back hB hF hk hP1 hD1 hS)
theorem wF_un1 {a : va_W} {r : List va_W} : (a ++ wF r).Perm (wF (a :: r)) := List.Perm.refl _
theorem wF_push {L : List va_W} {a : va_W} : (wF L ++ a).Perm (wF (L ++ [a])) := List.Perm.of_eq (by simp)
theorem Bd.keep {L1 L2 : List va_W} (h : Bd D tys A s (wF (L1 ++ L2)) H locs) : Bd D tys A s (wF L1) H locs := (h.perm wF_cut).left
/-- an array's first places, the others null -/
def prf (c : Nat) (g : Nat → Nat) : Nat → Option Nat := fun i => if i < c then some (g i) else none
theorem prf_push (c : Nat) (g : Nat → Nat) (q : Nat) : va_up (prf c g) c (some q) = prf (c + 1) (va_up g c q) := by
  funext i
  unfold prf
  by_cases h : i = c
  · subst h
    rw [va_up_self, va_up_self, if_pos (Nat.lt_succ_self _)]
  · rw [va_up_ne _ _ h, va_up_ne _ _ h]
    by_cases h2 : i < c
    · rw [if_pos h2, if_pos (by omega)]
    · rw [if_neg h2, if_neg (by omega)]
def cRw (cyI : ClassId) (g : Nat → Nat) (c w : Nat) (ψ : MS) : va_W := (List.range c).map (fun k => (g k, .inl (cyI, w, .inl (ψ k))))
theorem cRw_push (cyI : ClassId) (g : Nat → Nat) (c w : Nat) (ψ : MS) (q : Nat) : cRw cyI g c w ψ ++ [(q, .inl (cyI, w, .inl (ψ c)))] = cRw cyI (va_up g c q) (c + 1) w ψ := by
  unfold cRw
  rw [List.range_succ, List.map_append, List.map_singleton, va_up_self]
  congr 1
  apply List.map_congr_left
  intro k hk
  rw [va_up_ne _ _ (Nat.ne_of_lt (List.mem_range.mp hk))]
theorem cRw_at (cyI : ClassId) (g : Nat → Nat) {c w j : Nat} (ψ : MS) (hj : j < c) (x : Nat × va_E) (r : va_W) : (x :: (cRw cyI g c w ψ ++ r))[1 + j]? = some (g j, .inl (cyI, w, .inl (ψ j))) := by
  rw [Nat.add_comm 1 j, List.getElem?_cons_succ, List.getElem?_append_left (by unfold cRw; simpa using hj)]
  exact row_at hj
theorem cRw_push2 (cyI : ClassId) (g : Nat → Nat) (c w : Nat) (ψ : MS) (q : Nat) (f : FS) : cRw cyI g c w ψ ++ [(q, .inl (cyI, w, .inl f))] = cRw cyI (va_up g c q) (c + 1) w (va_up ψ c f) := by
  unfold cRw
  rw [List.range_succ, List.map_append, List.map_singleton, va_up_self, va_up_self]
  congr 1
  apply List.map_congr_left
  intro k hk
  rw [va_up_ne _ _ (Nat.ne_of_lt (List.mem_range.mp hk)), va_up_ne _ _ (Nat.ne_of_lt (List.mem_range.mp hk))]
theorem wF_one {a : va_W} : wF [a] = a := List.append_nil a
theorem wF_two {a b r : va_W} : (wF [a, b] ++ r).Perm ((a ++ r) ++ b) := by
  show ((a ++ (b ++ [])) ++ r).Perm _
  rw [List.append_nil, List.append_assoc, List.append_assoc]
  exact List.Perm.append_left a List.perm_append_comm
theorem cXt_push (cyI cyA : ClassId) (ta sa : PA) (ra : Nat → PA) (Ns : PA) (Φ Ψ : WS) (c t s : Nat) (r : PA) : cXt cyI cyA ta sa ra Ns Φ Ψ (List.range c) ++ cT cyI cyA t s r (Ns c) (Φ c) (Ψ c) = cXt cyI cyA (va_up ta c t) (va_up sa c s) (va_up ra c r) Ns Φ Ψ (List.range (c + 1)) := by
  unfold cXt
  rw [List.range_succ, List.flatMap_append, List.flatMap_singleton, va_up_self, va_up_self, va_up_self]
  congr 1
  rw [List.flatMap_def, List.flatMap_def]
  congr 1
  apply List.map_congr_left
  intro k hk
  have h := Nat.ne_of_lt (List.mem_range.mp hk)
  rw [va_up_ne _ _ h, va_up_ne _ _ h, va_up_ne _ _ h]
theorem nI_g {a b : Nat} (ha : a < 2 ^ 31) (hb : b < 2 ^ 31) (h : nI a ≤ nI b) : a ≤ b := (nI_leI ha hb).mp h
theorem nI_ng {a b : Nat} (ha : a < 2 ^ 31) (hb : b < 2 ^ 31) (h : ¬ nI a ≤ nI b) : b < a := Nat.not_le.mp fun q => h ((nI_leI ha hb).mpr q)
theorem g_lvret {v r : Int32} (hx : p.tables.exec = Jvm.exec) (hb : c.code = cc) (hr : meth.sig.returnType = none) (hlocks : meth.locks = false) (hK : va_K D vwCl tys s) (hB : Bd D tys (va_A w0 s.heap.size) s w1 H locs) (hc : cells ≤ mc) (hs : slots ≤ ms) (hdg : decode cc pc = .ok (.return_, 1)) : W p l e R s m args below meth c H locs cells slots (MQ below (QvF D tys w0 w1 s.heap.size) args s mc ms (va_A w0 s.heap.size)) (F0 m pc ls []) :=
  W.widen (k := mc) (n := ms) hc hs (W.vret hx hb hr (fun t ht hW => ⟨⟨(), rfl, trivial, by rw [ht]; exact hB.1, va_K.moved hW.alike hK, hB.2.1⟩, hB.2.2.F ht⟩) hB.2.2.2.2 hdg)
theorem g_lzret {v : Int32} (hx : p.tables.exec = Jvm.exec) (hb : c.code = cc) (hr : meth.sig.returnType = some .boolean) (hlocks : meth.locks = false) (hK : va_K D vwCl tys s) (hB : Bd D tys (va_A w0 s.heap.size) s w1 H locs) (hv : v = 0 ∨ v = 1) (hc : cells ≤ mc) (hs : slots ≤ ms) (hdg : decode cc pc = .ok (.ireturn, 1)) : W p l e R s m args below meth c H locs cells slots (MQ below (QzF D tys w0 w1 s.heap.size v) args s mc ms (va_A w0 s.heap.size)) (F0 m pc ls [.int v]) :=
  W.widen (k := mc) (n := ms) hc hs (W.zret hx hb hr (narrow_z hv) (fun t ht hW => ⟨⟨v, (), rfl, ⟨rfl, hv⟩, by rw [ht]; exact hB.1, va_K.moved hW.alike hK, hB.2.1⟩, hB.2.2.F ht⟩) hB.2.2.2.2 hdg)
theorem g_zald (hx : p.tables.exec = Jvm.exec) (hb : c.code = cc) (hK : va_K D vwCl tys s) (hB : Bd D tys A s ws H locs) (q0 t0 : Nat) {cA : ClassId} {n : Nat} {f : FS} (ha : ws[q0]? = some (a, .inl (cA, n, .inl f))) (ht : tys[t0]? = some (cA, .boolean)) {i x : Int32} (hr : vp_in i n ∧ f i.toNatClampNeg = x) (hdg : decode cc pc = .ok (.baload, 1))
    (k : W p l e R s m args below meth c H locs cells slots Q (F0 m (pc + 1) ls (.int x :: rest))) : W p l e R s m args below meth c H locs cells slots Q (F0 m pc ls (.int i :: .ref a :: rest)) := by
  refine va_zald hx hb hK hB.1 q0 t0 ha ht hr.1 hdg ?_
  rw [hr.2]
  exact k
theorem g_zast (hx : p.tables.exec = Jvm.exec) (hb : c.code = cc) (hK : va_K D vwCl tys s) (hB : Bd D tys A s ws H locs) (q0 t0 : Nat) {cA : ClassId} {n : Nat} {f f1 : FS} (ha : ws[q0]? = some (a, .inl (cA, n, .inl f))) (ht : tys[t0]? = some (cA, .boolean)) {i x : Int32} (hin : vp_in i n) (hf : upd f i.toNatClampNeg (vp_nar .boolean x) = f1) (hdg : decode cc pc = .ok (.bastore, 1)) {w2 : va_W} (hw : ws.set q0 (a, .inl (cA, n, .inl f1)) = w2)
    (k : ∀ (H : Heap) (locs : List Loc), Bd D tys A s w2 H locs → W p l e R s m args below meth c H locs cells slots Q (F0 m (pc + 1) ls rest)) : W p l e R s m args below meth c H locs cells slots Q (F0 m pc ls (.int x :: .int i :: .ref a :: rest)) := by
  refine va_zast hx hb hK hB.1 hB.2.1 hB.2.2 q0 t0 ha ht hin hdg (fun H locs hP hD hS => ?_)
  rw [hf, hw] at hP hD
  exact k H locs ⟨hP, hD, hS⟩
theorem va_asself (vm : Vm) (c : ClassId) : vm.assignable c c = true := by
  show (c == c || _) = true
  rw [beq_self_eq_true, Bool.true_or]
/-- an array of int arrays, all null -/
theorem g_newqA {cA : ClassId} (t0 : Nat) (ht : tys[t0]? = some (cA, .array .int)) (hx : p.tables.exec = Jvm.exec) (hb : c.code = cc) (hown : s.vm.findClass own = some m.cls) (hcl : (Cond.classLink own index "[I").before args s = true) (hAO : va_AOA .int s) (hK : va_K D vwCl tys s) (hB : Bd D tys A s ws H locs) (hA : ∀ q, s.heap.size ≤ q → A q) {n : Int32} (N' : Nat) (hn : ¬ n < 0) (hN : n.toNatClampNeg = N') (hbytes : N' * 4 ≤ 536870912) (hcells : cells + 1 ≤ R.cells) (hslots : slots + N' ≤ R.slots) (hdg : decode cc pc = .ok (.anewarray index, 3))
    (kk : ∀ (q : Nat) (H : Heap) (locs : List Loc), Bd D tys A s (ws ++ [(q, .inl (cA, N', .inr (.inr (.inr (.inr (fun _ => none))))))]) H locs → W p l e R s m args below meth c H locs (cells + 1) (slots + N') Q (F0 m (pc + 3) ls (.ref q :: rest))) : W p l e R s m args below meth c H locs cells slots Q (F0 m pc ls (.int n :: rest)) := by
  subst hN
  refine W.anewA (t := .int) hx hb hown hcl (va_AOA.use hAO) rfl hdg rfl hn hbytes hcells hslots fun cA1 kA comp f1 f2 f3 f4 => ?_
  have f0 : s.vm.findClass ("[" ++ (FieldType.array .int).toString) = some cA := (hK.2 t0 _ ht).2
  have e : cA1 = cA := Option.some.inj (f1.symm.trans f0)
  subst e
  obtain ⟨hP, hD, hS⟩ := hB
  generalize hH1 : H.push ({ cls := cA1, slots := Array.replicate n.toNatClampNeg .null, vm := .none } : Cell) = H1
  have z1 : H1.size = H.size + 1 := by rw [← hH1, Array.size_push]
  have e1 : H1[H.size]? = some (arrV cA1 n.toNatClampNeg (fun _ => .null)) := by rw [← hH1, Array.getElem?_push_size, ← arrV_new]
  have o1 : ∀ q : Nat, q < H.size → H1[q]? = H[q]? := fun q hq => by rw [← hH1, Array.getElem?_push, if_neg (Nat.ne_of_lt hq)]
  have hk : ∀ (k : Nat) (x : Nat × va_E), ws[k]? = some x → H1[x.1]? = H[x.1]? := fun k x hx => o1 x.1 ((hP k x hx).lt)
  refine kk H.size H1 locs ⟨(hP.kept hk).app (fun k x hx => ?_), hD.push hP rfl (hA _ hS.1), ⟨Nat.le_trans hS.1 (by omega), fun x h1 h2 => (o1 x (Nat.lt_of_lt_of_le h1 hS.1)).trans (hS.2.1 x h1 h2), hS.2.2⟩⟩
  have hz : k < 1 := (List.getElem?_eq_some_iff.mp hx).1
  rw [show k = 0 by omega] at hx
  cases hx
  show H1[H.size]? = some (vp_cell _ _)
  rw [vp_cell_q]
  exact e1
/-- an int array goes into an array of int arrays -/
theorem g_aastA (hx : p.tables.exec = Jvm.exec) (hb : c.code = cc) (hAO : va_AOA .int s) (hK : va_K D vwCl tys s) (hB : Bd D tys A s ws H locs) (q0 t0 qk tk : Nat) {cA cI : ClassId} {n v : Nat} {x : vp_A} {f : Nat → Option Nat} (ha : ws[q0]? = some (a, .inl (cA, n, .inr (.inr (.inr (.inr f)))))) (ht : tys[t0]? = some (cA, .array .int)) (hv : ws[qk]? = some (v, .inl (cI, x))) (htk : tys[tk]? = some (cI, .int)) {i : Int32} (hin : vp_in i n) (hdg : decode cc pc = .ok (.aastore, 1)) {w2 : va_W} (hw : ws.set q0 (a, .inl (cA, n, .inr (.inr (.inr (.inr (va_up f i.toNatClampNeg (some v))))))) = w2)
    (kk : ∀ (H : Heap) (locs : List Loc), Bd D tys A s w2 H locs → W p l e R s m args below meth c H locs cells slots Q (F0 m (pc + 1) ls rest)) : W p l e R s m args below meth c H locs cells slots Q (F0 m pc ls (.ref v :: .int i :: .ref a :: rest)) := by
  obtain ⟨hP, hD, hS⟩ := hB
  have hlt : i.toNatClampNeg < n := Nat.not_le.mp fun q => hin (Or.inr q)
  have h0 : ¬ i < 0 := fun q => hin (Or.inl q)
  obtain ⟨comp, cA1, kA, hcomp, -, hkA, hkindA, hnameA⟩ := arrayOverA_spec (va_AOA.use (A := args) hAO)
  have f0 : s.vm.findClass ("[" ++ (FieldType.array .int).toString) = some cA := (hK.2 t0 _ ht).2
  have e : cA1 = cA := Option.some.inj (hnameA.symm.trans f0)
  subst e
  have f1 : s.vm.findClass ("[" ++ FieldType.int.toString) = some cI := (hK.2 tk _ htk).2
  have e : comp = cI := Option.some.inj (hcomp.symm.trans f1)
  subst e
  obtain ⟨kC, hkC, -⟩ := Vm.findClass_spec hcomp
  have hcv := hP qk _ hv
  have hcls : (vp_cell comp x).cls = comp := by
    obtain ⟨n, f | f | f | f | f⟩ := x <;> rfl
  have hvm0 : (vp_cell comp x).vm = .none := by
    obtain ⟨n, f | f | f | f | f⟩ := x <;> rfl
  refine W.aast hx hb (hP q0 _ ha) (fun q h => by cases h) (fun h => by cases h) hkA hkindA rfl hkC ⟨h0, by show _ < (arrV _ _ _).slots.size; rw [arrV_size]; exact hlt⟩ hcv (fun q h => by rw [hvm0] at h; cases h) (by rw [hcls]; exact hkC) (by rw [hcls]; exact va_asself _ _) rfl rfl hdg fun H1 e z oq => ?_
  have hP1 := hP.set hD ha (e := .inl (cA1, n, .inr (.inr (.inr (.inr (va_up f i.toNatClampNeg (some v))))))) (H1 := H1) (by
    show H1[a]? = some (vp_cell _ _)
    rw [e]
    rw [vp_cell_q, vp_cell_q, arrV_store]
    congr 2
    funext q
    by_cases hq : q = i.toNatClampNeg
    · subst hq
      simp [updV, va_up, va_rf]
    · simp [updV, va_up, hq]) oq
  rw [hw] at hP1
  have hD1 : va_D A w2 := by rw [← hw]; exact hD.set ha
  exact kk H1 _ ⟨hP1, hD1, hS.put z oq (hD.2 q0 _ ha)⟩
/-- an int array is cloned -/
theorem g_cloneI {f : FS} {cA : ClassId} {nA : Nat} (t0 : Nat) (ht : tys[t0]? = some (cA, .int)) (hx : p.tables.exec = Jvm.exec) (hb : c.code = cc) (hml : c.maxLocals = ls.size) (hown : s.vm.findClass own = some m.cls) (hlink : (Cond.methodLink own index ⟨"[I", "clone", "()Ljava/lang/Object;"⟩).before args s = true) (hsame : (Cond.sameMethod "[I" "java/lang/Object" "clone" "()Ljava/lang/Object;").before args s = true)
    (hnat : (Cond.native ⟨"java/lang/Object", "clone", "()Ljava/lang/Object;"⟩).before args s = true) (hinst : (Cond.instanceMethod ⟨"java/lang/Object", "clone", "()Ljava/lang/Object;"⟩).before args s = true)
    (hsel : (Cond.selects "[I" ⟨"[I", "clone", "()Ljava/lang/Object;"⟩ ⟨"java/lang/Object", "clone", "()Ljava/lang/Object;"⟩).before args s = true) (hcl : va_Nw (.castable "[I" "java/lang/Cloneable") s) (hK : va_K D vwCl tys s) (hB : Bd D tys A s ws H locs) (hA : ∀ q, s.heap.size ≤ q → A q) (q0 : Nat) (ha : ws[q0]? = some (a, .inl (cA, nA, .inl f)))
    (hframes : 1 ≤ R.frames) (hlocals : (rest.map fun v => v.category).sum + 14 ≤ R.locals) (hcells : cells + 1 ≤ R.cells) (hslots : slots + nA ≤ R.slots) (hdg : decode cc pc = .ok (.invokevirtual index, 3))
    (kk : ∀ (q : Nat) (H : Heap) (locs : List Loc), Bd D tys A s (ws ++ [(q, .inl (cA, nA, .inl f))]) H locs → W p l e R s m args below meth c H locs (cells + 1) (slots + nA) Q (F0 m (pc + 3) ls (.ref q :: rest))) : W p l e R s m args below meth c H locs cells slots Q (F0 m pc ls (.ref a :: rest)) := by
  have f1 : s.vm.findClass ("[" ++ FieldType.int.toString) = some cA := (hK.2 t0 _ ht).2
  refine va_clone (ad := "[I") hx hb hml hown hlink hsame hnat hinst hsel hcl hK hB.1 hB.2.1 hB.2.2 hA q0 t0 ha ht f1 (fun i v hv => ?_) hframes hlocals hcells hslots hdg (fun q H1 _ hP hD hS => kk q H1 locs ⟨hP, hD, hS⟩)
  rw [vp_cell_i] at hv
  by_cases hi : i < nA
  · rw [arrV_read _ _ hi] at hv
    cases hv
    rfl
  · rw [Array.getElem?_eq_none (by rw [arrV_size]; omega)] at hv
    cases hv
theorem g_castI {cA : ClassId} {x : vp_A} (t0 : Nat) (ht : tys[t0]? = some (cA, .int)) (hx : p.tables.exec = Jvm.exec) (hb : c.code = cc) (hown : s.vm.findClass own = some m.cls) (hlink : (Cond.classLink own index "[I").before args s = true) (hK : va_K D vwCl tys s) (hB : Bd D tys A s ws H locs) (q0 : Nat) (ha : ws[q0]? = some (a, .inl (cA, x))) (hdg : decode cc pc = .ok (.checkcast index, 3))
    (k : W p l e R s m args below meth c H locs cells slots Q (F0 m (pc + 3) ls (.ref a :: rest))) : W p l e R s m args below meth c H locs cells slots Q (F0 m pc ls (.ref a :: rest)) :=
  va_castA (nm := "[I") hx hb hown hlink hB.1 q0 ha (hK.2 t0 _ ht).2 hdg k
end WE
