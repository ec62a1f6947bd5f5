/-! `load`, by hand: a reader and a setup are made, the setup is the world's from then on -/
def gL (sid : Nat → Nat) (n : Nat) : Option Unit := if (List.range 10).all (fun v => decide (sid v < n)) = true then some () else none
theorem gL_s {sid : Nat → Nat} {n : Nat} {u : Unit} (h : gL sid n = some u) : ∀ v, v < 10 → sid v < n := by
  unfold gL at h
  split at h
  · next q => exact fun v hv => of_decide_eq_true (List.all_eq_true.mp q v (List.mem_range.mpr hv))
  · cases h
def mX3_load (fu : Nat) (τs : WS) (n : Nat) (pa : PA) (β : FS) (υ : MS) (ω : WS) (sid : PA) (i1 : Int32) : Option (String ⊕ (Int32 × PA × MS × WS × PA × WS × Nat)) :=
  ob1 (if i1 < (0 : Int32) then some true else (if i1 ≤ (υ 1 0) then some false else some true)) fun t1 => cnd t1 (some (.inl "java/lang/IllegalArgumentException")) (ob2 (mX1_readSetup fu β τ0 (ρ0 i1)) fun τ1 ρ1 => ob1 (some (pf υ 1 (0 : Int32))) fun υ1 => ob1 (some (pf υ1 2 (ρ1 2 0))) fun υ2 => (if (ρ1 1 0) = (0 : Int32) then ob4 (mX3_remember fu τs n pa β υ2 ω sid) fun pa3 υ3 ω3 sid3 => ob1 (gL sid3 n) fun _ => ob1 (mX2_begin fu τ1 (ω3 0)) fun σ4 => some (.inr (τ1 5 0, pa3, υ3, va_up ω3 0 σ4, va_up sid3 0 n, va_up τs n τ1, n + 1)) else some (.inr (ρ1 1 0, pa, υ2, ω, sid, τs, n))))
def PcL (D : va_G) (tys : List (ClassId × FieldType)) (kS : Nat → Nat) (w0 : va_W) (sz : Nat) (av : List Value) : Array Value → State → Prop := va_Pc av (fun U => (U.heap.size = sz ∧ va_P D vwCl w0 U.heap ∧ va_K D vwCl tys U ∧ va_D (fun _ => True) w0) ∧ EX (va_A w0 sz) U U.heap ∧ JS kS (va_A w0 sz) U U.heap ∧ va_Nw (.methodLinkNest RX1 11 yX0_init RX3) U)
theorem PcL_blind (D : va_G) (tys : List (ClassId × FieldType)) (kS : Nat → Nat) (w0 : va_W) (sz : Nat) (av : List Value) : FrameBlind (PcL D tys kS w0 sz av) := fun a U g mk q => by
  obtain ⟨q0, ⟨q1, qP, qK, qD⟩, qE, qJ, qN⟩ := q
  exact ⟨q0, ⟨q1, qP, va_K.moved (u := U) (U := U.calling g mk a) (Vm.Alike.refl U.vm) qK, qD⟩, EX.same (u := U) rfl qE, JS.same (u := U) rfl qJ, va_Nw.same rfl rfl qN⟩
abbrev QiL {X Y : Type} (D : va_G) (tys : List (ClassId × FieldType)) (w0 : va_W) (w1 : X → Y → va_W) (val : X → Int32) (sz : Nat) (o : String ⊕ X) : Array Value → State → Outcome → State → Prop := va_Qi (fun r (x : X × Y) => o = .inr x.1 ∧ r = val x.1) (fun x t => BX D tys w0 (w1 x.1 x.2) sz t) (va_A w0 sz)
section ML
variable {p : Program} {l : Launch} {e : Env} {R : Room} {s : State} {m : MethodId} {args : Array Value} {below : List Frame} {meth : Method} {c : Code} {H : Heap} {locs : List Loc} {cells slots : Nat} {Q : State → Prop}
variable {cc : ByteArray} {pc : Nat} {ls : Array Slot} {rest : List Value} {D : va_G} {A : Nat → Prop} {a : Nat} {tys : List (ClassId × FieldType)} {ws : va_W}
variable {y : MethodName} {bytes : ByteArray} {maxL nL mc ms mc1 ms1 n index : Nat} {ret : Option FieldType} {wsy : List Cond} {rm : Room} {Ts : List Cond} {own C : String} {b : Addr} {As : List Value} {st0 : List Value} {w0 w1 : va_W} {kS : Nat → Nat}
theorem g_icallA {S : Type} {O : State → Prop} {wc wr : va_W} {w1 : S → va_W} {post : S → Prop} {tysc : List (ClassId × FieldType)} (hO : ∀ U : State, s.WarmedH U.vm → O U) (hOb : ∀ (a : Array Value) (U : State) (g : JFrame) (mk : MethodId), O U → O (U.calling g mk a)) (S0 : CallFix p m c cc nL s args Ts own) (hM : Met l y wsy rm (PcA D tysc O wc H.size (.ref b :: As)) (va_Qv post (fun u t => va_P D vwCl (w1 u) t.heap ∧ va_K D vwCl tysc t ∧ va_D (va_A wc H.size) (w1 u)) (va_A wc H.size)) mc ms (va_A wc H.size)) (cw : CallB R s args own index y bytes maxL none wsy rm mc ms n ∧ y.name = "<init>" ∧ (Cond.instanceMethod y).before args s = true) (hKc : va_K D vwCl tysc s) (hB0 : Bd D tys A s ws H locs) (hA : ∀ q, s.heap.size ≤ q → A q) (hp1 : ws.Perm (wc ++ wr))
    (hn : As.length = n) (hsize : ls.size = nL) (hstack : st0 = As.reverse ++ .ref b :: rest) (hW : (rest.map fun v => v.category).sum ≤ 8) (hdg : decode cc pc = .ok (.invokespecial index, 3)) (hf : cells + mc ≤ R.cells ∧ slots + ms ≤ R.slots)
    (k : ∀ (u : S) (H : Heap) (locs : List Loc), post u → Bd D tys A s (w1 u ++ wr) H locs → W p l e R s m args below meth c H locs (cells + mc) (slots + ms) Q (F0 m (pc + 3) ls rest)) : W p l e R s m args below meth c H locs cells slots Q (F0 m pc ls st0) := by
  have hB := hB0.perm hp1
  have hF := keep_left hB hA
  have hp := pcut_pre hB hKc (.ref b :: As)
  refine va_callv (va_runI S0 hM cw ⟨fun a U g mk q => ?_, fun U hU hW => ⟨rfl, ((hp.2 U hU hW).2 : _), hO U hW⟩⟩ rfl hn hsize hstack (lv_room hW) hdg hf) hB.2.2 (fun q _ h => hF q h) hF (fun u t H1 locs1 ht hvm hpu hBt hz hk hS => ?_)
  · obtain ⟨q0, ⟨q1, qP, qK, qD⟩, qO⟩ := q
    exact ⟨q0, ⟨q1, qP, va_K.moved (u := U) (U := U.calling g mk a) (Vm.Alike.refl U.vm) qK, qD⟩, hOb a U g mk qO⟩
  obtain ⟨hP1, -, hD1⟩ := hBt
  rw [ht] at hP1
  exact k u H1 locs1 hpu (pcut_back hB hF hk hP1 hD1 hS)
theorem g_jpcutVv {wc wr w2 : va_W} {tysc : List (ClassId × FieldType)} (S : CallFix p m c cc nL s args Ts own) (hJ : JS kS A s s.heap) (hM : Met l y wsy rm (PcJ D tysc kS wc H.size (.ref b :: As)) (QvF D tysc wc w1 H.size) 0 0 (va_A wc H.size)) (cw : CallW R s args own C index y bytes maxL ret wsy rm 0 0 n) (hKc : va_K D vwCl tysc s) (hB0 : Bd D tys A s ws H locs) (hA : ∀ q, s.heap.size ≤ q → A q) (hrec : ∃ cell : Cell, H[b]? = some cell ∧ cell.vm.isStatics = false ∧ s.vm.findClass C = some cell.cls) (hp1 : ws.Perm (wc ++ wr)) (hp2 : (w1 ++ wr).Perm w2)
    (hn : As.length = n) (hsize : ls.size = nL) (hstack : st0 = As.reverse ++ .ref b :: rest) (hW : (rest.map fun v => v.category).sum ≤ 8) (hdg : decode cc pc = .ok (.invokevirtual index, 3)) (hf : cells ≤ R.cells ∧ slots ≤ R.slots)
    (k : ∀ (H : Heap) (locs : List Loc), Bd D tys A s w2 H locs → W p l e R s m args below meth c H locs cells slots Q (F0 m (pc + 3) ls (rest))) : W p l e R s m args below meth c H locs cells slots Q (F0 m pc ls st0) := by
  have hB := hB0.perm hp1
  have hF := keep_left hB hA
  have hp := pcut_pre hB hKc (.ref b :: As)
  refine va_callv (va_runV S hM cw ⟨PcJ_blind _ _ _ _ _ _, hrec, fun U hU hW => ⟨rfl, ((hp.2 U hU hW).2 : _), JS_at hJ hB.2.2 hF hU hW⟩⟩ rfl hn hsize hstack (lv_room hW) hdg hf) hB.2.2 (fun q _ h => hF q h) hF (fun u t H1 locs1 ht hvm hr hBt hz hk hS => ?_)
  obtain ⟨hP1, -, hD1⟩ := hBt
  rw [ht] at hP1
  exact k H1 locs1 ((pcut_back hB hF hk hP1 hD1 hS).perm hp2)
theorem g_xiretL {X Y : Type} {o : String ⊕ X} {w1 : X → Y → va_W} {val : X → Int32} {x : X} (u : Y) (hx : p.tables.exec = Jvm.exec) (hb : c.code = cc) (hr : meth.sig.returnType = some .int) (hlocks : meth.locks = false) (hK : va_K D vwCl tys s) (hB : Bd D tys (va_A w0 s.heap.size) s (w1 x u) H locs) (ho : o = .inr x) (hc : cells ≤ mc) (hs : slots ≤ ms) (hdg : decode cc pc = .ok (.ireturn, 1)) : W p l e R s m args below meth c H locs cells slots (vx_MQ below (QiL D tys w0 w1 val s.heap.size o) (XF D tys w0 s.heap.size o) args s mc ms (va_A w0 s.heap.size)) (F0 m pc ls [.int (val x)]) :=
  W.widen (k := mc) (n := ms) hc hs (vx_ret (W.iret hx hb hr (fun t ht hW => ⟨⟨val x, (x, u), rfl, ⟨ho, rfl⟩, by rw [ht]; exact hB.1, va_K.moved hW.alike hK, hB.2.1⟩, hB.2.2.F ht⟩) hB.2.2.2.2 hdg))
end ML
theorem p6 {E : Type} (a b c h : E) (r : List E) : ((a :: b :: c :: r) ++ [h]).Perm ([h, b] ++ (a :: c :: r)) := by
  refine (List.perm_append_comm (l₁ := a :: b :: c :: r) (l₂ := [h])).trans ?_
  exact List.Perm.cons h (List.Perm.swap b a _)
theorem p7 {E : Type} (a b c h : E) (S r : List E) : ((h :: b :: S) ++ (a :: c :: r)).Perm ((h :: S) ++ (a :: b :: c :: r)) := by
  refine List.Perm.cons h ?_
  refine List.Perm.trans ?_ (List.perm_append_comm (l₁ := a :: b :: c :: r) (l₂ := S))
  refine (List.Perm.cons b (List.perm_append_comm (l₁ := S) (l₂ := a :: c :: r))).trans ?_
  exact List.Perm.swap a b _
def rB (cyI cyB cyO : ClassId) (ua ub up : Nat) (aw as' : Nat → Nat → Nat) (pa : Nat → Nat) (β : FS) (υ : MS) (ω : Nat → MS) (sid : Nat → Nat) (τs : Nat → MS) (n w : Nat) : va_W := cU0 cyB cyO ua ub up aw pa β υ ++ (cUwE cyI aw (fun w => as' (sid w) 0) ω ((List.range 10).erase w) ++ cUs cyI as' τs n)
theorem p8 (a b b' c : va_W) : (a ++ ((b ++ b') ++ c)).Perm (b ++ (a ++ (b' ++ c))) := by
  simp only [List.append_assoc]
  exact List.perm_append_comm_assoc a b _
theorem cU_viewB (cyI cyB cyO : ClassId) (ua ub up : Nat) (aw as' : Nat → Nat → Nat) (pa : Nat → Nat) (β : FS) (υ : MS) (ω : Nat → MS) (sid : Nat → Nat) (τs : Nat → MS) (n : Nat) {w : Nat} (hw : w < 10) : (cU cyI cyB cyO ua ub up aw as' pa β υ ω sid τs n).Perm (cW1 cyI (aw w) (as' (sid w) 0) (ω w) ++ rB cyI cyB cyO ua ub up aw as' pa β υ ω sid τs n w) := by
  have h1 := fm_perm (fun w => cW1 cyI (aw w) (as' (sid w) 0) (ω w)) (l := List.range 10) (w := w) (List.mem_range.mpr hw)
  show (cU0 cyB cyO ua ub up aw pa β υ ++ (cUw cyI aw (fun w => as' (sid w) 0) ω ++ cUs cyI as' τs n)).Perm _
  exact ((List.Perm.refl _).append (h1.append (List.Perm.refl _))).trans (p8 _ _ _ _)
theorem cUs_up (cyI : ClassId) (as' : Nat → Nat → Nat) (τs : Nat → MS) (n : Nat) (u : Nat → Nat) (τ1 : MS) : cUs cyI (va_up as' n u) (va_up τs n τ1) (n + 1) = cUs cyI as' τs n ++ cS cyI u τ1 := by
  unfold cUs
  rw [List.range_succ, List.flatMap_append, List.flatMap_singleton, va_up_self, va_up_self]
  congr 1
  rw [List.flatMap_def, List.flatMap_def]
  congr 1
  apply List.map_congr_left
  intro v hv
  have hne : v ≠ n := Nat.ne_of_lt (List.mem_range.mp hv)
  rw [va_up_ne _ _ hne, va_up_ne _ _ hne]
theorem p9 (w s1 h a e c : va_W) : ((w ++ s1) ++ (h ++ (a ++ (e ++ c)))).Perm ((w ++ (a ++ (e ++ (c ++ s1)))) ++ h) := by
  simp only [List.append_assoc]
  refine List.Perm.append_left w ?_
  have h1 : (s1 ++ (h ++ (a ++ (e ++ c)))).Perm ((a ++ (e ++ c)) ++ (s1 ++ h)) := by
    rw [← List.append_assoc]
    refine List.perm_append_comm.trans ?_
    exact (List.Perm.refl _)
  refine h1.trans ?_
  simp only [List.append_assoc]
  exact List.Perm.refl _
/-- the made setup is the last of the setups, and the present world's -/
theorem cU_begun (cyI cyB cyO : ClassId) (ua ub up : Nat) (aw as' : Nat → Nat → Nat) (pa : Nat → Nat) (β : FS) (υ : MS) (ω : Nat → MS) (sid : Nat → Nat) (τs : Nat → MS) (n : Nat) (u : Nat → Nat) (τ1 σ1 : MS) (h : va_W) (hs : ∀ v, v < 10 → sid v < n) : ((cW1 cyI (aw 0) (u 0) σ1 ++ cS cyI u τ1) ++ (h ++ rB cyI cyB cyO ua ub up aw as' pa β υ ω sid τs n 0)).Perm (cU cyI cyB cyO ua ub up aw (va_up as' n u) pa β υ (va_up ω 0 σ1) (va_up sid 0 n) (va_up τs n τ1) (n + 1) ++ h) := by
  have hv := cU_viewB cyI cyB cyO ua ub up aw (va_up as' n u) pa β υ (va_up ω 0 σ1) (va_up sid 0 n) (va_up τs n τ1) (n + 1) (w := 0) (by decide)
  rw [va_up_self, va_up_self, va_up_self] at hv
  unfold rB at hv ⊢
  rw [cUs_up, cUwE_up cyI aw (fun w => as' (sid w) 0) _ ω _ _ (fun v hvv => ?_)] at hv
  · exact (p9 _ _ _ _ _ _).trans (hv.symm.append (List.Perm.refl _))
  · have h1 : v ≠ 0 := ne_of_erase List.nodup_range hvv
    have h2 : v < 10 := List.mem_range.mp (List.mem_of_mem_erase hvv)
    refine ⟨va_up_ne _ _ h1, ?_⟩
    show va_up as' n u (va_up sid 0 n v) 0 = _
    rw [va_up_ne _ _ h1, va_up_ne _ _ (Nat.ne_of_lt (hs v h2))]
abbrev rmX3_load : Room := { frames := 9, cells := 14, slots := 312, locals := 250 }
set_option maxHeartbeats 4000000 in
set_option maxRecDepth 100000 in
theorem kX3_load (l : Launch) (hl0 : l.stackTraces = false) (dC : Nat → ClassId) (dI : Nat → Nat → Nat) (cyI cyB cyO : ClassId) (ua ub up : Nat) (aw as' : Nat → Nat → Nat) (kS : Nat → Nat) (sz : Nat) {fu : Nat} {τs : WS} {n : Nat} {pa : PA} {β : FS} {υ : MS} {ω : WS} {sid : PA} {i1 : Int32} {o : String ⊕ (Int32 × PA × MS × WS × PA × WS × Nat)} (hf : mX3_load fu τs n pa β υ ω sid i1 = some o) : vx_Met l yX3_load wsX3_load rmX3_load (PcL (dC, dI) [(cyI, .int), (cyB, .byte), (cyO, .object "UndoJourneys$World")] kS (cU cyI cyB cyO ua ub up aw as' pa β υ ω sid τs n) sz [.ref ua, .int i1]) (QiL (dC, dI) [(cyI, .int), (cyB, .byte), (cyO, .object "UndoJourneys$World")] (cU cyI cyB cyO ua ub up aw as' pa β υ ω sid τs n) (fun x (as2 : Nat → Nat → Nat) => cU cyI cyB cyO ua ub up aw as2 x.2.1 β x.2.2.1 x.2.2.2.1 x.2.2.2.2.1 x.2.2.2.2.2.1 x.2.2.2.2.2.2) (fun x => x.1) sz o) (XF (dC, dI) [(cyI, .int), (cyB, .byte), (cyO, .object "UndoJourneys$World")] (cU cyI cyB cyO ua ub up aw as' pa β υ ω sid τs n) sz o) 14 312 (va_A (cU cyI cyB cyO ua ub up aw as' pa β υ ω sid τs n) sz) := by
  refine vx_ofW (cc := cX3_load) (maxL := 3) (ret := (some .int)) (by decide) rfl ?_
  intro p e s m args below meth c s₁ B hml ht0 hv
  obtain ⟨rfl, ⟨hsz, hP, hK, hD0⟩, hEX, hJ, hNw⟩ := hv
  have hx := B.exec
  have hb := B.bytes
  have hr := B.returns
  have hts := atoms_spec (ws := wsX3_load) B.pre
  have hown : s.vm.findClass RX3 = some m.cls := findClass_of_methodNamed B.named
  have hlocks := B.notSynchronized
  subst hsz
  have hA : ∀ q : Nat, s.heap.size ≤ q → va_A (cU cyI cyB cyO ua ub up aw as' pa β υ ω sid τs n) s.heap.size q := fun q h => Or.inr h
  have hB : Bd (dC, dI) [(cyI, .int), (cyB, .byte), (cyO, .object "UndoJourneys$World")] (va_A (cU cyI cyB cyO ua ub up aw as' pa β υ ω sid τs n) s.heap.size) s (cU cyI cyB cyO ua ub up aw as' pa β υ ω sid τs n) s.heap [] := ⟨hP, hD0.self, va_S.rf⟩
  have hq1 : (Cond.classLink RX3 46 "java/lang/IllegalArgumentException").before _ s = true := hts _ (List.mem_of_getElem? (i := 1) rfl)
  have hq2 : (Cond.initialized "java/lang/IllegalArgumentException").before _ s = true := hts _ (List.mem_of_getElem? (i := 2) rfl)
  have hq3 : (Cond.fieldLink RX3 13 "UndoJourneys" "bufferLength" "I").before _ s = true := hts _ (List.mem_of_getElem? (i := 3) rfl)
  have hq4 : (Cond.classLink RX3 53 RX1).before _ s = true := hts _ (List.mem_of_getElem? (i := 4) rfl)
  have hq5 : (Cond.instantiable RX1 11).before _ s = true := hts _ (List.mem_of_getElem? (i := 5) rfl)
  have hq6 : (Cond.initialized RX1).before _ s = true := hts _ (List.mem_of_getElem? (i := 6) rfl)
  have hq7 : (Cond.fieldLink RX3 9 "UndoJourneys" "buffer" "[B").before _ s = true := hts _ (List.mem_of_getElem? (i := 7) rfl)
  have hq8 : (Cond.fieldLink RX3 61 "UndoJourneys$SetupReader" "errorAt" "I").before _ s = true := hts _ (List.mem_of_getElem? (i := 8) rfl)
  have hq9 : (Cond.fieldLink RX3 17 "UndoJourneys" "lastErrorOffset" "I").before _ s = true := hts _ (List.mem_of_getElem? (i := 9) rfl)
  have hq10 : (Cond.fieldLink RX3 64 "UndoJourneys$SetupReader" "error" "I").before _ s = true := hts _ (List.mem_of_getElem? (i := 10) rfl)
  have hq11 : (Cond.fieldLink RX3 35 "UndoJourneys" "now" "LUndoJourneys$World;").before _ s = true := hts _ (List.mem_of_getElem? (i := 11) rfl)
  have hq12 : (Cond.fieldLink RX3 70 "UndoJourneys$SetupReader" "setup" "LUndoJourneys$Setup;").before _ s = true := hts _ (List.mem_of_getElem? (i := 12) rfl)
  have hq13 : (Cond.fieldLink RX3 77 "UndoJourneys$World" "setup" "LUndoJourneys$Setup;").before _ s = true := hts _ (List.mem_of_getElem? (i := 13) rfl)
  have hq14 : (Cond.fieldLink RX3 78 "UndoJourneys$Setup" "journeys" "I").before _ s = true := hts _ (List.mem_of_getElem? (i := 14) rfl)
  have hq15 : (Cond.methodLink RX3 55 yX1_init).before _ s = true := hts _ (List.mem_of_getElem? (i := 15) rfl)
  have hq16 : (Cond.instanceMethod yX1_init).before _ s = true := hts _ (List.mem_of_getElem? (i := 16) rfl)
  have hinX0 : ∀ w ∈ wsX00, w ∈ wsX3_load := fun w h => List.mem_cons_of_mem _ (List.mem_append_left _ (List.mem_append_right _ h))
  have hinX2 : ∀ w ∈ wsX20, w ∈ wsX3_load := fun w h => List.mem_cons_of_mem _ (List.mem_append_left _ (List.mem_append_left _ (List.mem_append_right _ h)))
  have hinX1 : ∀ w ∈ wsX10, w ∈ wsX3_load := fun w h => List.mem_cons_of_mem _ (List.mem_append_left _ (List.mem_append_left _ (List.mem_append_left _ (List.mem_append_right _ h))))
  have hinX3 : ∀ w ∈ wsX30, w ∈ wsX3_load := fun w h => List.mem_cons_of_mem _ (List.mem_append_left _ (List.mem_append_left _ (List.mem_append_left _ (List.mem_append_left _ (List.mem_append_right _ h)))))
  have hl := lv_entry [.ref ua, .int i1] (n := 3) (Nat.le_of_ble_eq_true rfl)
  rw [lg_entry_eq]
  generalize (lg_sl [.ref ua, .int i1] ++ List.replicate (3 - (lg_sl [.ref ua, .int i1]).length) Slot.unset).toArray = ls at hl ⊢
  have hl : lv_has ls 3 [(0, .ref ua), (1, .int i1)] := hl
  clear hP hD0
  unfold mX3_load at hf
  obtain ⟨t1, hD3, hf⟩ := ob1_s hf
  refine lv_iload_n hx hb dX3_load_0 rfl (lv_at hl 1 rfl) ?_
  have kT : t1 = true → W p l e (headSpec wsX3_load rmX3_load).room s m ([.ref ua, .int i1] : List Value).toArray below meth c s.heap [] 0 0 (vx_MQ below (QiL (dC, dI) [(cyI, .int), (cyB, .byte), (cyO, .object "UndoJourneys$World")] (cU cyI cyB cyO ua ub up aw as' pa β υ ω sid τs n) (fun x (as2 : Nat → Nat → Nat) => cU cyI cyB cyO ua ub up aw as2 x.2.1 β x.2.2.1 x.2.2.2.1 x.2.2.2.2.1 x.2.2.2.2.2.1 x.2.2.2.2.2.2) (fun x => x.1) s.heap.size o) (XF (dC, dI) [(cyI, .int), (cyB, .byte), (cyO, .object "UndoJourneys$World")] (cU cyI cyB cyO ua ub up aw as' pa β υ ω sid τs n) s.heap.size o) ([.ref ua, .int i1] : List Value).toArray s 14 312 (va_A (cU cyI cyB cyO ua ub up aw as' pa β υ ω sid τs n) s.heap.size)) (F0 m 12 ls []) := by
    intro ht
    have hf := cnd_t ht hf
    have e0 := inj1 hf
    refine g_throw (names := ["java/lang/RuntimeException", "java/lang/Exception"]) hl0 hx hb hown hEX ht0 hlocks hK hB rfl e0.symm hml hl.1 (by decide) (by decide) hq1 hq2 (List.mem_of_getElem? (i := 0) rfl) (fun w h => hts w (List.mem_cons_of_mem _ (List.mem_append_right _ h))) (by decide +kernel) (by decide +kernel) dX3_load_12 dX3_load_15 dX3_load_16 dX3_load_18 dX3_load_21 (Nat.le_of_ble_eq_true rfl) (Nat.le_of_ble_eq_true rfl) (Nat.le_of_ble_eq_true rfl) (Nat.le_of_ble_eq_true rfl) (Nat.le_of_ble_eq_true rfl) (Nat.le_of_ble_eq_true rfl)
  have kF : t1 = false → W p l e (headSpec wsX3_load rmX3_load).room s m ([.ref ua, .int i1] : List Value).toArray below meth c s.heap [] 0 0 (vx_MQ below (QiL (dC, dI) [(cyI, .int), (cyB, .byte), (cyO, .object "UndoJourneys$World")] (cU cyI cyB cyO ua ub up aw as' pa β υ ω sid τs n) (fun x (as2 : Nat → Nat → Nat) => cU cyI cyB cyO ua ub up aw as2 x.2.1 β x.2.2.1 x.2.2.2.1 x.2.2.2.2.1 x.2.2.2.2.2.1 x.2.2.2.2.2.2) (fun x => x.1) s.heap.size o) (XF (dC, dI) [(cyI, .int), (cyB, .byte), (cyO, .object "UndoJourneys$World")] (cU cyI cyB cyO ua ub up aw as' pa β υ ω sid τs n) s.heap.size o) ([.ref ua, .int i1] : List Value).toArray s 14 312 (va_A (cU cyI cyB cyO ua ub up aw as' pa β υ ω sid τs n) s.heap.size)) (F0 m 22 ls []) := by
    intro ht
    have hf := cnd_f ht hf
    refine g_new (C := RX1) (T := TX1) (N := 11) (ci := 1) hx hb hts hinX1 tyX1 tyX1_ok hown hq4 hq5 hq6 hK hB hA rfl [.null, .int 0, .int 0, .null, .int 0, .int 0, .int 0, .int 0, .int 0, .int 0, .int 0] (by decide +kernel) (Nat.le_of_ble_eq_true rfl) (Nat.le_of_ble_eq_true rfl) dX3_load_22 (fun h0 H locs hB => ?_)
    refine lv_dup hx hb dX3_load_25 rfl ?_
    refine lv_aload_n hx hb dX3_load_26 rfl (lv_at hl 0 rfl) ?_
    refine g_get (C := RX3) (T := TX3) (N := 7) hx hb hts hinX3 hown hK hB 0 rfl rfl 0 rfl hq7 rfl rfl dX3_load_27 ?_
    refine lv_iload_n hx hb dX3_load_30 rfl (lv_at hl 1 rfl) ?_
    refine g_icallA (O := fun U => va_Nw (.methodLinkNest RX1 11 yX0_init RX3) U) (As := [.ref ub, .int i1]) (rest := [.ref h0]) (wc := [(h0, .inr (1, [.null, .int 0, .int 0, .null, .int 0, .int 0, .int 0, .int 0, .int 0, .int 0, .int 0])), (ub, .inl (cyB, 700, .inl β))]) (w1 := fun u => cR cyI cyB h0 ub u β τ0 (ρ0 i1)) (fun U hW => va_Nw.warmM hW hNw) (fun a U g mk h => va_Nw.same rfl rfl h) ⟨hx, hb, hml, hown, hts⟩ (kX1_init l dC dI cyI cyB h0 ub H.size) (cwI 2 hts gX3_load_X1_init rfl rfl rfl hq6 hq15 hq16 rfl (by decide +kernel) ⟨Nat.le_of_ble_eq_true rfl, Nat.le_of_ble_eq_true rfl⟩) (hK.sub [0, 1] rfl) hB hA (p6 _ _ _ _ _) rfl hl.1 rfl (Nat.le_of_ble_eq_true rfl) dX3_load_31 ⟨Nat.le_of_ble_eq_true rfl, Nat.le_of_ble_eq_true rfl⟩ (fun u H locs _ hB => ?_)
    refine lv_astore_n (lv' := [(2, .ref h0), (0, .ref ua), (1, .int i1)]) hx hb dX3_load_34 rfl hl (by decide) rfl (fun ls hl => ?_)
    refine lv_aload_n hx hb dX3_load_35 rfl (lv_at hl 0 rfl) ?_
    obtain ⟨τ1, ρ1, hc, hf⟩ := ob2_s hf
    refine g_jpcutVv (As := []) (rest := []) (w1 := cR cyI cyB h0 ub u β τ1 ρ1) (w2 := ((h0, .inr (1, [.ref (u 0), .int (ρ1 1 0), .int (ρ1 2 0), .ref ub, .int (ρ1 4 0), .int (ρ1 5 0), .int (ρ1 6 0), .int (ρ1 7 0), .int (ρ1 8 0), .int (ρ1 9 0), .int (ρ1 10 0)])) :: cS cyI u τ1) ++ cU cyI cyB cyO ua ub up aw as' pa β υ ω sid τs n) ⟨hx, hb, hml, hown, hts⟩ hJ (kX1_readSetup l dC dI cyI cyB h0 ub u kS H.size hc) (cwV 0 hts gX3_load_X1_readSetup rfl rfl rfl (by decide +kernel) ⟨Nat.le_of_ble_eq_true rfl, Nat.le_of_ble_eq_true rfl⟩) (hK.sub [0, 1] rfl) hB hA (g_recv (ci := 1) hK hB 0 rfl rfl rfl) (List.Perm.refl _) (p7 _ _ _ _ _ _) rfl hl.1 rfl (Nat.le_of_ble_eq_true rfl) dX3_load_36 ⟨Nat.le_of_ble_eq_true rfl, Nat.le_of_ble_eq_true rfl⟩ (fun H locs hB => ?_)
    refine lv_aload_n hx hb dX3_load_39 rfl (lv_at hl 1 rfl) ?_
    refine lv_iconst (v := (0 : Int32)) hx hb dX3_load_40 (by decide) ?_
    obtain ⟨υ1, e9, hf⟩ := ob1_s hf
    have e9 := inj1 e9
    refine g_put (C := RX3) (T := TX3) (N := 7) hx hb hts hinX3 tyX3 tyX3_ok nmX3 hown hK hB 14 rfl rfl 1 rfl hq3 rfl rfl rfl rfl rfl rfl dX3_load_41 (w2 := ((h0, .inr (1, [.ref (u 0), .int (ρ1 1 0), .int (ρ1 2 0), .ref ub, .int (ρ1 4 0), .int (ρ1 5 0), .int (ρ1 6 0), .int (ρ1 7 0), .int (ρ1 8 0), .int (ρ1 9 0), .int (ρ1 10 0)])) :: cS cyI u τ1) ++ cU cyI cyB cyO ua ub up aw as' pa β υ1 ω sid τs n) (by rw [← e9]; rfl) (fun H locs hB => ?_)
    refine lv_aload_n hx hb dX3_load_44 rfl (lv_at hl 1 rfl) ?_
    refine lv_aload_n hx hb dX3_load_45 rfl (lv_at hl 0 rfl) ?_
    refine g_get (C := RX1) (T := TX1) (N := 11) hx hb hts hinX1 hown hK hB 0 rfl rfl 2 rfl hq8 rfl rfl dX3_load_46 ?_
    obtain ⟨υ2, e9, hf⟩ := ob1_s hf
    have e9 := inj1 e9
    refine g_put (C := RX3) (T := TX3) (N := 7) hx hb hts hinX3 tyX3 tyX3_ok nmX3 hown hK hB 14 rfl rfl 2 rfl hq9 rfl rfl rfl rfl rfl rfl dX3_load_49 (w2 := ((h0, .inr (1, [.ref (u 0), .int (ρ1 1 0), .int (ρ1 2 0), .ref ub, .int (ρ1 4 0), .int (ρ1 5 0), .int (ρ1 6 0), .int (ρ1 7 0), .int (ρ1 8 0), .int (ρ1 9 0), .int (ρ1 10 0)])) :: cS cyI u τ1) ++ cU cyI cyB cyO ua ub up aw as' pa β υ2 ω sid τs n) (by rw [← e9]; rfl) (fun H locs hB => ?_)
    refine lv_aload_n hx hb dX3_load_52 rfl (lv_at hl 0 rfl) ?_
    refine g_get (C := RX1) (T := TX1) (N := 11) hx hb hts hinX1 hown hK hB 0 rfl rfl 1 rfl hq10 rfl rfl dX3_load_53 ?_
    refine lv_if_eq (tgt := 64) hx hb dX3_load_56 (by decide) (fun c5 => ?_) (fun c5 => ?_)
    · have hf := ite_t c5 hf
      refine lv_aload_n hx hb dX3_load_64 rfl (lv_at hl 1 rfl) ?_
      obtain ⟨pa3, υ3, ω3, sid3, hc, hf⟩ := ob4_s hf
      refine g_pcutVv (As := []) (rest := []) (w2 := ((h0, .inr (1, [.ref (u 0), .int (ρ1 1 0), .int (ρ1 2 0), .ref ub, .int (ρ1 4 0), .int (ρ1 5 0), .int (ρ1 6 0), .int (ρ1 7 0), .int (ρ1 8 0), .int (ρ1 9 0), .int (ρ1 10 0)])) :: cS cyI u τ1) ++ cU cyI cyB cyO ua ub up aw as' pa3 β υ3 ω3 sid3 τs n) ⟨hx, hb, hml, hown, hts⟩ (kX3_remember l dC dI cyI cyB cyO ua ub up aw as' H.size hc) (cwV 0 hts gX3_load_X3_remember rfl rfl rfl (by decide +kernel) ⟨Nat.le_of_ble_eq_true rfl, Nat.le_of_ble_eq_true rfl⟩) hK hB hA (g_recv (ci := 3) hK hB 14 rfl rfl rfl) List.perm_append_comm List.perm_append_comm rfl hl.1 rfl (Nat.le_of_ble_eq_true rfl) dX3_load_65 ⟨Nat.le_of_ble_eq_true rfl, Nat.le_of_ble_eq_true rfl⟩ (fun H locs hB => ?_)
      obtain ⟨_, hgL, hf⟩ := ob1_s hf
      have hgL := gL_s hgL
      refine lv_aload_n hx hb dX3_load_68 rfl (lv_at hl 1 rfl) ?_
      refine g_get (C := RX3) (T := TX3) (N := 7) hx hb hts hinX3 hown hK hB 14 rfl rfl 3 rfl hq11 rfl rfl dX3_load_69 ?_
      refine lv_aload_n hx hb dX3_load_72 rfl (lv_at hl 0 rfl) ?_
      refine g_get (C := RX1) (T := TX1) (N := 11) hx hb hts hinX1 hown hK hB 0 rfl rfl 0 rfl hq12 rfl rfl dX3_load_73 ?_
      obtain ⟨σ4, hc, hf⟩ := ob1_s hf
      have hp9 : (((h0, .inr (1, [.ref (u 0), .int (ρ1 1 0), .int (ρ1 2 0), .ref ub, .int (ρ1 4 0), .int (ρ1 5 0), .int (ρ1 6 0), .int (ρ1 7 0), .int (ρ1 8 0), .int (ρ1 9 0), .int (ρ1 10 0)])) :: cS cyI u τ1) ++ cU cyI cyB cyO ua ub up aw as' pa3 β υ3 ω3 sid3 τs n : va_W).Perm (cB cyI (aw 0) u (as' (sid3 0) 0) τ1 (ω3 0) ++ ([(h0, .inr (1, [.ref (u 0), .int (ρ1 1 0), .int (ρ1 2 0), .ref ub, .int (ρ1 4 0), .int (ρ1 5 0), .int (ρ1 6 0), .int (ρ1 7 0), .int (ρ1 8 0), .int (ρ1 9 0), .int (ρ1 10 0)]))] ++ rB cyI cyB cyO ua ub up aw as' pa3 β υ3 ω3 sid3 τs n 0)) := by
        have h1 := cU_viewB cyI cyB cyO ua ub up aw as' pa3 β υ3 ω3 sid3 τs n (w := 0) (by decide)
        show (([_] ++ cS cyI u τ1) ++ cU cyI cyB cyO ua ub up aw as' pa3 β υ3 ω3 sid3 τs n : va_W).Perm ((cW1 cyI (aw 0) (as' (sid3 0) 0) (ω3 0) ++ cS cyI u τ1) ++ _)
        refine ((List.Perm.refl _).append h1).trans ?_
        rw [List.append_assoc, List.append_assoc]
        refine (List.perm_append_comm_assoc _ _ _).trans ?_
        refine (List.Perm.append_left _ (List.perm_append_comm_assoc _ _ _)).trans ?_
        exact List.perm_append_comm_assoc _ _ _
      refine g_pcutVv (As := [.ref (u 0)]) (rest := []) (w2 := cB cyI (aw 0) u (u 0) τ1 σ4 ++ ([(h0, .inr (1, [.ref (u 0), .int (ρ1 1 0), .int (ρ1 2 0), .ref ub, .int (ρ1 4 0), .int (ρ1 5 0), .int (ρ1 6 0), .int (ρ1 7 0), .int (ρ1 8 0), .int (ρ1 9 0), .int (ρ1 10 0)]))] ++ rB cyI cyB cyO ua ub up aw as' pa3 β υ3 ω3 sid3 τs n 0)) ⟨hx, hb, hml, hown, hts⟩ (kX2_begin l dC dI cyI (aw 0) u H.size hc) (cwV 1 hts gX3_load_X2_begin rfl rfl rfl (by decide +kernel) ⟨Nat.le_of_ble_eq_true rfl, Nat.le_of_ble_eq_true rfl⟩) (hK.sub [0] rfl) hB hA (g_recv (ci := 2) hK (hB.perm hp9) 0 rfl rfl rfl) hp9 (List.Perm.refl _) rfl hl.1 rfl (Nat.le_of_ble_eq_true rfl) dX3_load_76 ⟨Nat.le_of_ble_eq_true rfl, Nat.le_of_ble_eq_true rfl⟩ (fun H locs hB => ?_)
      refine lv_aload_n hx hb dX3_load_79 rfl (lv_at hl 1 rfl) ?_
      refine g_get (C := RX3) (T := TX3) (N := 7) hx hb hts hinX3 hown hK hB 26 rfl rfl 3 rfl hq11 rfl rfl dX3_load_80 ?_
      refine g_get (C := RX2) (T := TX2) (N := 14) hx hb hts hinX2 hown hK hB 0 rfl rfl 0 rfl hq13 rfl rfl dX3_load_83 ?_
      refine g_get (C := RX0) (T := TX0) (N := 17) hx hb hts hinX0 hown hK hB 12 rfl rfl 5 rfl hq14 rfl rfl dX3_load_86 ?_
      have e0 := inj1 hf
      have hB := (hB.perm (cU_begun cyI cyB cyO ua ub up aw as' pa3 β υ3 ω3 sid3 τs n u τ1 σ4 _ hgL)).left
      exact g_xiretL (x := (τ1 5 0, pa3, υ3, va_up ω3 0 σ4, va_up sid3 0 n, va_up τs n τ1, n + 1)) (va_up as' n u) hx hb hr hlocks hK hB e0.symm (Nat.le_of_ble_eq_true rfl) (Nat.le_of_ble_eq_true rfl) dX3_load_89
    · have hf := ite_f c5 hf
      refine lv_aload_n hx hb dX3_load_59 rfl (lv_at hl 0 rfl) ?_
      refine g_get (C := RX1) (T := TX1) (N := 11) hx hb hts hinX1 hown hK hB 0 rfl rfl 1 rfl hq10 rfl rfl dX3_load_60 ?_
      have e0 := inj1 hf
      have hB := (hB.perm List.perm_append_comm).left
      exact g_xiretL (x := (ρ1 1 0, pa, υ2, ω, sid, τs, n)) as' hx hb hr hlocks hK hB e0.symm (Nat.le_of_ble_eq_true rfl) (Nat.le_of_ble_eq_true rfl) dX3_load_63
  refine lv_if_lt (tgt := 12) hx hb dX3_load_1 (by decide) (fun c4 => ?_) (fun c4 => ?_)
  · exact kT (inj1 (ite_t c4 hD3)).symm
  · have hD3 := ite_f c4 hD3
    refine lv_iload_n hx hb dX3_load_4 rfl (lv_at hl 1 rfl) ?_
    refine lv_aload_n hx hb dX3_load_5 rfl (lv_at hl 0 rfl) ?_
    refine g_get (C := RX3) (T := TX3) (N := 7) hx hb hts hinX3 hown hK hB 0 rfl rfl 1 rfl hq3 rfl rfl dX3_load_6 ?_
    refine lv_icmp_le (tgt := 22) hx hb dX3_load_9 (by decide) (fun c5 => ?_) (fun c5 => ?_)
    · exact kF (inj1 (ite_t c5 hD3)).symm
    · exact kT (inj1 (ite_f c5 hD3)).symm
