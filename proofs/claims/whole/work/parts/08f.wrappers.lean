/-! the wrappers -/
def wqL_load : List Cond := .codeWith yL_load cL_load 4 (some .int) [(0, 9, 12, 13)] :: ([Cond.classLink RL 13 "java/lang/IllegalArgumentException"] ++ wsV RL 7 RX3 yX3_load wsX3_load)
set_option maxRecDepth 20000 in
theorem gqL_load : GoodIn wqL_load (wsV RL 7 RX3 yX3_load wsX3_load) := goodIn_sub (fun w h => List.mem_cons_of_mem _ (List.mem_append_right _ h)) (by decide +kernel)
set_option maxRecDepth 20000 in
theorem tqL_load : ∀ w ∈ wqL_load, w ∈ lw_tbl := List.forall_mem_cons.mpr ⟨tb2 43 rfl, List.forall_mem_append.mpr ⟨List.forall_mem_cons.mpr ⟨tb2 44 rfl, fun _ h => absurd h List.not_mem_nil⟩, Tload_X3_load⟩⟩
abbrev rmL_load : Room := { frames := 10, cells := 14, slots := 312, locals := 299 }
set_option maxHeartbeats 4000000 in
set_option maxRecDepth 100000 in
theorem kL_load (l : Launch) (hl0 : l.stackTraces = false) (dC : Nat → ClassId) (dI : Nat → Nat → Nat) (cyI cyB cyO cyL : ClassId) (ua ub up oa : Nat) (aw as' : Nat → Nat → Nat) (kS : Nat → Nat) (lam : Nat → Int64) (sz : Nat) {fu : Nat} {τs : WS} {n : Nat} {pa : PA} {β : FS} {υ : MS} {ω : WS} {sid : PA} {i1 : Int32} {o : String ⊕ (Int32 × PA × MS × WS × PA × WS × Nat)} (hf : mX3_load fu τs n pa β υ ω sid i1 = some o) (hE : ∀ E, o = .inl E → E ∈ (["java/lang/IllegalArgumentException"] : List String)) : Met l yL_load wqL_load rmL_load (PcVJ (dC, dI) [(cyI, .int), (cyB, .byte), (cyO, .object "UndoJourneys$World"), (cyL, .long)] kS (cU cyI cyB cyO ua ub up aw as' pa β υ ω sid τs n ++ cO cyL oa lam) sz [.ref ua, .int i1, .ref oa]) (va_Qi (fun r (_ : Nat → Nat → Nat) => r = xR ["java/lang/IllegalArgumentException"] o) (fun x t => BX (dC, dI) [(cyI, .int), (cyB, .byte), (cyO, .object "UndoJourneys$World"), (cyL, .long)] (cU cyI cyB cyO ua ub up aw as' pa β υ ω sid τs n ++ cO cyL oa lam) ((fun u : Nat → Nat → Nat => xU (cU cyI cyB cyO ua ub up aw as' pa β υ ω sid τs n) (fun x => ((fun x (as2 : Nat → Nat → Nat) => cU cyI cyB cyO ua ub up aw as2 x.2.1 β x.2.2.1 x.2.2.2.1 x.2.2.2.2.1 x.2.2.2.2.2.1 x.2.2.2.2.2.2)) x u) o ++ cO cyL oa (xL lam (fun x => x.1) o)) x) sz t) (va_A (cU cyI cyB cyO ua ub up aw as' pa β υ ω sid τs n ++ cO cyL oa lam) sz)) 14 312 (va_A (cU cyI cyB cyO ua ub up aw as' pa β υ ω sid τs n ++ cO cyL oa lam) sz) := by
  refine va_MetW (cc := cL_load) (maxL := 4) (ret := (some .int)) (by decide) rfl ?_
  intro p e s m args below meth c s₁ B hml hv
  obtain ⟨rfl, ⟨hsz, hP, hK, hD0⟩, hEX, hNC, hJ, hNw⟩ := hv
  have hx := B.exec
  have hb := B.bytes
  have hr := B.returns
  have hts := atoms_spec (ws := wqL_load) B.pre
  have hown : s.vm.findClass RL = some m.cls := findClass_of_methodNamed B.named
  have hlocks := B.notSynchronized
  have ht0 := vx_table (x := yL_load) B (hts _ (List.mem_of_getElem? (i := 0) rfl))
  have hq13 : (Cond.classLink RL 13 "java/lang/IllegalArgumentException").before _ s = true := hts _ (List.mem_of_getElem? (i := 1) rfl)
  subst hsz
  have hA : ∀ q : Nat, s.heap.size ≤ q → va_A (cU cyI cyB cyO ua ub up aw as' pa β υ ω sid τs n ++ cO cyL oa lam) s.heap.size q := fun q h => Or.inr h
  have hB : Bd (dC, dI) [(cyI, .int), (cyB, .byte), (cyO, .object "UndoJourneys$World"), (cyL, .long)] (va_A (cU cyI cyB cyO ua ub up aw as' pa β υ ω sid τs n ++ cO cyL oa lam) s.heap.size) s (cU cyI cyB cyO ua ub up aw as' pa β υ ω sid τs n ++ cO cyL oa lam) s.heap [] := ⟨hP, hD0.self, va_S.rf⟩
  have hl := lv_entry [.ref ua, .int i1, .ref oa] (n := 4) (Nat.le_of_ble_eq_true rfl)
  rw [lg_entry_eq]
  generalize (lg_sl [.ref ua, .int i1, .ref oa] ++ List.replicate (4 - (lg_sl [.ref ua, .int i1, .ref oa]).length) Slot.unset).toArray = ls at hl ⊢
  have hl : lv_has ls 4 [(0, .ref ua), (1, .int i1), (2, .ref oa)] := hl
  clear hP hD0
  refine lv_aload_n hx hb dL_load_0 rfl (lv_at hl 2 rfl) ?_
  refine lv_iconst (v := (0 : Int32)) hx hb dL_load_1 (by decide) ?_
  refine lv_aload_n hx hb dL_load_2 rfl (lv_at hl 0 rfl) ?_
  refine lv_iload_n hx hb dL_load_3 rfl (lv_at hl 1 rfl) ?_
  refine g_xcut (As := [.int i1]) (rest := [.int 0, .ref oa]) (wc := cU cyI cyB cyO ua ub up aw as' pa β υ ω sid τs n) (wr := cO cyL oa lam) ⟨hx, hb, hml, hown, hts⟩ (kX3_load l hl0 dC dI cyI cyB cyO ua ub up aw as' kS s.heap.size hf) (cwV 1 hts gqL_load rfl rfl rfl (by decide +kernel) ⟨(Nat.le_of_ble_eq_true rfl), (Nat.le_of_ble_eq_true rfl)⟩) (lpre_left hEX hJ hNw hB hA (hK.sub [0, 1, 2] rfl) (.ref ua :: [.int i1])) hB hA (g_recv (ci := 3) hK hB 0 rfl rfl rfl) (List.Perm.refl _) rfl hl.1 rfl (Nat.le_of_ble_eq_true rfl) dL_load_4 ⟨(Nat.le_of_ble_eq_true rfl), (Nat.le_of_ble_eq_true rfl)⟩ (fun E ce q9 H locs ho hB hc9 hv9 hcl9 => ?_) (fun r x H locs hpo hB => ?_)
  · subst ho
    have hE9 := hE E rfl
    obtain rfl := List.mem_singleton.mp hE9
    refine g_catch hown hEX hNC [] ⟨0, 9, 12, 13⟩ [] ht0 [] (fun z hz => absurd hz List.not_mem_nil) (by decide) (by decide) (by decide) hq13 (by decide +kernel) hc9 hv9 hcl9 ?_
    refine lv_astore_n (lv' := [(3, .ref q9), (0, .ref ua), (1, .int i1), (2, .ref oa)]) hx hb dL_load_12 rfl hl (by decide) rfl (fun ls hl => ?_)
    refine lv_iconst (v := (1 : Int32)) hx hb dL_load_13 (by decide) ?_
    exact g_liretY (u := as') hx hb hr hlocks hK hB (by decide) (Nat.le_of_ble_eq_true rfl) (Nat.le_of_ble_eq_true rfl) dL_load_14
  · obtain ⟨ho, rfl⟩ := hpo
    obtain ⟨x, u⟩ := x
    dsimp only at ho hB ⊢
    subst ho
    refine lv_i2l hx hb dL_load_7 rfl ?_
    refine g_ost hx hb hK hB 3 rfl dL_load_8 (fun H locs hB => ?_)
    refine lv_goto (tgt := 15) hx hb dL_load_9 (by decide) ?_
    refine lv_iconst (v := (0 : Int32)) hx hb dL_load_15 (by decide) ?_
    exact g_liretY (u := u) hx hb hr hlocks hK hB rfl (Nat.le_of_ble_eq_true rfl) (Nat.le_of_ble_eq_true rfl) dL_load_16

def wqL_state : List Cond := .codeWith yL_state cL_state 4 (some .int) [(0, 9, 12, 13)] :: ([Cond.classLink RL 13 "java/lang/IllegalArgumentException"] ++ wsV RL 15 RX3 yX3_state wsX3_state)
set_option maxRecDepth 20000 in
theorem gqL_state : GoodIn wqL_state (wsV RL 15 RX3 yX3_state wsX3_state) := goodIn_sub (fun w h => List.mem_cons_of_mem _ (List.mem_append_right _ h)) (by decide +kernel)
set_option maxRecDepth 20000 in
theorem tqL_state : ∀ w ∈ wqL_state, w ∈ lw_tbl := List.forall_mem_cons.mpr ⟨tb3 71 rfl, List.forall_mem_append.mpr ⟨List.forall_mem_cons.mpr ⟨tb2 44 rfl, fun _ h => absurd h List.not_mem_nil⟩, Tstate_X3_state⟩⟩
abbrev rmL_state : Room := { frames := 8, cells := 1, slots := 6, locals := 160 }
set_option maxHeartbeats 4000000 in
set_option maxRecDepth 100000 in
theorem kL_state (l : Launch) (hl0 : l.stackTraces = false) (dC : Nat → ClassId) (dI : Nat → Nat → Nat) (cyI cyB cyO cyL : ClassId) (ua ub up oa : Nat) (aw as' : Nat → Nat → Nat) (lam : Nat → Int64) (sz : Nat) {fu : Nat} {τs : WS} {n : Nat} {pa : PA} {β : FS} {υ : MS} {ω : WS} {sid : PA} {i1 : Int32} {o : (String ⊕ Int32)} (hf : mX3_state fu τs n pa β υ ω sid i1 = some o) (hE : ∀ E, o = .inl E → E ∈ (["java/lang/IllegalArgumentException"] : List String)) : Met l yL_state wqL_state rmL_state (PcV (dC, dI) [(cyI, .int), (cyB, .byte), (cyO, .object "UndoJourneys$World"), (cyL, .long)] (cU cyI cyB cyO ua ub up aw as' pa β υ ω sid τs n ++ cO cyL oa lam) sz [.ref ua, .int i1, .ref oa]) (QiF (dC, dI) [(cyI, .int), (cyB, .byte), (cyO, .object "UndoJourneys$World"), (cyL, .long)] (cU cyI cyB cyO ua ub up aw as' pa β υ ω sid τs n ++ cO cyL oa lam) (xU (cU cyI cyB cyO ua ub up aw as' pa β υ ω sid τs n) (fun x => (cU cyI cyB cyO ua ub up aw as' pa β υ ω sid τs n)) o ++ cO cyL oa (xL lam (fun x => x) o)) sz (xR ["java/lang/IllegalArgumentException"] o)) 1 6 (va_A (cU cyI cyB cyO ua ub up aw as' pa β υ ω sid τs n ++ cO cyL oa lam) sz) := by
  refine va_MetW (cc := cL_state) (maxL := 4) (ret := (some .int)) (by decide) rfl ?_
  intro p e s m args below meth c s₁ B hml hv
  obtain ⟨rfl, ⟨hsz, hP, hK, hD0⟩, hEX, hNC⟩ := hv
  have hx := B.exec
  have hb := B.bytes
  have hr := B.returns
  have hts := atoms_spec (ws := wqL_state) B.pre
  have hown : s.vm.findClass RL = some m.cls := findClass_of_methodNamed B.named
  have hlocks := B.notSynchronized
  have ht0 := vx_table (x := yL_state) B (hts _ (List.mem_of_getElem? (i := 0) rfl))
  have hq13 : (Cond.classLink RL 13 "java/lang/IllegalArgumentException").before _ s = true := hts _ (List.mem_of_getElem? (i := 1) rfl)
  subst hsz
  have hA : ∀ q : Nat, s.heap.size ≤ q → va_A (cU cyI cyB cyO ua ub up aw as' pa β υ ω sid τs n ++ cO cyL oa lam) s.heap.size q := fun q h => Or.inr h
  have hB : Bd (dC, dI) [(cyI, .int), (cyB, .byte), (cyO, .object "UndoJourneys$World"), (cyL, .long)] (va_A (cU cyI cyB cyO ua ub up aw as' pa β υ ω sid τs n ++ cO cyL oa lam) s.heap.size) s (cU cyI cyB cyO ua ub up aw as' pa β υ ω sid τs n ++ cO cyL oa lam) s.heap [] := ⟨hP, hD0.self, va_S.rf⟩
  have hl := lv_entry [.ref ua, .int i1, .ref oa] (n := 4) (Nat.le_of_ble_eq_true rfl)
  rw [lg_entry_eq]
  generalize (lg_sl [.ref ua, .int i1, .ref oa] ++ List.replicate (4 - (lg_sl [.ref ua, .int i1, .ref oa]).length) Slot.unset).toArray = ls at hl ⊢
  have hl : lv_has ls 4 [(0, .ref ua), (1, .int i1), (2, .ref oa)] := hl
  clear hP hD0
  refine lv_aload_n hx hb dL_state_0 rfl (lv_at hl 2 rfl) ?_
  refine lv_iconst (v := (0 : Int32)) hx hb dL_state_1 (by decide) ?_
  refine lv_aload_n hx hb dL_state_2 rfl (lv_at hl 0 rfl) ?_
  refine lv_iload_n hx hb dL_state_3 rfl (lv_at hl 1 rfl) ?_
  refine g_xcut (As := [.int i1]) (rest := [.int 0, .ref oa]) (wc := cU cyI cyB cyO ua ub up aw as' pa β υ ω sid τs n) (wr := cO cyL oa lam) ⟨hx, hb, hml, hown, hts⟩ (kX3_state l hl0 dC dI cyI cyB cyO ua ub up aw as' s.heap.size hf) (cwV 1 hts gqL_state rfl rfl rfl (by decide +kernel) ⟨(Nat.le_of_ble_eq_true rfl), (Nat.le_of_ble_eq_true rfl)⟩) (xpre_left hEX hB hA (hK.sub [0, 1, 2] rfl) (.ref ua :: [.int i1])) hB hA (g_recv (ci := 3) hK hB 0 rfl rfl rfl) (List.Perm.refl _) rfl hl.1 rfl (Nat.le_of_ble_eq_true rfl) dL_state_4 ⟨(Nat.le_of_ble_eq_true rfl), (Nat.le_of_ble_eq_true rfl)⟩ (fun E ce q9 H locs ho hB hc9 hv9 hcl9 => ?_) (fun r x H locs hpo hB => ?_)
  · subst ho
    have hE9 := hE E rfl
    obtain rfl := List.mem_singleton.mp hE9
    refine g_catch hown hEX hNC [] ⟨0, 9, 12, 13⟩ [] ht0 [] (fun z hz => absurd hz List.not_mem_nil) (by decide) (by decide) (by decide) hq13 (by decide +kernel) hc9 hv9 hcl9 ?_
    refine lv_astore_n (lv' := [(3, .ref q9), (0, .ref ua), (1, .int i1), (2, .ref oa)]) hx hb dL_state_12 rfl hl (by decide) rfl (fun ls hl => ?_)
    refine lv_iconst (v := (1 : Int32)) hx hb dL_state_13 (by decide) ?_
    exact g_liret hx hb hr hlocks hK hB (by decide) (Nat.le_of_ble_eq_true rfl) (Nat.le_of_ble_eq_true rfl) dL_state_14
  · obtain ⟨ho, rfl⟩ := hpo
    subst ho
    refine lv_i2l hx hb dL_state_7 rfl ?_
    refine g_ost hx hb hK hB 3 rfl dL_state_8 (fun H locs hB => ?_)
    refine lv_goto (tgt := 15) hx hb dL_state_9 (by decide) ?_
    refine lv_iconst (v := (0 : Int32)) hx hb dL_state_15 (by decide) ?_
    exact g_liret hx hb hr hlocks hK hB rfl (Nat.le_of_ble_eq_true rfl) (Nat.le_of_ble_eq_true rfl) dL_state_16

def wqL_stock : List Cond := .codeWith yL_stock cL_stock 5 (some .int) [(0, 10, 13, 22), (0, 10, 17, 13)] :: ([Cond.classLink RL 22 "java/lang/IndexOutOfBoundsException", Cond.classLink RL 13 "java/lang/IllegalArgumentException"] ++ wsV RL 18 RX3 yX3_stock wsX3_stock)
set_option maxRecDepth 20000 in
theorem gqL_stock : GoodIn wqL_stock (wsV RL 18 RX3 yX3_stock wsX3_stock) := goodIn_sub (fun w h => List.mem_cons_of_mem _ (List.mem_append_right _ h)) (by decide +kernel)
set_option maxRecDepth 20000 in
theorem tqL_stock : ∀ w ∈ wqL_stock, w ∈ lw_tbl := List.forall_mem_cons.mpr ⟨tb3 82 rfl, List.forall_mem_append.mpr ⟨List.forall_mem_cons.mpr ⟨tb3 83 rfl, List.forall_mem_cons.mpr ⟨tb2 44 rfl, fun _ h => absurd h List.not_mem_nil⟩⟩, Tstock_X3_stock⟩⟩
abbrev rmL_stock : Room := { frames := 8, cells := 2, slots := 12, locals := 160 }
set_option maxHeartbeats 4000000 in
set_option maxRecDepth 100000 in
theorem kL_stock (l : Launch) (hl0 : l.stackTraces = false) (dC : Nat → ClassId) (dI : Nat → Nat → Nat) (cyI cyB cyO cyL : ClassId) (ua ub up oa : Nat) (aw as' : Nat → Nat → Nat) (lam : Nat → Int64) (sz : Nat) {fu : Nat} {τs : WS} {n : Nat} {pa : PA} {β : FS} {υ : MS} {ω : WS} {sid : PA} {i1 : Int32} {i2 : Int32} {o : (String ⊕ Int32)} (hf : mX3_stock fu τs n pa β υ ω sid i1 i2 = some o) (hE : ∀ E, o = .inl E → E ∈ (["java/lang/IndexOutOfBoundsException", "java/lang/IllegalArgumentException"] : List String)) : Met l yL_stock wqL_stock rmL_stock (PcV (dC, dI) [(cyI, .int), (cyB, .byte), (cyO, .object "UndoJourneys$World"), (cyL, .long)] (cU cyI cyB cyO ua ub up aw as' pa β υ ω sid τs n ++ cO cyL oa lam) sz [.ref ua, .int i1, .int i2, .ref oa]) (QiF (dC, dI) [(cyI, .int), (cyB, .byte), (cyO, .object "UndoJourneys$World"), (cyL, .long)] (cU cyI cyB cyO ua ub up aw as' pa β υ ω sid τs n ++ cO cyL oa lam) (xU (cU cyI cyB cyO ua ub up aw as' pa β υ ω sid τs n) (fun x => (cU cyI cyB cyO ua ub up aw as' pa β υ ω sid τs n)) o ++ cO cyL oa (xL lam (fun x => x) o)) sz (xR ["java/lang/IndexOutOfBoundsException", "java/lang/IllegalArgumentException"] o)) 2 12 (va_A (cU cyI cyB cyO ua ub up aw as' pa β υ ω sid τs n ++ cO cyL oa lam) sz) := by
  refine va_MetW (cc := cL_stock) (maxL := 5) (ret := (some .int)) (by decide) rfl ?_
  intro p e s m args below meth c s₁ B hml hv
  obtain ⟨rfl, ⟨hsz, hP, hK, hD0⟩, hEX, hNC⟩ := hv
  have hx := B.exec
  have hb := B.bytes
  have hr := B.returns
  have hts := atoms_spec (ws := wqL_stock) B.pre
  have hown : s.vm.findClass RL = some m.cls := findClass_of_methodNamed B.named
  have hlocks := B.notSynchronized
  have ht0 := vx_table (x := yL_stock) B (hts _ (List.mem_of_getElem? (i := 0) rfl))
  have hq22 : (Cond.classLink RL 22 "java/lang/IndexOutOfBoundsException").before _ s = true := hts _ (List.mem_of_getElem? (i := 1) rfl)
  have hq13 : (Cond.classLink RL 13 "java/lang/IllegalArgumentException").before _ s = true := hts _ (List.mem_of_getElem? (i := 2) rfl)
  subst hsz
  have hA : ∀ q : Nat, s.heap.size ≤ q → va_A (cU cyI cyB cyO ua ub up aw as' pa β υ ω sid τs n ++ cO cyL oa lam) s.heap.size q := fun q h => Or.inr h
  have hB : Bd (dC, dI) [(cyI, .int), (cyB, .byte), (cyO, .object "UndoJourneys$World"), (cyL, .long)] (va_A (cU cyI cyB cyO ua ub up aw as' pa β υ ω sid τs n ++ cO cyL oa lam) s.heap.size) s (cU cyI cyB cyO ua ub up aw as' pa β υ ω sid τs n ++ cO cyL oa lam) s.heap [] := ⟨hP, hD0.self, va_S.rf⟩
  have hl := lv_entry [.ref ua, .int i1, .int i2, .ref oa] (n := 5) (Nat.le_of_ble_eq_true rfl)
  rw [lg_entry_eq]
  generalize (lg_sl [.ref ua, .int i1, .int i2, .ref oa] ++ List.replicate (5 - (lg_sl [.ref ua, .int i1, .int i2, .ref oa]).length) Slot.unset).toArray = ls at hl ⊢
  have hl : lv_has ls 5 [(0, .ref ua), (1, .int i1), (2, .int i2), (3, .ref oa)] := hl
  clear hP hD0
  refine lv_aload_n hx hb dL_stock_0 rfl (lv_at hl 3 rfl) ?_
  refine lv_iconst (v := (0 : Int32)) hx hb dL_stock_1 (by decide) ?_
  refine lv_aload_n hx hb dL_stock_2 rfl (lv_at hl 0 rfl) ?_
  refine lv_iload_n hx hb dL_stock_3 rfl (lv_at hl 1 rfl) ?_
  refine lv_iload_n hx hb dL_stock_4 rfl (lv_at hl 2 rfl) ?_
  refine g_xcut (As := [.int i1, .int i2]) (rest := [.int 0, .ref oa]) (wc := cU cyI cyB cyO ua ub up aw as' pa β υ ω sid τs n) (wr := cO cyL oa lam) ⟨hx, hb, hml, hown, hts⟩ (kX3_stock l hl0 dC dI cyI cyB cyO ua ub up aw as' s.heap.size hf) (cwV 2 hts gqL_stock rfl rfl rfl (by decide +kernel) ⟨(Nat.le_of_ble_eq_true rfl), (Nat.le_of_ble_eq_true rfl)⟩) (xpre_left hEX hB hA (hK.sub [0, 1, 2] rfl) (.ref ua :: [.int i1, .int i2])) hB hA (g_recv (ci := 3) hK hB 0 rfl rfl rfl) (List.Perm.refl _) rfl hl.1 rfl (Nat.le_of_ble_eq_true rfl) dL_stock_5 ⟨(Nat.le_of_ble_eq_true rfl), (Nat.le_of_ble_eq_true rfl)⟩ (fun E ce q9 H locs ho hB hc9 hv9 hcl9 => ?_) (fun r x H locs hpo hB => ?_)
  · subst ho
    have hE9 := hE E rfl
    simp only [List.mem_cons, List.not_mem_nil, or_false] at hE9
    rcases hE9 with rfl | rfl
    · refine g_catch hown hEX hNC [] ⟨0, 10, 13, 22⟩ [⟨0, 10, 17, 13⟩] ht0 [] (fun z hz => absurd hz List.not_mem_nil) (by decide) (by decide) (by decide) hq22 (by decide +kernel) hc9 hv9 hcl9 ?_
      refine lv_astore (lv' := [(4, .ref q9), (0, .ref ua), (1, .int i1), (2, .int i2), (3, .ref oa)]) hx hb dL_stock_13 hl (by decide) rfl (fun ls hl => ?_)
      refine lv_iconst (v := (1 : Int32)) hx hb dL_stock_15 (by decide) ?_
      exact g_liret hx hb hr hlocks hK hB (by decide) (Nat.le_of_ble_eq_true rfl) (Nat.le_of_ble_eq_true rfl) dL_stock_16
    · refine g_catch hown hEX hNC [⟨0, 10, 13, 22⟩] ⟨0, 10, 17, 13⟩ [] ht0 ["java/lang/IndexOutOfBoundsException"] (fun z hz => by obtain rfl := List.mem_singleton.mp hz; exact ⟨by decide, _, List.mem_cons_self, hq22⟩) (by decide) (by decide) (by decide) hq13 (by decide +kernel) hc9 hv9 hcl9 ?_
      refine lv_astore (lv' := [(4, .ref q9), (0, .ref ua), (1, .int i1), (2, .int i2), (3, .ref oa)]) hx hb dL_stock_17 hl (by decide) rfl (fun ls hl => ?_)
      refine lv_iconst (v := (2 : Int32)) hx hb dL_stock_19 (by decide) ?_
      exact g_liret hx hb hr hlocks hK hB (by decide) (Nat.le_of_ble_eq_true rfl) (Nat.le_of_ble_eq_true rfl) dL_stock_20
  · obtain ⟨ho, rfl⟩ := hpo
    subst ho
    refine lv_i2l hx hb dL_stock_8 rfl ?_
    refine g_ost hx hb hK hB 3 rfl dL_stock_9 (fun H locs hB => ?_)
    refine lv_goto (tgt := 21) hx hb dL_stock_10 (by decide) ?_
    refine lv_iconst (v := (0 : Int32)) hx hb dL_stock_21 (by decide) ?_
    exact g_liret hx hb hr hlocks hK hB rfl (Nat.le_of_ble_eq_true rfl) (Nat.le_of_ble_eq_true rfl) dL_stock_22

def wqL_journey : List Cond := .codeWith yL_journey cL_journey 5 (some .int) [(0, 10, 13, 22), (0, 10, 17, 13)] :: ([Cond.classLink RL 22 "java/lang/IndexOutOfBoundsException", Cond.classLink RL 13 "java/lang/IllegalArgumentException"] ++ wsV RL 24 RX3 yX3_journey wsX3_journey)
set_option maxRecDepth 20000 in
theorem gqL_journey : GoodIn wqL_journey (wsV RL 24 RX3 yX3_journey wsX3_journey) := goodIn_sub (fun w h => List.mem_cons_of_mem _ (List.mem_append_right _ h)) (by decide +kernel)
set_option maxRecDepth 20000 in
theorem tqL_journey : ∀ w ∈ wqL_journey, w ∈ lw_tbl := List.forall_mem_cons.mpr ⟨tb3 110 rfl, List.forall_mem_append.mpr ⟨List.forall_mem_cons.mpr ⟨tb3 83 rfl, List.forall_mem_cons.mpr ⟨tb2 44 rfl, fun _ h => absurd h List.not_mem_nil⟩⟩, Tjourney_X3_journey⟩⟩
abbrev rmL_journey : Room := { frames := 8, cells := 2, slots := 12, locals := 160 }
set_option maxHeartbeats 4000000 in
set_option maxRecDepth 100000 in
theorem kL_journey (l : Launch) (hl0 : l.stackTraces = false) (dC : Nat → ClassId) (dI : Nat → Nat → Nat) (cyI cyB cyO cyL : ClassId) (ua ub up oa : Nat) (aw as' : Nat → Nat → Nat) (lam : Nat → Int64) (sz : Nat) {fu : Nat} {τs : WS} {n : Nat} {pa : PA} {β : FS} {υ : MS} {ω : WS} {sid : PA} {i1 : Int32} {i2 : Int32} {o : (String ⊕ Int32)} (hf : mX3_journey fu τs n pa β υ ω sid i1 i2 = some o) (hE : ∀ E, o = .inl E → E ∈ (["java/lang/IndexOutOfBoundsException", "java/lang/IllegalArgumentException"] : List String)) : Met l yL_journey wqL_journey rmL_journey (PcV (dC, dI) [(cyI, .int), (cyB, .byte), (cyO, .object "UndoJourneys$World"), (cyL, .long)] (cU cyI cyB cyO ua ub up aw as' pa β υ ω sid τs n ++ cO cyL oa lam) sz [.ref ua, .int i1, .int i2, .ref oa]) (QiF (dC, dI) [(cyI, .int), (cyB, .byte), (cyO, .object "UndoJourneys$World"), (cyL, .long)] (cU cyI cyB cyO ua ub up aw as' pa β υ ω sid τs n ++ cO cyL oa lam) (xU (cU cyI cyB cyO ua ub up aw as' pa β υ ω sid τs n) (fun x => (cU cyI cyB cyO ua ub up aw as' pa β υ ω sid τs n)) o ++ cO cyL oa (xL lam (fun x => x) o)) sz (xR ["java/lang/IndexOutOfBoundsException", "java/lang/IllegalArgumentException"] o)) 2 12 (va_A (cU cyI cyB cyO ua ub up aw as' pa β υ ω sid τs n ++ cO cyL oa lam) sz) := by
  refine va_MetW (cc := cL_journey) (maxL := 5) (ret := (some .int)) (by decide) rfl ?_
  intro p e s m args below meth c s₁ B hml hv
  obtain ⟨rfl, ⟨hsz, hP, hK, hD0⟩, hEX, hNC⟩ := hv
  have hx := B.exec
  have hb := B.bytes
  have hr := B.returns
  have hts := atoms_spec (ws := wqL_journey) B.pre
  have hown : s.vm.findClass RL = some m.cls := findClass_of_methodNamed B.named
  have hlocks := B.notSynchronized
  have ht0 := vx_table (x := yL_journey) B (hts _ (List.mem_of_getElem? (i := 0) rfl))
  have hq22 : (Cond.classLink RL 22 "java/lang/IndexOutOfBoundsException").before _ s = true := hts _ (List.mem_of_getElem? (i := 1) rfl)
  have hq13 : (Cond.classLink RL 13 "java/lang/IllegalArgumentException").before _ s = true := hts _ (List.mem_of_getElem? (i := 2) rfl)
  subst hsz
  have hA : ∀ q : Nat, s.heap.size ≤ q → va_A (cU cyI cyB cyO ua ub up aw as' pa β υ ω sid τs n ++ cO cyL oa lam) s.heap.size q := fun q h => Or.inr h
  have hB : Bd (dC, dI) [(cyI, .int), (cyB, .byte), (cyO, .object "UndoJourneys$World"), (cyL, .long)] (va_A (cU cyI cyB cyO ua ub up aw as' pa β υ ω sid τs n ++ cO cyL oa lam) s.heap.size) s (cU cyI cyB cyO ua ub up aw as' pa β υ ω sid τs n ++ cO cyL oa lam) s.heap [] := ⟨hP, hD0.self, va_S.rf⟩
  have hl := lv_entry [.ref ua, .int i1, .int i2, .ref oa] (n := 5) (Nat.le_of_ble_eq_true rfl)
  rw [lg_entry_eq]
  generalize (lg_sl [.ref ua, .int i1, .int i2, .ref oa] ++ List.replicate (5 - (lg_sl [.ref ua, .int i1, .int i2, .ref oa]).length) Slot.unset).toArray = ls at hl ⊢
  have hl : lv_has ls 5 [(0, .ref ua), (1, .int i1), (2, .int i2), (3, .ref oa)] := hl
  clear hP hD0
  refine lv_aload_n hx hb dL_journey_0 rfl (lv_at hl 3 rfl) ?_
  refine lv_iconst (v := (0 : Int32)) hx hb dL_journey_1 (by decide) ?_
  refine lv_aload_n hx hb dL_journey_2 rfl (lv_at hl 0 rfl) ?_
  refine lv_iload_n hx hb dL_journey_3 rfl (lv_at hl 1 rfl) ?_
  refine lv_iload_n hx hb dL_journey_4 rfl (lv_at hl 2 rfl) ?_
  refine g_xcut (As := [.int i1, .int i2]) (rest := [.int 0, .ref oa]) (wc := cU cyI cyB cyO ua ub up aw as' pa β υ ω sid τs n) (wr := cO cyL oa lam) ⟨hx, hb, hml, hown, hts⟩ (kX3_journey l hl0 dC dI cyI cyB cyO ua ub up aw as' s.heap.size hf) (cwV 2 hts gqL_journey rfl rfl rfl (by decide +kernel) ⟨(Nat.le_of_ble_eq_true rfl), (Nat.le_of_ble_eq_true rfl)⟩) (xpre_left hEX hB hA (hK.sub [0, 1, 2] rfl) (.ref ua :: [.int i1, .int i2])) hB hA (g_recv (ci := 3) hK hB 0 rfl rfl rfl) (List.Perm.refl _) rfl hl.1 rfl (Nat.le_of_ble_eq_true rfl) dL_journey_5 ⟨(Nat.le_of_ble_eq_true rfl), (Nat.le_of_ble_eq_true rfl)⟩ (fun E ce q9 H locs ho hB hc9 hv9 hcl9 => ?_) (fun r x H locs hpo hB => ?_)
  · subst ho
    have hE9 := hE E rfl
    simp only [List.mem_cons, List.not_mem_nil, or_false] at hE9
    rcases hE9 with rfl | rfl
    · refine g_catch hown hEX hNC [] ⟨0, 10, 13, 22⟩ [⟨0, 10, 17, 13⟩] ht0 [] (fun z hz => absurd hz List.not_mem_nil) (by decide) (by decide) (by decide) hq22 (by decide +kernel) hc9 hv9 hcl9 ?_
      refine lv_astore (lv' := [(4, .ref q9), (0, .ref ua), (1, .int i1), (2, .int i2), (3, .ref oa)]) hx hb dL_journey_13 hl (by decide) rfl (fun ls hl => ?_)
      refine lv_iconst (v := (1 : Int32)) hx hb dL_journey_15 (by decide) ?_
      exact g_liret hx hb hr hlocks hK hB (by decide) (Nat.le_of_ble_eq_true rfl) (Nat.le_of_ble_eq_true rfl) dL_journey_16
    · refine g_catch hown hEX hNC [⟨0, 10, 13, 22⟩] ⟨0, 10, 17, 13⟩ [] ht0 ["java/lang/IndexOutOfBoundsException"] (fun z hz => by obtain rfl := List.mem_singleton.mp hz; exact ⟨by decide, _, List.mem_cons_self, hq22⟩) (by decide) (by decide) (by decide) hq13 (by decide +kernel) hc9 hv9 hcl9 ?_
      refine lv_astore (lv' := [(4, .ref q9), (0, .ref ua), (1, .int i1), (2, .int i2), (3, .ref oa)]) hx hb dL_journey_17 hl (by decide) rfl (fun ls hl => ?_)
      refine lv_iconst (v := (2 : Int32)) hx hb dL_journey_19 (by decide) ?_
      exact g_liret hx hb hr hlocks hK hB (by decide) (Nat.le_of_ble_eq_true rfl) (Nat.le_of_ble_eq_true rfl) dL_journey_20
  · obtain ⟨ho, rfl⟩ := hpo
    subst ho
    refine lv_i2l hx hb dL_journey_8 rfl ?_
    refine g_ost hx hb hK hB 3 rfl dL_journey_9 (fun H locs hB => ?_)
    refine lv_goto (tgt := 21) hx hb dL_journey_10 (by decide) ?_
    refine lv_iconst (v := (0 : Int32)) hx hb dL_journey_21 (by decide) ?_
    exact g_liret hx hb hr hlocks hK hB rfl (Nat.le_of_ble_eq_true rfl) (Nat.le_of_ble_eq_true rfl) dL_journey_22

def wqL_step : List Cond := .codeWith yL_step cL_step 6 (some .int) [(0, 12, 15, 22), (0, 12, 19, 31), (0, 12, 23, 13)] :: ([Cond.classLink RL 22 "java/lang/IndexOutOfBoundsException", Cond.classLink RL 31 "java/util/NoSuchElementException", Cond.classLink RL 13 "java/lang/IllegalArgumentException"] ++ wsV RL 27 RX3 yX3_step wsX3_step)
set_option maxRecDepth 20000 in
theorem gqL_step : GoodIn wqL_step (wsV RL 27 RX3 yX3_step wsX3_step) := goodIn_sub (fun w h => List.mem_cons_of_mem _ (List.mem_append_right _ h)) (by decide +kernel)
set_option maxRecDepth 20000 in
theorem tqL_step : ∀ w ∈ wqL_step, w ∈ lw_tbl := List.forall_mem_cons.mpr ⟨tb3 122 rfl, List.forall_mem_append.mpr ⟨List.forall_mem_cons.mpr ⟨tb3 83 rfl, List.forall_mem_cons.mpr ⟨tb3 123 rfl, List.forall_mem_cons.mpr ⟨tb2 44 rfl, fun _ h => absurd h List.not_mem_nil⟩⟩⟩, Tstep_X3_step⟩⟩
abbrev rmL_step : Room := { frames := 8, cells := 3, slots := 18, locals := 160 }
set_option maxHeartbeats 4000000 in
set_option maxRecDepth 100000 in
theorem kL_step (l : Launch) (hl0 : l.stackTraces = false) (dC : Nat → ClassId) (dI : Nat → Nat → Nat) (cyI cyB cyO cyL : ClassId) (ua ub up oa : Nat) (aw as' : Nat → Nat → Nat) (lam : Nat → Int64) (sz : Nat) {fu : Nat} {τs : WS} {n : Nat} {pa : PA} {β : FS} {υ : MS} {ω : WS} {sid : PA} {i1 : Int32} {i2 : Int32} {i3 : Int32} {o : (String ⊕ Int32)} (hf : mX3_step fu τs n pa β υ ω sid i1 i2 i3 = some o) (hE : ∀ E, o = .inl E → E ∈ (["java/lang/IndexOutOfBoundsException", "java/util/NoSuchElementException", "java/lang/IllegalArgumentException"] : List String)) : Met l yL_step wqL_step rmL_step (PcV (dC, dI) [(cyI, .int), (cyB, .byte), (cyO, .object "UndoJourneys$World"), (cyL, .long)] (cU cyI cyB cyO ua ub up aw as' pa β υ ω sid τs n ++ cO cyL oa lam) sz [.ref ua, .int i1, .int i2, .int i3, .ref oa]) (QiF (dC, dI) [(cyI, .int), (cyB, .byte), (cyO, .object "UndoJourneys$World"), (cyL, .long)] (cU cyI cyB cyO ua ub up aw as' pa β υ ω sid τs n ++ cO cyL oa lam) (xU (cU cyI cyB cyO ua ub up aw as' pa β υ ω sid τs n) (fun x => (cU cyI cyB cyO ua ub up aw as' pa β υ ω sid τs n)) o ++ cO cyL oa (xL lam (fun x => x) o)) sz (xR ["java/lang/IndexOutOfBoundsException", "java/util/NoSuchElementException", "java/lang/IllegalArgumentException"] o)) 3 18 (va_A (cU cyI cyB cyO ua ub up aw as' pa β υ ω sid τs n ++ cO cyL oa lam) sz) := by
  refine va_MetW (cc := cL_step) (maxL := 6) (ret := (some .int)) (by decide) rfl ?_
  intro p e s m args below meth c s₁ B hml hv
  obtain ⟨rfl, ⟨hsz, hP, hK, hD0⟩, hEX, hNC⟩ := hv
  have hx := B.exec
  have hb := B.bytes
  have hr := B.returns
  have hts := atoms_spec (ws := wqL_step) B.pre
  have hown : s.vm.findClass RL = some m.cls := findClass_of_methodNamed B.named
  have hlocks := B.notSynchronized
  have ht0 := vx_table (x := yL_step) B (hts _ (List.mem_of_getElem? (i := 0) rfl))
  have hq22 : (Cond.classLink RL 22 "java/lang/IndexOutOfBoundsException").before _ s = true := hts _ (List.mem_of_getElem? (i := 1) rfl)
  have hq31 : (Cond.classLink RL 31 "java/util/NoSuchElementException").before _ s = true := hts _ (List.mem_of_getElem? (i := 2) rfl)
  have hq13 : (Cond.classLink RL 13 "java/lang/IllegalArgumentException").before _ s = true := hts _ (List.mem_of_getElem? (i := 3) rfl)
  subst hsz
  have hA : ∀ q : Nat, s.heap.size ≤ q → va_A (cU cyI cyB cyO ua ub up aw as' pa β υ ω sid τs n ++ cO cyL oa lam) s.heap.size q := fun q h => Or.inr h
  have hB : Bd (dC, dI) [(cyI, .int), (cyB, .byte), (cyO, .object "UndoJourneys$World"), (cyL, .long)] (va_A (cU cyI cyB cyO ua ub up aw as' pa β υ ω sid τs n ++ cO cyL oa lam) s.heap.size) s (cU cyI cyB cyO ua ub up aw as' pa β υ ω sid τs n ++ cO cyL oa lam) s.heap [] := ⟨hP, hD0.self, va_S.rf⟩
  have hl := lv_entry [.ref ua, .int i1, .int i2, .int i3, .ref oa] (n := 6) (Nat.le_of_ble_eq_true rfl)
  rw [lg_entry_eq]
  generalize (lg_sl [.ref ua, .int i1, .int i2, .int i3, .ref oa] ++ List.replicate (6 - (lg_sl [.ref ua, .int i1, .int i2, .int i3, .ref oa]).length) Slot.unset).toArray = ls at hl ⊢
  have hl : lv_has ls 6 [(0, .ref ua), (1, .int i1), (2, .int i2), (3, .int i3), (4, .ref oa)] := hl
  clear hP hD0
  refine lv_aload hx hb dL_step_0 (lv_at hl 4 rfl) ?_
  refine lv_iconst (v := (0 : Int32)) hx hb dL_step_2 (by decide) ?_
  refine lv_aload_n hx hb dL_step_3 rfl (lv_at hl 0 rfl) ?_
  refine lv_iload_n hx hb dL_step_4 rfl (lv_at hl 1 rfl) ?_
  refine lv_iload_n hx hb dL_step_5 rfl (lv_at hl 2 rfl) ?_
  refine lv_iload_n hx hb dL_step_6 rfl (lv_at hl 3 rfl) ?_
  refine g_xcut (As := [.int i1, .int i2, .int i3]) (rest := [.int 0, .ref oa]) (wc := cU cyI cyB cyO ua ub up aw as' pa β υ ω sid τs n) (wr := cO cyL oa lam) ⟨hx, hb, hml, hown, hts⟩ (kX3_step l hl0 dC dI cyI cyB cyO ua ub up aw as' s.heap.size hf) (cwV 3 hts gqL_step rfl rfl rfl (by decide +kernel) ⟨(Nat.le_of_ble_eq_true rfl), (Nat.le_of_ble_eq_true rfl)⟩) (xpre_left hEX hB hA (hK.sub [0, 1, 2] rfl) (.ref ua :: [.int i1, .int i2, .int i3])) hB hA (g_recv (ci := 3) hK hB 0 rfl rfl rfl) (List.Perm.refl _) rfl hl.1 rfl (Nat.le_of_ble_eq_true rfl) dL_step_7 ⟨(Nat.le_of_ble_eq_true rfl), (Nat.le_of_ble_eq_true rfl)⟩ (fun E ce q9 H locs ho hB hc9 hv9 hcl9 => ?_) (fun r x H locs hpo hB => ?_)
  · subst ho
    have hE9 := hE E rfl
    simp only [List.mem_cons, List.not_mem_nil, or_false] at hE9
    rcases hE9 with rfl | rfl | rfl
    · refine g_catch hown hEX hNC [] ⟨0, 12, 15, 22⟩ [⟨0, 12, 19, 31⟩, ⟨0, 12, 23, 13⟩] ht0 [] (fun z hz => absurd hz List.not_mem_nil) (by decide) (by decide) (by decide) hq22 (by decide +kernel) hc9 hv9 hcl9 ?_
      refine lv_astore (lv' := [(5, .ref q9), (0, .ref ua), (1, .int i1), (2, .int i2), (3, .int i3), (4, .ref oa)]) hx hb dL_step_15 hl (by decide) rfl (fun ls hl => ?_)
      refine lv_iconst (v := (1 : Int32)) hx hb dL_step_17 (by decide) ?_
      exact g_liret hx hb hr hlocks hK hB (by decide) (Nat.le_of_ble_eq_true rfl) (Nat.le_of_ble_eq_true rfl) dL_step_18
    · refine g_catch hown hEX hNC [⟨0, 12, 15, 22⟩] ⟨0, 12, 19, 31⟩ [⟨0, 12, 23, 13⟩] ht0 ["java/lang/IndexOutOfBoundsException"] (fun z hz => by obtain rfl := List.mem_singleton.mp hz; exact ⟨by decide, _, List.mem_cons_self, hq22⟩) (by decide) (by decide) (by decide) hq31 (by decide +kernel) hc9 hv9 hcl9 ?_
      refine lv_astore (lv' := [(5, .ref q9), (0, .ref ua), (1, .int i1), (2, .int i2), (3, .int i3), (4, .ref oa)]) hx hb dL_step_19 hl (by decide) rfl (fun ls hl => ?_)
      refine lv_iconst (v := (2 : Int32)) hx hb dL_step_21 (by decide) ?_
      exact g_liret hx hb hr hlocks hK hB (by decide) (Nat.le_of_ble_eq_true rfl) (Nat.le_of_ble_eq_true rfl) dL_step_22
    · refine g_catch hown hEX hNC [⟨0, 12, 15, 22⟩, ⟨0, 12, 19, 31⟩] ⟨0, 12, 23, 13⟩ [] ht0 ["java/lang/IndexOutOfBoundsException", "java/util/NoSuchElementException"] (List.forall_mem_cons.mpr ⟨⟨by decide, _, List.mem_cons_self, hq22⟩, List.forall_mem_cons.mpr ⟨⟨by decide, _, List.mem_cons_of_mem _ List.mem_cons_self, hq31⟩, fun _ h => absurd h List.not_mem_nil⟩⟩) (by decide) (by decide) (by decide) hq13 (by decide +kernel) hc9 hv9 hcl9 ?_
      refine lv_astore (lv' := [(5, .ref q9), (0, .ref ua), (1, .int i1), (2, .int i2), (3, .int i3), (4, .ref oa)]) hx hb dL_step_23 hl (by decide) rfl (fun ls hl => ?_)
      refine lv_iconst (v := (3 : Int32)) hx hb dL_step_25 (by decide) ?_
      exact g_liret hx hb hr hlocks hK hB (by decide) (Nat.le_of_ble_eq_true rfl) (Nat.le_of_ble_eq_true rfl) dL_step_26
  · obtain ⟨ho, rfl⟩ := hpo
    subst ho
    refine lv_i2l hx hb dL_step_10 rfl ?_
    refine g_ost hx hb hK hB 3 rfl dL_step_11 (fun H locs hB => ?_)
    refine lv_goto (tgt := 27) hx hb dL_step_12 (by decide) ?_
    refine lv_iconst (v := (0 : Int32)) hx hb dL_step_27 (by decide) ?_
    exact g_liret hx hb hr hlocks hK hB rfl (Nat.le_of_ble_eq_true rfl) (Nat.le_of_ble_eq_true rfl) dL_step_28

def wqL_owed : List Cond := .codeWith yL_owed cL_owed 5 (some .int) [(0, 10, 13, 22), (0, 10, 17, 31)] :: ([Cond.classLink RL 22 "java/lang/IndexOutOfBoundsException", Cond.classLink RL 31 "java/util/NoSuchElementException"] ++ wsV RL 33 RX3 yX3_owed wsX3_owed)
set_option maxRecDepth 20000 in
theorem gqL_owed : GoodIn wqL_owed (wsV RL 33 RX3 yX3_owed wsX3_owed) := goodIn_sub (fun w h => List.mem_cons_of_mem _ (List.mem_append_right _ h)) (by decide +kernel)
set_option maxRecDepth 20000 in
theorem tqL_owed : ∀ w ∈ wqL_owed, w ∈ lw_tbl := List.forall_mem_cons.mpr ⟨tb3 147 rfl, List.forall_mem_append.mpr ⟨List.forall_mem_cons.mpr ⟨tb3 83 rfl, List.forall_mem_cons.mpr ⟨tb3 123 rfl, fun _ h => absurd h List.not_mem_nil⟩⟩, Towed_X3_owed⟩⟩
abbrev rmL_owed : Room := { frames := 8, cells := 2, slots := 12, locals := 160 }
set_option maxHeartbeats 4000000 in
set_option maxRecDepth 100000 in
theorem kL_owed (l : Launch) (hl0 : l.stackTraces = false) (dC : Nat → ClassId) (dI : Nat → Nat → Nat) (cyI cyB cyO cyL : ClassId) (ua ub up oa : Nat) (aw as' : Nat → Nat → Nat) (lam : Nat → Int64) (sz : Nat) {fu : Nat} {τs : WS} {n : Nat} {pa : PA} {β : FS} {υ : MS} {ω : WS} {sid : PA} {i1 : Int32} {i2 : Int32} {o : (String ⊕ Int32)} (hf : mX3_owed fu τs n pa β υ ω sid i1 i2 = some o) (hE : ∀ E, o = .inl E → E ∈ (["java/lang/IndexOutOfBoundsException", "java/util/NoSuchElementException"] : List String)) : Met l yL_owed wqL_owed rmL_owed (PcV (dC, dI) [(cyI, .int), (cyB, .byte), (cyO, .object "UndoJourneys$World"), (cyL, .long)] (cU cyI cyB cyO ua ub up aw as' pa β υ ω sid τs n ++ cO cyL oa lam) sz [.ref ua, .int i1, .int i2, .ref oa]) (QiF (dC, dI) [(cyI, .int), (cyB, .byte), (cyO, .object "UndoJourneys$World"), (cyL, .long)] (cU cyI cyB cyO ua ub up aw as' pa β υ ω sid τs n ++ cO cyL oa lam) (xU (cU cyI cyB cyO ua ub up aw as' pa β υ ω sid τs n) (fun x => (cU cyI cyB cyO ua ub up aw as' pa β υ ω sid τs n)) o ++ cO cyL oa (xL lam (fun x => x) o)) sz (xR ["java/lang/IndexOutOfBoundsException", "java/util/NoSuchElementException"] o)) 2 12 (va_A (cU cyI cyB cyO ua ub up aw as' pa β υ ω sid τs n ++ cO cyL oa lam) sz) := by
  refine va_MetW (cc := cL_owed) (maxL := 5) (ret := (some .int)) (by decide) rfl ?_
  intro p e s m args below meth c s₁ B hml hv
  obtain ⟨rfl, ⟨hsz, hP, hK, hD0⟩, hEX, hNC⟩ := hv
  have hx := B.exec
  have hb := B.bytes
  have hr := B.returns
  have hts := atoms_spec (ws := wqL_owed) B.pre
  have hown : s.vm.findClass RL = some m.cls := findClass_of_methodNamed B.named
  have hlocks := B.notSynchronized
  have ht0 := vx_table (x := yL_owed) B (hts _ (List.mem_of_getElem? (i := 0) rfl))
  have hq22 : (Cond.classLink RL 22 "java/lang/IndexOutOfBoundsException").before _ s = true := hts _ (List.mem_of_getElem? (i := 1) rfl)
  have hq31 : (Cond.classLink RL 31 "java/util/NoSuchElementException").before _ s = true := hts _ (List.mem_of_getElem? (i := 2) rfl)
  subst hsz
  have hA : ∀ q : Nat, s.heap.size ≤ q → va_A (cU cyI cyB cyO ua ub up aw as' pa β υ ω sid τs n ++ cO cyL oa lam) s.heap.size q := fun q h => Or.inr h
  have hB : Bd (dC, dI) [(cyI, .int), (cyB, .byte), (cyO, .object "UndoJourneys$World"), (cyL, .long)] (va_A (cU cyI cyB cyO ua ub up aw as' pa β υ ω sid τs n ++ cO cyL oa lam) s.heap.size) s (cU cyI cyB cyO ua ub up aw as' pa β υ ω sid τs n ++ cO cyL oa lam) s.heap [] := ⟨hP, hD0.self, va_S.rf⟩
  have hl := lv_entry [.ref ua, .int i1, .int i2, .ref oa] (n := 5) (Nat.le_of_ble_eq_true rfl)
  rw [lg_entry_eq]
  generalize (lg_sl [.ref ua, .int i1, .int i2, .ref oa] ++ List.replicate (5 - (lg_sl [.ref ua, .int i1, .int i2, .ref oa]).length) Slot.unset).toArray = ls at hl ⊢
  have hl : lv_has ls 5 [(0, .ref ua), (1, .int i1), (2, .int i2), (3, .ref oa)] := hl
  clear hP hD0
  refine lv_aload_n hx hb dL_owed_0 rfl (lv_at hl 3 rfl) ?_
  refine lv_iconst (v := (0 : Int32)) hx hb dL_owed_1 (by decide) ?_
  refine lv_aload_n hx hb dL_owed_2 rfl (lv_at hl 0 rfl) ?_
  refine lv_iload_n hx hb dL_owed_3 rfl (lv_at hl 1 rfl) ?_
  refine lv_iload_n hx hb dL_owed_4 rfl (lv_at hl 2 rfl) ?_
  refine g_xcut (As := [.int i1, .int i2]) (rest := [.int 0, .ref oa]) (wc := cU cyI cyB cyO ua ub up aw as' pa β υ ω sid τs n) (wr := cO cyL oa lam) ⟨hx, hb, hml, hown, hts⟩ (kX3_owed l hl0 dC dI cyI cyB cyO ua ub up aw as' s.heap.size hf) (cwV 2 hts gqL_owed rfl rfl rfl (by decide +kernel) ⟨(Nat.le_of_ble_eq_true rfl), (Nat.le_of_ble_eq_true rfl)⟩) (xpre_left hEX hB hA (hK.sub [0, 1, 2] rfl) (.ref ua :: [.int i1, .int i2])) hB hA (g_recv (ci := 3) hK hB 0 rfl rfl rfl) (List.Perm.refl _) rfl hl.1 rfl (Nat.le_of_ble_eq_true rfl) dL_owed_5 ⟨(Nat.le_of_ble_eq_true rfl), (Nat.le_of_ble_eq_true rfl)⟩ (fun E ce q9 H locs ho hB hc9 hv9 hcl9 => ?_) (fun r x H locs hpo hB => ?_)
  · subst ho
    have hE9 := hE E rfl
    simp only [List.mem_cons, List.not_mem_nil, or_false] at hE9
    rcases hE9 with rfl | rfl
    · refine g_catch hown hEX hNC [] ⟨0, 10, 13, 22⟩ [⟨0, 10, 17, 31⟩] ht0 [] (fun z hz => absurd hz List.not_mem_nil) (by decide) (by decide) (by decide) hq22 (by decide +kernel) hc9 hv9 hcl9 ?_
      refine lv_astore (lv' := [(4, .ref q9), (0, .ref ua), (1, .int i1), (2, .int i2), (3, .ref oa)]) hx hb dL_owed_13 hl (by decide) rfl (fun ls hl => ?_)
      refine lv_iconst (v := (1 : Int32)) hx hb dL_owed_15 (by decide) ?_
      exact g_liret hx hb hr hlocks hK hB (by decide) (Nat.le_of_ble_eq_true rfl) (Nat.le_of_ble_eq_true rfl) dL_owed_16
    · refine g_catch hown hEX hNC [⟨0, 10, 13, 22⟩] ⟨0, 10, 17, 31⟩ [] ht0 ["java/lang/IndexOutOfBoundsException"] (fun z hz => by obtain rfl := List.mem_singleton.mp hz; exact ⟨by decide, _, List.mem_cons_self, hq22⟩) (by decide) (by decide) (by decide) hq31 (by decide +kernel) hc9 hv9 hcl9 ?_
      refine lv_astore (lv' := [(4, .ref q9), (0, .ref ua), (1, .int i1), (2, .int i2), (3, .ref oa)]) hx hb dL_owed_17 hl (by decide) rfl (fun ls hl => ?_)
      refine lv_iconst (v := (2 : Int32)) hx hb dL_owed_19 (by decide) ?_
      exact g_liret hx hb hr hlocks hK hB (by decide) (Nat.le_of_ble_eq_true rfl) (Nat.le_of_ble_eq_true rfl) dL_owed_20
  · obtain ⟨ho, rfl⟩ := hpo
    subst ho
    refine lv_i2l hx hb dL_owed_8 rfl ?_
    refine g_ost hx hb hK hB 3 rfl dL_owed_9 (fun H locs hB => ?_)
    refine lv_goto (tgt := 21) hx hb dL_owed_10 (by decide) ?_
    refine lv_iconst (v := (0 : Int32)) hx hb dL_owed_21 (by decide) ?_
    exact g_liret hx hb hr hlocks hK hB rfl (Nat.le_of_ble_eq_true rfl) (Nat.le_of_ble_eq_true rfl) dL_owed_22

def wqL_restsIn : List Cond := .codeWith yL_restsIn cL_restsIn 4 (some .int) [(0, 9, 12, 22)] :: ([Cond.classLink RL 22 "java/lang/IndexOutOfBoundsException"] ++ wsV RL 36 RX3 yX3_restsIn wsX3_restsIn)
set_option maxRecDepth 20000 in
theorem gqL_restsIn : GoodIn wqL_restsIn (wsV RL 36 RX3 yX3_restsIn wsX3_restsIn) := goodIn_sub (fun w h => List.mem_cons_of_mem _ (List.mem_append_right _ h)) (by decide +kernel)
set_option maxRecDepth 20000 in
theorem tqL_restsIn : ∀ w ∈ wqL_restsIn, w ∈ lw_tbl := List.forall_mem_cons.mpr ⟨tb3 159 rfl, List.forall_mem_append.mpr ⟨List.forall_mem_cons.mpr ⟨tb3 83 rfl, fun _ h => absurd h List.not_mem_nil⟩, TrestsIn_X3_restsIn⟩⟩
abbrev rmL_restsIn : Room := { frames := 8, cells := 1, slots := 6, locals := 191 }
set_option maxHeartbeats 4000000 in
set_option maxRecDepth 100000 in
theorem kL_restsIn (l : Launch) (hl0 : l.stackTraces = false) (dC : Nat → ClassId) (dI : Nat → Nat → Nat) (cyI cyB cyO cyL : ClassId) (ua ub up oa : Nat) (aw as' : Nat → Nat → Nat) (lam : Nat → Int64) (sz : Nat) {fu : Nat} {τs : WS} {n : Nat} {pa : PA} {β : FS} {υ : MS} {ω : WS} {sid : PA} {i1 : Int32} {o : (String ⊕ (Int32 × WS × PA))} (hf : mX3_restsIn fu τs n pa β υ ω sid i1 = some o) (hE : ∀ E, o = .inl E → E ∈ (["java/lang/IndexOutOfBoundsException"] : List String)) : Met l yL_restsIn wqL_restsIn rmL_restsIn (PcV (dC, dI) [(cyI, .int), (cyB, .byte), (cyO, .object "UndoJourneys$World"), (cyL, .long)] (cU cyI cyB cyO ua ub up aw as' pa β υ ω sid τs n ++ cO cyL oa lam) sz [.ref ua, .int i1, .ref oa]) (QiF (dC, dI) [(cyI, .int), (cyB, .byte), (cyO, .object "UndoJourneys$World"), (cyL, .long)] (cU cyI cyB cyO ua ub up aw as' pa β υ ω sid τs n ++ cO cyL oa lam) (xU (cU cyI cyB cyO ua ub up aw as' pa β υ ω sid τs n) (fun x => (cU cyI cyB cyO ua ub up aw as' pa β υ (x.2.1) (x.2.2) τs n)) o ++ cO cyL oa (xL lam (fun x => (x.1)) o)) sz (xR ["java/lang/IndexOutOfBoundsException"] o)) 1 6 (va_A (cU cyI cyB cyO ua ub up aw as' pa β υ ω sid τs n ++ cO cyL oa lam) sz) := by
  refine va_MetW (cc := cL_restsIn) (maxL := 4) (ret := (some .int)) (by decide) rfl ?_
  intro p e s m args below meth c s₁ B hml hv
  obtain ⟨rfl, ⟨hsz, hP, hK, hD0⟩, hEX, hNC⟩ := hv
  have hx := B.exec
  have hb := B.bytes
  have hr := B.returns
  have hts := atoms_spec (ws := wqL_restsIn) B.pre
  have hown : s.vm.findClass RL = some m.cls := findClass_of_methodNamed B.named
  have hlocks := B.notSynchronized
  have ht0 := vx_table (x := yL_restsIn) B (hts _ (List.mem_of_getElem? (i := 0) rfl))
  have hq22 : (Cond.classLink RL 22 "java/lang/IndexOutOfBoundsException").before _ s = true := hts _ (List.mem_of_getElem? (i := 1) rfl)
  subst hsz
  have hA : ∀ q : Nat, s.heap.size ≤ q → va_A (cU cyI cyB cyO ua ub up aw as' pa β υ ω sid τs n ++ cO cyL oa lam) s.heap.size q := fun q h => Or.inr h
  have hB : Bd (dC, dI) [(cyI, .int), (cyB, .byte), (cyO, .object "UndoJourneys$World"), (cyL, .long)] (va_A (cU cyI cyB cyO ua ub up aw as' pa β υ ω sid τs n ++ cO cyL oa lam) s.heap.size) s (cU cyI cyB cyO ua ub up aw as' pa β υ ω sid τs n ++ cO cyL oa lam) s.heap [] := ⟨hP, hD0.self, va_S.rf⟩
  have hl := lv_entry [.ref ua, .int i1, .ref oa] (n := 4) (Nat.le_of_ble_eq_true rfl)
  rw [lg_entry_eq]
  generalize (lg_sl [.ref ua, .int i1, .ref oa] ++ List.replicate (4 - (lg_sl [.ref ua, .int i1, .ref oa]).length) Slot.unset).toArray = ls at hl ⊢
  have hl : lv_has ls 4 [(0, .ref ua), (1, .int i1), (2, .ref oa)] := hl
  clear hP hD0
  refine lv_aload_n hx hb dL_restsIn_0 rfl (lv_at hl 2 rfl) ?_
  refine lv_iconst (v := (0 : Int32)) hx hb dL_restsIn_1 (by decide) ?_
  refine lv_aload_n hx hb dL_restsIn_2 rfl (lv_at hl 0 rfl) ?_
  refine lv_iload_n hx hb dL_restsIn_3 rfl (lv_at hl 1 rfl) ?_
  refine g_xcut (As := [.int i1]) (rest := [.int 0, .ref oa]) (wc := cU cyI cyB cyO ua ub up aw as' pa β υ ω sid τs n) (wr := cO cyL oa lam) ⟨hx, hb, hml, hown, hts⟩ (kX3_restsIn l hl0 dC dI cyI cyB cyO ua ub up aw as' s.heap.size hf) (cwV 1 hts gqL_restsIn rfl rfl rfl (by decide +kernel) ⟨(Nat.le_of_ble_eq_true rfl), (Nat.le_of_ble_eq_true rfl)⟩) (xpre_left hEX hB hA (hK.sub [0, 1, 2] rfl) (.ref ua :: [.int i1])) hB hA (g_recv (ci := 3) hK hB 0 rfl rfl rfl) (List.Perm.refl _) rfl hl.1 rfl (Nat.le_of_ble_eq_true rfl) dL_restsIn_4 ⟨(Nat.le_of_ble_eq_true rfl), (Nat.le_of_ble_eq_true rfl)⟩ (fun E ce q9 H locs ho hB hc9 hv9 hcl9 => ?_) (fun r x H locs hpo hB => ?_)
  · subst ho
    have hE9 := hE E rfl
    obtain rfl := List.mem_singleton.mp hE9
    refine g_catch hown hEX hNC [] ⟨0, 9, 12, 22⟩ [] ht0 [] (fun z hz => absurd hz List.not_mem_nil) (by decide) (by decide) (by decide) hq22 (by decide +kernel) hc9 hv9 hcl9 ?_
    refine lv_astore_n (lv' := [(3, .ref q9), (0, .ref ua), (1, .int i1), (2, .ref oa)]) hx hb dL_restsIn_12 rfl hl (by decide) rfl (fun ls hl => ?_)
    refine lv_iconst (v := (1 : Int32)) hx hb dL_restsIn_13 (by decide) ?_
    exact g_liret hx hb hr hlocks hK hB (by decide) (Nat.le_of_ble_eq_true rfl) (Nat.le_of_ble_eq_true rfl) dL_restsIn_14
  · obtain ⟨ho, rfl⟩ := hpo
    subst ho
    refine lv_i2l hx hb dL_restsIn_7 rfl ?_
    refine g_ost hx hb hK hB 3 rfl dL_restsIn_8 (fun H locs hB => ?_)
    refine lv_goto (tgt := 15) hx hb dL_restsIn_9 (by decide) ?_
    refine lv_iconst (v := (0 : Int32)) hx hb dL_restsIn_15 (by decide) ?_
    exact g_liret hx hb hr hlocks hK hB rfl (Nat.le_of_ble_eq_true rfl) (Nat.le_of_ble_eq_true rfl) dL_restsIn_16

def wqL_stateAfter : List Cond := .codeWith yL_stateAfter cL_stateAfter 5 (some .int) [(0, 10, 13, 22), (0, 10, 17, 13)] :: ([Cond.classLink RL 22 "java/lang/IndexOutOfBoundsException", Cond.classLink RL 13 "java/lang/IllegalArgumentException"] ++ wsV RL 39 RX3 yX3_stateAfter wsX3_stateAfter)
set_option maxRecDepth 20000 in
theorem gqL_stateAfter : GoodIn wqL_stateAfter (wsV RL 39 RX3 yX3_stateAfter wsX3_stateAfter) := goodIn_sub (fun w h => List.mem_cons_of_mem _ (List.mem_append_right _ h)) (by decide +kernel)
set_option maxRecDepth 20000 in
theorem tqL_stateAfter : ∀ w ∈ wqL_stateAfter, w ∈ lw_tbl := List.forall_mem_cons.mpr ⟨tb4 2 rfl, List.forall_mem_append.mpr ⟨List.forall_mem_cons.mpr ⟨tb3 83 rfl, List.forall_mem_cons.mpr ⟨tb2 44 rfl, fun _ h => absurd h List.not_mem_nil⟩⟩, TstateAfter_X3_stateAfter⟩⟩
abbrev rmL_stateAfter : Room := { frames := 8, cells := 2, slots := 12, locals := 191 }
set_option maxHeartbeats 4000000 in
set_option maxRecDepth 100000 in
theorem kL_stateAfter (l : Launch) (hl0 : l.stackTraces = false) (dC : Nat → ClassId) (dI : Nat → Nat → Nat) (cyI cyB cyO cyL : ClassId) (ua ub up oa : Nat) (aw as' : Nat → Nat → Nat) (lam : Nat → Int64) (sz : Nat) {fu : Nat} {τs : WS} {n : Nat} {pa : PA} {β : FS} {υ : MS} {ω : WS} {sid : PA} {i1 : Int32} {i2 : Int32} {o : (String ⊕ (Int32 × WS × PA))} (hf : mX3_stateAfter fu τs n pa β υ ω sid i1 i2 = some o) (hE : ∀ E, o = .inl E → E ∈ (["java/lang/IndexOutOfBoundsException", "java/lang/IllegalArgumentException"] : List String)) : Met l yL_stateAfter wqL_stateAfter rmL_stateAfter (PcV (dC, dI) [(cyI, .int), (cyB, .byte), (cyO, .object "UndoJourneys$World"), (cyL, .long)] (cU cyI cyB cyO ua ub up aw as' pa β υ ω sid τs n ++ cO cyL oa lam) sz [.ref ua, .int i1, .int i2, .ref oa]) (QiF (dC, dI) [(cyI, .int), (cyB, .byte), (cyO, .object "UndoJourneys$World"), (cyL, .long)] (cU cyI cyB cyO ua ub up aw as' pa β υ ω sid τs n ++ cO cyL oa lam) (xU (cU cyI cyB cyO ua ub up aw as' pa β υ ω sid τs n) (fun x => (cU cyI cyB cyO ua ub up aw as' pa β υ (x.2.1) (x.2.2) τs n)) o ++ cO cyL oa (xL lam (fun x => (x.1)) o)) sz (xR ["java/lang/IndexOutOfBoundsException", "java/lang/IllegalArgumentException"] o)) 2 12 (va_A (cU cyI cyB cyO ua ub up aw as' pa β υ ω sid τs n ++ cO cyL oa lam) sz) := by
  refine va_MetW (cc := cL_stateAfter) (maxL := 5) (ret := (some .int)) (by decide) rfl ?_
  intro p e s m args below meth c s₁ B hml hv
  obtain ⟨rfl, ⟨hsz, hP, hK, hD0⟩, hEX, hNC⟩ := hv
  have hx := B.exec
  have hb := B.bytes
  have hr := B.returns
  have hts := atoms_spec (ws := wqL_stateAfter) B.pre
  have hown : s.vm.findClass RL = some m.cls := findClass_of_methodNamed B.named
  have hlocks := B.notSynchronized
  have ht0 := vx_table (x := yL_stateAfter) B (hts _ (List.mem_of_getElem? (i := 0) rfl))
  have hq22 : (Cond.classLink RL 22 "java/lang/IndexOutOfBoundsException").before _ s = true := hts _ (List.mem_of_getElem? (i := 1) rfl)
  have hq13 : (Cond.classLink RL 13 "java/lang/IllegalArgumentException").before _ s = true := hts _ (List.mem_of_getElem? (i := 2) rfl)
  subst hsz
  have hA : ∀ q : Nat, s.heap.size ≤ q → va_A (cU cyI cyB cyO ua ub up aw as' pa β υ ω sid τs n ++ cO cyL oa lam) s.heap.size q := fun q h => Or.inr h
  have hB : Bd (dC, dI) [(cyI, .int), (cyB, .byte), (cyO, .object "UndoJourneys$World"), (cyL, .long)] (va_A (cU cyI cyB cyO ua ub up aw as' pa β υ ω sid τs n ++ cO cyL oa lam) s.heap.size) s (cU cyI cyB cyO ua ub up aw as' pa β υ ω sid τs n ++ cO cyL oa lam) s.heap [] := ⟨hP, hD0.self, va_S.rf⟩
  have hl := lv_entry [.ref ua, .int i1, .int i2, .ref oa] (n := 5) (Nat.le_of_ble_eq_true rfl)
  rw [lg_entry_eq]
  generalize (lg_sl [.ref ua, .int i1, .int i2, .ref oa] ++ List.replicate (5 - (lg_sl [.ref ua, .int i1, .int i2, .ref oa]).length) Slot.unset).toArray = ls at hl ⊢
  have hl : lv_has ls 5 [(0, .ref ua), (1, .int i1), (2, .int i2), (3, .ref oa)] := hl
  clear hP hD0
  refine lv_aload_n hx hb dL_stateAfter_0 rfl (lv_at hl 3 rfl) ?_
  refine lv_iconst (v := (0 : Int32)) hx hb dL_stateAfter_1 (by decide) ?_
  refine lv_aload_n hx hb dL_stateAfter_2 rfl (lv_at hl 0 rfl) ?_
  refine lv_iload_n hx hb dL_stateAfter_3 rfl (lv_at hl 1 rfl) ?_
  refine lv_iload_n hx hb dL_stateAfter_4 rfl (lv_at hl 2 rfl) ?_
  refine g_xcut (As := [.int i1, .int i2]) (rest := [.int 0, .ref oa]) (wc := cU cyI cyB cyO ua ub up aw as' pa β υ ω sid τs n) (wr := cO cyL oa lam) ⟨hx, hb, hml, hown, hts⟩ (kX3_stateAfter l hl0 dC dI cyI cyB cyO ua ub up aw as' s.heap.size hf) (cwV 2 hts gqL_stateAfter rfl rfl rfl (by decide +kernel) ⟨(Nat.le_of_ble_eq_true rfl), (Nat.le_of_ble_eq_true rfl)⟩) (xpre_left hEX hB hA (hK.sub [0, 1, 2] rfl) (.ref ua :: [.int i1, .int i2])) hB hA (g_recv (ci := 3) hK hB 0 rfl rfl rfl) (List.Perm.refl _) rfl hl.1 rfl (Nat.le_of_ble_eq_true rfl) dL_stateAfter_5 ⟨(Nat.le_of_ble_eq_true rfl), (Nat.le_of_ble_eq_true rfl)⟩ (fun E ce q9 H locs ho hB hc9 hv9 hcl9 => ?_) (fun r x H locs hpo hB => ?_)
  · subst ho
    have hE9 := hE E rfl
    simp only [List.mem_cons, List.not_mem_nil, or_false] at hE9
    rcases hE9 with rfl | rfl
    · refine g_catch hown hEX hNC [] ⟨0, 10, 13, 22⟩ [⟨0, 10, 17, 13⟩] ht0 [] (fun z hz => absurd hz List.not_mem_nil) (by decide) (by decide) (by decide) hq22 (by decide +kernel) hc9 hv9 hcl9 ?_
      refine lv_astore (lv' := [(4, .ref q9), (0, .ref ua), (1, .int i1), (2, .int i2), (3, .ref oa)]) hx hb dL_stateAfter_13 hl (by decide) rfl (fun ls hl => ?_)
      refine lv_iconst (v := (1 : Int32)) hx hb dL_stateAfter_15 (by decide) ?_
      exact g_liret hx hb hr hlocks hK hB (by decide) (Nat.le_of_ble_eq_true rfl) (Nat.le_of_ble_eq_true rfl) dL_stateAfter_16
    · refine g_catch hown hEX hNC [⟨0, 10, 13, 22⟩] ⟨0, 10, 17, 13⟩ [] ht0 ["java/lang/IndexOutOfBoundsException"] (fun z hz => by obtain rfl := List.mem_singleton.mp hz; exact ⟨by decide, _, List.mem_cons_self, hq22⟩) (by decide) (by decide) (by decide) hq13 (by decide +kernel) hc9 hv9 hcl9 ?_
      refine lv_astore (lv' := [(4, .ref q9), (0, .ref ua), (1, .int i1), (2, .int i2), (3, .ref oa)]) hx hb dL_stateAfter_17 hl (by decide) rfl (fun ls hl => ?_)
      refine lv_iconst (v := (2 : Int32)) hx hb dL_stateAfter_19 (by decide) ?_
      exact g_liret hx hb hr hlocks hK hB (by decide) (Nat.le_of_ble_eq_true rfl) (Nat.le_of_ble_eq_true rfl) dL_stateAfter_20
  · obtain ⟨ho, rfl⟩ := hpo
    subst ho
    refine lv_i2l hx hb dL_stateAfter_8 rfl ?_
    refine g_ost hx hb hK hB 3 rfl dL_stateAfter_9 (fun H locs hB => ?_)
    refine lv_goto (tgt := 21) hx hb dL_stateAfter_10 (by decide) ?_
    refine lv_iconst (v := (0 : Int32)) hx hb dL_stateAfter_21 (by decide) ?_
    exact g_liret hx hb hr hlocks hK hB rfl (Nat.le_of_ble_eq_true rfl) (Nat.le_of_ble_eq_true rfl) dL_stateAfter_22

def wqL_help : List Cond := .codeWith yL_help cL_help 5 (some .int) [(0, 10, 13, 22)] :: ([Cond.classLink RL 22 "java/lang/IndexOutOfBoundsException"] ++ wsV RL 42 RX3 yX3_help wsX3_help)
set_option maxRecDepth 20000 in
theorem gqL_help : GoodIn wqL_help (wsV RL 42 RX3 yX3_help wsX3_help) := goodIn_sub (fun w h => List.mem_cons_of_mem _ (List.mem_append_right _ h)) (by decide +kernel)
set_option maxRecDepth 20000 in
theorem tqL_help : ∀ w ∈ wqL_help, w ∈ lw_tbl := List.forall_mem_cons.mpr ⟨tb4 10 rfl, List.forall_mem_append.mpr ⟨List.forall_mem_cons.mpr ⟨tb3 83 rfl, fun _ h => absurd h List.not_mem_nil⟩, Thelp_X3_help⟩⟩
abbrev rmL_help : Room := { frames := 8, cells := 2, slots := 12, locals := 191 }
set_option maxHeartbeats 4000000 in
set_option maxRecDepth 100000 in
theorem kL_help (l : Launch) (hl0 : l.stackTraces = false) (dC : Nat → ClassId) (dI : Nat → Nat → Nat) (cyI cyB cyO cyL : ClassId) (ua ub up oa : Nat) (aw as' : Nat → Nat → Nat) (lam : Nat → Int64) (sz : Nat) {fu : Nat} {τs : WS} {n : Nat} {pa : PA} {β : FS} {υ : MS} {ω : WS} {sid : PA} {i1 : Int32} {i2 : Int32} {o : (String ⊕ (Int32 × WS × PA))} (hf : mX3_help fu τs n pa β υ ω sid i1 i2 = some o) (hE : ∀ E, o = .inl E → E ∈ (["java/lang/IndexOutOfBoundsException"] : List String)) : Met l yL_help wqL_help rmL_help (PcV (dC, dI) [(cyI, .int), (cyB, .byte), (cyO, .object "UndoJourneys$World"), (cyL, .long)] (cU cyI cyB cyO ua ub up aw as' pa β υ ω sid τs n ++ cO cyL oa lam) sz [.ref ua, .int i1, .int i2, .ref oa]) (QiF (dC, dI) [(cyI, .int), (cyB, .byte), (cyO, .object "UndoJourneys$World"), (cyL, .long)] (cU cyI cyB cyO ua ub up aw as' pa β υ ω sid τs n ++ cO cyL oa lam) (xU (cU cyI cyB cyO ua ub up aw as' pa β υ ω sid τs n) (fun x => (cU cyI cyB cyO ua ub up aw as' pa β υ (x.2.1) (x.2.2) τs n)) o ++ cO cyL oa (xL lam (fun x => (x.1)) o)) sz (xR ["java/lang/IndexOutOfBoundsException"] o)) 2 12 (va_A (cU cyI cyB cyO ua ub up aw as' pa β υ ω sid τs n ++ cO cyL oa lam) sz) := by
  refine va_MetW (cc := cL_help) (maxL := 5) (ret := (some .int)) (by decide) rfl ?_
  intro p e s m args below meth c s₁ B hml hv
  obtain ⟨rfl, ⟨hsz, hP, hK, hD0⟩, hEX, hNC⟩ := hv
  have hx := B.exec
  have hb := B.bytes
  have hr := B.returns
  have hts := atoms_spec (ws := wqL_help) B.pre
  have hown : s.vm.findClass RL = some m.cls := findClass_of_methodNamed B.named
  have hlocks := B.notSynchronized
  have ht0 := vx_table (x := yL_help) B (hts _ (List.mem_of_getElem? (i := 0) rfl))
  have hq22 : (Cond.classLink RL 22 "java/lang/IndexOutOfBoundsException").before _ s = true := hts _ (List.mem_of_getElem? (i := 1) rfl)
  subst hsz
  have hA : ∀ q : Nat, s.heap.size ≤ q → va_A (cU cyI cyB cyO ua ub up aw as' pa β υ ω sid τs n ++ cO cyL oa lam) s.heap.size q := fun q h => Or.inr h
  have hB : Bd (dC, dI) [(cyI, .int), (cyB, .byte), (cyO, .object "UndoJourneys$World"), (cyL, .long)] (va_A (cU cyI cyB cyO ua ub up aw as' pa β υ ω sid τs n ++ cO cyL oa lam) s.heap.size) s (cU cyI cyB cyO ua ub up aw as' pa β υ ω sid τs n ++ cO cyL oa lam) s.heap [] := ⟨hP, hD0.self, va_S.rf⟩
  have hl := lv_entry [.ref ua, .int i1, .int i2, .ref oa] (n := 5) (Nat.le_of_ble_eq_true rfl)
  rw [lg_entry_eq]
  generalize (lg_sl [.ref ua, .int i1, .int i2, .ref oa] ++ List.replicate (5 - (lg_sl [.ref ua, .int i1, .int i2, .ref oa]).length) Slot.unset).toArray = ls at hl ⊢
  have hl : lv_has ls 5 [(0, .ref ua), (1, .int i1), (2, .int i2), (3, .ref oa)] := hl
  clear hP hD0
  refine lv_aload_n hx hb dL_help_0 rfl (lv_at hl 3 rfl) ?_
  refine lv_iconst (v := (0 : Int32)) hx hb dL_help_1 (by decide) ?_
  refine lv_aload_n hx hb dL_help_2 rfl (lv_at hl 0 rfl) ?_
  refine lv_iload_n hx hb dL_help_3 rfl (lv_at hl 1 rfl) ?_
  refine lv_iload_n hx hb dL_help_4 rfl (lv_at hl 2 rfl) ?_
  refine g_xcut (As := [.int i1, .int i2]) (rest := [.int 0, .ref oa]) (wc := cU cyI cyB cyO ua ub up aw as' pa β υ ω sid τs n) (wr := cO cyL oa lam) ⟨hx, hb, hml, hown, hts⟩ (kX3_help l hl0 dC dI cyI cyB cyO ua ub up aw as' s.heap.size hf) (cwV 2 hts gqL_help rfl rfl rfl (by decide +kernel) ⟨(Nat.le_of_ble_eq_true rfl), (Nat.le_of_ble_eq_true rfl)⟩) (xpre_left hEX hB hA (hK.sub [0, 1, 2] rfl) (.ref ua :: [.int i1, .int i2])) hB hA (g_recv (ci := 3) hK hB 0 rfl rfl rfl) (List.Perm.refl _) rfl hl.1 rfl (Nat.le_of_ble_eq_true rfl) dL_help_5 ⟨(Nat.le_of_ble_eq_true rfl), (Nat.le_of_ble_eq_true rfl)⟩ (fun E ce q9 H locs ho hB hc9 hv9 hcl9 => ?_) (fun r x H locs hpo hB => ?_)
  · subst ho
    have hE9 := hE E rfl
    obtain rfl := List.mem_singleton.mp hE9
    refine g_catch hown hEX hNC [] ⟨0, 10, 13, 22⟩ [] ht0 [] (fun z hz => absurd hz List.not_mem_nil) (by decide) (by decide) (by decide) hq22 (by decide +kernel) hc9 hv9 hcl9 ?_
    refine lv_astore (lv' := [(4, .ref q9), (0, .ref ua), (1, .int i1), (2, .int i2), (3, .ref oa)]) hx hb dL_help_13 hl (by decide) rfl (fun ls hl => ?_)
    refine lv_iconst (v := (1 : Int32)) hx hb dL_help_15 (by decide) ?_
    exact g_liret hx hb hr hlocks hK hB (by decide) (Nat.le_of_ble_eq_true rfl) (Nat.le_of_ble_eq_true rfl) dL_help_16
  · obtain ⟨ho, rfl⟩ := hpo
    subst ho
    refine lv_i2l hx hb dL_help_8 rfl ?_
    refine g_ost hx hb hK hB 3 rfl dL_help_9 (fun H locs hB => ?_)
    refine lv_goto (tgt := 17) hx hb dL_help_10 (by decide) ?_
    refine lv_iconst (v := (0 : Int32)) hx hb dL_help_17 (by decide) ?_
    exact g_liret hx hb hr hlocks hK hB rfl (Nat.le_of_ble_eq_true rfl) (Nat.le_of_ble_eq_true rfl) dL_help_18

def wqL_pass : List Cond := .codeWith yL_pass cL_pass 4 (some .int) [(0, 9, 12, 13)] :: ([Cond.classLink RL 13 "java/lang/IllegalArgumentException"] ++ wsV RL 45 RX3 yX3_pass wsX3_pass)
set_option maxRecDepth 20000 in
theorem gqL_pass : GoodIn wqL_pass (wsV RL 45 RX3 yX3_pass wsX3_pass) := goodIn_sub (fun w h => List.mem_cons_of_mem _ (List.mem_append_right _ h)) (by decide +kernel)
set_option maxRecDepth 20000 in
theorem tqL_pass : ∀ w ∈ wqL_pass, w ∈ lw_tbl := List.forall_mem_cons.mpr ⟨tb4 18 rfl, List.forall_mem_append.mpr ⟨List.forall_mem_cons.mpr ⟨tb2 44 rfl, fun _ h => absurd h List.not_mem_nil⟩, Tpass_X3_pass⟩⟩
abbrev rmL_pass : Room := { frames := 7, cells := 1, slots := 6, locals := 191 }
set_option maxHeartbeats 4000000 in
set_option maxRecDepth 100000 in
theorem kL_pass (l : Launch) (hl0 : l.stackTraces = false) (dC : Nat → ClassId) (dI : Nat → Nat → Nat) (cyI cyB cyO cyL : ClassId) (ua ub up oa : Nat) (aw as' : Nat → Nat → Nat) (lam : Nat → Int64) (sz : Nat) {fu : Nat} {τs : WS} {n : Nat} {pa : PA} {β : FS} {υ : MS} {ω : WS} {sid : PA} {i1 : Int32} {o : (String ⊕ (Int32 × PA × MS × WS × PA))} (hf : mX3_pass fu τs n pa β υ ω sid i1 = some o) (hE : ∀ E, o = .inl E → E ∈ (["java/lang/IllegalArgumentException"] : List String)) : Met l yL_pass wqL_pass rmL_pass (PcV (dC, dI) [(cyI, .int), (cyB, .byte), (cyO, .object "UndoJourneys$World"), (cyL, .long)] (cU cyI cyB cyO ua ub up aw as' pa β υ ω sid τs n ++ cO cyL oa lam) sz [.ref ua, .int i1, .ref oa]) (QiF (dC, dI) [(cyI, .int), (cyB, .byte), (cyO, .object "UndoJourneys$World"), (cyL, .long)] (cU cyI cyB cyO ua ub up aw as' pa β υ ω sid τs n ++ cO cyL oa lam) (xU (cU cyI cyB cyO ua ub up aw as' pa β υ ω sid τs n) (fun x => (cU cyI cyB cyO ua ub up aw as' (x.2.1) β (x.2.2.1) (x.2.2.2.1) (x.2.2.2.2) τs n)) o ++ cO cyL oa (xL lam (fun x => (x.1)) o)) sz (xR ["java/lang/IllegalArgumentException"] o)) 1 6 (va_A (cU cyI cyB cyO ua ub up aw as' pa β υ ω sid τs n ++ cO cyL oa lam) sz) := by
  refine va_MetW (cc := cL_pass) (maxL := 4) (ret := (some .int)) (by decide) rfl ?_
  intro p e s m args below meth c s₁ B hml hv
  obtain ⟨rfl, ⟨hsz, hP, hK, hD0⟩, hEX, hNC⟩ := hv
  have hx := B.exec
  have hb := B.bytes
  have hr := B.returns
  have hts := atoms_spec (ws := wqL_pass) B.pre
  have hown : s.vm.findClass RL = some m.cls := findClass_of_methodNamed B.named
  have hlocks := B.notSynchronized
  have ht0 := vx_table (x := yL_pass) B (hts _ (List.mem_of_getElem? (i := 0) rfl))
  have hq13 : (Cond.classLink RL 13 "java/lang/IllegalArgumentException").before _ s = true := hts _ (List.mem_of_getElem? (i := 1) rfl)
  subst hsz
  have hA : ∀ q : Nat, s.heap.size ≤ q → va_A (cU cyI cyB cyO ua ub up aw as' pa β υ ω sid τs n ++ cO cyL oa lam) s.heap.size q := fun q h => Or.inr h
  have hB : Bd (dC, dI) [(cyI, .int), (cyB, .byte), (cyO, .object "UndoJourneys$World"), (cyL, .long)] (va_A (cU cyI cyB cyO ua ub up aw as' pa β υ ω sid τs n ++ cO cyL oa lam) s.heap.size) s (cU cyI cyB cyO ua ub up aw as' pa β υ ω sid τs n ++ cO cyL oa lam) s.heap [] := ⟨hP, hD0.self, va_S.rf⟩
  have hl := lv_entry [.ref ua, .int i1, .ref oa] (n := 4) (Nat.le_of_ble_eq_true rfl)
  rw [lg_entry_eq]
  generalize (lg_sl [.ref ua, .int i1, .ref oa] ++ List.replicate (4 - (lg_sl [.ref ua, .int i1, .ref oa]).length) Slot.unset).toArray = ls at hl ⊢
  have hl : lv_has ls 4 [(0, .ref ua), (1, .int i1), (2, .ref oa)] := hl
  clear hP hD0
  refine lv_aload_n hx hb dL_pass_0 rfl (lv_at hl 2 rfl) ?_
  refine lv_iconst (v := (0 : Int32)) hx hb dL_pass_1 (by decide) ?_
  refine lv_aload_n hx hb dL_pass_2 rfl (lv_at hl 0 rfl) ?_
  refine lv_iload_n hx hb dL_pass_3 rfl (lv_at hl 1 rfl) ?_
  refine g_xcut (As := [.int i1]) (rest := [.int 0, .ref oa]) (wc := cU cyI cyB cyO ua ub up aw as' pa β υ ω sid τs n) (wr := cO cyL oa lam) ⟨hx, hb, hml, hown, hts⟩ (kX3_pass l hl0 dC dI cyI cyB cyO ua ub up aw as' s.heap.size hf) (cwV 1 hts gqL_pass rfl rfl rfl (by decide +kernel) ⟨(Nat.le_of_ble_eq_true rfl), (Nat.le_of_ble_eq_true rfl)⟩) (xpre_left hEX hB hA (hK.sub [0, 1, 2] rfl) (.ref ua :: [.int i1])) hB hA (g_recv (ci := 3) hK hB 0 rfl rfl rfl) (List.Perm.refl _) rfl hl.1 rfl (Nat.le_of_ble_eq_true rfl) dL_pass_4 ⟨(Nat.le_of_ble_eq_true rfl), (Nat.le_of_ble_eq_true rfl)⟩ (fun E ce q9 H locs ho hB hc9 hv9 hcl9 => ?_) (fun r x H locs hpo hB => ?_)
  · subst ho
    have hE9 := hE E rfl
    obtain rfl := List.mem_singleton.mp hE9
    refine g_catch hown hEX hNC [] ⟨0, 9, 12, 13⟩ [] ht0 [] (fun z hz => absurd hz List.not_mem_nil) (by decide) (by decide) (by decide) hq13 (by decide +kernel) hc9 hv9 hcl9 ?_
    refine lv_astore_n (lv' := [(3, .ref q9), (0, .ref ua), (1, .int i1), (2, .ref oa)]) hx hb dL_pass_12 rfl hl (by decide) rfl (fun ls hl => ?_)
    refine lv_iconst (v := (1 : Int32)) hx hb dL_pass_13 (by decide) ?_
    exact g_liret hx hb hr hlocks hK hB (by decide) (Nat.le_of_ble_eq_true rfl) (Nat.le_of_ble_eq_true rfl) dL_pass_14
  · obtain ⟨ho, rfl⟩ := hpo
    subst ho
    refine lv_i2l hx hb dL_pass_7 rfl ?_
    refine g_ost hx hb hK hB 3 rfl dL_pass_8 (fun H locs hB => ?_)
    refine lv_goto (tgt := 15) hx hb dL_pass_9 (by decide) ?_
    refine lv_iconst (v := (0 : Int32)) hx hb dL_pass_15 (by decide) ?_
    exact g_liret hx hb hr hlocks hK hB rfl (Nat.le_of_ble_eq_true rfl) (Nat.le_of_ble_eq_true rfl) dL_pass_16

def wqL_settle : List Cond := .codeWith yL_settle cL_settle 4 (some .int) [(0, 9, 12, 22), (0, 9, 15, 51)] :: ([Cond.classLink RL 22 "java/lang/IndexOutOfBoundsException", Cond.classLink RL 51 "java/lang/IllegalStateException"] ++ wsV RL 48 RX3 yX3_settle wsX3_settle)
set_option maxRecDepth 20000 in
theorem gqL_settle : GoodIn wqL_settle (wsV RL 48 RX3 yX3_settle wsX3_settle) := goodIn_sub (fun w h => List.mem_cons_of_mem _ (List.mem_append_right _ h)) (by decide +kernel)
set_option maxRecDepth 20000 in
theorem tqL_settle : ∀ w ∈ wqL_settle, w ∈ lw_tbl := List.forall_mem_cons.mpr ⟨tb4 29 rfl, List.forall_mem_append.mpr ⟨List.forall_mem_cons.mpr ⟨tb3 83 rfl, List.forall_mem_cons.mpr ⟨tb4 30 rfl, fun _ h => absurd h List.not_mem_nil⟩⟩, Tsettle_X3_settle⟩⟩
abbrev rmL_settle : Room := { frames := 8, cells := 2, slots := 12, locals := 160 }
set_option maxHeartbeats 4000000 in
set_option maxRecDepth 100000 in
theorem kL_settle (l : Launch) (hl0 : l.stackTraces = false) (dC : Nat → ClassId) (dI : Nat → Nat → Nat) (cyI cyB cyO cyL : ClassId) (ua ub up oa : Nat) (aw as' : Nat → Nat → Nat) (lam : Nat → Int64) (sz : Nat) {fu : Nat} {τs : WS} {n : Nat} {pa : PA} {β : FS} {υ : MS} {ω : WS} {sid : PA} {i1 : Int32} {o : (String ⊕ (Int32 × PA × MS × WS × PA))} (hf : mX3_settle fu τs n pa β υ ω sid i1 = some o) (hE : ∀ E, o = .inl E → E ∈ (["java/lang/IndexOutOfBoundsException", "java/lang/IllegalStateException"] : List String)) : Met l yL_settle wqL_settle rmL_settle (PcV (dC, dI) [(cyI, .int), (cyB, .byte), (cyO, .object "UndoJourneys$World"), (cyL, .long)] (cU cyI cyB cyO ua ub up aw as' pa β υ ω sid τs n ++ cO cyL oa lam) sz [.ref ua, .int i1, .ref oa]) (QiF (dC, dI) [(cyI, .int), (cyB, .byte), (cyO, .object "UndoJourneys$World"), (cyL, .long)] (cU cyI cyB cyO ua ub up aw as' pa β υ ω sid τs n ++ cO cyL oa lam) (xU (cU cyI cyB cyO ua ub up aw as' pa β υ ω sid τs n) (fun x => (cU cyI cyB cyO ua ub up aw as' (x.2.1) β (x.2.2.1) (x.2.2.2.1) (x.2.2.2.2) τs n)) o ++ cO cyL oa (xL lam (fun x => (x.1)) o)) sz (xR ["java/lang/IndexOutOfBoundsException", "java/lang/IllegalStateException"] o)) 2 12 (va_A (cU cyI cyB cyO ua ub up aw as' pa β υ ω sid τs n ++ cO cyL oa lam) sz) := by
  refine va_MetW (cc := cL_settle) (maxL := 4) (ret := (some .int)) (by decide) rfl ?_
  intro p e s m args below meth c s₁ B hml hv
  obtain ⟨rfl, ⟨hsz, hP, hK, hD0⟩, hEX, hNC⟩ := hv
  have hx := B.exec
  have hb := B.bytes
  have hr := B.returns
  have hts := atoms_spec (ws := wqL_settle) B.pre
  have hown : s.vm.findClass RL = some m.cls := findClass_of_methodNamed B.named
  have hlocks := B.notSynchronized
  have ht0 := vx_table (x := yL_settle) B (hts _ (List.mem_of_getElem? (i := 0) rfl))
  have hq22 : (Cond.classLink RL 22 "java/lang/IndexOutOfBoundsException").before _ s = true := hts _ (List.mem_of_getElem? (i := 1) rfl)
  have hq51 : (Cond.classLink RL 51 "java/lang/IllegalStateException").before _ s = true := hts _ (List.mem_of_getElem? (i := 2) rfl)
  subst hsz
  have hA : ∀ q : Nat, s.heap.size ≤ q → va_A (cU cyI cyB cyO ua ub up aw as' pa β υ ω sid τs n ++ cO cyL oa lam) s.heap.size q := fun q h => Or.inr h
  have hB : Bd (dC, dI) [(cyI, .int), (cyB, .byte), (cyO, .object "UndoJourneys$World"), (cyL, .long)] (va_A (cU cyI cyB cyO ua ub up aw as' pa β υ ω sid τs n ++ cO cyL oa lam) s.heap.size) s (cU cyI cyB cyO ua ub up aw as' pa β υ ω sid τs n ++ cO cyL oa lam) s.heap [] := ⟨hP, hD0.self, va_S.rf⟩
  have hl := lv_entry [.ref ua, .int i1, .ref oa] (n := 4) (Nat.le_of_ble_eq_true rfl)
  rw [lg_entry_eq]
  generalize (lg_sl [.ref ua, .int i1, .ref oa] ++ List.replicate (4 - (lg_sl [.ref ua, .int i1, .ref oa]).length) Slot.unset).toArray = ls at hl ⊢
  have hl : lv_has ls 4 [(0, .ref ua), (1, .int i1), (2, .ref oa)] := hl
  clear hP hD0
  refine lv_aload_n hx hb dL_settle_0 rfl (lv_at hl 2 rfl) ?_
  refine lv_iconst (v := (0 : Int32)) hx hb dL_settle_1 (by decide) ?_
  refine lv_aload_n hx hb dL_settle_2 rfl (lv_at hl 0 rfl) ?_
  refine lv_iload_n hx hb dL_settle_3 rfl (lv_at hl 1 rfl) ?_
  refine g_xcut (As := [.int i1]) (rest := [.int 0, .ref oa]) (wc := cU cyI cyB cyO ua ub up aw as' pa β υ ω sid τs n) (wr := cO cyL oa lam) ⟨hx, hb, hml, hown, hts⟩ (kX3_settle l hl0 dC dI cyI cyB cyO ua ub up aw as' s.heap.size hf) (cwV 1 hts gqL_settle rfl rfl rfl (by decide +kernel) ⟨(Nat.le_of_ble_eq_true rfl), (Nat.le_of_ble_eq_true rfl)⟩) (xpre_left hEX hB hA (hK.sub [0, 1, 2] rfl) (.ref ua :: [.int i1])) hB hA (g_recv (ci := 3) hK hB 0 rfl rfl rfl) (List.Perm.refl _) rfl hl.1 rfl (Nat.le_of_ble_eq_true rfl) dL_settle_4 ⟨(Nat.le_of_ble_eq_true rfl), (Nat.le_of_ble_eq_true rfl)⟩ (fun E ce q9 H locs ho hB hc9 hv9 hcl9 => ?_) (fun r x H locs hpo hB => ?_)
  · subst ho
    have hE9 := hE E rfl
    simp only [List.mem_cons, List.not_mem_nil, or_false] at hE9
    rcases hE9 with rfl | rfl
    · refine g_catch hown hEX hNC [] ⟨0, 9, 12, 22⟩ [⟨0, 9, 15, 51⟩] ht0 [] (fun z hz => absurd hz List.not_mem_nil) (by decide) (by decide) (by decide) hq22 (by decide +kernel) hc9 hv9 hcl9 ?_
      refine lv_astore_n (lv' := [(3, .ref q9), (0, .ref ua), (1, .int i1), (2, .ref oa)]) hx hb dL_settle_12 rfl hl (by decide) rfl (fun ls hl => ?_)
      refine lv_iconst (v := (1 : Int32)) hx hb dL_settle_13 (by decide) ?_
      exact g_liret hx hb hr hlocks hK hB (by decide) (Nat.le_of_ble_eq_true rfl) (Nat.le_of_ble_eq_true rfl) dL_settle_14
    · refine g_catch hown hEX hNC [⟨0, 9, 12, 22⟩] ⟨0, 9, 15, 51⟩ [] ht0 ["java/lang/IndexOutOfBoundsException"] (fun z hz => by obtain rfl := List.mem_singleton.mp hz; exact ⟨by decide, _, List.mem_cons_self, hq22⟩) (by decide) (by decide) (by decide) hq51 (by decide +kernel) hc9 hv9 hcl9 ?_
      refine lv_astore_n (lv' := [(3, .ref q9), (0, .ref ua), (1, .int i1), (2, .ref oa)]) hx hb dL_settle_15 rfl hl (by decide) rfl (fun ls hl => ?_)
      refine lv_iconst (v := (2 : Int32)) hx hb dL_settle_16 (by decide) ?_
      exact g_liret hx hb hr hlocks hK hB (by decide) (Nat.le_of_ble_eq_true rfl) (Nat.le_of_ble_eq_true rfl) dL_settle_17
  · obtain ⟨ho, rfl⟩ := hpo
    subst ho
    refine lv_i2l hx hb dL_settle_7 rfl ?_
    refine g_ost hx hb hK hB 3 rfl dL_settle_8 (fun H locs hB => ?_)
    refine lv_goto (tgt := 18) hx hb dL_settle_9 (by decide) ?_
    refine lv_iconst (v := (0 : Int32)) hx hb dL_settle_18 (by decide) ?_
    exact g_liret hx hb hr hlocks hK hB rfl (Nat.le_of_ble_eq_true rfl) (Nat.le_of_ble_eq_true rfl) dL_settle_19

def wqL_writeOff : List Cond := .codeWith yL_writeOff cL_writeOff 4 (some .int) [(0, 9, 12, 22), (0, 9, 15, 51)] :: ([Cond.classLink RL 22 "java/lang/IndexOutOfBoundsException", Cond.classLink RL 51 "java/lang/IllegalStateException"] ++ wsV RL 53 RX3 yX3_writeOff wsX3_writeOff)
set_option maxRecDepth 20000 in
theorem gqL_writeOff : GoodIn wqL_writeOff (wsV RL 53 RX3 yX3_writeOff wsX3_writeOff) := goodIn_sub (fun w h => List.mem_cons_of_mem _ (List.mem_append_right _ h)) (by decide +kernel)
set_option maxRecDepth 20000 in
theorem tqL_writeOff : ∀ w ∈ wqL_writeOff, w ∈ lw_tbl := List.forall_mem_cons.mpr ⟨tb4 61 rfl, List.forall_mem_append.mpr ⟨List.forall_mem_cons.mpr ⟨tb3 83 rfl, List.forall_mem_cons.mpr ⟨tb4 30 rfl, fun _ h => absurd h List.not_mem_nil⟩⟩, TwriteOff_X3_writeOff⟩⟩
abbrev rmL_writeOff : Room := { frames := 8, cells := 2, slots := 12, locals := 160 }
set_option maxHeartbeats 4000000 in
set_option maxRecDepth 100000 in
theorem kL_writeOff (l : Launch) (hl0 : l.stackTraces = false) (dC : Nat → ClassId) (dI : Nat → Nat → Nat) (cyI cyB cyO cyL : ClassId) (ua ub up oa : Nat) (aw as' : Nat → Nat → Nat) (lam : Nat → Int64) (sz : Nat) {fu : Nat} {τs : WS} {n : Nat} {pa : PA} {β : FS} {υ : MS} {ω : WS} {sid : PA} {i1 : Int32} {o : (String ⊕ (Int32 × PA × MS × WS × PA))} (hf : mX3_writeOff fu τs n pa β υ ω sid i1 = some o) (hE : ∀ E, o = .inl E → E ∈ (["java/lang/IndexOutOfBoundsException", "java/lang/IllegalStateException"] : List String)) : Met l yL_writeOff wqL_writeOff rmL_writeOff (PcV (dC, dI) [(cyI, .int), (cyB, .byte), (cyO, .object "UndoJourneys$World"), (cyL, .long)] (cU cyI cyB cyO ua ub up aw as' pa β υ ω sid τs n ++ cO cyL oa lam) sz [.ref ua, .int i1, .ref oa]) (QiF (dC, dI) [(cyI, .int), (cyB, .byte), (cyO, .object "UndoJourneys$World"), (cyL, .long)] (cU cyI cyB cyO ua ub up aw as' pa β υ ω sid τs n ++ cO cyL oa lam) (xU (cU cyI cyB cyO ua ub up aw as' pa β υ ω sid τs n) (fun x => (cU cyI cyB cyO ua ub up aw as' (x.2.1) β (x.2.2.1) (x.2.2.2.1) (x.2.2.2.2) τs n)) o ++ cO cyL oa (xL lam (fun x => (x.1)) o)) sz (xR ["java/lang/IndexOutOfBoundsException", "java/lang/IllegalStateException"] o)) 2 12 (va_A (cU cyI cyB cyO ua ub up aw as' pa β υ ω sid τs n ++ cO cyL oa lam) sz) := by
  refine va_MetW (cc := cL_writeOff) (maxL := 4) (ret := (some .int)) (by decide) rfl ?_
  intro p e s m args below meth c s₁ B hml hv
  obtain ⟨rfl, ⟨hsz, hP, hK, hD0⟩, hEX, hNC⟩ := hv
  have hx := B.exec
  have hb := B.bytes
  have hr := B.returns
  have hts := atoms_spec (ws := wqL_writeOff) B.pre
  have hown : s.vm.findClass RL = some m.cls := findClass_of_methodNamed B.named
  have hlocks := B.notSynchronized
  have ht0 := vx_table (x := yL_writeOff) B (hts _ (List.mem_of_getElem? (i := 0) rfl))
  have hq22 : (Cond.classLink RL 22 "java/lang/IndexOutOfBoundsException").before _ s = true := hts _ (List.mem_of_getElem? (i := 1) rfl)
  have hq51 : (Cond.classLink RL 51 "java/lang/IllegalStateException").before _ s = true := hts _ (List.mem_of_getElem? (i := 2) rfl)
  subst hsz
  have hA : ∀ q : Nat, s.heap.size ≤ q → va_A (cU cyI cyB cyO ua ub up aw as' pa β υ ω sid τs n ++ cO cyL oa lam) s.heap.size q := fun q h => Or.inr h
  have hB : Bd (dC, dI) [(cyI, .int), (cyB, .byte), (cyO, .object "UndoJourneys$World"), (cyL, .long)] (va_A (cU cyI cyB cyO ua ub up aw as' pa β υ ω sid τs n ++ cO cyL oa lam) s.heap.size) s (cU cyI cyB cyO ua ub up aw as' pa β υ ω sid τs n ++ cO cyL oa lam) s.heap [] := ⟨hP, hD0.self, va_S.rf⟩
  have hl := lv_entry [.ref ua, .int i1, .ref oa] (n := 4) (Nat.le_of_ble_eq_true rfl)
  rw [lg_entry_eq]
  generalize (lg_sl [.ref ua, .int i1, .ref oa] ++ List.replicate (4 - (lg_sl [.ref ua, .int i1, .ref oa]).length) Slot.unset).toArray = ls at hl ⊢
  have hl : lv_has ls 4 [(0, .ref ua), (1, .int i1), (2, .ref oa)] := hl
  clear hP hD0
  refine lv_aload_n hx hb dL_writeOff_0 rfl (lv_at hl 2 rfl) ?_
  refine lv_iconst (v := (0 : Int32)) hx hb dL_writeOff_1 (by decide) ?_
  refine lv_aload_n hx hb dL_writeOff_2 rfl (lv_at hl 0 rfl) ?_
  refine lv_iload_n hx hb dL_writeOff_3 rfl (lv_at hl 1 rfl) ?_
  refine g_xcut (As := [.int i1]) (rest := [.int 0, .ref oa]) (wc := cU cyI cyB cyO ua ub up aw as' pa β υ ω sid τs n) (wr := cO cyL oa lam) ⟨hx, hb, hml, hown, hts⟩ (kX3_writeOff l hl0 dC dI cyI cyB cyO ua ub up aw as' s.heap.size hf) (cwV 1 hts gqL_writeOff rfl rfl rfl (by decide +kernel) ⟨(Nat.le_of_ble_eq_true rfl), (Nat.le_of_ble_eq_true rfl)⟩) (xpre_left hEX hB hA (hK.sub [0, 1, 2] rfl) (.ref ua :: [.int i1])) hB hA (g_recv (ci := 3) hK hB 0 rfl rfl rfl) (List.Perm.refl _) rfl hl.1 rfl (Nat.le_of_ble_eq_true rfl) dL_writeOff_4 ⟨(Nat.le_of_ble_eq_true rfl), (Nat.le_of_ble_eq_true rfl)⟩ (fun E ce q9 H locs ho hB hc9 hv9 hcl9 => ?_) (fun r x H locs hpo hB => ?_)
  · subst ho
    have hE9 := hE E rfl
    simp only [List.mem_cons, List.not_mem_nil, or_false] at hE9
    rcases hE9 with rfl | rfl
    · refine g_catch hown hEX hNC [] ⟨0, 9, 12, 22⟩ [⟨0, 9, 15, 51⟩] ht0 [] (fun z hz => absurd hz List.not_mem_nil) (by decide) (by decide) (by decide) hq22 (by decide +kernel) hc9 hv9 hcl9 ?_
      refine lv_astore_n (lv' := [(3, .ref q9), (0, .ref ua), (1, .int i1), (2, .ref oa)]) hx hb dL_writeOff_12 rfl hl (by decide) rfl (fun ls hl => ?_)
      refine lv_iconst (v := (1 : Int32)) hx hb dL_writeOff_13 (by decide) ?_
      exact g_liret hx hb hr hlocks hK hB (by decide) (Nat.le_of_ble_eq_true rfl) (Nat.le_of_ble_eq_true rfl) dL_writeOff_14
    · refine g_catch hown hEX hNC [⟨0, 9, 12, 22⟩] ⟨0, 9, 15, 51⟩ [] ht0 ["java/lang/IndexOutOfBoundsException"] (fun z hz => by obtain rfl := List.mem_singleton.mp hz; exact ⟨by decide, _, List.mem_cons_self, hq22⟩) (by decide) (by decide) (by decide) hq51 (by decide +kernel) hc9 hv9 hcl9 ?_
      refine lv_astore_n (lv' := [(3, .ref q9), (0, .ref ua), (1, .int i1), (2, .ref oa)]) hx hb dL_writeOff_15 rfl hl (by decide) rfl (fun ls hl => ?_)
      refine lv_iconst (v := (2 : Int32)) hx hb dL_writeOff_16 (by decide) ?_
      exact g_liret hx hb hr hlocks hK hB (by decide) (Nat.le_of_ble_eq_true rfl) (Nat.le_of_ble_eq_true rfl) dL_writeOff_17
  · obtain ⟨ho, rfl⟩ := hpo
    subst ho
    refine lv_i2l hx hb dL_writeOff_7 rfl ?_
    refine g_ost hx hb hK hB 3 rfl dL_writeOff_8 (fun H locs hB => ?_)
    refine lv_goto (tgt := 18) hx hb dL_writeOff_9 (by decide) ?_
    refine lv_iconst (v := (0 : Int32)) hx hb dL_writeOff_18 (by decide) ?_
    exact g_liret hx hb hr hlocks hK hB rfl (Nat.le_of_ble_eq_true rfl) (Nat.le_of_ble_eq_true rfl) dL_writeOff_19

def wqL_goForward : List Cond := .codeWith yL_goForward cL_goForward 4 (some .int) [(0, 9, 12, 22), (0, 9, 15, 51)] :: ([Cond.classLink RL 22 "java/lang/IndexOutOfBoundsException", Cond.classLink RL 51 "java/lang/IllegalStateException"] ++ wsV RL 56 RX3 yX3_goForward wsX3_goForward)
set_option maxRecDepth 20000 in
theorem gqL_goForward : GoodIn wqL_goForward (wsV RL 56 RX3 yX3_goForward wsX3_goForward) := goodIn_sub (fun w h => List.mem_cons_of_mem _ (List.mem_append_right _ h)) (by decide +kernel)
set_option maxRecDepth 20000 in
theorem tqL_goForward : ∀ w ∈ wqL_goForward, w ∈ lw_tbl := List.forall_mem_cons.mpr ⟨tb4 68 rfl, List.forall_mem_append.mpr ⟨List.forall_mem_cons.mpr ⟨tb3 83 rfl, List.forall_mem_cons.mpr ⟨tb4 30 rfl, fun _ h => absurd h List.not_mem_nil⟩⟩, TgoForward_X3_goForward⟩⟩
abbrev rmL_goForward : Room := { frames := 8, cells := 2, slots := 12, locals := 160 }
set_option maxHeartbeats 4000000 in
set_option maxRecDepth 100000 in
theorem kL_goForward (l : Launch) (hl0 : l.stackTraces = false) (dC : Nat → ClassId) (dI : Nat → Nat → Nat) (cyI cyB cyO cyL : ClassId) (ua ub up oa : Nat) (aw as' : Nat → Nat → Nat) (lam : Nat → Int64) (sz : Nat) {fu : Nat} {τs : WS} {n : Nat} {pa : PA} {β : FS} {υ : MS} {ω : WS} {sid : PA} {i1 : Int32} {o : (String ⊕ (Int32 × PA × MS × WS × PA))} (hf : mX3_goForward fu τs n pa β υ ω sid i1 = some o) (hE : ∀ E, o = .inl E → E ∈ (["java/lang/IndexOutOfBoundsException", "java/lang/IllegalStateException"] : List String)) : Met l yL_goForward wqL_goForward rmL_goForward (PcV (dC, dI) [(cyI, .int), (cyB, .byte), (cyO, .object "UndoJourneys$World"), (cyL, .long)] (cU cyI cyB cyO ua ub up aw as' pa β υ ω sid τs n ++ cO cyL oa lam) sz [.ref ua, .int i1, .ref oa]) (QiF (dC, dI) [(cyI, .int), (cyB, .byte), (cyO, .object "UndoJourneys$World"), (cyL, .long)] (cU cyI cyB cyO ua ub up aw as' pa β υ ω sid τs n ++ cO cyL oa lam) (xU (cU cyI cyB cyO ua ub up aw as' pa β υ ω sid τs n) (fun x => (cU cyI cyB cyO ua ub up aw as' (x.2.1) β (x.2.2.1) (x.2.2.2.1) (x.2.2.2.2) τs n)) o ++ cO cyL oa (xL lam (fun x => (x.1)) o)) sz (xR ["java/lang/IndexOutOfBoundsException", "java/lang/IllegalStateException"] o)) 2 12 (va_A (cU cyI cyB cyO ua ub up aw as' pa β υ ω sid τs n ++ cO cyL oa lam) sz) := by
  refine va_MetW (cc := cL_goForward) (maxL := 4) (ret := (some .int)) (by decide) rfl ?_
  intro p e s m args below meth c s₁ B hml hv
  obtain ⟨rfl, ⟨hsz, hP, hK, hD0⟩, hEX, hNC⟩ := hv
  have hx := B.exec
  have hb := B.bytes
  have hr := B.returns
  have hts := atoms_spec (ws := wqL_goForward) B.pre
  have hown : s.vm.findClass RL = some m.cls := findClass_of_methodNamed B.named
  have hlocks := B.notSynchronized
  have ht0 := vx_table (x := yL_goForward) B (hts _ (List.mem_of_getElem? (i := 0) rfl))
  have hq22 : (Cond.classLink RL 22 "java/lang/IndexOutOfBoundsException").before _ s = true := hts _ (List.mem_of_getElem? (i := 1) rfl)
  have hq51 : (Cond.classLink RL 51 "java/lang/IllegalStateException").before _ s = true := hts _ (List.mem_of_getElem? (i := 2) rfl)
  subst hsz
  have hA : ∀ q : Nat, s.heap.size ≤ q → va_A (cU cyI cyB cyO ua ub up aw as' pa β υ ω sid τs n ++ cO cyL oa lam) s.heap.size q := fun q h => Or.inr h
  have hB : Bd (dC, dI) [(cyI, .int), (cyB, .byte), (cyO, .object "UndoJourneys$World"), (cyL, .long)] (va_A (cU cyI cyB cyO ua ub up aw as' pa β υ ω sid τs n ++ cO cyL oa lam) s.heap.size) s (cU cyI cyB cyO ua ub up aw as' pa β υ ω sid τs n ++ cO cyL oa lam) s.heap [] := ⟨hP, hD0.self, va_S.rf⟩
  have hl := lv_entry [.ref ua, .int i1, .ref oa] (n := 4) (Nat.le_of_ble_eq_true rfl)
  rw [lg_entry_eq]
  generalize (lg_sl [.ref ua, .int i1, .ref oa] ++ List.replicate (4 - (lg_sl [.ref ua, .int i1, .ref oa]).length) Slot.unset).toArray = ls at hl ⊢
  have hl : lv_has ls 4 [(0, .ref ua), (1, .int i1), (2, .ref oa)] := hl
  clear hP hD0
  refine lv_aload_n hx hb dL_goForward_0 rfl (lv_at hl 2 rfl) ?_
  refine lv_iconst (v := (0 : Int32)) hx hb dL_goForward_1 (by decide) ?_
  refine lv_aload_n hx hb dL_goForward_2 rfl (lv_at hl 0 rfl) ?_
  refine lv_iload_n hx hb dL_goForward_3 rfl (lv_at hl 1 rfl) ?_
  refine g_xcut (As := [.int i1]) (rest := [.int 0, .ref oa]) (wc := cU cyI cyB cyO ua ub up aw as' pa β υ ω sid τs n) (wr := cO cyL oa lam) ⟨hx, hb, hml, hown, hts⟩ (kX3_goForward l hl0 dC dI cyI cyB cyO ua ub up aw as' s.heap.size hf) (cwV 1 hts gqL_goForward rfl rfl rfl (by decide +kernel) ⟨(Nat.le_of_ble_eq_true rfl), (Nat.le_of_ble_eq_true rfl)⟩) (xpre_left hEX hB hA (hK.sub [0, 1, 2] rfl) (.ref ua :: [.int i1])) hB hA (g_recv (ci := 3) hK hB 0 rfl rfl rfl) (List.Perm.refl _) rfl hl.1 rfl (Nat.le_of_ble_eq_true rfl) dL_goForward_4 ⟨(Nat.le_of_ble_eq_true rfl), (Nat.le_of_ble_eq_true rfl)⟩ (fun E ce q9 H locs ho hB hc9 hv9 hcl9 => ?_) (fun r x H locs hpo hB => ?_)
  · subst ho
    have hE9 := hE E rfl
    simp only [List.mem_cons, List.not_mem_nil, or_false] at hE9
    rcases hE9 with rfl | rfl
    · refine g_catch hown hEX hNC [] ⟨0, 9, 12, 22⟩ [⟨0, 9, 15, 51⟩] ht0 [] (fun z hz => absurd hz List.not_mem_nil) (by decide) (by decide) (by decide) hq22 (by decide +kernel) hc9 hv9 hcl9 ?_
      refine lv_astore_n (lv' := [(3, .ref q9), (0, .ref ua), (1, .int i1), (2, .ref oa)]) hx hb dL_goForward_12 rfl hl (by decide) rfl (fun ls hl => ?_)
      refine lv_iconst (v := (1 : Int32)) hx hb dL_goForward_13 (by decide) ?_
      exact g_liret hx hb hr hlocks hK hB (by decide) (Nat.le_of_ble_eq_true rfl) (Nat.le_of_ble_eq_true rfl) dL_goForward_14
    · refine g_catch hown hEX hNC [⟨0, 9, 12, 22⟩] ⟨0, 9, 15, 51⟩ [] ht0 ["java/lang/IndexOutOfBoundsException"] (fun z hz => by obtain rfl := List.mem_singleton.mp hz; exact ⟨by decide, _, List.mem_cons_self, hq22⟩) (by decide) (by decide) (by decide) hq51 (by decide +kernel) hc9 hv9 hcl9 ?_
      refine lv_astore_n (lv' := [(3, .ref q9), (0, .ref ua), (1, .int i1), (2, .ref oa)]) hx hb dL_goForward_15 rfl hl (by decide) rfl (fun ls hl => ?_)
      refine lv_iconst (v := (2 : Int32)) hx hb dL_goForward_16 (by decide) ?_
      exact g_liret hx hb hr hlocks hK hB (by decide) (Nat.le_of_ble_eq_true rfl) (Nat.le_of_ble_eq_true rfl) dL_goForward_17
  · obtain ⟨ho, rfl⟩ := hpo
    subst ho
    refine lv_i2l hx hb dL_goForward_7 rfl ?_
    refine g_ost hx hb hK hB 3 rfl dL_goForward_8 (fun H locs hB => ?_)
    refine lv_goto (tgt := 18) hx hb dL_goForward_9 (by decide) ?_
    refine lv_iconst (v := (0 : Int32)) hx hb dL_goForward_18 (by decide) ?_
    exact g_liret hx hb hr hlocks hK hB rfl (Nat.le_of_ble_eq_true rfl) (Nat.le_of_ble_eq_true rfl) dL_goForward_19

def wqL_restock : List Cond := .codeWith yL_restock cL_restock 5 (some .int) [(0, 10, 13, 22), (0, 10, 17, 13)] :: ([Cond.classLink RL 22 "java/lang/IndexOutOfBoundsException", Cond.classLink RL 13 "java/lang/IllegalArgumentException"] ++ wsV RL 59 RX3 yX3_restock wsX3_restock)
set_option maxRecDepth 20000 in
theorem gqL_restock : GoodIn wqL_restock (wsV RL 59 RX3 yX3_restock wsX3_restock) := goodIn_sub (fun w h => List.mem_cons_of_mem _ (List.mem_append_right _ h)) (by decide +kernel)
set_option maxRecDepth 20000 in
theorem tqL_restock : ∀ w ∈ wqL_restock, w ∈ lw_tbl := List.forall_mem_cons.mpr ⟨tb4 83 rfl, List.forall_mem_append.mpr ⟨List.forall_mem_cons.mpr ⟨tb3 83 rfl, List.forall_mem_cons.mpr ⟨tb2 44 rfl, fun _ h => absurd h List.not_mem_nil⟩⟩, Trestock_X3_restock⟩⟩
abbrev rmL_restock : Room := { frames := 8, cells := 2, slots := 12, locals := 160 }
set_option maxHeartbeats 4000000 in
set_option maxRecDepth 100000 in
theorem kL_restock (l : Launch) (hl0 : l.stackTraces = false) (dC : Nat → ClassId) (dI : Nat → Nat → Nat) (cyI cyB cyO cyL : ClassId) (ua ub up oa : Nat) (aw as' : Nat → Nat → Nat) (lam : Nat → Int64) (sz : Nat) {fu : Nat} {τs : WS} {n : Nat} {pa : PA} {β : FS} {υ : MS} {ω : WS} {sid : PA} {i1 : Int32} {i2 : Int32} {o : (String ⊕ (Int32 × PA × MS × WS × PA))} (hf : mX3_restock fu τs n pa β υ ω sid i1 i2 = some o) (hE : ∀ E, o = .inl E → E ∈ (["java/lang/IndexOutOfBoundsException", "java/lang/IllegalArgumentException"] : List String)) : Met l yL_restock wqL_restock rmL_restock (PcV (dC, dI) [(cyI, .int), (cyB, .byte), (cyO, .object "UndoJourneys$World"), (cyL, .long)] (cU cyI cyB cyO ua ub up aw as' pa β υ ω sid τs n ++ cO cyL oa lam) sz [.ref ua, .int i1, .int i2, .ref oa]) (QiF (dC, dI) [(cyI, .int), (cyB, .byte), (cyO, .object "UndoJourneys$World"), (cyL, .long)] (cU cyI cyB cyO ua ub up aw as' pa β υ ω sid τs n ++ cO cyL oa lam) (xU (cU cyI cyB cyO ua ub up aw as' pa β υ ω sid τs n) (fun x => (cU cyI cyB cyO ua ub up aw as' (x.2.1) β (x.2.2.1) (x.2.2.2.1) (x.2.2.2.2) τs n)) o ++ cO cyL oa (xL lam (fun x => (x.1)) o)) sz (xR ["java/lang/IndexOutOfBoundsException", "java/lang/IllegalArgumentException"] o)) 2 12 (va_A (cU cyI cyB cyO ua ub up aw as' pa β υ ω sid τs n ++ cO cyL oa lam) sz) := by
  refine va_MetW (cc := cL_restock) (maxL := 5) (ret := (some .int)) (by decide) rfl ?_
  intro p e s m args below meth c s₁ B hml hv
  obtain ⟨rfl, ⟨hsz, hP, hK, hD0⟩, hEX, hNC⟩ := hv
  have hx := B.exec
  have hb := B.bytes
  have hr := B.returns
  have hts := atoms_spec (ws := wqL_restock) B.pre
  have hown : s.vm.findClass RL = some m.cls := findClass_of_methodNamed B.named
  have hlocks := B.notSynchronized
  have ht0 := vx_table (x := yL_restock) B (hts _ (List.mem_of_getElem? (i := 0) rfl))
  have hq22 : (Cond.classLink RL 22 "java/lang/IndexOutOfBoundsException").before _ s = true := hts _ (List.mem_of_getElem? (i := 1) rfl)
  have hq13 : (Cond.classLink RL 13 "java/lang/IllegalArgumentException").before _ s = true := hts _ (List.mem_of_getElem? (i := 2) rfl)
  subst hsz
  have hA : ∀ q : Nat, s.heap.size ≤ q → va_A (cU cyI cyB cyO ua ub up aw as' pa β υ ω sid τs n ++ cO cyL oa lam) s.heap.size q := fun q h => Or.inr h
  have hB : Bd (dC, dI) [(cyI, .int), (cyB, .byte), (cyO, .object "UndoJourneys$World"), (cyL, .long)] (va_A (cU cyI cyB cyO ua ub up aw as' pa β υ ω sid τs n ++ cO cyL oa lam) s.heap.size) s (cU cyI cyB cyO ua ub up aw as' pa β υ ω sid τs n ++ cO cyL oa lam) s.heap [] := ⟨hP, hD0.self, va_S.rf⟩
  have hl := lv_entry [.ref ua, .int i1, .int i2, .ref oa] (n := 5) (Nat.le_of_ble_eq_true rfl)
  rw [lg_entry_eq]
  generalize (lg_sl [.ref ua, .int i1, .int i2, .ref oa] ++ List.replicate (5 - (lg_sl [.ref ua, .int i1, .int i2, .ref oa]).length) Slot.unset).toArray = ls at hl ⊢
  have hl : lv_has ls 5 [(0, .ref ua), (1, .int i1), (2, .int i2), (3, .ref oa)] := hl
  clear hP hD0
  refine lv_aload_n hx hb dL_restock_0 rfl (lv_at hl 3 rfl) ?_
  refine lv_iconst (v := (0 : Int32)) hx hb dL_restock_1 (by decide) ?_
  refine lv_aload_n hx hb dL_restock_2 rfl (lv_at hl 0 rfl) ?_
  refine lv_iload_n hx hb dL_restock_3 rfl (lv_at hl 1 rfl) ?_
  refine lv_iload_n hx hb dL_restock_4 rfl (lv_at hl 2 rfl) ?_
  refine g_xcut (As := [.int i1, .int i2]) (rest := [.int 0, .ref oa]) (wc := cU cyI cyB cyO ua ub up aw as' pa β υ ω sid τs n) (wr := cO cyL oa lam) ⟨hx, hb, hml, hown, hts⟩ (kX3_restock l hl0 dC dI cyI cyB cyO ua ub up aw as' s.heap.size hf) (cwV 2 hts gqL_restock rfl rfl rfl (by decide +kernel) ⟨(Nat.le_of_ble_eq_true rfl), (Nat.le_of_ble_eq_true rfl)⟩) (xpre_left hEX hB hA (hK.sub [0, 1, 2] rfl) (.ref ua :: [.int i1, .int i2])) hB hA (g_recv (ci := 3) hK hB 0 rfl rfl rfl) (List.Perm.refl _) rfl hl.1 rfl (Nat.le_of_ble_eq_true rfl) dL_restock_5 ⟨(Nat.le_of_ble_eq_true rfl), (Nat.le_of_ble_eq_true rfl)⟩ (fun E ce q9 H locs ho hB hc9 hv9 hcl9 => ?_) (fun r x H locs hpo hB => ?_)
  · subst ho
    have hE9 := hE E rfl
    simp only [List.mem_cons, List.not_mem_nil, or_false] at hE9
    rcases hE9 with rfl | rfl
    · refine g_catch hown hEX hNC [] ⟨0, 10, 13, 22⟩ [⟨0, 10, 17, 13⟩] ht0 [] (fun z hz => absurd hz List.not_mem_nil) (by decide) (by decide) (by decide) hq22 (by decide +kernel) hc9 hv9 hcl9 ?_
      refine lv_astore (lv' := [(4, .ref q9), (0, .ref ua), (1, .int i1), (2, .int i2), (3, .ref oa)]) hx hb dL_restock_13 hl (by decide) rfl (fun ls hl => ?_)
      refine lv_iconst (v := (1 : Int32)) hx hb dL_restock_15 (by decide) ?_
      exact g_liret hx hb hr hlocks hK hB (by decide) (Nat.le_of_ble_eq_true rfl) (Nat.le_of_ble_eq_true rfl) dL_restock_16
    · refine g_catch hown hEX hNC [⟨0, 10, 13, 22⟩] ⟨0, 10, 17, 13⟩ [] ht0 ["java/lang/IndexOutOfBoundsException"] (fun z hz => by obtain rfl := List.mem_singleton.mp hz; exact ⟨by decide, _, List.mem_cons_self, hq22⟩) (by decide) (by decide) (by decide) hq13 (by decide +kernel) hc9 hv9 hcl9 ?_
      refine lv_astore (lv' := [(4, .ref q9), (0, .ref ua), (1, .int i1), (2, .int i2), (3, .ref oa)]) hx hb dL_restock_17 hl (by decide) rfl (fun ls hl => ?_)
      refine lv_iconst (v := (2 : Int32)) hx hb dL_restock_19 (by decide) ?_
      exact g_liret hx hb hr hlocks hK hB (by decide) (Nat.le_of_ble_eq_true rfl) (Nat.le_of_ble_eq_true rfl) dL_restock_20
  · obtain ⟨ho, rfl⟩ := hpo
    subst ho
    refine lv_i2l hx hb dL_restock_8 rfl ?_
    refine g_ost hx hb hK hB 3 rfl dL_restock_9 (fun H locs hB => ?_)
    refine lv_goto (tgt := 21) hx hb dL_restock_10 (by decide) ?_
    refine lv_iconst (v := (0 : Int32)) hx hb dL_restock_21 (by decide) ?_
    exact g_liret hx hb hr hlocks hK hB rfl (Nat.le_of_ble_eq_true rfl) (Nat.le_of_ble_eq_true rfl) dL_restock_22
