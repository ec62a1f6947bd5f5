/-! the wrappers -/
abbrev rmL_load : Room := { frames := 10, cells := 14, slots := 312, locals := 299 }
set_option maxHeartbeats 4000000 in
set_option maxRecDepth 100000 in
theorem kL_load (l : Launch) (hl0 : l.stackTraces = false) (dC : Nat → ClassId) (dI : Nat → Nat → Nat) (cyI cyB cyO cyA cyT cyW cyZ : ClassId) (ua ub up : Nat) (aw as' : Nat → Nat → Nat) (kS : Nat → Nat) (sz : Nat) {fu : Nat} {τs : WS} {n : Nat} {pa : PA} {β : FS} {υ : MS} {ω : WS} {sid : PA} {i1 : Int32} {o : String ⊕ (Int32 × PA × MS × WS × PA × WS × Nat)} (hf : mX3_load fu τs n pa β υ ω sid i1 = some o) (hE : ∀ E, o = .inl E → E ∈ (["java/lang/IllegalArgumentException"] : List String)) : Met l yL_load wqL_load rmL_load (PcE (dC, dI) [(cyI, .int), (cyB, .byte), (cyO, .object "UndoJourneys$World"), (cyA, .array .int), (cyT, .object "UndoJourneysLaw$Trip"), (cyW, .object "UndoJourneysLaw$World"), (cyZ, .boolean)] kS (cU cyI cyB cyO ua ub up aw as' pa β υ ω sid τs n) sz [.ref ua, .int i1]) (va_Qi (fun r (_ : Nat → Nat → Nat) => r = xE [("java/lang/IllegalArgumentException", (-2000000098 : Int32))] (fun x => x.1) o) (fun x t => BX (dC, dI) [(cyI, .int), (cyB, .byte), (cyO, .object "UndoJourneys$World"), (cyA, .array .int), (cyT, .object "UndoJourneysLaw$Trip"), (cyW, .object "UndoJourneysLaw$World"), (cyZ, .boolean)] (cU cyI cyB cyO ua ub up aw as' pa β υ ω sid τs n) ((fun u : Nat → Nat → Nat => xU (cU cyI cyB cyO ua ub up aw as' pa β υ ω sid τs n) (fun x => ((fun x (as2 : Nat → Nat → Nat) => cU cyI cyB cyO ua ub up aw as2 x.2.1 β x.2.2.1 x.2.2.2.1 x.2.2.2.2.1 x.2.2.2.2.2.1 x.2.2.2.2.2.2)) x u) o) x) sz t) (va_A (cU cyI cyB cyO ua ub up aw as' pa β υ ω sid τs n) sz)) 14 312 (va_A (cU cyI cyB cyO ua ub up aw as' pa β υ ω sid τs n) sz) := by
  refine va_MetW (cc := cL_load) (maxL := 3) (ret := (some .int)) (by decide) rfl ?_
  intro p e s m args below meth c s₁ B hml hv
  obtain ⟨rfl, ⟨hsz, hP, hK, hD0⟩, hEV⟩ := hv
  obtain ⟨hEX, hNC, hJ, hNw, -⟩ := hEV
  have hx := B.exec
  have hb := B.bytes
  have hr := B.returns
  have hts := atoms_spec (ws := wqL_load) B.pre
  have hown : s.vm.findClass RL = some m.cls := findClass_of_methodNamed B.named
  have hlocks := B.notSynchronized
  have ht0 := vx_table (x := yL_load) B (hts _ List.mem_cons_self)
  have hg9 : ∀ w ∈ gw_tbl, w.before _ s = true := fun w h => hts w (List.mem_cons_of_mem _ h)
  have hq40 : (Cond.classLink RL 40 "java/lang/IllegalArgumentException").before _ s = true := hg9 _ (gwt (tb2 150 rfl) (by decide +kernel))
  have hq42 : (Cond.constant RL 42 (-2000000098)).before _ s = true := hg9 _ (gwt (tb3 175 rfl) (by decide +kernel))
  subst hsz
  have hA : ∀ q : Nat, s.heap.size ≤ q → va_A (cU cyI cyB cyO ua ub up aw as' pa β υ ω sid τs n) s.heap.size q := fun q h => Or.inr h
  have hB : Bd (dC, dI) [(cyI, .int), (cyB, .byte), (cyO, .object "UndoJourneys$World"), (cyA, .array .int), (cyT, .object "UndoJourneysLaw$Trip"), (cyW, .object "UndoJourneysLaw$World"), (cyZ, .boolean)] (va_A (cU cyI cyB cyO ua ub up aw as' pa β υ ω sid τs n) s.heap.size) s (cU cyI cyB cyO ua ub up aw as' pa β υ ω sid τs n) s.heap [] := ⟨hP, hD0.self, va_S.rf⟩
  have hB : Bd (dC, dI) [(cyI, .int), (cyB, .byte), (cyO, .object "UndoJourneys$World"), (cyA, .array .int), (cyT, .object "UndoJourneysLaw$Trip"), (cyW, .object "UndoJourneysLaw$World"), (cyZ, .boolean)] (va_A (cU cyI cyB cyO ua ub up aw as' pa β υ ω sid τs n) s.heap.size) s (cU cyI cyB cyO ua ub up aw as' pa β υ ω sid τs n ++ []) s.heap [] := hB.perm (List.Perm.of_eq (List.append_nil _).symm)
  have hl := lv_entry [.ref ua, .int i1] (n := 3) (Nat.le_of_ble_eq_true rfl)
  rw [lg_entry_eq]
  generalize (lg_sl [.ref ua, .int i1] ++ List.replicate (3 - (lg_sl [.ref ua, .int i1]).length) Slot.unset).toArray = ls at hl ⊢
  have hl : lv_has ls 3 [(0, .ref ua), (1, .int i1)] := hl
  clear hP hD0
  refine lv_aload_n hx hb dL_load_0 rfl (lv_at hl 0 rfl) ?_
  refine lv_iload_n hx hb dL_load_1 rfl (lv_at hl 1 rfl) ?_
  refine g_xcut (As := [.int i1]) (rest := []) (wc := cU cyI cyB cyO ua ub up aw as' pa β υ ω sid τs n) (wr := []) ⟨hx, hb, hml, hown, hts⟩ (kX3_load l hl0 dC dI cyI cyB cyO ua ub up aw as' kS s.heap.size hf) (cwV 1 hts (gv_X3_load_37 (fun w h => List.mem_cons_of_mem _ h)) rfl rfl rfl (by decide +kernel) ⟨(Nat.le_of_ble_eq_true rfl), (Nat.le_of_ble_eq_true rfl)⟩) (lpre_left hEX hJ hNw hB hA (hK.sub [0, 1, 2] rfl) (.ref ua :: [.int i1])) hB hA (g_recv (ci := 3) hK hB 0 rfl rfl rfl) (List.Perm.refl _) rfl hl.1 rfl (Nat.le_of_ble_eq_true rfl) dL_load_2 ⟨(Nat.le_of_ble_eq_true rfl), (Nat.le_of_ble_eq_true rfl)⟩ (fun E ce q9 H locs ho hB hc9 hv9 hcl9 => ?_) (fun r x H locs hpo hB => ?_)
  · subst ho
    have hB := hB.perm (List.Perm.of_eq (List.append_nil _))
    have hE9 := hE E rfl
    obtain rfl := List.mem_singleton.mp hE9
    refine g_catch hown hEX hNC [] ⟨0, 5, 6, 40⟩ [] ht0 [] (fun z hz => absurd hz List.not_mem_nil) (by decide) (by decide) (by decide) hq40 (by decide +kernel) hc9 hv9 hcl9 ?_
    refine lv_astore_n (lv' := [(2, .ref q9), (0, .ref ua), (1, .int i1)]) hx hb dL_load_6 rfl hl (by decide) rfl (fun ls hl => ?_)
    refine lv_ldc (v := (-2000000098 : Int32)) hx hb hown hq42 dL_load_7 ?_
    exact g_liretY (u := as') hx hb hr hlocks hK hB (by decide) (Nat.le_of_ble_eq_true rfl) (Nat.le_of_ble_eq_true rfl) dL_load_9
  · obtain ⟨ho, rfl⟩ := hpo
    obtain ⟨x, u⟩ := x
    dsimp only at ho hB ⊢
    subst ho
    have hB := hB.perm (List.Perm.of_eq (List.append_nil _))
    exact g_liretY (u := u) hx hb hr hlocks hK hB rfl (Nat.le_of_ble_eq_true rfl) (Nat.le_of_ble_eq_true rfl) dL_load_5

abbrev rmL_state : Room := { frames := 8, cells := 1, slots := 6, locals := 160 }
set_option maxHeartbeats 4000000 in
set_option maxRecDepth 100000 in
theorem kL_state (l : Launch) (hl0 : l.stackTraces = false) (dC : Nat → ClassId) (dI : Nat → Nat → Nat) (cyI cyB cyO cyA cyT cyW cyZ : ClassId) (ua ub up : Nat) (aw as' : Nat → Nat → Nat) (kS : Nat → Nat) (sz : Nat) {fu : Nat} {τs : WS} {n : Nat} {pa : PA} {β : FS} {υ : MS} {ω : WS} {sid : PA} {i1 : Int32} {o : (String ⊕ Int32)} (hf : mX3_state fu τs n pa β υ ω sid i1 = some o) (hE : ∀ E, o = .inl E → E ∈ (["java/lang/IllegalArgumentException"] : List String)) : Met l yL_state wqL_state rmL_state (PcE (dC, dI) [(cyI, .int), (cyB, .byte), (cyO, .object "UndoJourneys$World"), (cyA, .array .int), (cyT, .object "UndoJourneysLaw$Trip"), (cyW, .object "UndoJourneysLaw$World"), (cyZ, .boolean)] kS (cU cyI cyB cyO ua ub up aw as' pa β υ ω sid τs n) sz [.ref ua, .int i1]) (QiF (dC, dI) [(cyI, .int), (cyB, .byte), (cyO, .object "UndoJourneys$World"), (cyA, .array .int), (cyT, .object "UndoJourneysLaw$Trip"), (cyW, .object "UndoJourneysLaw$World"), (cyZ, .boolean)] (cU cyI cyB cyO ua ub up aw as' pa β υ ω sid τs n) (xU (cU cyI cyB cyO ua ub up aw as' pa β υ ω sid τs n) (fun x => (cU cyI cyB cyO ua ub up aw as' pa β υ ω sid τs n)) o) sz (xE [("java/lang/IllegalArgumentException", (-2000000098 : Int32))] (fun x => x) o)) 1 6 (va_A (cU cyI cyB cyO ua ub up aw as' pa β υ ω sid τs n) sz) := by
  refine va_MetW (cc := cL_state) (maxL := 3) (ret := (some .int)) (by decide) rfl ?_
  intro p e s m args below meth c s₁ B hml hv
  obtain ⟨rfl, ⟨hsz, hP, hK, hD0⟩, hEV⟩ := hv
  obtain ⟨hEX, hNC, hJ, hNw, -⟩ := hEV
  have hx := B.exec
  have hb := B.bytes
  have hr := B.returns
  have hts := atoms_spec (ws := wqL_state) B.pre
  have hown : s.vm.findClass RL = some m.cls := findClass_of_methodNamed B.named
  have hlocks := B.notSynchronized
  have ht0 := vx_table (x := yL_state) B (hts _ List.mem_cons_self)
  have hg9 : ∀ w ∈ gw_tbl, w.before _ s = true := fun w h => hts w (List.mem_cons_of_mem _ h)
  have hq40 : (Cond.classLink RL 40 "java/lang/IllegalArgumentException").before _ s = true := hg9 _ (gwt (tb2 150 rfl) (by decide +kernel))
  have hq42 : (Cond.constant RL 42 (-2000000098)).before _ s = true := hg9 _ (gwt (tb3 175 rfl) (by decide +kernel))
  subst hsz
  have hA : ∀ q : Nat, s.heap.size ≤ q → va_A (cU cyI cyB cyO ua ub up aw as' pa β υ ω sid τs n) s.heap.size q := fun q h => Or.inr h
  have hB : Bd (dC, dI) [(cyI, .int), (cyB, .byte), (cyO, .object "UndoJourneys$World"), (cyA, .array .int), (cyT, .object "UndoJourneysLaw$Trip"), (cyW, .object "UndoJourneysLaw$World"), (cyZ, .boolean)] (va_A (cU cyI cyB cyO ua ub up aw as' pa β υ ω sid τs n) s.heap.size) s (cU cyI cyB cyO ua ub up aw as' pa β υ ω sid τs n) s.heap [] := ⟨hP, hD0.self, va_S.rf⟩
  have hB : Bd (dC, dI) [(cyI, .int), (cyB, .byte), (cyO, .object "UndoJourneys$World"), (cyA, .array .int), (cyT, .object "UndoJourneysLaw$Trip"), (cyW, .object "UndoJourneysLaw$World"), (cyZ, .boolean)] (va_A (cU cyI cyB cyO ua ub up aw as' pa β υ ω sid τs n) s.heap.size) s (cU cyI cyB cyO ua ub up aw as' pa β υ ω sid τs n ++ []) s.heap [] := hB.perm (List.Perm.of_eq (List.append_nil _).symm)
  have hl := lv_entry [.ref ua, .int i1] (n := 3) (Nat.le_of_ble_eq_true rfl)
  rw [lg_entry_eq]
  generalize (lg_sl [.ref ua, .int i1] ++ List.replicate (3 - (lg_sl [.ref ua, .int i1]).length) Slot.unset).toArray = ls at hl ⊢
  have hl : lv_has ls 3 [(0, .ref ua), (1, .int i1)] := hl
  clear hP hD0
  refine lv_aload_n hx hb dL_state_0 rfl (lv_at hl 0 rfl) ?_
  refine lv_iload_n hx hb dL_state_1 rfl (lv_at hl 1 rfl) ?_
  refine g_xcut (As := [.int i1]) (rest := []) (wc := cU cyI cyB cyO ua ub up aw as' pa β υ ω sid τs n) (wr := []) ⟨hx, hb, hml, hown, hts⟩ (kX3_state l hl0 dC dI cyI cyB cyO ua ub up aw as' s.heap.size hf) (cwV 1 hts (gv_X3_state_43 (fun w h => List.mem_cons_of_mem _ h)) rfl rfl rfl (by decide +kernel) ⟨(Nat.le_of_ble_eq_true rfl), (Nat.le_of_ble_eq_true rfl)⟩) (xpre_left hEX hB hA (hK.sub [0, 1, 2] rfl) (.ref ua :: [.int i1])) hB hA (g_recv (ci := 3) hK hB 0 rfl rfl rfl) (List.Perm.refl _) rfl hl.1 rfl (Nat.le_of_ble_eq_true rfl) dL_state_2 ⟨(Nat.le_of_ble_eq_true rfl), (Nat.le_of_ble_eq_true rfl)⟩ (fun E ce q9 H locs ho hB hc9 hv9 hcl9 => ?_) (fun r x H locs hpo hB => ?_)
  · subst ho
    have hB := hB.perm (List.Perm.of_eq (List.append_nil _))
    have hE9 := hE E rfl
    obtain rfl := List.mem_singleton.mp hE9
    refine g_catch hown hEX hNC [] ⟨0, 5, 6, 40⟩ [] ht0 [] (fun z hz => absurd hz List.not_mem_nil) (by decide) (by decide) (by decide) hq40 (by decide +kernel) hc9 hv9 hcl9 ?_
    refine lv_astore_n (lv' := [(2, .ref q9), (0, .ref ua), (1, .int i1)]) hx hb dL_state_6 rfl hl (by decide) rfl (fun ls hl => ?_)
    refine lv_ldc (v := (-2000000098 : Int32)) hx hb hown hq42 dL_state_7 ?_
    exact g_liret hx hb hr hlocks hK hB (by decide) (Nat.le_of_ble_eq_true rfl) (Nat.le_of_ble_eq_true rfl) dL_state_9
  · obtain ⟨ho, rfl⟩ := hpo
    subst ho
    have hB := hB.perm (List.Perm.of_eq (List.append_nil _))
    exact g_liret hx hb hr hlocks hK hB rfl (Nat.le_of_ble_eq_true rfl) (Nat.le_of_ble_eq_true rfl) dL_state_5

abbrev rmL_stock : Room := { frames := 8, cells := 2, slots := 12, locals := 160 }
set_option maxHeartbeats 4000000 in
set_option maxRecDepth 100000 in
theorem kL_stock (l : Launch) (hl0 : l.stackTraces = false) (dC : Nat → ClassId) (dI : Nat → Nat → Nat) (cyI cyB cyO cyA cyT cyW cyZ : ClassId) (ua ub up : Nat) (aw as' : Nat → Nat → Nat) (kS : Nat → Nat) (sz : Nat) {fu : Nat} {τs : WS} {n : Nat} {pa : PA} {β : FS} {υ : MS} {ω : WS} {sid : PA} {i1 : Int32} {i2 : Int32} {o : (String ⊕ Int32)} (hf : mX3_stock fu τs n pa β υ ω sid i1 i2 = some o) (hE : ∀ E, o = .inl E → E ∈ (["java/lang/IndexOutOfBoundsException", "java/lang/IllegalArgumentException"] : List String)) : Met l yL_stock wqL_stock rmL_stock (PcE (dC, dI) [(cyI, .int), (cyB, .byte), (cyO, .object "UndoJourneys$World"), (cyA, .array .int), (cyT, .object "UndoJourneysLaw$Trip"), (cyW, .object "UndoJourneysLaw$World"), (cyZ, .boolean)] kS (cU cyI cyB cyO ua ub up aw as' pa β υ ω sid τs n) sz [.ref ua, .int i1, .int i2]) (QiF (dC, dI) [(cyI, .int), (cyB, .byte), (cyO, .object "UndoJourneys$World"), (cyA, .array .int), (cyT, .object "UndoJourneysLaw$Trip"), (cyW, .object "UndoJourneysLaw$World"), (cyZ, .boolean)] (cU cyI cyB cyO ua ub up aw as' pa β υ ω sid τs n) (xU (cU cyI cyB cyO ua ub up aw as' pa β υ ω sid τs n) (fun x => (cU cyI cyB cyO ua ub up aw as' pa β υ ω sid τs n)) o) sz (xE [("java/lang/IndexOutOfBoundsException", (-2000000097 : Int32)), ("java/lang/IllegalArgumentException", (-2000000098 : Int32))] (fun x => x) o)) 2 12 (va_A (cU cyI cyB cyO ua ub up aw as' pa β υ ω sid τs n) sz) := by
  refine va_MetW (cc := cL_stock) (maxL := 4) (ret := (some .int)) (by decide) rfl ?_
  intro p e s m args below meth c s₁ B hml hv
  obtain ⟨rfl, ⟨hsz, hP, hK, hD0⟩, hEV⟩ := hv
  obtain ⟨hEX, hNC, hJ, hNw, -⟩ := hEV
  have hx := B.exec
  have hb := B.bytes
  have hr := B.returns
  have hts := atoms_spec (ws := wqL_stock) B.pre
  have hown : s.vm.findClass RL = some m.cls := findClass_of_methodNamed B.named
  have hlocks := B.notSynchronized
  have ht0 := vx_table (x := yL_stock) B (hts _ List.mem_cons_self)
  have hg9 : ∀ w ∈ gw_tbl, w.before _ s = true := fun w h => hts w (List.mem_cons_of_mem _ h)
  have hq50 : (Cond.classLink RL 50 "java/lang/IndexOutOfBoundsException").before _ s = true := hg9 _ (gwt (tb3 179 rfl) (by decide +kernel))
  have hq40 : (Cond.classLink RL 40 "java/lang/IllegalArgumentException").before _ s = true := hg9 _ (gwt (tb2 150 rfl) (by decide +kernel))
  have hq42 : (Cond.constant RL 42 (-2000000098)).before _ s = true := hg9 _ (gwt (tb3 175 rfl) (by decide +kernel))
  have hq52 : (Cond.constant RL 52 (-2000000097)).before _ s = true := hg9 _ (gwt (tb3 225 rfl) (by decide +kernel))
  subst hsz
  have hA : ∀ q : Nat, s.heap.size ≤ q → va_A (cU cyI cyB cyO ua ub up aw as' pa β υ ω sid τs n) s.heap.size q := fun q h => Or.inr h
  have hB : Bd (dC, dI) [(cyI, .int), (cyB, .byte), (cyO, .object "UndoJourneys$World"), (cyA, .array .int), (cyT, .object "UndoJourneysLaw$Trip"), (cyW, .object "UndoJourneysLaw$World"), (cyZ, .boolean)] (va_A (cU cyI cyB cyO ua ub up aw as' pa β υ ω sid τs n) s.heap.size) s (cU cyI cyB cyO ua ub up aw as' pa β υ ω sid τs n) s.heap [] := ⟨hP, hD0.self, va_S.rf⟩
  have hB : Bd (dC, dI) [(cyI, .int), (cyB, .byte), (cyO, .object "UndoJourneys$World"), (cyA, .array .int), (cyT, .object "UndoJourneysLaw$Trip"), (cyW, .object "UndoJourneysLaw$World"), (cyZ, .boolean)] (va_A (cU cyI cyB cyO ua ub up aw as' pa β υ ω sid τs n) s.heap.size) s (cU cyI cyB cyO ua ub up aw as' pa β υ ω sid τs n ++ []) s.heap [] := hB.perm (List.Perm.of_eq (List.append_nil _).symm)
  have hl := lv_entry [.ref ua, .int i1, .int i2] (n := 4) (Nat.le_of_ble_eq_true rfl)
  rw [lg_entry_eq]
  generalize (lg_sl [.ref ua, .int i1, .int i2] ++ List.replicate (4 - (lg_sl [.ref ua, .int i1, .int i2]).length) Slot.unset).toArray = ls at hl ⊢
  have hl : lv_has ls 4 [(0, .ref ua), (1, .int i1), (2, .int i2)] := hl
  clear hP hD0
  refine lv_aload_n hx hb dL_stock_0 rfl (lv_at hl 0 rfl) ?_
  refine lv_iload_n hx hb dL_stock_1 rfl (lv_at hl 1 rfl) ?_
  refine lv_iload_n hx hb dL_stock_2 rfl (lv_at hl 2 rfl) ?_
  refine g_xcut (As := [.int i1, .int i2]) (rest := []) (wc := cU cyI cyB cyO ua ub up aw as' pa β υ ω sid τs n) (wr := []) ⟨hx, hb, hml, hown, hts⟩ (kX3_stock l hl0 dC dI cyI cyB cyO ua ub up aw as' s.heap.size hf) (cwV 2 hts (gv_X3_stock_46 (fun w h => List.mem_cons_of_mem _ h)) rfl rfl rfl (by decide +kernel) ⟨(Nat.le_of_ble_eq_true rfl), (Nat.le_of_ble_eq_true rfl)⟩) (xpre_left hEX hB hA (hK.sub [0, 1, 2] rfl) (.ref ua :: [.int i1, .int i2])) hB hA (g_recv (ci := 3) hK hB 0 rfl rfl rfl) (List.Perm.refl _) rfl hl.1 rfl (Nat.le_of_ble_eq_true rfl) dL_stock_3 ⟨(Nat.le_of_ble_eq_true rfl), (Nat.le_of_ble_eq_true rfl)⟩ (fun E ce q9 H locs ho hB hc9 hv9 hcl9 => ?_) (fun r x H locs hpo hB => ?_)
  · subst ho
    have hB := hB.perm (List.Perm.of_eq (List.append_nil _))
    have hE9 := hE E rfl
    simp only [List.mem_cons, List.not_mem_nil, or_false] at hE9
    rcases hE9 with rfl | rfl
    · refine g_catch hown hEX hNC [] ⟨0, 6, 7, 50⟩ [⟨0, 6, 11, 40⟩] ht0 [] (fun z hz => absurd hz List.not_mem_nil) (by decide) (by decide) (by decide) hq50 (by decide +kernel) hc9 hv9 hcl9 ?_
      refine lv_astore_n (lv' := [(3, .ref q9), (0, .ref ua), (1, .int i1), (2, .int i2)]) hx hb dL_stock_7 rfl hl (by decide) rfl (fun ls hl => ?_)
      refine lv_ldc (v := (-2000000097 : Int32)) hx hb hown hq52 dL_stock_8 ?_
      exact g_liret hx hb hr hlocks hK hB (by decide) (Nat.le_of_ble_eq_true rfl) (Nat.le_of_ble_eq_true rfl) dL_stock_10
    · refine g_catch hown hEX hNC [⟨0, 6, 7, 50⟩] ⟨0, 6, 11, 40⟩ [] ht0 ["java/lang/IndexOutOfBoundsException"] (fun z hz => by obtain rfl := List.mem_singleton.mp hz; exact ⟨by decide, _, List.mem_cons_self, hq50⟩) (by decide) (by decide) (by decide) hq40 (by decide +kernel) hc9 hv9 hcl9 ?_
      refine lv_astore_n (lv' := [(3, .ref q9), (0, .ref ua), (1, .int i1), (2, .int i2)]) hx hb dL_stock_11 rfl hl (by decide) rfl (fun ls hl => ?_)
      refine lv_ldc (v := (-2000000098 : Int32)) hx hb hown hq42 dL_stock_12 ?_
      exact g_liret hx hb hr hlocks hK hB (by decide) (Nat.le_of_ble_eq_true rfl) (Nat.le_of_ble_eq_true rfl) dL_stock_14
  · obtain ⟨ho, rfl⟩ := hpo
    subst ho
    have hB := hB.perm (List.Perm.of_eq (List.append_nil _))
    exact g_liret hx hb hr hlocks hK hB rfl (Nat.le_of_ble_eq_true rfl) (Nat.le_of_ble_eq_true rfl) dL_stock_6

abbrev rmL_journey : Room := { frames := 8, cells := 2, slots := 12, locals := 160 }
set_option maxHeartbeats 4000000 in
set_option maxRecDepth 100000 in
theorem kL_journey (l : Launch) (hl0 : l.stackTraces = false) (dC : Nat → ClassId) (dI : Nat → Nat → Nat) (cyI cyB cyO cyA cyT cyW cyZ : ClassId) (ua ub up : Nat) (aw as' : Nat → Nat → Nat) (kS : Nat → Nat) (sz : Nat) {fu : Nat} {τs : WS} {n : Nat} {pa : PA} {β : FS} {υ : MS} {ω : WS} {sid : PA} {i1 : Int32} {i2 : Int32} {o : (String ⊕ Int32)} (hf : mX3_journey fu τs n pa β υ ω sid i1 i2 = some o) (hE : ∀ E, o = .inl E → E ∈ (["java/lang/IndexOutOfBoundsException", "java/lang/IllegalArgumentException"] : List String)) : Met l yL_journey wqL_journey rmL_journey (PcE (dC, dI) [(cyI, .int), (cyB, .byte), (cyO, .object "UndoJourneys$World"), (cyA, .array .int), (cyT, .object "UndoJourneysLaw$Trip"), (cyW, .object "UndoJourneysLaw$World"), (cyZ, .boolean)] kS (cU cyI cyB cyO ua ub up aw as' pa β υ ω sid τs n) sz [.ref ua, .int i1, .int i2]) (QiF (dC, dI) [(cyI, .int), (cyB, .byte), (cyO, .object "UndoJourneys$World"), (cyA, .array .int), (cyT, .object "UndoJourneysLaw$Trip"), (cyW, .object "UndoJourneysLaw$World"), (cyZ, .boolean)] (cU cyI cyB cyO ua ub up aw as' pa β υ ω sid τs n) (xU (cU cyI cyB cyO ua ub up aw as' pa β υ ω sid τs n) (fun x => (cU cyI cyB cyO ua ub up aw as' pa β υ ω sid τs n)) o) sz (xE [("java/lang/IndexOutOfBoundsException", (-2000000097 : Int32)), ("java/lang/IllegalArgumentException", (-2000000098 : Int32))] (fun x => x) o)) 2 12 (va_A (cU cyI cyB cyO ua ub up aw as' pa β υ ω sid τs n) sz) := by
  refine va_MetW (cc := cL_journey) (maxL := 4) (ret := (some .int)) (by decide) rfl ?_
  intro p e s m args below meth c s₁ B hml hv
  obtain ⟨rfl, ⟨hsz, hP, hK, hD0⟩, hEV⟩ := hv
  obtain ⟨hEX, hNC, hJ, hNw, -⟩ := hEV
  have hx := B.exec
  have hb := B.bytes
  have hr := B.returns
  have hts := atoms_spec (ws := wqL_journey) B.pre
  have hown : s.vm.findClass RL = some m.cls := findClass_of_methodNamed B.named
  have hlocks := B.notSynchronized
  have ht0 := vx_table (x := yL_journey) B (hts _ List.mem_cons_self)
  have hg9 : ∀ w ∈ gw_tbl, w.before _ s = true := fun w h => hts w (List.mem_cons_of_mem _ h)
  have hq50 : (Cond.classLink RL 50 "java/lang/IndexOutOfBoundsException").before _ s = true := hg9 _ (gwt (tb3 179 rfl) (by decide +kernel))
  have hq40 : (Cond.classLink RL 40 "java/lang/IllegalArgumentException").before _ s = true := hg9 _ (gwt (tb2 150 rfl) (by decide +kernel))
  have hq42 : (Cond.constant RL 42 (-2000000098)).before _ s = true := hg9 _ (gwt (tb3 175 rfl) (by decide +kernel))
  have hq52 : (Cond.constant RL 52 (-2000000097)).before _ s = true := hg9 _ (gwt (tb3 225 rfl) (by decide +kernel))
  subst hsz
  have hA : ∀ q : Nat, s.heap.size ≤ q → va_A (cU cyI cyB cyO ua ub up aw as' pa β υ ω sid τs n) s.heap.size q := fun q h => Or.inr h
  have hB : Bd (dC, dI) [(cyI, .int), (cyB, .byte), (cyO, .object "UndoJourneys$World"), (cyA, .array .int), (cyT, .object "UndoJourneysLaw$Trip"), (cyW, .object "UndoJourneysLaw$World"), (cyZ, .boolean)] (va_A (cU cyI cyB cyO ua ub up aw as' pa β υ ω sid τs n) s.heap.size) s (cU cyI cyB cyO ua ub up aw as' pa β υ ω sid τs n) s.heap [] := ⟨hP, hD0.self, va_S.rf⟩
  have hB : Bd (dC, dI) [(cyI, .int), (cyB, .byte), (cyO, .object "UndoJourneys$World"), (cyA, .array .int), (cyT, .object "UndoJourneysLaw$Trip"), (cyW, .object "UndoJourneysLaw$World"), (cyZ, .boolean)] (va_A (cU cyI cyB cyO ua ub up aw as' pa β υ ω sid τs n) s.heap.size) s (cU cyI cyB cyO ua ub up aw as' pa β υ ω sid τs n ++ []) s.heap [] := hB.perm (List.Perm.of_eq (List.append_nil _).symm)
  have hl := lv_entry [.ref ua, .int i1, .int i2] (n := 4) (Nat.le_of_ble_eq_true rfl)
  rw [lg_entry_eq]
  generalize (lg_sl [.ref ua, .int i1, .int i2] ++ List.replicate (4 - (lg_sl [.ref ua, .int i1, .int i2]).length) Slot.unset).toArray = ls at hl ⊢
  have hl : lv_has ls 4 [(0, .ref ua), (1, .int i1), (2, .int i2)] := hl
  clear hP hD0
  refine lv_aload_n hx hb dL_journey_0 rfl (lv_at hl 0 rfl) ?_
  refine lv_iload_n hx hb dL_journey_1 rfl (lv_at hl 1 rfl) ?_
  refine lv_iload_n hx hb dL_journey_2 rfl (lv_at hl 2 rfl) ?_
  refine g_xcut (As := [.int i1, .int i2]) (rest := []) (wc := cU cyI cyB cyO ua ub up aw as' pa β υ ω sid τs n) (wr := []) ⟨hx, hb, hml, hown, hts⟩ (kX3_journey l hl0 dC dI cyI cyB cyO ua ub up aw as' s.heap.size hf) (cwV 2 hts (gv_X3_journey_53 (fun w h => List.mem_cons_of_mem _ h)) rfl rfl rfl (by decide +kernel) ⟨(Nat.le_of_ble_eq_true rfl), (Nat.le_of_ble_eq_true rfl)⟩) (xpre_left hEX hB hA (hK.sub [0, 1, 2] rfl) (.ref ua :: [.int i1, .int i2])) hB hA (g_recv (ci := 3) hK hB 0 rfl rfl rfl) (List.Perm.refl _) rfl hl.1 rfl (Nat.le_of_ble_eq_true rfl) dL_journey_3 ⟨(Nat.le_of_ble_eq_true rfl), (Nat.le_of_ble_eq_true rfl)⟩ (fun E ce q9 H locs ho hB hc9 hv9 hcl9 => ?_) (fun r x H locs hpo hB => ?_)
  · subst ho
    have hB := hB.perm (List.Perm.of_eq (List.append_nil _))
    have hE9 := hE E rfl
    simp only [List.mem_cons, List.not_mem_nil, or_false] at hE9
    rcases hE9 with rfl | rfl
    · refine g_catch hown hEX hNC [] ⟨0, 6, 7, 50⟩ [⟨0, 6, 11, 40⟩] ht0 [] (fun z hz => absurd hz List.not_mem_nil) (by decide) (by decide) (by decide) hq50 (by decide +kernel) hc9 hv9 hcl9 ?_
      refine lv_astore_n (lv' := [(3, .ref q9), (0, .ref ua), (1, .int i1), (2, .int i2)]) hx hb dL_journey_7 rfl hl (by decide) rfl (fun ls hl => ?_)
      refine lv_ldc (v := (-2000000097 : Int32)) hx hb hown hq52 dL_journey_8 ?_
      exact g_liret hx hb hr hlocks hK hB (by decide) (Nat.le_of_ble_eq_true rfl) (Nat.le_of_ble_eq_true rfl) dL_journey_10
    · refine g_catch hown hEX hNC [⟨0, 6, 7, 50⟩] ⟨0, 6, 11, 40⟩ [] ht0 ["java/lang/IndexOutOfBoundsException"] (fun z hz => by obtain rfl := List.mem_singleton.mp hz; exact ⟨by decide, _, List.mem_cons_self, hq50⟩) (by decide) (by decide) (by decide) hq40 (by decide +kernel) hc9 hv9 hcl9 ?_
      refine lv_astore_n (lv' := [(3, .ref q9), (0, .ref ua), (1, .int i1), (2, .int i2)]) hx hb dL_journey_11 rfl hl (by decide) rfl (fun ls hl => ?_)
      refine lv_ldc (v := (-2000000098 : Int32)) hx hb hown hq42 dL_journey_12 ?_
      exact g_liret hx hb hr hlocks hK hB (by decide) (Nat.le_of_ble_eq_true rfl) (Nat.le_of_ble_eq_true rfl) dL_journey_14
  · obtain ⟨ho, rfl⟩ := hpo
    subst ho
    have hB := hB.perm (List.Perm.of_eq (List.append_nil _))
    exact g_liret hx hb hr hlocks hK hB rfl (Nat.le_of_ble_eq_true rfl) (Nat.le_of_ble_eq_true rfl) dL_journey_6

abbrev rmL_step : Room := { frames := 8, cells := 3, slots := 18, locals := 160 }
set_option maxHeartbeats 4000000 in
set_option maxRecDepth 100000 in
theorem kL_step (l : Launch) (hl0 : l.stackTraces = false) (dC : Nat → ClassId) (dI : Nat → Nat → Nat) (cyI cyB cyO cyA cyT cyW cyZ : ClassId) (ua ub up : Nat) (aw as' : Nat → Nat → Nat) (kS : Nat → Nat) (sz : Nat) {fu : Nat} {τs : WS} {n : Nat} {pa : PA} {β : FS} {υ : MS} {ω : WS} {sid : PA} {i1 : Int32} {i2 : Int32} {i3 : Int32} {o : (String ⊕ Int32)} (hf : mX3_step fu τs n pa β υ ω sid i1 i2 i3 = some o) (hE : ∀ E, o = .inl E → E ∈ (["java/lang/IndexOutOfBoundsException", "java/util/NoSuchElementException", "java/lang/IllegalArgumentException"] : List String)) : Met l yL_step wqL_step rmL_step (PcE (dC, dI) [(cyI, .int), (cyB, .byte), (cyO, .object "UndoJourneys$World"), (cyA, .array .int), (cyT, .object "UndoJourneysLaw$Trip"), (cyW, .object "UndoJourneysLaw$World"), (cyZ, .boolean)] kS (cU cyI cyB cyO ua ub up aw as' pa β υ ω sid τs n) sz [.ref ua, .int i1, .int i2, .int i3]) (QiF (dC, dI) [(cyI, .int), (cyB, .byte), (cyO, .object "UndoJourneys$World"), (cyA, .array .int), (cyT, .object "UndoJourneysLaw$Trip"), (cyW, .object "UndoJourneysLaw$World"), (cyZ, .boolean)] (cU cyI cyB cyO ua ub up aw as' pa β υ ω sid τs n) (xU (cU cyI cyB cyO ua ub up aw as' pa β υ ω sid τs n) (fun x => (cU cyI cyB cyO ua ub up aw as' pa β υ ω sid τs n)) o) sz (xE [("java/lang/IndexOutOfBoundsException", (-2000000097 : Int32)), ("java/util/NoSuchElementException", (-2000000100 : Int32)), ("java/lang/IllegalArgumentException", (-2000000098 : Int32))] (fun x => x) o)) 3 18 (va_A (cU cyI cyB cyO ua ub up aw as' pa β υ ω sid τs n) sz) := by
  refine va_MetW (cc := cL_step) (maxL := 5) (ret := (some .int)) (by decide) rfl ?_
  intro p e s m args below meth c s₁ B hml hv
  obtain ⟨rfl, ⟨hsz, hP, hK, hD0⟩, hEV⟩ := hv
  obtain ⟨hEX, hNC, hJ, hNw, -⟩ := hEV
  have hx := B.exec
  have hb := B.bytes
  have hr := B.returns
  have hts := atoms_spec (ws := wqL_step) B.pre
  have hown : s.vm.findClass RL = some m.cls := findClass_of_methodNamed B.named
  have hlocks := B.notSynchronized
  have ht0 := vx_table (x := yL_step) B (hts _ List.mem_cons_self)
  have hg9 : ∀ w ∈ gw_tbl, w.before _ s = true := fun w h => hts w (List.mem_cons_of_mem _ h)
  have hq50 : (Cond.classLink RL 50 "java/lang/IndexOutOfBoundsException").before _ s = true := hg9 _ (gwt (tb3 179 rfl) (by decide +kernel))
  have hq60 : (Cond.classLink RL 60 "java/util/NoSuchElementException").before _ s = true := hg9 _ (gwt (tb3 180 rfl) (by decide +kernel))
  have hq40 : (Cond.classLink RL 40 "java/lang/IllegalArgumentException").before _ s = true := hg9 _ (gwt (tb2 150 rfl) (by decide +kernel))
  have hq42 : (Cond.constant RL 42 (-2000000098)).before _ s = true := hg9 _ (gwt (tb3 175 rfl) (by decide +kernel))
  have hq52 : (Cond.constant RL 52 (-2000000097)).before _ s = true := hg9 _ (gwt (tb3 225 rfl) (by decide +kernel))
  have hq62 : (Cond.constant RL 62 (-2000000100)).before _ s = true := hg9 _ (gwt (tb3 226 rfl) (by decide +kernel))
  subst hsz
  have hA : ∀ q : Nat, s.heap.size ≤ q → va_A (cU cyI cyB cyO ua ub up aw as' pa β υ ω sid τs n) s.heap.size q := fun q h => Or.inr h
  have hB : Bd (dC, dI) [(cyI, .int), (cyB, .byte), (cyO, .object "UndoJourneys$World"), (cyA, .array .int), (cyT, .object "UndoJourneysLaw$Trip"), (cyW, .object "UndoJourneysLaw$World"), (cyZ, .boolean)] (va_A (cU cyI cyB cyO ua ub up aw as' pa β υ ω sid τs n) s.heap.size) s (cU cyI cyB cyO ua ub up aw as' pa β υ ω sid τs n) s.heap [] := ⟨hP, hD0.self, va_S.rf⟩
  have hB : Bd (dC, dI) [(cyI, .int), (cyB, .byte), (cyO, .object "UndoJourneys$World"), (cyA, .array .int), (cyT, .object "UndoJourneysLaw$Trip"), (cyW, .object "UndoJourneysLaw$World"), (cyZ, .boolean)] (va_A (cU cyI cyB cyO ua ub up aw as' pa β υ ω sid τs n) s.heap.size) s (cU cyI cyB cyO ua ub up aw as' pa β υ ω sid τs n ++ []) s.heap [] := hB.perm (List.Perm.of_eq (List.append_nil _).symm)
  have hl := lv_entry [.ref ua, .int i1, .int i2, .int i3] (n := 5) (Nat.le_of_ble_eq_true rfl)
  rw [lg_entry_eq]
  generalize (lg_sl [.ref ua, .int i1, .int i2, .int i3] ++ List.replicate (5 - (lg_sl [.ref ua, .int i1, .int i2, .int i3]).length) Slot.unset).toArray = ls at hl ⊢
  have hl : lv_has ls 5 [(0, .ref ua), (1, .int i1), (2, .int i2), (3, .int i3)] := hl
  clear hP hD0
  refine lv_aload_n hx hb dL_step_0 rfl (lv_at hl 0 rfl) ?_
  refine lv_iload_n hx hb dL_step_1 rfl (lv_at hl 1 rfl) ?_
  refine lv_iload_n hx hb dL_step_2 rfl (lv_at hl 2 rfl) ?_
  refine lv_iload_n hx hb dL_step_3 rfl (lv_at hl 3 rfl) ?_
  refine g_xcut (As := [.int i1, .int i2, .int i3]) (rest := []) (wc := cU cyI cyB cyO ua ub up aw as' pa β υ ω sid τs n) (wr := []) ⟨hx, hb, hml, hown, hts⟩ (kX3_step l hl0 dC dI cyI cyB cyO ua ub up aw as' s.heap.size hf) (cwV 3 hts (gv_X3_step_56 (fun w h => List.mem_cons_of_mem _ h)) rfl rfl rfl (by decide +kernel) ⟨(Nat.le_of_ble_eq_true rfl), (Nat.le_of_ble_eq_true rfl)⟩) (xpre_left hEX hB hA (hK.sub [0, 1, 2] rfl) (.ref ua :: [.int i1, .int i2, .int i3])) hB hA (g_recv (ci := 3) hK hB 0 rfl rfl rfl) (List.Perm.refl _) rfl hl.1 rfl (Nat.le_of_ble_eq_true rfl) dL_step_4 ⟨(Nat.le_of_ble_eq_true rfl), (Nat.le_of_ble_eq_true rfl)⟩ (fun E ce q9 H locs ho hB hc9 hv9 hcl9 => ?_) (fun r x H locs hpo hB => ?_)
  · subst ho
    have hB := hB.perm (List.Perm.of_eq (List.append_nil _))
    have hE9 := hE E rfl
    simp only [List.mem_cons, List.not_mem_nil, or_false] at hE9
    rcases hE9 with rfl | rfl | rfl
    · refine g_catch hown hEX hNC [] ⟨0, 7, 8, 50⟩ [⟨0, 7, 13, 60⟩, ⟨0, 7, 18, 40⟩] ht0 [] (fun z hz => absurd hz List.not_mem_nil) (by decide) (by decide) (by decide) hq50 (by decide +kernel) hc9 hv9 hcl9 ?_
      refine lv_astore (lv' := [(4, .ref q9), (0, .ref ua), (1, .int i1), (2, .int i2), (3, .int i3)]) hx hb dL_step_8 hl (by decide) rfl (fun ls hl => ?_)
      refine lv_ldc (v := (-2000000097 : Int32)) hx hb hown hq52 dL_step_10 ?_
      exact g_liret hx hb hr hlocks hK hB (by decide) (Nat.le_of_ble_eq_true rfl) (Nat.le_of_ble_eq_true rfl) dL_step_12
    · refine g_catch hown hEX hNC [⟨0, 7, 8, 50⟩] ⟨0, 7, 13, 60⟩ [⟨0, 7, 18, 40⟩] ht0 ["java/lang/IndexOutOfBoundsException"] (fun z hz => by obtain rfl := List.mem_singleton.mp hz; exact ⟨by decide, _, List.mem_cons_self, hq50⟩) (by decide) (by decide) (by decide) hq60 (by decide +kernel) hc9 hv9 hcl9 ?_
      refine lv_astore (lv' := [(4, .ref q9), (0, .ref ua), (1, .int i1), (2, .int i2), (3, .int i3)]) hx hb dL_step_13 hl (by decide) rfl (fun ls hl => ?_)
      refine lv_ldc (v := (-2000000100 : Int32)) hx hb hown hq62 dL_step_15 ?_
      exact g_liret hx hb hr hlocks hK hB (by decide) (Nat.le_of_ble_eq_true rfl) (Nat.le_of_ble_eq_true rfl) dL_step_17
    · refine g_catch hown hEX hNC [⟨0, 7, 8, 50⟩, ⟨0, 7, 13, 60⟩] ⟨0, 7, 18, 40⟩ [] ht0 ["java/lang/IndexOutOfBoundsException", "java/util/NoSuchElementException"] (List.forall_mem_cons.mpr ⟨⟨by decide, _, List.mem_cons_self, hq50⟩, List.forall_mem_cons.mpr ⟨⟨by decide, _, List.mem_cons_of_mem _ List.mem_cons_self, hq60⟩, fun _ h => absurd h List.not_mem_nil⟩⟩) (by decide) (by decide) (by decide) hq40 (by decide +kernel) hc9 hv9 hcl9 ?_
      refine lv_astore (lv' := [(4, .ref q9), (0, .ref ua), (1, .int i1), (2, .int i2), (3, .int i3)]) hx hb dL_step_18 hl (by decide) rfl (fun ls hl => ?_)
      refine lv_ldc (v := (-2000000098 : Int32)) hx hb hown hq42 dL_step_20 ?_
      exact g_liret hx hb hr hlocks hK hB (by decide) (Nat.le_of_ble_eq_true rfl) (Nat.le_of_ble_eq_true rfl) dL_step_22
  · obtain ⟨ho, rfl⟩ := hpo
    subst ho
    have hB := hB.perm (List.Perm.of_eq (List.append_nil _))
    exact g_liret hx hb hr hlocks hK hB rfl (Nat.le_of_ble_eq_true rfl) (Nat.le_of_ble_eq_true rfl) dL_step_7

abbrev rmL_owed : Room := { frames := 8, cells := 2, slots := 12, locals := 160 }
set_option maxHeartbeats 4000000 in
set_option maxRecDepth 100000 in
theorem kL_owed (l : Launch) (hl0 : l.stackTraces = false) (dC : Nat → ClassId) (dI : Nat → Nat → Nat) (cyI cyB cyO cyA cyT cyW cyZ : ClassId) (ua ub up : Nat) (aw as' : Nat → Nat → Nat) (kS : Nat → Nat) (sz : Nat) {fu : Nat} {τs : WS} {n : Nat} {pa : PA} {β : FS} {υ : MS} {ω : WS} {sid : PA} {i1 : Int32} {i2 : Int32} {o : (String ⊕ Int32)} (hf : mX3_owed fu τs n pa β υ ω sid i1 i2 = some o) (hE : ∀ E, o = .inl E → E ∈ (["java/lang/IndexOutOfBoundsException", "java/util/NoSuchElementException"] : List String)) : Met l yL_owed wqL_owed rmL_owed (PcE (dC, dI) [(cyI, .int), (cyB, .byte), (cyO, .object "UndoJourneys$World"), (cyA, .array .int), (cyT, .object "UndoJourneysLaw$Trip"), (cyW, .object "UndoJourneysLaw$World"), (cyZ, .boolean)] kS (cU cyI cyB cyO ua ub up aw as' pa β υ ω sid τs n) sz [.ref ua, .int i1, .int i2]) (QiF (dC, dI) [(cyI, .int), (cyB, .byte), (cyO, .object "UndoJourneys$World"), (cyA, .array .int), (cyT, .object "UndoJourneysLaw$Trip"), (cyW, .object "UndoJourneysLaw$World"), (cyZ, .boolean)] (cU cyI cyB cyO ua ub up aw as' pa β υ ω sid τs n) (xU (cU cyI cyB cyO ua ub up aw as' pa β υ ω sid τs n) (fun x => (cU cyI cyB cyO ua ub up aw as' pa β υ ω sid τs n)) o) sz (xE [("java/lang/IndexOutOfBoundsException", (-2000000097 : Int32)), ("java/util/NoSuchElementException", (-2000000100 : Int32))] (fun x => x) o)) 2 12 (va_A (cU cyI cyB cyO ua ub up aw as' pa β υ ω sid τs n) sz) := by
  refine va_MetW (cc := cL_owed) (maxL := 4) (ret := (some .int)) (by decide) rfl ?_
  intro p e s m args below meth c s₁ B hml hv
  obtain ⟨rfl, ⟨hsz, hP, hK, hD0⟩, hEV⟩ := hv
  obtain ⟨hEX, hNC, hJ, hNw, -⟩ := hEV
  have hx := B.exec
  have hb := B.bytes
  have hr := B.returns
  have hts := atoms_spec (ws := wqL_owed) B.pre
  have hown : s.vm.findClass RL = some m.cls := findClass_of_methodNamed B.named
  have hlocks := B.notSynchronized
  have ht0 := vx_table (x := yL_owed) B (hts _ List.mem_cons_self)
  have hg9 : ∀ w ∈ gw_tbl, w.before _ s = true := fun w h => hts w (List.mem_cons_of_mem _ h)
  have hq50 : (Cond.classLink RL 50 "java/lang/IndexOutOfBoundsException").before _ s = true := hg9 _ (gwt (tb3 179 rfl) (by decide +kernel))
  have hq60 : (Cond.classLink RL 60 "java/util/NoSuchElementException").before _ s = true := hg9 _ (gwt (tb3 180 rfl) (by decide +kernel))
  have hq52 : (Cond.constant RL 52 (-2000000097)).before _ s = true := hg9 _ (gwt (tb3 225 rfl) (by decide +kernel))
  have hq62 : (Cond.constant RL 62 (-2000000100)).before _ s = true := hg9 _ (gwt (tb3 226 rfl) (by decide +kernel))
  subst hsz
  have hA : ∀ q : Nat, s.heap.size ≤ q → va_A (cU cyI cyB cyO ua ub up aw as' pa β υ ω sid τs n) s.heap.size q := fun q h => Or.inr h
  have hB : Bd (dC, dI) [(cyI, .int), (cyB, .byte), (cyO, .object "UndoJourneys$World"), (cyA, .array .int), (cyT, .object "UndoJourneysLaw$Trip"), (cyW, .object "UndoJourneysLaw$World"), (cyZ, .boolean)] (va_A (cU cyI cyB cyO ua ub up aw as' pa β υ ω sid τs n) s.heap.size) s (cU cyI cyB cyO ua ub up aw as' pa β υ ω sid τs n) s.heap [] := ⟨hP, hD0.self, va_S.rf⟩
  have hB : Bd (dC, dI) [(cyI, .int), (cyB, .byte), (cyO, .object "UndoJourneys$World"), (cyA, .array .int), (cyT, .object "UndoJourneysLaw$Trip"), (cyW, .object "UndoJourneysLaw$World"), (cyZ, .boolean)] (va_A (cU cyI cyB cyO ua ub up aw as' pa β υ ω sid τs n) s.heap.size) s (cU cyI cyB cyO ua ub up aw as' pa β υ ω sid τs n ++ []) s.heap [] := hB.perm (List.Perm.of_eq (List.append_nil _).symm)
  have hl := lv_entry [.ref ua, .int i1, .int i2] (n := 4) (Nat.le_of_ble_eq_true rfl)
  rw [lg_entry_eq]
  generalize (lg_sl [.ref ua, .int i1, .int i2] ++ List.replicate (4 - (lg_sl [.ref ua, .int i1, .int i2]).length) Slot.unset).toArray = ls at hl ⊢
  have hl : lv_has ls 4 [(0, .ref ua), (1, .int i1), (2, .int i2)] := hl
  clear hP hD0
  refine lv_aload_n hx hb dL_owed_0 rfl (lv_at hl 0 rfl) ?_
  refine lv_iload_n hx hb dL_owed_1 rfl (lv_at hl 1 rfl) ?_
  refine lv_iload_n hx hb dL_owed_2 rfl (lv_at hl 2 rfl) ?_
  refine g_xcut (As := [.int i1, .int i2]) (rest := []) (wc := cU cyI cyB cyO ua ub up aw as' pa β υ ω sid τs n) (wr := []) ⟨hx, hb, hml, hown, hts⟩ (kX3_owed l hl0 dC dI cyI cyB cyO ua ub up aw as' s.heap.size hf) (cwV 2 hts (gv_X3_owed_63 (fun w h => List.mem_cons_of_mem _ h)) rfl rfl rfl (by decide +kernel) ⟨(Nat.le_of_ble_eq_true rfl), (Nat.le_of_ble_eq_true rfl)⟩) (xpre_left hEX hB hA (hK.sub [0, 1, 2] rfl) (.ref ua :: [.int i1, .int i2])) hB hA (g_recv (ci := 3) hK hB 0 rfl rfl rfl) (List.Perm.refl _) rfl hl.1 rfl (Nat.le_of_ble_eq_true rfl) dL_owed_3 ⟨(Nat.le_of_ble_eq_true rfl), (Nat.le_of_ble_eq_true rfl)⟩ (fun E ce q9 H locs ho hB hc9 hv9 hcl9 => ?_) (fun r x H locs hpo hB => ?_)
  · subst ho
    have hB := hB.perm (List.Perm.of_eq (List.append_nil _))
    have hE9 := hE E rfl
    simp only [List.mem_cons, List.not_mem_nil, or_false] at hE9
    rcases hE9 with rfl | rfl
    · refine g_catch hown hEX hNC [] ⟨0, 6, 7, 50⟩ [⟨0, 6, 11, 60⟩] ht0 [] (fun z hz => absurd hz List.not_mem_nil) (by decide) (by decide) (by decide) hq50 (by decide +kernel) hc9 hv9 hcl9 ?_
      refine lv_astore_n (lv' := [(3, .ref q9), (0, .ref ua), (1, .int i1), (2, .int i2)]) hx hb dL_owed_7 rfl hl (by decide) rfl (fun ls hl => ?_)
      refine lv_ldc (v := (-2000000097 : Int32)) hx hb hown hq52 dL_owed_8 ?_
      exact g_liret hx hb hr hlocks hK hB (by decide) (Nat.le_of_ble_eq_true rfl) (Nat.le_of_ble_eq_true rfl) dL_owed_10
    · refine g_catch hown hEX hNC [⟨0, 6, 7, 50⟩] ⟨0, 6, 11, 60⟩ [] ht0 ["java/lang/IndexOutOfBoundsException"] (fun z hz => by obtain rfl := List.mem_singleton.mp hz; exact ⟨by decide, _, List.mem_cons_self, hq50⟩) (by decide) (by decide) (by decide) hq60 (by decide +kernel) hc9 hv9 hcl9 ?_
      refine lv_astore_n (lv' := [(3, .ref q9), (0, .ref ua), (1, .int i1), (2, .int i2)]) hx hb dL_owed_11 rfl hl (by decide) rfl (fun ls hl => ?_)
      refine lv_ldc (v := (-2000000100 : Int32)) hx hb hown hq62 dL_owed_12 ?_
      exact g_liret hx hb hr hlocks hK hB (by decide) (Nat.le_of_ble_eq_true rfl) (Nat.le_of_ble_eq_true rfl) dL_owed_14
  · obtain ⟨ho, rfl⟩ := hpo
    subst ho
    have hB := hB.perm (List.Perm.of_eq (List.append_nil _))
    exact g_liret hx hb hr hlocks hK hB rfl (Nat.le_of_ble_eq_true rfl) (Nat.le_of_ble_eq_true rfl) dL_owed_6

abbrev rmL_restsIn : Room := { frames := 8, cells := 1, slots := 6, locals := 191 }
set_option maxHeartbeats 4000000 in
set_option maxRecDepth 100000 in
theorem kL_restsIn (l : Launch) (hl0 : l.stackTraces = false) (dC : Nat → ClassId) (dI : Nat → Nat → Nat) (cyI cyB cyO cyA cyT cyW cyZ : ClassId) (ua ub up : Nat) (aw as' : Nat → Nat → Nat) (kS : Nat → Nat) (sz : Nat) {fu : Nat} {τs : WS} {n : Nat} {pa : PA} {β : FS} {υ : MS} {ω : WS} {sid : PA} {i1 : Int32} {o : (String ⊕ (Int32 × WS × PA))} (hf : mX3_restsIn fu τs n pa β υ ω sid i1 = some o) (hE : ∀ E, o = .inl E → E ∈ (["java/lang/IndexOutOfBoundsException"] : List String)) : Met l yL_restsIn wqL_restsIn rmL_restsIn (PcE (dC, dI) [(cyI, .int), (cyB, .byte), (cyO, .object "UndoJourneys$World"), (cyA, .array .int), (cyT, .object "UndoJourneysLaw$Trip"), (cyW, .object "UndoJourneysLaw$World"), (cyZ, .boolean)] kS (cU cyI cyB cyO ua ub up aw as' pa β υ ω sid τs n) sz [.ref ua, .int i1]) (QiF (dC, dI) [(cyI, .int), (cyB, .byte), (cyO, .object "UndoJourneys$World"), (cyA, .array .int), (cyT, .object "UndoJourneysLaw$Trip"), (cyW, .object "UndoJourneysLaw$World"), (cyZ, .boolean)] (cU cyI cyB cyO ua ub up aw as' pa β υ ω sid τs n) (xU (cU cyI cyB cyO ua ub up aw as' pa β υ ω sid τs n) (fun x => (cU cyI cyB cyO ua ub up aw as' pa β υ (x.2.1) (x.2.2) τs n)) o) sz (xE [("java/lang/IndexOutOfBoundsException", (-2000000097 : Int32))] (fun x => (x.1)) o)) 1 6 (va_A (cU cyI cyB cyO ua ub up aw as' pa β υ ω sid τs n) sz) := by
  refine va_MetW (cc := cL_restsIn) (maxL := 3) (ret := (some .int)) (by decide) rfl ?_
  intro p e s m args below meth c s₁ B hml hv
  obtain ⟨rfl, ⟨hsz, hP, hK, hD0⟩, hEV⟩ := hv
  obtain ⟨hEX, hNC, hJ, hNw, -⟩ := hEV
  have hx := B.exec
  have hb := B.bytes
  have hr := B.returns
  have hts := atoms_spec (ws := wqL_restsIn) B.pre
  have hown : s.vm.findClass RL = some m.cls := findClass_of_methodNamed B.named
  have hlocks := B.notSynchronized
  have ht0 := vx_table (x := yL_restsIn) B (hts _ List.mem_cons_self)
  have hg9 : ∀ w ∈ gw_tbl, w.before _ s = true := fun w h => hts w (List.mem_cons_of_mem _ h)
  have hq50 : (Cond.classLink RL 50 "java/lang/IndexOutOfBoundsException").before _ s = true := hg9 _ (gwt (tb3 179 rfl) (by decide +kernel))
  have hq52 : (Cond.constant RL 52 (-2000000097)).before _ s = true := hg9 _ (gwt (tb3 225 rfl) (by decide +kernel))
  subst hsz
  have hA : ∀ q : Nat, s.heap.size ≤ q → va_A (cU cyI cyB cyO ua ub up aw as' pa β υ ω sid τs n) s.heap.size q := fun q h => Or.inr h
  have hB : Bd (dC, dI) [(cyI, .int), (cyB, .byte), (cyO, .object "UndoJourneys$World"), (cyA, .array .int), (cyT, .object "UndoJourneysLaw$Trip"), (cyW, .object "UndoJourneysLaw$World"), (cyZ, .boolean)] (va_A (cU cyI cyB cyO ua ub up aw as' pa β υ ω sid τs n) s.heap.size) s (cU cyI cyB cyO ua ub up aw as' pa β υ ω sid τs n) s.heap [] := ⟨hP, hD0.self, va_S.rf⟩
  have hB : Bd (dC, dI) [(cyI, .int), (cyB, .byte), (cyO, .object "UndoJourneys$World"), (cyA, .array .int), (cyT, .object "UndoJourneysLaw$Trip"), (cyW, .object "UndoJourneysLaw$World"), (cyZ, .boolean)] (va_A (cU cyI cyB cyO ua ub up aw as' pa β υ ω sid τs n) s.heap.size) s (cU cyI cyB cyO ua ub up aw as' pa β υ ω sid τs n ++ []) s.heap [] := hB.perm (List.Perm.of_eq (List.append_nil _).symm)
  have hl := lv_entry [.ref ua, .int i1] (n := 3) (Nat.le_of_ble_eq_true rfl)
  rw [lg_entry_eq]
  generalize (lg_sl [.ref ua, .int i1] ++ List.replicate (3 - (lg_sl [.ref ua, .int i1]).length) Slot.unset).toArray = ls at hl ⊢
  have hl : lv_has ls 3 [(0, .ref ua), (1, .int i1)] := hl
  clear hP hD0
  refine lv_aload_n hx hb dL_restsIn_0 rfl (lv_at hl 0 rfl) ?_
  refine lv_iload_n hx hb dL_restsIn_1 rfl (lv_at hl 1 rfl) ?_
  refine g_xcut (As := [.int i1]) (rest := []) (wc := cU cyI cyB cyO ua ub up aw as' pa β υ ω sid τs n) (wr := []) ⟨hx, hb, hml, hown, hts⟩ (kX3_restsIn l hl0 dC dI cyI cyB cyO ua ub up aw as' s.heap.size hf) (cwV 1 hts (gv_X3_restsIn_66 (fun w h => List.mem_cons_of_mem _ h)) rfl rfl rfl (by decide +kernel) ⟨(Nat.le_of_ble_eq_true rfl), (Nat.le_of_ble_eq_true rfl)⟩) (xpre_left hEX hB hA (hK.sub [0, 1, 2] rfl) (.ref ua :: [.int i1])) hB hA (g_recv (ci := 3) hK hB 0 rfl rfl rfl) (List.Perm.refl _) rfl hl.1 rfl (Nat.le_of_ble_eq_true rfl) dL_restsIn_2 ⟨(Nat.le_of_ble_eq_true rfl), (Nat.le_of_ble_eq_true rfl)⟩ (fun E ce q9 H locs ho hB hc9 hv9 hcl9 => ?_) (fun r x H locs hpo hB => ?_)
  · subst ho
    have hB := hB.perm (List.Perm.of_eq (List.append_nil _))
    have hE9 := hE E rfl
    obtain rfl := List.mem_singleton.mp hE9
    refine g_catch hown hEX hNC [] ⟨0, 5, 6, 50⟩ [] ht0 [] (fun z hz => absurd hz List.not_mem_nil) (by decide) (by decide) (by decide) hq50 (by decide +kernel) hc9 hv9 hcl9 ?_
    refine lv_astore_n (lv' := [(2, .ref q9), (0, .ref ua), (1, .int i1)]) hx hb dL_restsIn_6 rfl hl (by decide) rfl (fun ls hl => ?_)
    refine lv_ldc (v := (-2000000097 : Int32)) hx hb hown hq52 dL_restsIn_7 ?_
    exact g_liret hx hb hr hlocks hK hB (by decide) (Nat.le_of_ble_eq_true rfl) (Nat.le_of_ble_eq_true rfl) dL_restsIn_9
  · obtain ⟨ho, rfl⟩ := hpo
    subst ho
    have hB := hB.perm (List.Perm.of_eq (List.append_nil _))
    exact g_liret hx hb hr hlocks hK hB rfl (Nat.le_of_ble_eq_true rfl) (Nat.le_of_ble_eq_true rfl) dL_restsIn_5

abbrev rmL_stateAfter : Room := { frames := 8, cells := 2, slots := 12, locals := 191 }
set_option maxHeartbeats 4000000 in
set_option maxRecDepth 100000 in
theorem kL_stateAfter (l : Launch) (hl0 : l.stackTraces = false) (dC : Nat → ClassId) (dI : Nat → Nat → Nat) (cyI cyB cyO cyA cyT cyW cyZ : ClassId) (ua ub up : Nat) (aw as' : Nat → Nat → Nat) (kS : Nat → Nat) (sz : Nat) {fu : Nat} {τs : WS} {n : Nat} {pa : PA} {β : FS} {υ : MS} {ω : WS} {sid : PA} {i1 : Int32} {i2 : Int32} {o : (String ⊕ (Int32 × WS × PA))} (hf : mX3_stateAfter fu τs n pa β υ ω sid i1 i2 = some o) (hE : ∀ E, o = .inl E → E ∈ (["java/lang/IndexOutOfBoundsException", "java/lang/IllegalArgumentException"] : List String)) : Met l yL_stateAfter wqL_stateAfter rmL_stateAfter (PcE (dC, dI) [(cyI, .int), (cyB, .byte), (cyO, .object "UndoJourneys$World"), (cyA, .array .int), (cyT, .object "UndoJourneysLaw$Trip"), (cyW, .object "UndoJourneysLaw$World"), (cyZ, .boolean)] kS (cU cyI cyB cyO ua ub up aw as' pa β υ ω sid τs n) sz [.ref ua, .int i1, .int i2]) (QiF (dC, dI) [(cyI, .int), (cyB, .byte), (cyO, .object "UndoJourneys$World"), (cyA, .array .int), (cyT, .object "UndoJourneysLaw$Trip"), (cyW, .object "UndoJourneysLaw$World"), (cyZ, .boolean)] (cU cyI cyB cyO ua ub up aw as' pa β υ ω sid τs n) (xU (cU cyI cyB cyO ua ub up aw as' pa β υ ω sid τs n) (fun x => (cU cyI cyB cyO ua ub up aw as' pa β υ (x.2.1) (x.2.2) τs n)) o) sz (xE [("java/lang/IndexOutOfBoundsException", (-2000000097 : Int32)), ("java/lang/IllegalArgumentException", (-2000000098 : Int32))] (fun x => (x.1)) o)) 2 12 (va_A (cU cyI cyB cyO ua ub up aw as' pa β υ ω sid τs n) sz) := by
  refine va_MetW (cc := cL_stateAfter) (maxL := 4) (ret := (some .int)) (by decide) rfl ?_
  intro p e s m args below meth c s₁ B hml hv
  obtain ⟨rfl, ⟨hsz, hP, hK, hD0⟩, hEV⟩ := hv
  obtain ⟨hEX, hNC, hJ, hNw, -⟩ := hEV
  have hx := B.exec
  have hb := B.bytes
  have hr := B.returns
  have hts := atoms_spec (ws := wqL_stateAfter) B.pre
  have hown : s.vm.findClass RL = some m.cls := findClass_of_methodNamed B.named
  have hlocks := B.notSynchronized
  have ht0 := vx_table (x := yL_stateAfter) B (hts _ List.mem_cons_self)
  have hg9 : ∀ w ∈ gw_tbl, w.before _ s = true := fun w h => hts w (List.mem_cons_of_mem _ h)
  have hq50 : (Cond.classLink RL 50 "java/lang/IndexOutOfBoundsException").before _ s = true := hg9 _ (gwt (tb3 179 rfl) (by decide +kernel))
  have hq40 : (Cond.classLink RL 40 "java/lang/IllegalArgumentException").before _ s = true := hg9 _ (gwt (tb2 150 rfl) (by decide +kernel))
  have hq42 : (Cond.constant RL 42 (-2000000098)).before _ s = true := hg9 _ (gwt (tb3 175 rfl) (by decide +kernel))
  have hq52 : (Cond.constant RL 52 (-2000000097)).before _ s = true := hg9 _ (gwt (tb3 225 rfl) (by decide +kernel))
  subst hsz
  have hA : ∀ q : Nat, s.heap.size ≤ q → va_A (cU cyI cyB cyO ua ub up aw as' pa β υ ω sid τs n) s.heap.size q := fun q h => Or.inr h
  have hB : Bd (dC, dI) [(cyI, .int), (cyB, .byte), (cyO, .object "UndoJourneys$World"), (cyA, .array .int), (cyT, .object "UndoJourneysLaw$Trip"), (cyW, .object "UndoJourneysLaw$World"), (cyZ, .boolean)] (va_A (cU cyI cyB cyO ua ub up aw as' pa β υ ω sid τs n) s.heap.size) s (cU cyI cyB cyO ua ub up aw as' pa β υ ω sid τs n) s.heap [] := ⟨hP, hD0.self, va_S.rf⟩
  have hB : Bd (dC, dI) [(cyI, .int), (cyB, .byte), (cyO, .object "UndoJourneys$World"), (cyA, .array .int), (cyT, .object "UndoJourneysLaw$Trip"), (cyW, .object "UndoJourneysLaw$World"), (cyZ, .boolean)] (va_A (cU cyI cyB cyO ua ub up aw as' pa β υ ω sid τs n) s.heap.size) s (cU cyI cyB cyO ua ub up aw as' pa β υ ω sid τs n ++ []) s.heap [] := hB.perm (List.Perm.of_eq (List.append_nil _).symm)
  have hl := lv_entry [.ref ua, .int i1, .int i2] (n := 4) (Nat.le_of_ble_eq_true rfl)
  rw [lg_entry_eq]
  generalize (lg_sl [.ref ua, .int i1, .int i2] ++ List.replicate (4 - (lg_sl [.ref ua, .int i1, .int i2]).length) Slot.unset).toArray = ls at hl ⊢
  have hl : lv_has ls 4 [(0, .ref ua), (1, .int i1), (2, .int i2)] := hl
  clear hP hD0
  refine lv_aload_n hx hb dL_stateAfter_0 rfl (lv_at hl 0 rfl) ?_
  refine lv_iload_n hx hb dL_stateAfter_1 rfl (lv_at hl 1 rfl) ?_
  refine lv_iload_n hx hb dL_stateAfter_2 rfl (lv_at hl 2 rfl) ?_
  refine g_xcut (As := [.int i1, .int i2]) (rest := []) (wc := cU cyI cyB cyO ua ub up aw as' pa β υ ω sid τs n) (wr := []) ⟨hx, hb, hml, hown, hts⟩ (kX3_stateAfter l hl0 dC dI cyI cyB cyO ua ub up aw as' s.heap.size hf) (cwV 2 hts (gv_X3_stateAfter_69 (fun w h => List.mem_cons_of_mem _ h)) rfl rfl rfl (by decide +kernel) ⟨(Nat.le_of_ble_eq_true rfl), (Nat.le_of_ble_eq_true rfl)⟩) (xpre_left hEX hB hA (hK.sub [0, 1, 2] rfl) (.ref ua :: [.int i1, .int i2])) hB hA (g_recv (ci := 3) hK hB 0 rfl rfl rfl) (List.Perm.refl _) rfl hl.1 rfl (Nat.le_of_ble_eq_true rfl) dL_stateAfter_3 ⟨(Nat.le_of_ble_eq_true rfl), (Nat.le_of_ble_eq_true rfl)⟩ (fun E ce q9 H locs ho hB hc9 hv9 hcl9 => ?_) (fun r x H locs hpo hB => ?_)
  · subst ho
    have hB := hB.perm (List.Perm.of_eq (List.append_nil _))
    have hE9 := hE E rfl
    simp only [List.mem_cons, List.not_mem_nil, or_false] at hE9
    rcases hE9 with rfl | rfl
    · refine g_catch hown hEX hNC [] ⟨0, 6, 7, 50⟩ [⟨0, 6, 11, 40⟩] ht0 [] (fun z hz => absurd hz List.not_mem_nil) (by decide) (by decide) (by decide) hq50 (by decide +kernel) hc9 hv9 hcl9 ?_
      refine lv_astore_n (lv' := [(3, .ref q9), (0, .ref ua), (1, .int i1), (2, .int i2)]) hx hb dL_stateAfter_7 rfl hl (by decide) rfl (fun ls hl => ?_)
      refine lv_ldc (v := (-2000000097 : Int32)) hx hb hown hq52 dL_stateAfter_8 ?_
      exact g_liret hx hb hr hlocks hK hB (by decide) (Nat.le_of_ble_eq_true rfl) (Nat.le_of_ble_eq_true rfl) dL_stateAfter_10
    · refine g_catch hown hEX hNC [⟨0, 6, 7, 50⟩] ⟨0, 6, 11, 40⟩ [] ht0 ["java/lang/IndexOutOfBoundsException"] (fun z hz => by obtain rfl := List.mem_singleton.mp hz; exact ⟨by decide, _, List.mem_cons_self, hq50⟩) (by decide) (by decide) (by decide) hq40 (by decide +kernel) hc9 hv9 hcl9 ?_
      refine lv_astore_n (lv' := [(3, .ref q9), (0, .ref ua), (1, .int i1), (2, .int i2)]) hx hb dL_stateAfter_11 rfl hl (by decide) rfl (fun ls hl => ?_)
      refine lv_ldc (v := (-2000000098 : Int32)) hx hb hown hq42 dL_stateAfter_12 ?_
      exact g_liret hx hb hr hlocks hK hB (by decide) (Nat.le_of_ble_eq_true rfl) (Nat.le_of_ble_eq_true rfl) dL_stateAfter_14
  · obtain ⟨ho, rfl⟩ := hpo
    subst ho
    have hB := hB.perm (List.Perm.of_eq (List.append_nil _))
    exact g_liret hx hb hr hlocks hK hB rfl (Nat.le_of_ble_eq_true rfl) (Nat.le_of_ble_eq_true rfl) dL_stateAfter_6

abbrev rmL_help : Room := { frames := 8, cells := 2, slots := 12, locals := 191 }
set_option maxHeartbeats 4000000 in
set_option maxRecDepth 100000 in
theorem kL_help (l : Launch) (hl0 : l.stackTraces = false) (dC : Nat → ClassId) (dI : Nat → Nat → Nat) (cyI cyB cyO cyA cyT cyW cyZ : ClassId) (ua ub up : Nat) (aw as' : Nat → Nat → Nat) (kS : Nat → Nat) (sz : Nat) {fu : Nat} {τs : WS} {n : Nat} {pa : PA} {β : FS} {υ : MS} {ω : WS} {sid : PA} {i1 : Int32} {i2 : Int32} {o : (String ⊕ (Int32 × WS × PA))} (hf : mX3_help fu τs n pa β υ ω sid i1 i2 = some o) (hE : ∀ E, o = .inl E → E ∈ (["java/lang/IndexOutOfBoundsException"] : List String)) : Met l yL_help wqL_help rmL_help (PcE (dC, dI) [(cyI, .int), (cyB, .byte), (cyO, .object "UndoJourneys$World"), (cyA, .array .int), (cyT, .object "UndoJourneysLaw$Trip"), (cyW, .object "UndoJourneysLaw$World"), (cyZ, .boolean)] kS (cU cyI cyB cyO ua ub up aw as' pa β υ ω sid τs n) sz [.ref ua, .int i1, .int i2]) (QiF (dC, dI) [(cyI, .int), (cyB, .byte), (cyO, .object "UndoJourneys$World"), (cyA, .array .int), (cyT, .object "UndoJourneysLaw$Trip"), (cyW, .object "UndoJourneysLaw$World"), (cyZ, .boolean)] (cU cyI cyB cyO ua ub up aw as' pa β υ ω sid τs n) (xU (cU cyI cyB cyO ua ub up aw as' pa β υ ω sid τs n) (fun x => (cU cyI cyB cyO ua ub up aw as' pa β υ (x.2.1) (x.2.2) τs n)) o) sz (xE [("java/lang/IndexOutOfBoundsException", (-2000000097 : Int32))] (fun x => (x.1)) o)) 2 12 (va_A (cU cyI cyB cyO ua ub up aw as' pa β υ ω sid τs n) sz) := by
  refine va_MetW (cc := cL_help) (maxL := 4) (ret := (some .int)) (by decide) rfl ?_
  intro p e s m args below meth c s₁ B hml hv
  obtain ⟨rfl, ⟨hsz, hP, hK, hD0⟩, hEV⟩ := hv
  obtain ⟨hEX, hNC, hJ, hNw, -⟩ := hEV
  have hx := B.exec
  have hb := B.bytes
  have hr := B.returns
  have hts := atoms_spec (ws := wqL_help) B.pre
  have hown : s.vm.findClass RL = some m.cls := findClass_of_methodNamed B.named
  have hlocks := B.notSynchronized
  have ht0 := vx_table (x := yL_help) B (hts _ List.mem_cons_self)
  have hg9 : ∀ w ∈ gw_tbl, w.before _ s = true := fun w h => hts w (List.mem_cons_of_mem _ h)
  have hq50 : (Cond.classLink RL 50 "java/lang/IndexOutOfBoundsException").before _ s = true := hg9 _ (gwt (tb3 179 rfl) (by decide +kernel))
  have hq52 : (Cond.constant RL 52 (-2000000097)).before _ s = true := hg9 _ (gwt (tb3 225 rfl) (by decide +kernel))
  subst hsz
  have hA : ∀ q : Nat, s.heap.size ≤ q → va_A (cU cyI cyB cyO ua ub up aw as' pa β υ ω sid τs n) s.heap.size q := fun q h => Or.inr h
  have hB : Bd (dC, dI) [(cyI, .int), (cyB, .byte), (cyO, .object "UndoJourneys$World"), (cyA, .array .int), (cyT, .object "UndoJourneysLaw$Trip"), (cyW, .object "UndoJourneysLaw$World"), (cyZ, .boolean)] (va_A (cU cyI cyB cyO ua ub up aw as' pa β υ ω sid τs n) s.heap.size) s (cU cyI cyB cyO ua ub up aw as' pa β υ ω sid τs n) s.heap [] := ⟨hP, hD0.self, va_S.rf⟩
  have hB : Bd (dC, dI) [(cyI, .int), (cyB, .byte), (cyO, .object "UndoJourneys$World"), (cyA, .array .int), (cyT, .object "UndoJourneysLaw$Trip"), (cyW, .object "UndoJourneysLaw$World"), (cyZ, .boolean)] (va_A (cU cyI cyB cyO ua ub up aw as' pa β υ ω sid τs n) s.heap.size) s (cU cyI cyB cyO ua ub up aw as' pa β υ ω sid τs n ++ []) s.heap [] := hB.perm (List.Perm.of_eq (List.append_nil _).symm)
  have hl := lv_entry [.ref ua, .int i1, .int i2] (n := 4) (Nat.le_of_ble_eq_true rfl)
  rw [lg_entry_eq]
  generalize (lg_sl [.ref ua, .int i1, .int i2] ++ List.replicate (4 - (lg_sl [.ref ua, .int i1, .int i2]).length) Slot.unset).toArray = ls at hl ⊢
  have hl : lv_has ls 4 [(0, .ref ua), (1, .int i1), (2, .int i2)] := hl
  clear hP hD0
  refine lv_aload_n hx hb dL_help_0 rfl (lv_at hl 0 rfl) ?_
  refine lv_iload_n hx hb dL_help_1 rfl (lv_at hl 1 rfl) ?_
  refine lv_iload_n hx hb dL_help_2 rfl (lv_at hl 2 rfl) ?_
  refine g_xcut (As := [.int i1, .int i2]) (rest := []) (wc := cU cyI cyB cyO ua ub up aw as' pa β υ ω sid τs n) (wr := []) ⟨hx, hb, hml, hown, hts⟩ (kX3_help l hl0 dC dI cyI cyB cyO ua ub up aw as' s.heap.size hf) (cwV 2 hts (gv_X3_help_72 (fun w h => List.mem_cons_of_mem _ h)) rfl rfl rfl (by decide +kernel) ⟨(Nat.le_of_ble_eq_true rfl), (Nat.le_of_ble_eq_true rfl)⟩) (xpre_left hEX hB hA (hK.sub [0, 1, 2] rfl) (.ref ua :: [.int i1, .int i2])) hB hA (g_recv (ci := 3) hK hB 0 rfl rfl rfl) (List.Perm.refl _) rfl hl.1 rfl (Nat.le_of_ble_eq_true rfl) dL_help_3 ⟨(Nat.le_of_ble_eq_true rfl), (Nat.le_of_ble_eq_true rfl)⟩ (fun E ce q9 H locs ho hB hc9 hv9 hcl9 => ?_) (fun r x H locs hpo hB => ?_)
  · subst ho
    have hB := hB.perm (List.Perm.of_eq (List.append_nil _))
    have hE9 := hE E rfl
    obtain rfl := List.mem_singleton.mp hE9
    refine g_catch hown hEX hNC [] ⟨0, 6, 7, 50⟩ [] ht0 [] (fun z hz => absurd hz List.not_mem_nil) (by decide) (by decide) (by decide) hq50 (by decide +kernel) hc9 hv9 hcl9 ?_
    refine lv_astore_n (lv' := [(3, .ref q9), (0, .ref ua), (1, .int i1), (2, .int i2)]) hx hb dL_help_7 rfl hl (by decide) rfl (fun ls hl => ?_)
    refine lv_ldc (v := (-2000000097 : Int32)) hx hb hown hq52 dL_help_8 ?_
    exact g_liret hx hb hr hlocks hK hB (by decide) (Nat.le_of_ble_eq_true rfl) (Nat.le_of_ble_eq_true rfl) dL_help_10
  · obtain ⟨ho, rfl⟩ := hpo
    subst ho
    have hB := hB.perm (List.Perm.of_eq (List.append_nil _))
    exact g_liret hx hb hr hlocks hK hB rfl (Nat.le_of_ble_eq_true rfl) (Nat.le_of_ble_eq_true rfl) dL_help_6

abbrev rmL_pass : Room := { frames := 7, cells := 1, slots := 6, locals := 191 }
set_option maxHeartbeats 4000000 in
set_option maxRecDepth 100000 in
theorem kL_pass (l : Launch) (hl0 : l.stackTraces = false) (dC : Nat → ClassId) (dI : Nat → Nat → Nat) (cyI cyB cyO cyA cyT cyW cyZ : ClassId) (ua ub up : Nat) (aw as' : Nat → Nat → Nat) (kS : Nat → Nat) (sz : Nat) {fu : Nat} {τs : WS} {n : Nat} {pa : PA} {β : FS} {υ : MS} {ω : WS} {sid : PA} {i1 : Int32} {o : (String ⊕ (Int32 × PA × MS × WS × PA))} (hf : mX3_pass fu τs n pa β υ ω sid i1 = some o) (hE : ∀ E, o = .inl E → E ∈ (["java/lang/IllegalArgumentException"] : List String)) : Met l yL_pass wqL_pass rmL_pass (PcE (dC, dI) [(cyI, .int), (cyB, .byte), (cyO, .object "UndoJourneys$World"), (cyA, .array .int), (cyT, .object "UndoJourneysLaw$Trip"), (cyW, .object "UndoJourneysLaw$World"), (cyZ, .boolean)] kS (cU cyI cyB cyO ua ub up aw as' pa β υ ω sid τs n) sz [.ref ua, .int i1]) (QiF (dC, dI) [(cyI, .int), (cyB, .byte), (cyO, .object "UndoJourneys$World"), (cyA, .array .int), (cyT, .object "UndoJourneysLaw$Trip"), (cyW, .object "UndoJourneysLaw$World"), (cyZ, .boolean)] (cU cyI cyB cyO ua ub up aw as' pa β υ ω sid τs n) (xU (cU cyI cyB cyO ua ub up aw as' pa β υ ω sid τs n) (fun x => (cU cyI cyB cyO ua ub up aw as' (x.2.1) β (x.2.2.1) (x.2.2.2.1) (x.2.2.2.2) τs n)) o) sz (xE [("java/lang/IllegalArgumentException", (-2000000098 : Int32))] (fun x => (x.1)) o)) 1 6 (va_A (cU cyI cyB cyO ua ub up aw as' pa β υ ω sid τs n) sz) := by
  refine va_MetW (cc := cL_pass) (maxL := 3) (ret := (some .int)) (by decide) rfl ?_
  intro p e s m args below meth c s₁ B hml hv
  obtain ⟨rfl, ⟨hsz, hP, hK, hD0⟩, hEV⟩ := hv
  obtain ⟨hEX, hNC, hJ, hNw, -⟩ := hEV
  have hx := B.exec
  have hb := B.bytes
  have hr := B.returns
  have hts := atoms_spec (ws := wqL_pass) B.pre
  have hown : s.vm.findClass RL = some m.cls := findClass_of_methodNamed B.named
  have hlocks := B.notSynchronized
  have ht0 := vx_table (x := yL_pass) B (hts _ List.mem_cons_self)
  have hg9 : ∀ w ∈ gw_tbl, w.before _ s = true := fun w h => hts w (List.mem_cons_of_mem _ h)
  have hq40 : (Cond.classLink RL 40 "java/lang/IllegalArgumentException").before _ s = true := hg9 _ (gwt (tb2 150 rfl) (by decide +kernel))
  have hq42 : (Cond.constant RL 42 (-2000000098)).before _ s = true := hg9 _ (gwt (tb3 175 rfl) (by decide +kernel))
  subst hsz
  have hA : ∀ q : Nat, s.heap.size ≤ q → va_A (cU cyI cyB cyO ua ub up aw as' pa β υ ω sid τs n) s.heap.size q := fun q h => Or.inr h
  have hB : Bd (dC, dI) [(cyI, .int), (cyB, .byte), (cyO, .object "UndoJourneys$World"), (cyA, .array .int), (cyT, .object "UndoJourneysLaw$Trip"), (cyW, .object "UndoJourneysLaw$World"), (cyZ, .boolean)] (va_A (cU cyI cyB cyO ua ub up aw as' pa β υ ω sid τs n) s.heap.size) s (cU cyI cyB cyO ua ub up aw as' pa β υ ω sid τs n) s.heap [] := ⟨hP, hD0.self, va_S.rf⟩
  have hB : Bd (dC, dI) [(cyI, .int), (cyB, .byte), (cyO, .object "UndoJourneys$World"), (cyA, .array .int), (cyT, .object "UndoJourneysLaw$Trip"), (cyW, .object "UndoJourneysLaw$World"), (cyZ, .boolean)] (va_A (cU cyI cyB cyO ua ub up aw as' pa β υ ω sid τs n) s.heap.size) s (cU cyI cyB cyO ua ub up aw as' pa β υ ω sid τs n ++ []) s.heap [] := hB.perm (List.Perm.of_eq (List.append_nil _).symm)
  have hl := lv_entry [.ref ua, .int i1] (n := 3) (Nat.le_of_ble_eq_true rfl)
  rw [lg_entry_eq]
  generalize (lg_sl [.ref ua, .int i1] ++ List.replicate (3 - (lg_sl [.ref ua, .int i1]).length) Slot.unset).toArray = ls at hl ⊢
  have hl : lv_has ls 3 [(0, .ref ua), (1, .int i1)] := hl
  clear hP hD0
  refine lv_aload_n hx hb dL_pass_0 rfl (lv_at hl 0 rfl) ?_
  refine lv_iload_n hx hb dL_pass_1 rfl (lv_at hl 1 rfl) ?_
  refine g_xcut (As := [.int i1]) (rest := []) (wc := cU cyI cyB cyO ua ub up aw as' pa β υ ω sid τs n) (wr := []) ⟨hx, hb, hml, hown, hts⟩ (kX3_pass l hl0 dC dI cyI cyB cyO ua ub up aw as' s.heap.size hf) (cwV 1 hts (gv_X3_pass_75 (fun w h => List.mem_cons_of_mem _ h)) rfl rfl rfl (by decide +kernel) ⟨(Nat.le_of_ble_eq_true rfl), (Nat.le_of_ble_eq_true rfl)⟩) (xpre_left hEX hB hA (hK.sub [0, 1, 2] rfl) (.ref ua :: [.int i1])) hB hA (g_recv (ci := 3) hK hB 0 rfl rfl rfl) (List.Perm.refl _) rfl hl.1 rfl (Nat.le_of_ble_eq_true rfl) dL_pass_2 ⟨(Nat.le_of_ble_eq_true rfl), (Nat.le_of_ble_eq_true rfl)⟩ (fun E ce q9 H locs ho hB hc9 hv9 hcl9 => ?_) (fun r x H locs hpo hB => ?_)
  · subst ho
    have hB := hB.perm (List.Perm.of_eq (List.append_nil _))
    have hE9 := hE E rfl
    obtain rfl := List.mem_singleton.mp hE9
    refine g_catch hown hEX hNC [] ⟨0, 5, 6, 40⟩ [] ht0 [] (fun z hz => absurd hz List.not_mem_nil) (by decide) (by decide) (by decide) hq40 (by decide +kernel) hc9 hv9 hcl9 ?_
    refine lv_astore_n (lv' := [(2, .ref q9), (0, .ref ua), (1, .int i1)]) hx hb dL_pass_6 rfl hl (by decide) rfl (fun ls hl => ?_)
    refine lv_ldc (v := (-2000000098 : Int32)) hx hb hown hq42 dL_pass_7 ?_
    exact g_liret hx hb hr hlocks hK hB (by decide) (Nat.le_of_ble_eq_true rfl) (Nat.le_of_ble_eq_true rfl) dL_pass_9
  · obtain ⟨ho, rfl⟩ := hpo
    subst ho
    have hB := hB.perm (List.Perm.of_eq (List.append_nil _))
    exact g_liret hx hb hr hlocks hK hB rfl (Nat.le_of_ble_eq_true rfl) (Nat.le_of_ble_eq_true rfl) dL_pass_5

abbrev rmL_settle : Room := { frames := 8, cells := 2, slots := 12, locals := 160 }
set_option maxHeartbeats 4000000 in
set_option maxRecDepth 100000 in
theorem kL_settle (l : Launch) (hl0 : l.stackTraces = false) (dC : Nat → ClassId) (dI : Nat → Nat → Nat) (cyI cyB cyO cyA cyT cyW cyZ : ClassId) (ua ub up : Nat) (aw as' : Nat → Nat → Nat) (kS : Nat → Nat) (sz : Nat) {fu : Nat} {τs : WS} {n : Nat} {pa : PA} {β : FS} {υ : MS} {ω : WS} {sid : PA} {i1 : Int32} {o : (String ⊕ (Int32 × PA × MS × WS × PA))} (hf : mX3_settle fu τs n pa β υ ω sid i1 = some o) (hE : ∀ E, o = .inl E → E ∈ (["java/lang/IndexOutOfBoundsException", "java/lang/IllegalStateException"] : List String)) : Met l yL_settle wqL_settle rmL_settle (PcE (dC, dI) [(cyI, .int), (cyB, .byte), (cyO, .object "UndoJourneys$World"), (cyA, .array .int), (cyT, .object "UndoJourneysLaw$Trip"), (cyW, .object "UndoJourneysLaw$World"), (cyZ, .boolean)] kS (cU cyI cyB cyO ua ub up aw as' pa β υ ω sid τs n) sz [.ref ua, .int i1]) (QiF (dC, dI) [(cyI, .int), (cyB, .byte), (cyO, .object "UndoJourneys$World"), (cyA, .array .int), (cyT, .object "UndoJourneysLaw$Trip"), (cyW, .object "UndoJourneysLaw$World"), (cyZ, .boolean)] (cU cyI cyB cyO ua ub up aw as' pa β υ ω sid τs n) (xU (cU cyI cyB cyO ua ub up aw as' pa β υ ω sid τs n) (fun x => (cU cyI cyB cyO ua ub up aw as' (x.2.1) β (x.2.2.1) (x.2.2.2.1) (x.2.2.2.2) τs n)) o) sz (xE [("java/lang/IndexOutOfBoundsException", (-2000000097 : Int32)), ("java/lang/IllegalStateException", (-2000000099 : Int32))] (fun x => (x.1)) o)) 2 12 (va_A (cU cyI cyB cyO ua ub up aw as' pa β υ ω sid τs n) sz) := by
  refine va_MetW (cc := cL_settle) (maxL := 3) (ret := (some .int)) (by decide) rfl ?_
  intro p e s m args below meth c s₁ B hml hv
  obtain ⟨rfl, ⟨hsz, hP, hK, hD0⟩, hEV⟩ := hv
  obtain ⟨hEX, hNC, hJ, hNw, -⟩ := hEV
  have hx := B.exec
  have hb := B.bytes
  have hr := B.returns
  have hts := atoms_spec (ws := wqL_settle) B.pre
  have hown : s.vm.findClass RL = some m.cls := findClass_of_methodNamed B.named
  have hlocks := B.notSynchronized
  have ht0 := vx_table (x := yL_settle) B (hts _ List.mem_cons_self)
  have hg9 : ∀ w ∈ gw_tbl, w.before _ s = true := fun w h => hts w (List.mem_cons_of_mem _ h)
  have hq50 : (Cond.classLink RL 50 "java/lang/IndexOutOfBoundsException").before _ s = true := hg9 _ (gwt (tb3 179 rfl) (by decide +kernel))
  have hq81 : (Cond.classLink RL 81 "java/lang/IllegalStateException").before _ s = true := hg9 _ (gwt (tb4 125 rfl) (by decide +kernel))
  have hq52 : (Cond.constant RL 52 (-2000000097)).before _ s = true := hg9 _ (gwt (tb3 225 rfl) (by decide +kernel))
  have hq83 : (Cond.constant RL 83 (-2000000099)).before _ s = true := hg9 _ (gwt (tb4 154 rfl) (by decide +kernel))
  subst hsz
  have hA : ∀ q : Nat, s.heap.size ≤ q → va_A (cU cyI cyB cyO ua ub up aw as' pa β υ ω sid τs n) s.heap.size q := fun q h => Or.inr h
  have hB : Bd (dC, dI) [(cyI, .int), (cyB, .byte), (cyO, .object "UndoJourneys$World"), (cyA, .array .int), (cyT, .object "UndoJourneysLaw$Trip"), (cyW, .object "UndoJourneysLaw$World"), (cyZ, .boolean)] (va_A (cU cyI cyB cyO ua ub up aw as' pa β υ ω sid τs n) s.heap.size) s (cU cyI cyB cyO ua ub up aw as' pa β υ ω sid τs n) s.heap [] := ⟨hP, hD0.self, va_S.rf⟩
  have hB : Bd (dC, dI) [(cyI, .int), (cyB, .byte), (cyO, .object "UndoJourneys$World"), (cyA, .array .int), (cyT, .object "UndoJourneysLaw$Trip"), (cyW, .object "UndoJourneysLaw$World"), (cyZ, .boolean)] (va_A (cU cyI cyB cyO ua ub up aw as' pa β υ ω sid τs n) s.heap.size) s (cU cyI cyB cyO ua ub up aw as' pa β υ ω sid τs n ++ []) s.heap [] := hB.perm (List.Perm.of_eq (List.append_nil _).symm)
  have hl := lv_entry [.ref ua, .int i1] (n := 3) (Nat.le_of_ble_eq_true rfl)
  rw [lg_entry_eq]
  generalize (lg_sl [.ref ua, .int i1] ++ List.replicate (3 - (lg_sl [.ref ua, .int i1]).length) Slot.unset).toArray = ls at hl ⊢
  have hl : lv_has ls 3 [(0, .ref ua), (1, .int i1)] := hl
  clear hP hD0
  refine lv_aload_n hx hb dL_settle_0 rfl (lv_at hl 0 rfl) ?_
  refine lv_iload_n hx hb dL_settle_1 rfl (lv_at hl 1 rfl) ?_
  refine g_xcut (As := [.int i1]) (rest := []) (wc := cU cyI cyB cyO ua ub up aw as' pa β υ ω sid τs n) (wr := []) ⟨hx, hb, hml, hown, hts⟩ (kX3_settle l hl0 dC dI cyI cyB cyO ua ub up aw as' s.heap.size hf) (cwV 1 hts (gv_X3_settle_78 (fun w h => List.mem_cons_of_mem _ h)) rfl rfl rfl (by decide +kernel) ⟨(Nat.le_of_ble_eq_true rfl), (Nat.le_of_ble_eq_true rfl)⟩) (xpre_left hEX hB hA (hK.sub [0, 1, 2] rfl) (.ref ua :: [.int i1])) hB hA (g_recv (ci := 3) hK hB 0 rfl rfl rfl) (List.Perm.refl _) rfl hl.1 rfl (Nat.le_of_ble_eq_true rfl) dL_settle_2 ⟨(Nat.le_of_ble_eq_true rfl), (Nat.le_of_ble_eq_true rfl)⟩ (fun E ce q9 H locs ho hB hc9 hv9 hcl9 => ?_) (fun r x H locs hpo hB => ?_)
  · subst ho
    have hB := hB.perm (List.Perm.of_eq (List.append_nil _))
    have hE9 := hE E rfl
    simp only [List.mem_cons, List.not_mem_nil, or_false] at hE9
    rcases hE9 with rfl | rfl
    · refine g_catch hown hEX hNC [] ⟨0, 5, 6, 50⟩ [⟨0, 5, 10, 81⟩] ht0 [] (fun z hz => absurd hz List.not_mem_nil) (by decide) (by decide) (by decide) hq50 (by decide +kernel) hc9 hv9 hcl9 ?_
      refine lv_astore_n (lv' := [(2, .ref q9), (0, .ref ua), (1, .int i1)]) hx hb dL_settle_6 rfl hl (by decide) rfl (fun ls hl => ?_)
      refine lv_ldc (v := (-2000000097 : Int32)) hx hb hown hq52 dL_settle_7 ?_
      exact g_liret hx hb hr hlocks hK hB (by decide) (Nat.le_of_ble_eq_true rfl) (Nat.le_of_ble_eq_true rfl) dL_settle_9
    · refine g_catch hown hEX hNC [⟨0, 5, 6, 50⟩] ⟨0, 5, 10, 81⟩ [] ht0 ["java/lang/IndexOutOfBoundsException"] (fun z hz => by obtain rfl := List.mem_singleton.mp hz; exact ⟨by decide, _, List.mem_cons_self, hq50⟩) (by decide) (by decide) (by decide) hq81 (by decide +kernel) hc9 hv9 hcl9 ?_
      refine lv_astore_n (lv' := [(2, .ref q9), (0, .ref ua), (1, .int i1)]) hx hb dL_settle_10 rfl hl (by decide) rfl (fun ls hl => ?_)
      refine lv_ldc (v := (-2000000099 : Int32)) hx hb hown hq83 dL_settle_11 ?_
      exact g_liret hx hb hr hlocks hK hB (by decide) (Nat.le_of_ble_eq_true rfl) (Nat.le_of_ble_eq_true rfl) dL_settle_13
  · obtain ⟨ho, rfl⟩ := hpo
    subst ho
    have hB := hB.perm (List.Perm.of_eq (List.append_nil _))
    exact g_liret hx hb hr hlocks hK hB rfl (Nat.le_of_ble_eq_true rfl) (Nat.le_of_ble_eq_true rfl) dL_settle_5

abbrev rmL_writeOff : Room := { frames := 8, cells := 2, slots := 12, locals := 160 }
set_option maxHeartbeats 4000000 in
set_option maxRecDepth 100000 in
theorem kL_writeOff (l : Launch) (hl0 : l.stackTraces = false) (dC : Nat → ClassId) (dI : Nat → Nat → Nat) (cyI cyB cyO cyA cyT cyW cyZ : ClassId) (ua ub up : Nat) (aw as' : Nat → Nat → Nat) (kS : Nat → Nat) (sz : Nat) {fu : Nat} {τs : WS} {n : Nat} {pa : PA} {β : FS} {υ : MS} {ω : WS} {sid : PA} {i1 : Int32} {o : (String ⊕ (Int32 × PA × MS × WS × PA))} (hf : mX3_writeOff fu τs n pa β υ ω sid i1 = some o) (hE : ∀ E, o = .inl E → E ∈ (["java/lang/IndexOutOfBoundsException", "java/lang/IllegalStateException"] : List String)) : Met l yL_writeOff wqL_writeOff rmL_writeOff (PcE (dC, dI) [(cyI, .int), (cyB, .byte), (cyO, .object "UndoJourneys$World"), (cyA, .array .int), (cyT, .object "UndoJourneysLaw$Trip"), (cyW, .object "UndoJourneysLaw$World"), (cyZ, .boolean)] kS (cU cyI cyB cyO ua ub up aw as' pa β υ ω sid τs n) sz [.ref ua, .int i1]) (QiF (dC, dI) [(cyI, .int), (cyB, .byte), (cyO, .object "UndoJourneys$World"), (cyA, .array .int), (cyT, .object "UndoJourneysLaw$Trip"), (cyW, .object "UndoJourneysLaw$World"), (cyZ, .boolean)] (cU cyI cyB cyO ua ub up aw as' pa β υ ω sid τs n) (xU (cU cyI cyB cyO ua ub up aw as' pa β υ ω sid τs n) (fun x => (cU cyI cyB cyO ua ub up aw as' (x.2.1) β (x.2.2.1) (x.2.2.2.1) (x.2.2.2.2) τs n)) o) sz (xE [("java/lang/IndexOutOfBoundsException", (-2000000097 : Int32)), ("java/lang/IllegalStateException", (-2000000099 : Int32))] (fun x => (x.1)) o)) 2 12 (va_A (cU cyI cyB cyO ua ub up aw as' pa β υ ω sid τs n) sz) := by
  refine va_MetW (cc := cL_writeOff) (maxL := 3) (ret := (some .int)) (by decide) rfl ?_
  intro p e s m args below meth c s₁ B hml hv
  obtain ⟨rfl, ⟨hsz, hP, hK, hD0⟩, hEV⟩ := hv
  obtain ⟨hEX, hNC, hJ, hNw, -⟩ := hEV
  have hx := B.exec
  have hb := B.bytes
  have hr := B.returns
  have hts := atoms_spec (ws := wqL_writeOff) B.pre
  have hown : s.vm.findClass RL = some m.cls := findClass_of_methodNamed B.named
  have hlocks := B.notSynchronized
  have ht0 := vx_table (x := yL_writeOff) B (hts _ List.mem_cons_self)
  have hg9 : ∀ w ∈ gw_tbl, w.before _ s = true := fun w h => hts w (List.mem_cons_of_mem _ h)
  have hq50 : (Cond.classLink RL 50 "java/lang/IndexOutOfBoundsException").before _ s = true := hg9 _ (gwt (tb3 179 rfl) (by decide +kernel))
  have hq81 : (Cond.classLink RL 81 "java/lang/IllegalStateException").before _ s = true := hg9 _ (gwt (tb4 125 rfl) (by decide +kernel))
  have hq52 : (Cond.constant RL 52 (-2000000097)).before _ s = true := hg9 _ (gwt (tb3 225 rfl) (by decide +kernel))
  have hq83 : (Cond.constant RL 83 (-2000000099)).before _ s = true := hg9 _ (gwt (tb4 154 rfl) (by decide +kernel))
  subst hsz
  have hA : ∀ q : Nat, s.heap.size ≤ q → va_A (cU cyI cyB cyO ua ub up aw as' pa β υ ω sid τs n) s.heap.size q := fun q h => Or.inr h
  have hB : Bd (dC, dI) [(cyI, .int), (cyB, .byte), (cyO, .object "UndoJourneys$World"), (cyA, .array .int), (cyT, .object "UndoJourneysLaw$Trip"), (cyW, .object "UndoJourneysLaw$World"), (cyZ, .boolean)] (va_A (cU cyI cyB cyO ua ub up aw as' pa β υ ω sid τs n) s.heap.size) s (cU cyI cyB cyO ua ub up aw as' pa β υ ω sid τs n) s.heap [] := ⟨hP, hD0.self, va_S.rf⟩
  have hB : Bd (dC, dI) [(cyI, .int), (cyB, .byte), (cyO, .object "UndoJourneys$World"), (cyA, .array .int), (cyT, .object "UndoJourneysLaw$Trip"), (cyW, .object "UndoJourneysLaw$World"), (cyZ, .boolean)] (va_A (cU cyI cyB cyO ua ub up aw as' pa β υ ω sid τs n) s.heap.size) s (cU cyI cyB cyO ua ub up aw as' pa β υ ω sid τs n ++ []) s.heap [] := hB.perm (List.Perm.of_eq (List.append_nil _).symm)
  have hl := lv_entry [.ref ua, .int i1] (n := 3) (Nat.le_of_ble_eq_true rfl)
  rw [lg_entry_eq]
  generalize (lg_sl [.ref ua, .int i1] ++ List.replicate (3 - (lg_sl [.ref ua, .int i1]).length) Slot.unset).toArray = ls at hl ⊢
  have hl : lv_has ls 3 [(0, .ref ua), (1, .int i1)] := hl
  clear hP hD0
  refine lv_aload_n hx hb dL_writeOff_0 rfl (lv_at hl 0 rfl) ?_
  refine lv_iload_n hx hb dL_writeOff_1 rfl (lv_at hl 1 rfl) ?_
  refine g_xcut (As := [.int i1]) (rest := []) (wc := cU cyI cyB cyO ua ub up aw as' pa β υ ω sid τs n) (wr := []) ⟨hx, hb, hml, hown, hts⟩ (kX3_writeOff l hl0 dC dI cyI cyB cyO ua ub up aw as' s.heap.size hf) (cwV 1 hts (gv_X3_writeOff_84 (fun w h => List.mem_cons_of_mem _ h)) rfl rfl rfl (by decide +kernel) ⟨(Nat.le_of_ble_eq_true rfl), (Nat.le_of_ble_eq_true rfl)⟩) (xpre_left hEX hB hA (hK.sub [0, 1, 2] rfl) (.ref ua :: [.int i1])) hB hA (g_recv (ci := 3) hK hB 0 rfl rfl rfl) (List.Perm.refl _) rfl hl.1 rfl (Nat.le_of_ble_eq_true rfl) dL_writeOff_2 ⟨(Nat.le_of_ble_eq_true rfl), (Nat.le_of_ble_eq_true rfl)⟩ (fun E ce q9 H locs ho hB hc9 hv9 hcl9 => ?_) (fun r x H locs hpo hB => ?_)
  · subst ho
    have hB := hB.perm (List.Perm.of_eq (List.append_nil _))
    have hE9 := hE E rfl
    simp only [List.mem_cons, List.not_mem_nil, or_false] at hE9
    rcases hE9 with rfl | rfl
    · refine g_catch hown hEX hNC [] ⟨0, 5, 6, 50⟩ [⟨0, 5, 10, 81⟩] ht0 [] (fun z hz => absurd hz List.not_mem_nil) (by decide) (by decide) (by decide) hq50 (by decide +kernel) hc9 hv9 hcl9 ?_
      refine lv_astore_n (lv' := [(2, .ref q9), (0, .ref ua), (1, .int i1)]) hx hb dL_writeOff_6 rfl hl (by decide) rfl (fun ls hl => ?_)
      refine lv_ldc (v := (-2000000097 : Int32)) hx hb hown hq52 dL_writeOff_7 ?_
      exact g_liret hx hb hr hlocks hK hB (by decide) (Nat.le_of_ble_eq_true rfl) (Nat.le_of_ble_eq_true rfl) dL_writeOff_9
    · refine g_catch hown hEX hNC [⟨0, 5, 6, 50⟩] ⟨0, 5, 10, 81⟩ [] ht0 ["java/lang/IndexOutOfBoundsException"] (fun z hz => by obtain rfl := List.mem_singleton.mp hz; exact ⟨by decide, _, List.mem_cons_self, hq50⟩) (by decide) (by decide) (by decide) hq81 (by decide +kernel) hc9 hv9 hcl9 ?_
      refine lv_astore_n (lv' := [(2, .ref q9), (0, .ref ua), (1, .int i1)]) hx hb dL_writeOff_10 rfl hl (by decide) rfl (fun ls hl => ?_)
      refine lv_ldc (v := (-2000000099 : Int32)) hx hb hown hq83 dL_writeOff_11 ?_
      exact g_liret hx hb hr hlocks hK hB (by decide) (Nat.le_of_ble_eq_true rfl) (Nat.le_of_ble_eq_true rfl) dL_writeOff_13
  · obtain ⟨ho, rfl⟩ := hpo
    subst ho
    have hB := hB.perm (List.Perm.of_eq (List.append_nil _))
    exact g_liret hx hb hr hlocks hK hB rfl (Nat.le_of_ble_eq_true rfl) (Nat.le_of_ble_eq_true rfl) dL_writeOff_5

abbrev rmL_goForward : Room := { frames := 8, cells := 2, slots := 12, locals := 160 }
set_option maxHeartbeats 4000000 in
set_option maxRecDepth 100000 in
theorem kL_goForward (l : Launch) (hl0 : l.stackTraces = false) (dC : Nat → ClassId) (dI : Nat → Nat → Nat) (cyI cyB cyO cyA cyT cyW cyZ : ClassId) (ua ub up : Nat) (aw as' : Nat → Nat → Nat) (kS : Nat → Nat) (sz : Nat) {fu : Nat} {τs : WS} {n : Nat} {pa : PA} {β : FS} {υ : MS} {ω : WS} {sid : PA} {i1 : Int32} {o : (String ⊕ (Int32 × PA × MS × WS × PA))} (hf : mX3_goForward fu τs n pa β υ ω sid i1 = some o) (hE : ∀ E, o = .inl E → E ∈ (["java/lang/IndexOutOfBoundsException", "java/lang/IllegalStateException"] : List String)) : Met l yL_goForward wqL_goForward rmL_goForward (PcE (dC, dI) [(cyI, .int), (cyB, .byte), (cyO, .object "UndoJourneys$World"), (cyA, .array .int), (cyT, .object "UndoJourneysLaw$Trip"), (cyW, .object "UndoJourneysLaw$World"), (cyZ, .boolean)] kS (cU cyI cyB cyO ua ub up aw as' pa β υ ω sid τs n) sz [.ref ua, .int i1]) (QiF (dC, dI) [(cyI, .int), (cyB, .byte), (cyO, .object "UndoJourneys$World"), (cyA, .array .int), (cyT, .object "UndoJourneysLaw$Trip"), (cyW, .object "UndoJourneysLaw$World"), (cyZ, .boolean)] (cU cyI cyB cyO ua ub up aw as' pa β υ ω sid τs n) (xU (cU cyI cyB cyO ua ub up aw as' pa β υ ω sid τs n) (fun x => (cU cyI cyB cyO ua ub up aw as' (x.2.1) β (x.2.2.1) (x.2.2.2.1) (x.2.2.2.2) τs n)) o) sz (xE [("java/lang/IndexOutOfBoundsException", (-2000000097 : Int32)), ("java/lang/IllegalStateException", (-2000000099 : Int32))] (fun x => (x.1)) o)) 2 12 (va_A (cU cyI cyB cyO ua ub up aw as' pa β υ ω sid τs n) sz) := by
  refine va_MetW (cc := cL_goForward) (maxL := 3) (ret := (some .int)) (by decide) rfl ?_
  intro p e s m args below meth c s₁ B hml hv
  obtain ⟨rfl, ⟨hsz, hP, hK, hD0⟩, hEV⟩ := hv
  obtain ⟨hEX, hNC, hJ, hNw, -⟩ := hEV
  have hx := B.exec
  have hb := B.bytes
  have hr := B.returns
  have hts := atoms_spec (ws := wqL_goForward) B.pre
  have hown : s.vm.findClass RL = some m.cls := findClass_of_methodNamed B.named
  have hlocks := B.notSynchronized
  have ht0 := vx_table (x := yL_goForward) B (hts _ List.mem_cons_self)
  have hg9 : ∀ w ∈ gw_tbl, w.before _ s = true := fun w h => hts w (List.mem_cons_of_mem _ h)
  have hq50 : (Cond.classLink RL 50 "java/lang/IndexOutOfBoundsException").before _ s = true := hg9 _ (gwt (tb3 179 rfl) (by decide +kernel))
  have hq81 : (Cond.classLink RL 81 "java/lang/IllegalStateException").before _ s = true := hg9 _ (gwt (tb4 125 rfl) (by decide +kernel))
  have hq52 : (Cond.constant RL 52 (-2000000097)).before _ s = true := hg9 _ (gwt (tb3 225 rfl) (by decide +kernel))
  have hq83 : (Cond.constant RL 83 (-2000000099)).before _ s = true := hg9 _ (gwt (tb4 154 rfl) (by decide +kernel))
  subst hsz
  have hA : ∀ q : Nat, s.heap.size ≤ q → va_A (cU cyI cyB cyO ua ub up aw as' pa β υ ω sid τs n) s.heap.size q := fun q h => Or.inr h
  have hB : Bd (dC, dI) [(cyI, .int), (cyB, .byte), (cyO, .object "UndoJourneys$World"), (cyA, .array .int), (cyT, .object "UndoJourneysLaw$Trip"), (cyW, .object "UndoJourneysLaw$World"), (cyZ, .boolean)] (va_A (cU cyI cyB cyO ua ub up aw as' pa β υ ω sid τs n) s.heap.size) s (cU cyI cyB cyO ua ub up aw as' pa β υ ω sid τs n) s.heap [] := ⟨hP, hD0.self, va_S.rf⟩
  have hB : Bd (dC, dI) [(cyI, .int), (cyB, .byte), (cyO, .object "UndoJourneys$World"), (cyA, .array .int), (cyT, .object "UndoJourneysLaw$Trip"), (cyW, .object "UndoJourneysLaw$World"), (cyZ, .boolean)] (va_A (cU cyI cyB cyO ua ub up aw as' pa β υ ω sid τs n) s.heap.size) s (cU cyI cyB cyO ua ub up aw as' pa β υ ω sid τs n ++ []) s.heap [] := hB.perm (List.Perm.of_eq (List.append_nil _).symm)
  have hl := lv_entry [.ref ua, .int i1] (n := 3) (Nat.le_of_ble_eq_true rfl)
  rw [lg_entry_eq]
  generalize (lg_sl [.ref ua, .int i1] ++ List.replicate (3 - (lg_sl [.ref ua, .int i1]).length) Slot.unset).toArray = ls at hl ⊢
  have hl : lv_has ls 3 [(0, .ref ua), (1, .int i1)] := hl
  clear hP hD0
  refine lv_aload_n hx hb dL_goForward_0 rfl (lv_at hl 0 rfl) ?_
  refine lv_iload_n hx hb dL_goForward_1 rfl (lv_at hl 1 rfl) ?_
  refine g_xcut (As := [.int i1]) (rest := []) (wc := cU cyI cyB cyO ua ub up aw as' pa β υ ω sid τs n) (wr := []) ⟨hx, hb, hml, hown, hts⟩ (kX3_goForward l hl0 dC dI cyI cyB cyO ua ub up aw as' s.heap.size hf) (cwV 1 hts (gv_X3_goForward_87 (fun w h => List.mem_cons_of_mem _ h)) rfl rfl rfl (by decide +kernel) ⟨(Nat.le_of_ble_eq_true rfl), (Nat.le_of_ble_eq_true rfl)⟩) (xpre_left hEX hB hA (hK.sub [0, 1, 2] rfl) (.ref ua :: [.int i1])) hB hA (g_recv (ci := 3) hK hB 0 rfl rfl rfl) (List.Perm.refl _) rfl hl.1 rfl (Nat.le_of_ble_eq_true rfl) dL_goForward_2 ⟨(Nat.le_of_ble_eq_true rfl), (Nat.le_of_ble_eq_true rfl)⟩ (fun E ce q9 H locs ho hB hc9 hv9 hcl9 => ?_) (fun r x H locs hpo hB => ?_)
  · subst ho
    have hB := hB.perm (List.Perm.of_eq (List.append_nil _))
    have hE9 := hE E rfl
    simp only [List.mem_cons, List.not_mem_nil, or_false] at hE9
    rcases hE9 with rfl | rfl
    · refine g_catch hown hEX hNC [] ⟨0, 5, 6, 50⟩ [⟨0, 5, 10, 81⟩] ht0 [] (fun z hz => absurd hz List.not_mem_nil) (by decide) (by decide) (by decide) hq50 (by decide +kernel) hc9 hv9 hcl9 ?_
      refine lv_astore_n (lv' := [(2, .ref q9), (0, .ref ua), (1, .int i1)]) hx hb dL_goForward_6 rfl hl (by decide) rfl (fun ls hl => ?_)
      refine lv_ldc (v := (-2000000097 : Int32)) hx hb hown hq52 dL_goForward_7 ?_
      exact g_liret hx hb hr hlocks hK hB (by decide) (Nat.le_of_ble_eq_true rfl) (Nat.le_of_ble_eq_true rfl) dL_goForward_9
    · refine g_catch hown hEX hNC [⟨0, 5, 6, 50⟩] ⟨0, 5, 10, 81⟩ [] ht0 ["java/lang/IndexOutOfBoundsException"] (fun z hz => by obtain rfl := List.mem_singleton.mp hz; exact ⟨by decide, _, List.mem_cons_self, hq50⟩) (by decide) (by decide) (by decide) hq81 (by decide +kernel) hc9 hv9 hcl9 ?_
      refine lv_astore_n (lv' := [(2, .ref q9), (0, .ref ua), (1, .int i1)]) hx hb dL_goForward_10 rfl hl (by decide) rfl (fun ls hl => ?_)
      refine lv_ldc (v := (-2000000099 : Int32)) hx hb hown hq83 dL_goForward_11 ?_
      exact g_liret hx hb hr hlocks hK hB (by decide) (Nat.le_of_ble_eq_true rfl) (Nat.le_of_ble_eq_true rfl) dL_goForward_13
  · obtain ⟨ho, rfl⟩ := hpo
    subst ho
    have hB := hB.perm (List.Perm.of_eq (List.append_nil _))
    exact g_liret hx hb hr hlocks hK hB rfl (Nat.le_of_ble_eq_true rfl) (Nat.le_of_ble_eq_true rfl) dL_goForward_5

abbrev rmL_restock : Room := { frames := 8, cells := 2, slots := 12, locals := 160 }
set_option maxHeartbeats 4000000 in
set_option maxRecDepth 100000 in
theorem kL_restock (l : Launch) (hl0 : l.stackTraces = false) (dC : Nat → ClassId) (dI : Nat → Nat → Nat) (cyI cyB cyO cyA cyT cyW cyZ : ClassId) (ua ub up : Nat) (aw as' : Nat → Nat → Nat) (kS : Nat → Nat) (sz : Nat) {fu : Nat} {τs : WS} {n : Nat} {pa : PA} {β : FS} {υ : MS} {ω : WS} {sid : PA} {i1 : Int32} {i2 : Int32} {o : (String ⊕ (Int32 × PA × MS × WS × PA))} (hf : mX3_restock fu τs n pa β υ ω sid i1 i2 = some o) (hE : ∀ E, o = .inl E → E ∈ (["java/lang/IndexOutOfBoundsException", "java/lang/IllegalArgumentException"] : List String)) : Met l yL_restock wqL_restock rmL_restock (PcE (dC, dI) [(cyI, .int), (cyB, .byte), (cyO, .object "UndoJourneys$World"), (cyA, .array .int), (cyT, .object "UndoJourneysLaw$Trip"), (cyW, .object "UndoJourneysLaw$World"), (cyZ, .boolean)] kS (cU cyI cyB cyO ua ub up aw as' pa β υ ω sid τs n) sz [.ref ua, .int i1, .int i2]) (QiF (dC, dI) [(cyI, .int), (cyB, .byte), (cyO, .object "UndoJourneys$World"), (cyA, .array .int), (cyT, .object "UndoJourneysLaw$Trip"), (cyW, .object "UndoJourneysLaw$World"), (cyZ, .boolean)] (cU cyI cyB cyO ua ub up aw as' pa β υ ω sid τs n) (xU (cU cyI cyB cyO ua ub up aw as' pa β υ ω sid τs n) (fun x => (cU cyI cyB cyO ua ub up aw as' (x.2.1) β (x.2.2.1) (x.2.2.2.1) (x.2.2.2.2) τs n)) o) sz (xE [("java/lang/IndexOutOfBoundsException", (-2000000097 : Int32)), ("java/lang/IllegalArgumentException", (-2000000098 : Int32))] (fun x => (x.1)) o)) 2 12 (va_A (cU cyI cyB cyO ua ub up aw as' pa β υ ω sid τs n) sz) := by
  refine va_MetW (cc := cL_restock) (maxL := 4) (ret := (some .int)) (by decide) rfl ?_
  intro p e s m args below meth c s₁ B hml hv
  obtain ⟨rfl, ⟨hsz, hP, hK, hD0⟩, hEV⟩ := hv
  obtain ⟨hEX, hNC, hJ, hNw, -⟩ := hEV
  have hx := B.exec
  have hb := B.bytes
  have hr := B.returns
  have hts := atoms_spec (ws := wqL_restock) B.pre
  have hown : s.vm.findClass RL = some m.cls := findClass_of_methodNamed B.named
  have hlocks := B.notSynchronized
  have ht0 := vx_table (x := yL_restock) B (hts _ List.mem_cons_self)
  have hg9 : ∀ w ∈ gw_tbl, w.before _ s = true := fun w h => hts w (List.mem_cons_of_mem _ h)
  have hq50 : (Cond.classLink RL 50 "java/lang/IndexOutOfBoundsException").before _ s = true := hg9 _ (gwt (tb3 179 rfl) (by decide +kernel))
  have hq40 : (Cond.classLink RL 40 "java/lang/IllegalArgumentException").before _ s = true := hg9 _ (gwt (tb2 150 rfl) (by decide +kernel))
  have hq42 : (Cond.constant RL 42 (-2000000098)).before _ s = true := hg9 _ (gwt (tb3 175 rfl) (by decide +kernel))
  have hq52 : (Cond.constant RL 52 (-2000000097)).before _ s = true := hg9 _ (gwt (tb3 225 rfl) (by decide +kernel))
  subst hsz
  have hA : ∀ q : Nat, s.heap.size ≤ q → va_A (cU cyI cyB cyO ua ub up aw as' pa β υ ω sid τs n) s.heap.size q := fun q h => Or.inr h
  have hB : Bd (dC, dI) [(cyI, .int), (cyB, .byte), (cyO, .object "UndoJourneys$World"), (cyA, .array .int), (cyT, .object "UndoJourneysLaw$Trip"), (cyW, .object "UndoJourneysLaw$World"), (cyZ, .boolean)] (va_A (cU cyI cyB cyO ua ub up aw as' pa β υ ω sid τs n) s.heap.size) s (cU cyI cyB cyO ua ub up aw as' pa β υ ω sid τs n) s.heap [] := ⟨hP, hD0.self, va_S.rf⟩
  have hB : Bd (dC, dI) [(cyI, .int), (cyB, .byte), (cyO, .object "UndoJourneys$World"), (cyA, .array .int), (cyT, .object "UndoJourneysLaw$Trip"), (cyW, .object "UndoJourneysLaw$World"), (cyZ, .boolean)] (va_A (cU cyI cyB cyO ua ub up aw as' pa β υ ω sid τs n) s.heap.size) s (cU cyI cyB cyO ua ub up aw as' pa β υ ω sid τs n ++ []) s.heap [] := hB.perm (List.Perm.of_eq (List.append_nil _).symm)
  have hl := lv_entry [.ref ua, .int i1, .int i2] (n := 4) (Nat.le_of_ble_eq_true rfl)
  rw [lg_entry_eq]
  generalize (lg_sl [.ref ua, .int i1, .int i2] ++ List.replicate (4 - (lg_sl [.ref ua, .int i1, .int i2]).length) Slot.unset).toArray = ls at hl ⊢
  have hl : lv_has ls 4 [(0, .ref ua), (1, .int i1), (2, .int i2)] := hl
  clear hP hD0
  refine lv_aload_n hx hb dL_restock_0 rfl (lv_at hl 0 rfl) ?_
  refine lv_iload_n hx hb dL_restock_1 rfl (lv_at hl 1 rfl) ?_
  refine lv_iload_n hx hb dL_restock_2 rfl (lv_at hl 2 rfl) ?_
  refine g_xcut (As := [.int i1, .int i2]) (rest := []) (wc := cU cyI cyB cyO ua ub up aw as' pa β υ ω sid τs n) (wr := []) ⟨hx, hb, hml, hown, hts⟩ (kX3_restock l hl0 dC dI cyI cyB cyO ua ub up aw as' s.heap.size hf) (cwV 2 hts (gv_X3_restock_90 (fun w h => List.mem_cons_of_mem _ h)) rfl rfl rfl (by decide +kernel) ⟨(Nat.le_of_ble_eq_true rfl), (Nat.le_of_ble_eq_true rfl)⟩) (xpre_left hEX hB hA (hK.sub [0, 1, 2] rfl) (.ref ua :: [.int i1, .int i2])) hB hA (g_recv (ci := 3) hK hB 0 rfl rfl rfl) (List.Perm.refl _) rfl hl.1 rfl (Nat.le_of_ble_eq_true rfl) dL_restock_3 ⟨(Nat.le_of_ble_eq_true rfl), (Nat.le_of_ble_eq_true rfl)⟩ (fun E ce q9 H locs ho hB hc9 hv9 hcl9 => ?_) (fun r x H locs hpo hB => ?_)
  · subst ho
    have hB := hB.perm (List.Perm.of_eq (List.append_nil _))
    have hE9 := hE E rfl
    simp only [List.mem_cons, List.not_mem_nil, or_false] at hE9
    rcases hE9 with rfl | rfl
    · refine g_catch hown hEX hNC [] ⟨0, 6, 7, 50⟩ [⟨0, 6, 11, 40⟩] ht0 [] (fun z hz => absurd hz List.not_mem_nil) (by decide) (by decide) (by decide) hq50 (by decide +kernel) hc9 hv9 hcl9 ?_
      refine lv_astore_n (lv' := [(3, .ref q9), (0, .ref ua), (1, .int i1), (2, .int i2)]) hx hb dL_restock_7 rfl hl (by decide) rfl (fun ls hl => ?_)
      refine lv_ldc (v := (-2000000097 : Int32)) hx hb hown hq52 dL_restock_8 ?_
      exact g_liret hx hb hr hlocks hK hB (by decide) (Nat.le_of_ble_eq_true rfl) (Nat.le_of_ble_eq_true rfl) dL_restock_10
    · refine g_catch hown hEX hNC [⟨0, 6, 7, 50⟩] ⟨0, 6, 11, 40⟩ [] ht0 ["java/lang/IndexOutOfBoundsException"] (fun z hz => by obtain rfl := List.mem_singleton.mp hz; exact ⟨by decide, _, List.mem_cons_self, hq50⟩) (by decide) (by decide) (by decide) hq40 (by decide +kernel) hc9 hv9 hcl9 ?_
      refine lv_astore_n (lv' := [(3, .ref q9), (0, .ref ua), (1, .int i1), (2, .int i2)]) hx hb dL_restock_11 rfl hl (by decide) rfl (fun ls hl => ?_)
      refine lv_ldc (v := (-2000000098 : Int32)) hx hb hown hq42 dL_restock_12 ?_
      exact g_liret hx hb hr hlocks hK hB (by decide) (Nat.le_of_ble_eq_true rfl) (Nat.le_of_ble_eq_true rfl) dL_restock_14
  · obtain ⟨ho, rfl⟩ := hpo
    subst ho
    have hB := hB.perm (List.Perm.of_eq (List.append_nil _))
    exact g_liret hx hb hr hlocks hK hB rfl (Nat.le_of_ble_eq_true rfl) (Nat.le_of_ble_eq_true rfl) dL_restock_6
