abbrev rmX3_putWord : Room := { frames := 0, cells := 0, slots := 0, locals := 0 }

set_option maxHeartbeats 4000000 in
set_option maxRecDepth 100000 in
theorem kX3_putWord (l : Launch) (dC : Nat → ClassId) (dI : Nat → Nat → Nat) (cyI cyB cyO : ClassId) (ua ub up : Nat) (aw as' : Nat → Nat → Nat) (sz : Nat) {fu : Nat} {τs : WS} {n : Nat} {pa : PA} {β : FS} {υ : MS} {ω : WS} {sid : PA} {i1 : Int32} {β_ : FS} {υ_ : MS} (hf : mX3_putWord fu τs n pa β υ ω sid i1 = some (β_, υ_)) : Met l yX3_putWord wsX3_putWord rmX3_putWord (PcF (dC, dI) [(cyI, .int), (cyB, .byte), (cyO, .object "UndoJourneys$World")] (cU cyI cyB cyO ua ub up aw as' pa β υ ω sid τs n) sz [.ref ua, .int i1]) (QvF (dC, dI) [(cyI, .int), (cyB, .byte), (cyO, .object "UndoJourneys$World")] (cU cyI cyB cyO ua ub up aw as' pa β υ ω sid τs n) (cU cyI cyB cyO ua ub up aw as' pa β_ υ_ ω sid τs n) sz) 0 0 (va_A (cU cyI cyB cyO ua ub up aw as' pa β υ ω sid τs n) sz) := by
  refine Met.ofW (cc := cX3_putWord) (maxL := 3) (ret := none) (by decide) rfl ?_
  intro p e s m args below meth c s₁ B hml hv
  obtain ⟨rfl, hsz, hP, hK, hD0⟩ := hv
  have hx := B.exec
  have hb := B.bytes
  have hr := B.returns
  have hts := atoms_spec (ws := wsX3_putWord) B.pre
  have hown : s.vm.findClass RX3 = some m.cls := findClass_of_methodNamed B.named
  have hlocks := B.notSynchronized
  subst hsz
  have hA : ∀ q : Nat, s.heap.size ≤ q → va_A (cU cyI cyB cyO ua ub up aw as' pa β υ ω sid τs n) s.heap.size q := fun q h => Or.inr h
  have hB : Bd (dC, dI) [(cyI, .int), (cyB, .byte), (cyO, .object "UndoJourneys$World")] (va_A (cU cyI cyB cyO ua ub up aw as' pa β υ ω sid τs n) s.heap.size) s (cU cyI cyB cyO ua ub up aw as' pa β υ ω sid τs n) s.heap [] := ⟨hP, hD0.self, va_S.rf⟩
  have hq1 : (Cond.fieldLink RX3 9 "UndoJourneys" "buffer" "[B").before _ s = true := hts _ (List.mem_of_getElem? (i := 1) rfl)
  have hq2 : (Cond.fieldLink RX3 13 "UndoJourneys" "bufferLength" "I").before _ s = true := hts _ (List.mem_of_getElem? (i := 2) rfl)
  have hinX3 : ∀ w ∈ wsX30, w ∈ wsX3_putWord := fun w h => List.mem_cons_of_mem _ (List.mem_append_right _ h)
  have hl := lv_entry [.ref ua, .int i1] (n := 3) (Nat.le_of_ble_eq_true rfl)
  rw [lg_entry_eq]
  generalize (lg_sl [.ref ua, .int i1] ++ List.replicate (3 - (lg_sl [.ref ua, .int i1]).length) Slot.unset).toArray = ls at hl ⊢
  have hl : lv_has ls 3 [(0, .ref ua), (1, .int i1)] := hl
  clear hP hD0
  suffices main : ∀ (H : Heap) (locs : List Loc), Bd (dC, dI) [(cyI, .int), (cyB, .byte), (cyO, .object "UndoJourneys$World")] (va_A (cU cyI cyB cyO ua ub up aw as' pa β υ ω sid τs n) s.heap.size) s (cU cyI cyB cyO ua ub up aw as' pa β υ ω sid τs n) H locs → W p l e (headSpec wsX3_putWord rmX3_putWord).room s m ([.ref ua, .int i1] : List Value).toArray below meth c H locs 0 0 (MQ below (QvF (dC, dI) [(cyI, .int), (cyB, .byte), (cyO, .object "UndoJourneys$World")] (cU cyI cyB cyO ua ub up aw as' pa β υ ω sid τs n) (cU cyI cyB cyO ua ub up aw as' pa β_ υ_ ω sid τs n) s.heap.size) ([.ref ua, .int i1] : List Value).toArray s 0 0 (va_A (cU cyI cyB cyO ua ub up aw as' pa β υ ω sid τs n) s.heap.size)) (F0 m 0 ls []) from main _ _ hB
  clear hB
  intro H locs hB
  unfold mX3_putWord at hf
  refine lv_bipush (v := (24 : Int32)) hx hb dX3_putWord_0 (by decide) ?_
  refine lv_istore_n (lv' := [(2, .int (24 : Int32)), (0, .ref ua), (1, .int i1)]) hx hb dX3_putWord_2 rfl hl (by decide) rfl (fun ls hl => ?_)
  obtain ⟨β11, υ12, hL15, hf⟩ := ob2_s hf
  have kE13 : ∀ (H : Heap) (locs : List Loc) (ls : Array Slot), Bd (dC, dI) [(cyI, .int), (cyB, .byte), (cyO, .object "UndoJourneys$World")] (va_A (cU cyI cyB cyO ua ub up aw as' pa β υ ω sid τs n) s.heap.size) s (cU cyI cyB cyO ua ub up aw as' pa β11 υ12 ω sid τs n) H locs → lv_has ls 3 [] → W p l e (headSpec wsX3_putWord rmX3_putWord).room s m ([.ref ua, .int i1] : List Value).toArray below meth c H locs 0 0 (MQ below (QvF (dC, dI) [(cyI, .int), (cyB, .byte), (cyO, .object "UndoJourneys$World")] (cU cyI cyB cyO ua ub up aw as' pa β υ ω sid τs n) (cU cyI cyB cyO ua ub up aw as' pa β_ υ_ ω sid τs n) s.heap.size) ([.ref ua, .int i1] : List Value).toArray s 0 0 (va_A (cU cyI cyB cyO ua ub up aw as' pa β υ ω sid τs n) s.heap.size)) (F0 m 36 ls []) := by
    intro H locs ls hB hl
    obtain ⟨e0, e1⟩ := inj2 hf
    subst e0
    subst e1
    exact g_vret hx hb hr hlocks hK hB dX3_putWord_36
  have key14 : ∀ (n9 : Nat) (v18 : Int32) (β19 : FS) (υ20 : MS) (H : Heap) (locs : List Loc) (ls : Array Slot), loopM (fun st => mX3_putWord_L3 fu τs n i1 pa ω sid st.1 st.2.1 st.2.2) n9 (v18, β19, υ20) = some (β11, υ12) → Bd (dC, dI) [(cyI, .int), (cyB, .byte), (cyO, .object "UndoJourneys$World")] (va_A (cU cyI cyB cyO ua ub up aw as' pa β υ ω sid τs n) s.heap.size) s (cU cyI cyB cyO ua ub up aw as' pa β19 υ20 ω sid τs n) H locs → lv_has ls 3 [(2, .int v18), (0, .ref ua), (1, .int i1)] → W p l e (headSpec wsX3_putWord rmX3_putWord).room s m ([.ref ua, .int i1] : List Value).toArray below meth c H locs 0 0 (MQ below (QvF (dC, dI) [(cyI, .int), (cyB, .byte), (cyO, .object "UndoJourneys$World")] (cU cyI cyB cyO ua ub up aw as' pa β υ ω sid τs n) (cU cyI cyB cyO ua ub up aw as' pa β_ υ_ ω sid τs n) s.heap.size) ([.ref ua, .int i1] : List Value).toArray s 0 0 (va_A (cU cyI cyB cyO ua ub up aw as' pa β υ ω sid τs n) s.heap.size)) (F0 m 3 ls []) := by
    intro n9
    induction n9 with
    | zero => intro v18 β19 υ20 H locs ls hL15; exact (loopM_z hL15).elim
    | succ n9 ih9 =>
      intro v18 β19 υ20 H locs ls hL15 hB hl
      obtain ⟨o21, hg16, hL15⟩ := loopM_s hL15
      have hg16 : mX3_putWord_L3 fu τs n i1 pa ω sid v18 β19 υ20 = some o21 := hg16
      unfold mX3_putWord_L3 at hg16
      refine lv_iload_n hx hb dX3_putWord_3 rfl (lv_at hl 0 rfl) ?_
      refine lv_if_lt (tgt := 36) hx hb dX3_putWord_4 (by decide) (fun c22 => ?_) (fun c22 => ?_)
      · have hg16 := ite_t c22 hg16
        have hL15 := el1_l (inj1 hg16) hL15
        obtain ⟨e0, e1⟩ := inj2 hL15
        subst e0
        subst e1
        exact kE13 _ _ _ hB (lv_sub hl [] rfl)
      · have hg16 := ite_f c22 hg16
        refine lv_aload_n hx hb dX3_putWord_7 rfl (lv_at hl 1 rfl) ?_
        refine g_get (C := RX3) (T := TX3) (N := 7) hx hb hts hinX3 hown hK hB 0 rfl rfl 0 rfl hq1 rfl rfl dX3_putWord_8 ?_
        refine lv_aload_n hx hb dX3_putWord_11 rfl (lv_at hl 1 rfl) ?_
        refine g_get (C := RX3) (T := TX3) (N := 7) hx hb hts hinX3 hown hK hB 0 rfl rfl 1 rfl hq2 rfl rfl dX3_putWord_12 ?_
        refine lv_iload_n hx hb dX3_putWord_15 rfl (lv_at hl 2 rfl) ?_
        refine lv_iload_n hx hb dX3_putWord_16 rfl (lv_at hl 0 rfl) ?_
        refine lv_iushr hx hb dX3_putWord_17 rfl ?_
        refine lv_i2b hx hb dX3_putWord_18 rfl ?_
        obtain ⟨β23, e9, hg16⟩ := ob1_s hg16
        obtain ⟨hi, e9⟩ := wr_s e9
        refine g_bast hx hb hK hB 1 1 rfl rfl hi e9 dX3_putWord_19 (w2 := (cU cyI cyB cyO ua ub up aw as' pa β23 υ20 ω sid τs n)) rfl (fun H locs hB => ?_)
        refine lv_aload_n hx hb dX3_putWord_20 rfl (lv_at hl 1 rfl) ?_
        refine lv_dup hx hb dX3_putWord_21 rfl ?_
        refine g_get (C := RX3) (T := TX3) (N := 7) hx hb hts hinX3 hown hK hB 0 rfl rfl 1 rfl hq2 rfl rfl dX3_putWord_22 ?_
        refine lv_iconst (v := (1 : Int32)) hx hb dX3_putWord_25 (by decide) ?_
        refine lv_iadd hx hb dX3_putWord_26 ?_
        obtain ⟨υ24, e9, hg16⟩ := ob1_s hg16
        have e9 := inj1 e9
        refine g_put (C := RX3) (T := TX3) (N := 7) hx hb hts hinX3 tyX3 tyX3_ok nmX3 hown hK hB 0 rfl rfl 1 rfl hq2 rfl rfl rfl rfl rfl rfl dX3_putWord_27 (w2 := (cU cyI cyB cyO ua ub up aw as' pa β23 υ24 ω sid τs n)) (by rw [← e9]; rfl) (fun H locs hB => ?_)
        refine lv_iinc (v := (v18 + (-8 : Int32))) (lv' := [(2, .int (v18 + (-8 : Int32))), (0, .ref ua), (1, .int i1)]) hx hb dX3_putWord_30 hl (k := 0) rfl rfl (by decide) rfl (fun ls hl => ?_)
        refine lv_goto (tgt := 3) hx hb dX3_putWord_33 (by decide) ?_
        have hL15 := el1_r (inj1 hg16) hL15
        exact ih9 _ _ _ _ _ _ hL15 hB (lv_sub hl [0, 1, 2] rfl)
  exact key14 fu _ _ _ _ _ _ hL15 hB (lv_sub hl [0, 1, 2] rfl)

abbrev rmX3_append : Room := { frames := 1, cells := 0, slots := 0, locals := 22 }

set_option maxHeartbeats 4000000 in
set_option maxRecDepth 100000 in
theorem kX3_append (l : Launch) (dC : Nat → ClassId) (dI : Nat → Nat → Nat) (cyI cyB cyO : ClassId) (ua ub up : Nat) (aw as' : Nat → Nat → Nat) (sz : Nat) {fu : Nat} {τs : WS} {n : Nat} {pa : PA} {β : FS} {υ : MS} {ω : WS} {sid : PA} {i1 : Int32} {i2 : Int32} {i3 : Int32} {i4 : Int32} {i5 : Int32} {r : Int32} {β_ : FS} {υ_ : MS} (hf : mX3_append fu τs n pa β υ ω sid i1 i2 i3 i4 i5 = some (r, β_, υ_)) : Met l yX3_append wsX3_append rmX3_append (PcF (dC, dI) [(cyI, .int), (cyB, .byte), (cyO, .object "UndoJourneys$World")] (cU cyI cyB cyO ua ub up aw as' pa β υ ω sid τs n) sz [.ref ua, .int i1, .int i2, .int i3, .int i4, .int i5]) (QiF (dC, dI) [(cyI, .int), (cyB, .byte), (cyO, .object "UndoJourneys$World")] (cU cyI cyB cyO ua ub up aw as' pa β υ ω sid τs n) (cU cyI cyB cyO ua ub up aw as' pa β_ υ_ ω sid τs n) sz r) 0 0 (va_A (cU cyI cyB cyO ua ub up aw as' pa β υ ω sid τs n) sz) := by
  refine Met.ofW (cc := cX3_append) (maxL := 6) (ret := (some .int)) (by decide) rfl ?_
  intro p e s m args below meth c s₁ B hml hv
  obtain ⟨rfl, hsz, hP, hK, hD0⟩ := hv
  have hx := B.exec
  have hb := B.bytes
  have hr := B.returns
  have hts := atoms_spec (ws := wsX3_append) B.pre
  have hown : s.vm.findClass RX3 = some m.cls := findClass_of_methodNamed B.named
  have hlocks := B.notSynchronized
  subst hsz
  have hA : ∀ q : Nat, s.heap.size ≤ q → va_A (cU cyI cyB cyO ua ub up aw as' pa β υ ω sid τs n) s.heap.size q := fun q h => Or.inr h
  have hB : Bd (dC, dI) [(cyI, .int), (cyB, .byte), (cyO, .object "UndoJourneys$World")] (va_A (cU cyI cyB cyO ua ub up aw as' pa β υ ω sid τs n) s.heap.size) s (cU cyI cyB cyO ua ub up aw as' pa β υ ω sid τs n) s.heap [] := ⟨hP, hD0.self, va_S.rf⟩
  have hq1 : (Cond.fieldLink RX3 13 "UndoJourneys" "bufferLength" "I").before _ s = true := hts _ (List.mem_of_getElem? (i := 1) rfl)
  have hinX3 : ∀ w ∈ wsX30, w ∈ wsX3_append := fun w h => List.mem_cons_of_mem _ (List.mem_append_right _ h)
  have hl := lv_entry [.ref ua, .int i1, .int i2, .int i3, .int i4, .int i5] (n := 6) (Nat.le_of_ble_eq_true rfl)
  rw [lg_entry_eq]
  generalize (lg_sl [.ref ua, .int i1, .int i2, .int i3, .int i4, .int i5] ++ List.replicate (6 - (lg_sl [.ref ua, .int i1, .int i2, .int i3, .int i4, .int i5]).length) Slot.unset).toArray = ls at hl ⊢
  have hl : lv_has ls 6 [(0, .ref ua), (1, .int i1), (2, .int i2), (3, .int i3), (4, .int i4), (5, .int i5)] := hl
  clear hP hD0
  suffices main : ∀ (H : Heap) (locs : List Loc), Bd (dC, dI) [(cyI, .int), (cyB, .byte), (cyO, .object "UndoJourneys$World")] (va_A (cU cyI cyB cyO ua ub up aw as' pa β υ ω sid τs n) s.heap.size) s (cU cyI cyB cyO ua ub up aw as' pa β υ ω sid τs n) H locs → W p l e (headSpec wsX3_append rmX3_append).room s m ([.ref ua, .int i1, .int i2, .int i3, .int i4, .int i5] : List Value).toArray below meth c H locs 0 0 (MQ below (QiF (dC, dI) [(cyI, .int), (cyB, .byte), (cyO, .object "UndoJourneys$World")] (cU cyI cyB cyO ua ub up aw as' pa β υ ω sid τs n) (cU cyI cyB cyO ua ub up aw as' pa β_ υ_ ω sid τs n) s.heap.size r) ([.ref ua, .int i1, .int i2, .int i3, .int i4, .int i5] : List Value).toArray s 0 0 (va_A (cU cyI cyB cyO ua ub up aw as' pa β υ ω sid τs n) s.heap.size)) (F0 m 0 ls []) from main _ _ hB
  clear hB
  intro H locs hB
  unfold mX3_append at hf
  refine lv_aload_n hx hb dX3_append_0 rfl (lv_at hl 0 rfl) ?_
  refine g_get (C := RX3) (T := TX3) (N := 7) hx hb hts hinX3 hown hK hB 0 rfl rfl 1 rfl hq1 rfl rfl dX3_append_1 ?_
  refine lv_bipush (v := (20 : Int32)) hx hb dX3_append_4 (by decide) ?_
  refine lv_iadd hx hb dX3_append_6 ?_
  refine lv_sipush (v := (700 : Int32)) hx hb dX3_append_7 (by decide) ?_
  refine lv_icmp_le (tgt := 15) hx hb dX3_append_10 (by decide) (fun c1 => ?_) (fun c1 => ?_)
  · have hf := ite_t c1 hf
    refine lv_aload_n hx hb dX3_append_15 rfl (lv_at hl 0 rfl) ?_
    refine lv_iload_n hx hb dX3_append_16 rfl (lv_at hl 1 rfl) ?_
    obtain ⟨β2, υ3, hc, hf⟩ := ob2_s hf
    refine g_callVv (As := [.int i1]) (rest := []) ⟨hx, hb, hml, hown, hts⟩ (kX3_putWord l dC dI cyI cyB cyO ua ub up aw as' H.size hc) (cwV 1 hts gX3_append_X3_putWord rfl rfl rfl (by decide +kernel) ⟨Nat.le_of_ble_eq_true rfl, Nat.le_of_ble_eq_true rfl⟩) hK hB hA (g_recv (ci := 3) hK hB 0 rfl rfl rfl) rfl hl.1 rfl (Nat.le_of_ble_eq_true rfl) dX3_append_17 ⟨Nat.le_of_ble_eq_true rfl, Nat.le_of_ble_eq_true rfl⟩ (fun H locs hB => ?_)
    refine lv_aload_n hx hb dX3_append_20 rfl (lv_at hl 0 rfl) ?_
    refine lv_iload_n hx hb dX3_append_21 rfl (lv_at hl 2 rfl) ?_
    obtain ⟨β4, υ5, hc, hf⟩ := ob2_s hf
    refine g_callVv (As := [.int i2]) (rest := []) ⟨hx, hb, hml, hown, hts⟩ (kX3_putWord l dC dI cyI cyB cyO ua ub up aw as' H.size hc) (cwV 1 hts gX3_append_X3_putWord rfl rfl rfl (by decide +kernel) ⟨Nat.le_of_ble_eq_true rfl, Nat.le_of_ble_eq_true rfl⟩) hK hB hA (g_recv (ci := 3) hK hB 0 rfl rfl rfl) rfl hl.1 rfl (Nat.le_of_ble_eq_true rfl) dX3_append_22 ⟨Nat.le_of_ble_eq_true rfl, Nat.le_of_ble_eq_true rfl⟩ (fun H locs hB => ?_)
    refine lv_aload_n hx hb dX3_append_25 rfl (lv_at hl 0 rfl) ?_
    refine lv_iload_n hx hb dX3_append_26 rfl (lv_at hl 3 rfl) ?_
    obtain ⟨β6, υ7, hc, hf⟩ := ob2_s hf
    refine g_callVv (As := [.int i3]) (rest := []) ⟨hx, hb, hml, hown, hts⟩ (kX3_putWord l dC dI cyI cyB cyO ua ub up aw as' H.size hc) (cwV 1 hts gX3_append_X3_putWord rfl rfl rfl (by decide +kernel) ⟨Nat.le_of_ble_eq_true rfl, Nat.le_of_ble_eq_true rfl⟩) hK hB hA (g_recv (ci := 3) hK hB 0 rfl rfl rfl) rfl hl.1 rfl (Nat.le_of_ble_eq_true rfl) dX3_append_27 ⟨Nat.le_of_ble_eq_true rfl, Nat.le_of_ble_eq_true rfl⟩ (fun H locs hB => ?_)
    refine lv_aload_n hx hb dX3_append_30 rfl (lv_at hl 0 rfl) ?_
    refine lv_iload hx hb dX3_append_31 (lv_at hl 4 rfl) ?_
    obtain ⟨β8, υ9, hc, hf⟩ := ob2_s hf
    refine g_callVv (As := [.int i4]) (rest := []) ⟨hx, hb, hml, hown, hts⟩ (kX3_putWord l dC dI cyI cyB cyO ua ub up aw as' H.size hc) (cwV 1 hts gX3_append_X3_putWord rfl rfl rfl (by decide +kernel) ⟨Nat.le_of_ble_eq_true rfl, Nat.le_of_ble_eq_true rfl⟩) hK hB hA (g_recv (ci := 3) hK hB 0 rfl rfl rfl) rfl hl.1 rfl (Nat.le_of_ble_eq_true rfl) dX3_append_33 ⟨Nat.le_of_ble_eq_true rfl, Nat.le_of_ble_eq_true rfl⟩ (fun H locs hB => ?_)
    refine lv_aload_n hx hb dX3_append_36 rfl (lv_at hl 0 rfl) ?_
    refine lv_iload hx hb dX3_append_37 (lv_at hl 5 rfl) ?_
    obtain ⟨β10, υ11, hc, hf⟩ := ob2_s hf
    refine g_callVv (As := [.int i5]) (rest := []) ⟨hx, hb, hml, hown, hts⟩ (kX3_putWord l dC dI cyI cyB cyO ua ub up aw as' H.size hc) (cwV 1 hts gX3_append_X3_putWord rfl rfl rfl (by decide +kernel) ⟨Nat.le_of_ble_eq_true rfl, Nat.le_of_ble_eq_true rfl⟩) hK hB hA (g_recv (ci := 3) hK hB 0 rfl rfl rfl) rfl hl.1 rfl (Nat.le_of_ble_eq_true rfl) dX3_append_39 ⟨Nat.le_of_ble_eq_true rfl, Nat.le_of_ble_eq_true rfl⟩ (fun H locs hB => ?_)
    refine lv_aload_n hx hb dX3_append_42 rfl (lv_at hl 0 rfl) ?_
    refine g_get (C := RX3) (T := TX3) (N := 7) hx hb hts hinX3 hown hK hB 0 rfl rfl 1 rfl hq1 rfl rfl dX3_append_43 ?_
    obtain ⟨e0, e1, e2⟩ := inj3 hf
    subst e0
    subst e1
    subst e2
    exact g_iret hx hb hr hlocks hK hB dX3_append_46
  · have hf := ite_f c1 hf
    refine lv_iconst (v := (-1 : Int32)) hx hb dX3_append_13 (by decide) ?_
    obtain ⟨e0, e1, e2⟩ := inj3 hf
    subst e0
    subst e1
    subst e2
    exact g_iret hx hb hr hlocks hK hB dX3_append_14

abbrev rmX3_errorOffset : Room := { frames := 0, cells := 0, slots := 0, locals := 0 }

set_option maxHeartbeats 4000000 in
set_option maxRecDepth 100000 in
theorem kX3_errorOffset (l : Launch) (dC : Nat → ClassId) (dI : Nat → Nat → Nat) (cyI cyB cyO : ClassId) (ua ub up : Nat) (aw as' : Nat → Nat → Nat) (sz : Nat) {fu : Nat} {τs : WS} {n : Nat} {pa : PA} {β : FS} {υ : MS} {ω : WS} {sid : PA} {r : Int32} (hf : mX3_errorOffset fu τs n pa β υ ω sid = some r) : Met l yX3_errorOffset wsX3_errorOffset rmX3_errorOffset (PcF (dC, dI) [(cyI, .int), (cyB, .byte), (cyO, .object "UndoJourneys$World")] (cU cyI cyB cyO ua ub up aw as' pa β υ ω sid τs n) sz [.ref ua]) (QiF (dC, dI) [(cyI, .int), (cyB, .byte), (cyO, .object "UndoJourneys$World")] (cU cyI cyB cyO ua ub up aw as' pa β υ ω sid τs n) (cU cyI cyB cyO ua ub up aw as' pa β υ ω sid τs n) sz r) 0 0 (va_A (cU cyI cyB cyO ua ub up aw as' pa β υ ω sid τs n) sz) := by
  refine Met.ofW (cc := cX3_errorOffset) (maxL := 1) (ret := (some .int)) (by decide) rfl ?_
  intro p e s m args below meth c s₁ B hml hv
  obtain ⟨rfl, hsz, hP, hK, hD0⟩ := hv
  have hx := B.exec
  have hb := B.bytes
  have hr := B.returns
  have hts := atoms_spec (ws := wsX3_errorOffset) B.pre
  have hown : s.vm.findClass RX3 = some m.cls := findClass_of_methodNamed B.named
  have hlocks := B.notSynchronized
  subst hsz
  have hA : ∀ q : Nat, s.heap.size ≤ q → va_A (cU cyI cyB cyO ua ub up aw as' pa β υ ω sid τs n) s.heap.size q := fun q h => Or.inr h
  have hB : Bd (dC, dI) [(cyI, .int), (cyB, .byte), (cyO, .object "UndoJourneys$World")] (va_A (cU cyI cyB cyO ua ub up aw as' pa β υ ω sid τs n) s.heap.size) s (cU cyI cyB cyO ua ub up aw as' pa β υ ω sid τs n) s.heap [] := ⟨hP, hD0.self, va_S.rf⟩
  have hq1 : (Cond.fieldLink RX3 17 "UndoJourneys" "lastErrorOffset" "I").before _ s = true := hts _ (List.mem_of_getElem? (i := 1) rfl)
  have hinX3 : ∀ w ∈ wsX30, w ∈ wsX3_errorOffset := fun w h => List.mem_cons_of_mem _ (List.mem_append_right _ h)
  have hl := lv_entry [.ref ua] (n := 1) (Nat.le_of_ble_eq_true rfl)
  rw [lg_entry_eq]
  generalize (lg_sl [.ref ua] ++ List.replicate (1 - (lg_sl [.ref ua]).length) Slot.unset).toArray = ls at hl ⊢
  have hl : lv_has ls 1 [(0, .ref ua)] := hl
  clear hP hD0
  suffices main : ∀ (H : Heap) (locs : List Loc), Bd (dC, dI) [(cyI, .int), (cyB, .byte), (cyO, .object "UndoJourneys$World")] (va_A (cU cyI cyB cyO ua ub up aw as' pa β υ ω sid τs n) s.heap.size) s (cU cyI cyB cyO ua ub up aw as' pa β υ ω sid τs n) H locs → W p l e (headSpec wsX3_errorOffset rmX3_errorOffset).room s m ([.ref ua] : List Value).toArray below meth c H locs 0 0 (MQ below (QiF (dC, dI) [(cyI, .int), (cyB, .byte), (cyO, .object "UndoJourneys$World")] (cU cyI cyB cyO ua ub up aw as' pa β υ ω sid τs n) (cU cyI cyB cyO ua ub up aw as' pa β υ ω sid τs n) s.heap.size r) ([.ref ua] : List Value).toArray s 0 0 (va_A (cU cyI cyB cyO ua ub up aw as' pa β υ ω sid τs n) s.heap.size)) (F0 m 0 ls []) from main _ _ hB
  clear hB
  intro H locs hB
  unfold mX3_errorOffset at hf
  refine lv_aload_n hx hb dX3_errorOffset_0 rfl (lv_at hl 0 rfl) ?_
  refine g_get (C := RX3) (T := TX3) (N := 7) hx hb hts hinX3 hown hK hB 0 rfl rfl 2 rfl hq1 rfl rfl dX3_errorOffset_1 ?_
  have e0 := inj1 hf
  subst e0
  exact g_iret hx hb hr hlocks hK hB dX3_errorOffset_4

abbrev rmX3_checkWhat : Room := { frames := 6, cells := 1, slots := 6, locals := 90 }

set_option maxHeartbeats 4000000 in
set_option maxRecDepth 100000 in
theorem kX3_checkWhat (l : Launch) (hl0 : l.stackTraces = false) (dC : Nat → ClassId) (dI : Nat → Nat → Nat) (cyI cyB cyO : ClassId) (ua ub up : Nat) (aw as' : Nat → Nat → Nat) (sz : Nat) {fu : Nat} {τs : WS} {n : Nat} {pa : PA} {β : FS} {υ : MS} {ω : WS} {sid : PA} {i1 : Int32} {i2 : Int32} {o : (String ⊕ Unit)} (hf : mX3_checkWhat fu τs n pa β υ ω sid i1 i2 = some o) : vx_Met l yX3_checkWhat wsX3_checkWhat rmX3_checkWhat (PcX (dC, dI) [(cyI, .int), (cyB, .byte), (cyO, .object "UndoJourneys$World")] (cU cyI cyB cyO ua ub up aw as' pa β υ ω sid τs n) sz [.int i1, .int i2]) (QvX (dC, dI) [(cyI, .int), (cyB, .byte), (cyO, .object "UndoJourneys$World")] (cU cyI cyB cyO ua ub up aw as' pa β υ ω sid τs n) (fun x => (cU cyI cyB cyO ua ub up aw as' pa β υ ω sid τs n)) sz o) (XF (dC, dI) [(cyI, .int), (cyB, .byte), (cyO, .object "UndoJourneys$World")] (cU cyI cyB cyO ua ub up aw as' pa β υ ω sid τs n) sz o) 1 6 (va_A (cU cyI cyB cyO ua ub up aw as' pa β υ ω sid τs n) sz) := by
  refine vx_ofW (cc := cX3_checkWhat) (maxL := 2) (ret := none) (by decide) rfl ?_
  intro p e s m args below meth c s₁ B hml ht0 hv
  obtain ⟨rfl, ⟨hsz, hP, hK, hD0⟩, hEX⟩ := hv
  have hx := B.exec
  have hb := B.bytes
  have hr := B.returns
  have hts := atoms_spec (ws := wsX3_checkWhat) B.pre
  have hown : s.vm.findClass RX3 = some m.cls := findClass_of_methodNamed B.named
  have hlocks := B.notSynchronized
  subst hsz
  have hA : ∀ q : Nat, s.heap.size ≤ q → va_A (cU cyI cyB cyO ua ub up aw as' pa β υ ω sid τs n) s.heap.size q := fun q h => Or.inr h
  have hB : Bd (dC, dI) [(cyI, .int), (cyB, .byte), (cyO, .object "UndoJourneys$World")] (va_A (cU cyI cyB cyO ua ub up aw as' pa β υ ω sid τs n) s.heap.size) s (cU cyI cyB cyO ua ub up aw as' pa β υ ω sid τs n) s.heap [] := ⟨hP, hD0.self, va_S.rf⟩
  have hq1 : (Cond.classLink RX3 46 "java/lang/IllegalArgumentException").before _ s = true := hts _ (List.mem_of_getElem? (i := 1) rfl)
  have hq2 : (Cond.initialized "java/lang/IllegalArgumentException").before _ s = true := hts _ (List.mem_of_getElem? (i := 2) rfl)
  have hl := lv_entry [.int i1, .int i2] (n := 2) (Nat.le_of_ble_eq_true rfl)
  rw [lg_entry_eq]
  generalize (lg_sl [.int i1, .int i2] ++ List.replicate (2 - (lg_sl [.int i1, .int i2]).length) Slot.unset).toArray = ls at hl ⊢
  have hl : lv_has ls 2 [(0, .int i1), (1, .int i2)] := hl
  clear hP hD0
  suffices main : ∀ (H : Heap) (locs : List Loc), Bd (dC, dI) [(cyI, .int), (cyB, .byte), (cyO, .object "UndoJourneys$World")] (va_A (cU cyI cyB cyO ua ub up aw as' pa β υ ω sid τs n) s.heap.size) s (cU cyI cyB cyO ua ub up aw as' pa β υ ω sid τs n) H locs → W p l e (headSpec wsX3_checkWhat rmX3_checkWhat).room s m ([.int i1, .int i2] : List Value).toArray below meth c H locs 0 0 (vx_MQ below (QvX (dC, dI) [(cyI, .int), (cyB, .byte), (cyO, .object "UndoJourneys$World")] (cU cyI cyB cyO ua ub up aw as' pa β υ ω sid τs n) (fun x => (cU cyI cyB cyO ua ub up aw as' pa β υ ω sid τs n)) s.heap.size o) (XF (dC, dI) [(cyI, .int), (cyB, .byte), (cyO, .object "UndoJourneys$World")] (cU cyI cyB cyO ua ub up aw as' pa β υ ω sid τs n) s.heap.size o) ([.int i1, .int i2] : List Value).toArray s 1 6 (va_A (cU cyI cyB cyO ua ub up aw as' pa β υ ω sid τs n) s.heap.size)) (F0 m 0 ls []) from main _ _ hB
  clear hB
  intro H locs hB
  unfold mX3_checkWhat at hf
  refine lv_iload_n hx hb dX3_checkWhat_0 rfl (lv_at hl 0 rfl) ?_
  obtain ⟨t1, hD2, hf⟩ := ob1_s hf
  have kTt1 : t1 = true → ∀ (H : Heap) (locs : List Loc), Bd (dC, dI) [(cyI, .int), (cyB, .byte), (cyO, .object "UndoJourneys$World")] (va_A (cU cyI cyB cyO ua ub up aw as' pa β υ ω sid τs n) s.heap.size) s (cU cyI cyB cyO ua ub up aw as' pa β υ ω sid τs n) H locs → W p l e (headSpec wsX3_checkWhat rmX3_checkWhat).room s m ([.int i1, .int i2] : List Value).toArray below meth c H locs 0 0 (vx_MQ below (QvX (dC, dI) [(cyI, .int), (cyB, .byte), (cyO, .object "UndoJourneys$World")] (cU cyI cyB cyO ua ub up aw as' pa β υ ω sid τs n) (fun x => (cU cyI cyB cyO ua ub up aw as' pa β υ ω sid τs n)) s.heap.size o) (XF (dC, dI) [(cyI, .int), (cyB, .byte), (cyO, .object "UndoJourneys$World")] (cU cyI cyB cyO ua ub up aw as' pa β υ ω sid τs n) s.heap.size o) ([.int i1, .int i2] : List Value).toArray s 1 6 (va_A (cU cyI cyB cyO ua ub up aw as' pa β υ ω sid τs n) s.heap.size)) (F0 m 9 ls []) := by
    intro ht H locs hB
    have hf := cnd_t ht hf
    have e0 := inj1 hf
    refine g_throw (names := ["java/lang/RuntimeException", "java/lang/Exception"]) hl0 hx hb hown hEX ht0 hlocks hK hB rfl e0.symm hml hl.1 (by decide) (by decide) hq1 hq2 (List.mem_of_getElem? (i := 8) rfl) (fun w h => hts w (List.mem_cons_of_mem _ (List.mem_append_right _ h))) (by decide +kernel) (by decide +kernel) dX3_checkWhat_9 dX3_checkWhat_12 dX3_checkWhat_13 dX3_checkWhat_15 dX3_checkWhat_18 (Nat.le_of_ble_eq_true rfl) (Nat.le_of_ble_eq_true rfl) (Nat.le_of_ble_eq_true rfl) (Nat.le_of_ble_eq_true rfl) (Nat.le_of_ble_eq_true rfl) (Nat.le_of_ble_eq_true rfl)
  have kFt1 : t1 = false → ∀ (H : Heap) (locs : List Loc), Bd (dC, dI) [(cyI, .int), (cyB, .byte), (cyO, .object "UndoJourneys$World")] (va_A (cU cyI cyB cyO ua ub up aw as' pa β υ ω sid τs n) s.heap.size) s (cU cyI cyB cyO ua ub up aw as' pa β υ ω sid τs n) H locs → W p l e (headSpec wsX3_checkWhat rmX3_checkWhat).room s m ([.int i1, .int i2] : List Value).toArray below meth c H locs 0 0 (vx_MQ below (QvX (dC, dI) [(cyI, .int), (cyB, .byte), (cyO, .object "UndoJourneys$World")] (cU cyI cyB cyO ua ub up aw as' pa β υ ω sid τs n) (fun x => (cU cyI cyB cyO ua ub up aw as' pa β υ ω sid τs n)) s.heap.size o) (XF (dC, dI) [(cyI, .int), (cyB, .byte), (cyO, .object "UndoJourneys$World")] (cU cyI cyB cyO ua ub up aw as' pa β υ ω sid τs n) s.heap.size o) ([.int i1, .int i2] : List Value).toArray s 1 6 (va_A (cU cyI cyB cyO ua ub up aw as' pa β υ ω sid τs n) s.heap.size)) (F0 m 19 ls []) := by
    intro ht H locs hB
    have hf := cnd_f ht hf
    have e0 := inj1 hf
    exact g_xvret (x := ()) hx hb hr hlocks hK hB e0.symm (Nat.le_of_ble_eq_true rfl) (Nat.le_of_ble_eq_true rfl) dX3_checkWhat_19
  refine lv_if_lt (tgt := 9) hx hb dX3_checkWhat_1 (by decide) (fun c3 => ?_) (fun c3 => ?_)
  · have hD2 := ite_t c3 hD2
    have e0 := inj1 hD2
    exact kTt1 e0.symm _ _ hB
  · have hD2 := ite_f c3 hD2
    refine lv_iload_n hx hb dX3_checkWhat_4 rfl (lv_at hl 0 rfl) ?_
    refine lv_iload_n hx hb dX3_checkWhat_5 rfl (lv_at hl 1 rfl) ?_
    refine lv_icmp_lt (tgt := 19) hx hb dX3_checkWhat_6 (by decide) (fun c4 => ?_) (fun c4 => ?_)
    · have hD2 := ite_t c4 hD2
      have e0 := inj1 hD2
      exact kFt1 e0.symm _ _ hB
    · have hD2 := ite_f c4 hD2
      have e0 := inj1 hD2
      exact kTt1 e0.symm _ _ hB

abbrev rmX3_state : Room := { frames := 7, cells := 1, slots := 6, locals := 111 }

set_option maxHeartbeats 4000000 in
set_option maxRecDepth 100000 in
theorem kX3_state (l : Launch) (hl0 : l.stackTraces = false) (dC : Nat → ClassId) (dI : Nat → Nat → Nat) (cyI cyB cyO : ClassId) (ua ub up : Nat) (aw as' : Nat → Nat → Nat) (sz : Nat) {fu : Nat} {τs : WS} {n : Nat} {pa : PA} {β : FS} {υ : MS} {ω : WS} {sid : PA} {i1 : Int32} {o : (String ⊕ Int32)} (hf : mX3_state fu τs n pa β υ ω sid i1 = some o) : vx_Met l yX3_state wsX3_state rmX3_state (PcX (dC, dI) [(cyI, .int), (cyB, .byte), (cyO, .object "UndoJourneys$World")] (cU cyI cyB cyO ua ub up aw as' pa β υ ω sid τs n) sz [.ref ua, .int i1]) (QiX (dC, dI) [(cyI, .int), (cyB, .byte), (cyO, .object "UndoJourneys$World")] (cU cyI cyB cyO ua ub up aw as' pa β υ ω sid τs n) (fun x => (cU cyI cyB cyO ua ub up aw as' pa β υ ω sid τs n)) (fun x => x) sz o) (XF (dC, dI) [(cyI, .int), (cyB, .byte), (cyO, .object "UndoJourneys$World")] (cU cyI cyB cyO ua ub up aw as' pa β υ ω sid τs n) sz o) 1 6 (va_A (cU cyI cyB cyO ua ub up aw as' pa β υ ω sid τs n) sz) := by
  refine vx_ofW (cc := cX3_state) (maxL := 2) (ret := (some .int)) (by decide) rfl ?_
  intro p e s m args below meth c s₁ B hml ht0 hv
  obtain ⟨rfl, ⟨hsz, hP, hK, hD0⟩, hEX⟩ := hv
  have hx := B.exec
  have hb := B.bytes
  have hr := B.returns
  have hts := atoms_spec (ws := wsX3_state) B.pre
  have hown : s.vm.findClass RX3 = some m.cls := findClass_of_methodNamed B.named
  have hlocks := B.notSynchronized
  subst hsz
  have hA : ∀ q : Nat, s.heap.size ≤ q → va_A (cU cyI cyB cyO ua ub up aw as' pa β υ ω sid τs n) s.heap.size q := fun q h => Or.inr h
  have hB : Bd (dC, dI) [(cyI, .int), (cyB, .byte), (cyO, .object "UndoJourneys$World")] (va_A (cU cyI cyB cyO ua ub up aw as' pa β υ ω sid τs n) s.heap.size) s (cU cyI cyB cyO ua ub up aw as' pa β υ ω sid τs n) s.heap [] := ⟨hP, hD0.self, va_S.rf⟩
  have hq1 : (Cond.fieldLink RX3 35 "UndoJourneys" "now" "LUndoJourneys$World;").before _ s = true := hts _ (List.mem_of_getElem? (i := 1) rfl)
  have hinX0 : ∀ w ∈ wsX00, w ∈ wsX3_state := fun w h => List.mem_cons_of_mem _ (List.mem_append_left _ (List.mem_append_right _ h))
  have hinX2 : ∀ w ∈ wsX20, w ∈ wsX3_state := fun w h => List.mem_cons_of_mem _ (List.mem_append_left _ (List.mem_append_left _ (List.mem_append_right _ h)))
  have hinX3 : ∀ w ∈ wsX30, w ∈ wsX3_state := fun w h => List.mem_cons_of_mem _ (List.mem_append_left _ (List.mem_append_left _ (List.mem_append_left _ (List.mem_append_right _ h))))
  have hl := lv_entry [.ref ua, .int i1] (n := 2) (Nat.le_of_ble_eq_true rfl)
  rw [lg_entry_eq]
  generalize (lg_sl [.ref ua, .int i1] ++ List.replicate (2 - (lg_sl [.ref ua, .int i1]).length) Slot.unset).toArray = ls at hl ⊢
  have hl : lv_has ls 2 [(0, .ref ua), (1, .int i1)] := hl
  clear hP hD0
  suffices main : ∀ (H : Heap) (locs : List Loc), Bd (dC, dI) [(cyI, .int), (cyB, .byte), (cyO, .object "UndoJourneys$World")] (va_A (cU cyI cyB cyO ua ub up aw as' pa β υ ω sid τs n) s.heap.size) s (cU cyI cyB cyO ua ub up aw as' pa β υ ω sid τs n) H locs → W p l e (headSpec wsX3_state rmX3_state).room s m ([.ref ua, .int i1] : List Value).toArray below meth c H locs 0 0 (vx_MQ below (QiX (dC, dI) [(cyI, .int), (cyB, .byte), (cyO, .object "UndoJourneys$World")] (cU cyI cyB cyO ua ub up aw as' pa β υ ω sid τs n) (fun x => (cU cyI cyB cyO ua ub up aw as' pa β υ ω sid τs n)) (fun x => x) s.heap.size o) (XF (dC, dI) [(cyI, .int), (cyB, .byte), (cyO, .object "UndoJourneys$World")] (cU cyI cyB cyO ua ub up aw as' pa β υ ω sid τs n) s.heap.size o) ([.ref ua, .int i1] : List Value).toArray s 1 6 (va_A (cU cyI cyB cyO ua ub up aw as' pa β υ ω sid τs n) s.heap.size)) (F0 m 0 ls []) from main _ _ hB
  clear hB
  intro H locs hB
  unfold mX3_state at hf
  refine lv_iload_n hx hb dX3_state_0 rfl (lv_at hl 1 rfl) ?_
  refine lv_bipush (v := (10 : Int32)) hx hb dX3_state_1 (by decide) ?_
  obtain ⟨o1, hc, hE, hf9⟩ := obX_s hf
  refine g_chkS (As := [.int i1, .int (10 : Int32)]) (rest := []) ⟨hx, hb, hml, hown, hts⟩ hEX (kX3_checkWhat l hl0 dC dI cyI cyB cyO ua ub up aw as' H.size hc) (va_cwS 2 hts gX3_state_X3_checkWhat rfl rfl rfl (by decide +kernel) ⟨Nat.le_of_ble_eq_true rfl, Nat.le_of_ble_eq_true rfl⟩) hK hB hA ht0 hlocks rfl hE rfl hl.1 rfl (Nat.le_of_ble_eq_true rfl) dX3_state_3 ⟨Nat.le_of_ble_eq_true rfl, Nat.le_of_ble_eq_true rfl⟩ (Nat.le_of_ble_eq_true rfl) (Nat.le_of_ble_eq_true rfl) (fun ho9 H locs hB => ?_)
  have hf := hf9 () ho9
  refine lv_aload_n hx hb dX3_state_6 rfl (lv_at hl 0 rfl) ?_
  refine g_get (C := RX3) (T := TX3) (N := 7) hx hb hts hinX3 hown hK hB 0 rfl rfl 3 rfl hq1 rfl rfl dX3_state_7 ?_
  refine lv_iload_n hx hb dX3_state_10 rfl (lv_at hl 1 rfl) ?_
  obtain ⟨_, g2, hf⟩ := ob1_s hf
  have g2 := gW_s g2
  obtain ⟨r3, hc, hf⟩ := ob1_s hf
  refine g_pcutVi (As := [.int i1]) (rest := []) (w2 := (cU cyI cyB cyO ua ub up aw as' pa β υ ω sid τs n)) ⟨hx, hb, hml, hown, hts⟩ (kX2_numberOfAll l dC dI cyI (aw 0) (as' (sid 0)) H.size hc) (cwV 1 hts gX3_state_X2_numberOfAll rfl rfl rfl (by decide +kernel) ⟨Nat.le_of_ble_eq_true rfl, Nat.le_of_ble_eq_true rfl⟩) (hK.sub [0] rfl) hB hA (g_recv (ci := 2) hK (hB.perm (cU_view cyI cyB cyO ua ub up aw as' pa β υ ω sid τs n g2)) 0 rfl rfl rfl) (cU_view cyI cyB cyO ua ub up aw as' pa β υ ω sid τs n g2) (cU_view cyI cyB cyO ua ub up aw as' pa β υ ω sid τs n g2).symm rfl hl.1 rfl (Nat.le_of_ble_eq_true rfl) dX3_state_11 ⟨Nat.le_of_ble_eq_true rfl, Nat.le_of_ble_eq_true rfl⟩ (fun H locs hB => ?_)
  have e0 := inj1 hf
  exact g_xiret (x := r3) hx hb hr hlocks hK hB e0.symm (Nat.le_of_ble_eq_true rfl) (Nat.le_of_ble_eq_true rfl) dX3_state_14

abbrev rmX3_checkStock : Room := { frames := 6, cells := 1, slots := 6, locals := 90 }

set_option maxHeartbeats 4000000 in
set_option maxRecDepth 100000 in
theorem kX3_checkStock (l : Launch) (hl0 : l.stackTraces = false) (dC : Nat → ClassId) (dI : Nat → Nat → Nat) (cyI cyB cyO : ClassId) (ua ub up : Nat) (aw as' : Nat → Nat → Nat) (sz : Nat) {fu : Nat} {τs : WS} {n : Nat} {pa : PA} {β : FS} {υ : MS} {ω : WS} {sid : PA} {i1 : Int32} {o : (String ⊕ Unit)} (hf : mX3_checkStock fu τs n pa β υ ω sid i1 = some o) : vx_Met l yX3_checkStock wsX3_checkStock rmX3_checkStock (PcX (dC, dI) [(cyI, .int), (cyB, .byte), (cyO, .object "UndoJourneys$World")] (cU cyI cyB cyO ua ub up aw as' pa β υ ω sid τs n) sz [.ref ua, .int i1]) (QvX (dC, dI) [(cyI, .int), (cyB, .byte), (cyO, .object "UndoJourneys$World")] (cU cyI cyB cyO ua ub up aw as' pa β υ ω sid τs n) (fun x => (cU cyI cyB cyO ua ub up aw as' pa β υ ω sid τs n)) sz o) (XF (dC, dI) [(cyI, .int), (cyB, .byte), (cyO, .object "UndoJourneys$World")] (cU cyI cyB cyO ua ub up aw as' pa β υ ω sid τs n) sz o) 1 6 (va_A (cU cyI cyB cyO ua ub up aw as' pa β υ ω sid τs n) sz) := by
  refine vx_ofW (cc := cX3_checkStock) (maxL := 2) (ret := none) (by decide) rfl ?_
  intro p e s m args below meth c s₁ B hml ht0 hv
  obtain ⟨rfl, ⟨hsz, hP, hK, hD0⟩, hEX⟩ := hv
  have hx := B.exec
  have hb := B.bytes
  have hr := B.returns
  have hts := atoms_spec (ws := wsX3_checkStock) B.pre
  have hown : s.vm.findClass RX3 = some m.cls := findClass_of_methodNamed B.named
  have hlocks := B.notSynchronized
  subst hsz
  have hA : ∀ q : Nat, s.heap.size ≤ q → va_A (cU cyI cyB cyO ua ub up aw as' pa β υ ω sid τs n) s.heap.size q := fun q h => Or.inr h
  have hB : Bd (dC, dI) [(cyI, .int), (cyB, .byte), (cyO, .object "UndoJourneys$World")] (va_A (cU cyI cyB cyO ua ub up aw as' pa β υ ω sid τs n) s.heap.size) s (cU cyI cyB cyO ua ub up aw as' pa β υ ω sid τs n) s.heap [] := ⟨hP, hD0.self, va_S.rf⟩
  have hq1 : (Cond.classLink RX3 179 "java/lang/IndexOutOfBoundsException").before _ s = true := hts _ (List.mem_of_getElem? (i := 1) rfl)
  have hq2 : (Cond.initialized "java/lang/IndexOutOfBoundsException").before _ s = true := hts _ (List.mem_of_getElem? (i := 2) rfl)
  have hq3 : (Cond.fieldLink RX3 35 "UndoJourneys" "now" "LUndoJourneys$World;").before _ s = true := hts _ (List.mem_of_getElem? (i := 3) rfl)
  have hq4 : (Cond.fieldLink RX3 77 "UndoJourneys$World" "setup" "LUndoJourneys$Setup;").before _ s = true := hts _ (List.mem_of_getElem? (i := 4) rfl)
  have hq5 : (Cond.fieldLink RX3 169 "UndoJourneys$Setup" "stocks" "I").before _ s = true := hts _ (List.mem_of_getElem? (i := 5) rfl)
  have hinX0 : ∀ w ∈ wsX00, w ∈ wsX3_checkStock := fun w h => List.mem_cons_of_mem _ (List.mem_append_left _ (List.mem_append_right _ h))
  have hinX2 : ∀ w ∈ wsX20, w ∈ wsX3_checkStock := fun w h => List.mem_cons_of_mem _ (List.mem_append_left _ (List.mem_append_left _ (List.mem_append_right _ h)))
  have hinX3 : ∀ w ∈ wsX30, w ∈ wsX3_checkStock := fun w h => List.mem_cons_of_mem _ (List.mem_append_left _ (List.mem_append_left _ (List.mem_append_left _ (List.mem_append_right _ h))))
  have hl := lv_entry [.ref ua, .int i1] (n := 2) (Nat.le_of_ble_eq_true rfl)
  rw [lg_entry_eq]
  generalize (lg_sl [.ref ua, .int i1] ++ List.replicate (2 - (lg_sl [.ref ua, .int i1]).length) Slot.unset).toArray = ls at hl ⊢
  have hl : lv_has ls 2 [(0, .ref ua), (1, .int i1)] := hl
  clear hP hD0
  suffices main : ∀ (H : Heap) (locs : List Loc), Bd (dC, dI) [(cyI, .int), (cyB, .byte), (cyO, .object "UndoJourneys$World")] (va_A (cU cyI cyB cyO ua ub up aw as' pa β υ ω sid τs n) s.heap.size) s (cU cyI cyB cyO ua ub up aw as' pa β υ ω sid τs n) H locs → W p l e (headSpec wsX3_checkStock rmX3_checkStock).room s m ([.ref ua, .int i1] : List Value).toArray below meth c H locs 0 0 (vx_MQ below (QvX (dC, dI) [(cyI, .int), (cyB, .byte), (cyO, .object "UndoJourneys$World")] (cU cyI cyB cyO ua ub up aw as' pa β υ ω sid τs n) (fun x => (cU cyI cyB cyO ua ub up aw as' pa β υ ω sid τs n)) s.heap.size o) (XF (dC, dI) [(cyI, .int), (cyB, .byte), (cyO, .object "UndoJourneys$World")] (cU cyI cyB cyO ua ub up aw as' pa β υ ω sid τs n) s.heap.size o) ([.ref ua, .int i1] : List Value).toArray s 1 6 (va_A (cU cyI cyB cyO ua ub up aw as' pa β υ ω sid τs n) s.heap.size)) (F0 m 0 ls []) from main _ _ hB
  clear hB
  intro H locs hB
  unfold mX3_checkStock at hf
  refine lv_iload_n hx hb dX3_checkStock_0 rfl (lv_at hl 1 rfl) ?_
  obtain ⟨t1, hD2, hf⟩ := ob1_s hf
  have kTt1 : t1 = true → ∀ (H : Heap) (locs : List Loc), Bd (dC, dI) [(cyI, .int), (cyB, .byte), (cyO, .object "UndoJourneys$World")] (va_A (cU cyI cyB cyO ua ub up aw as' pa β υ ω sid τs n) s.heap.size) s (cU cyI cyB cyO ua ub up aw as' pa β υ ω sid τs n) H locs → W p l e (headSpec wsX3_checkStock rmX3_checkStock).room s m ([.ref ua, .int i1] : List Value).toArray below meth c H locs 0 0 (vx_MQ below (QvX (dC, dI) [(cyI, .int), (cyB, .byte), (cyO, .object "UndoJourneys$World")] (cU cyI cyB cyO ua ub up aw as' pa β υ ω sid τs n) (fun x => (cU cyI cyB cyO ua ub up aw as' pa β υ ω sid τs n)) s.heap.size o) (XF (dC, dI) [(cyI, .int), (cyB, .byte), (cyO, .object "UndoJourneys$World")] (cU cyI cyB cyO ua ub up aw as' pa β υ ω sid τs n) s.heap.size o) ([.ref ua, .int i1] : List Value).toArray s 1 6 (va_A (cU cyI cyB cyO ua ub up aw as' pa β υ ω sid τs n) s.heap.size)) (F0 m 18 ls []) := by
    intro ht H locs hB
    have hf := cnd_t ht hf
    have e0 := inj1 hf
    refine g_throw (names := ["java/lang/RuntimeException", "java/lang/Exception"]) hl0 hx hb hown hEX ht0 hlocks hK hB rfl e0.symm hml hl.1 (by decide) (by decide) hq1 hq2 (List.mem_of_getElem? (i := 5) rfl) (fun w h => hts w (List.mem_cons_of_mem _ (List.mem_append_right _ h))) (by decide +kernel) (by decide +kernel) dX3_checkStock_18 dX3_checkStock_21 dX3_checkStock_22 dX3_checkStock_24 dX3_checkStock_27 (Nat.le_of_ble_eq_true rfl) (Nat.le_of_ble_eq_true rfl) (Nat.le_of_ble_eq_true rfl) (Nat.le_of_ble_eq_true rfl) (Nat.le_of_ble_eq_true rfl) (Nat.le_of_ble_eq_true rfl)
  have kFt1 : t1 = false → ∀ (H : Heap) (locs : List Loc), Bd (dC, dI) [(cyI, .int), (cyB, .byte), (cyO, .object "UndoJourneys$World")] (va_A (cU cyI cyB cyO ua ub up aw as' pa β υ ω sid τs n) s.heap.size) s (cU cyI cyB cyO ua ub up aw as' pa β υ ω sid τs n) H locs → W p l e (headSpec wsX3_checkStock rmX3_checkStock).room s m ([.ref ua, .int i1] : List Value).toArray below meth c H locs 0 0 (vx_MQ below (QvX (dC, dI) [(cyI, .int), (cyB, .byte), (cyO, .object "UndoJourneys$World")] (cU cyI cyB cyO ua ub up aw as' pa β υ ω sid τs n) (fun x => (cU cyI cyB cyO ua ub up aw as' pa β υ ω sid τs n)) s.heap.size o) (XF (dC, dI) [(cyI, .int), (cyB, .byte), (cyO, .object "UndoJourneys$World")] (cU cyI cyB cyO ua ub up aw as' pa β υ ω sid τs n) s.heap.size o) ([.ref ua, .int i1] : List Value).toArray s 1 6 (va_A (cU cyI cyB cyO ua ub up aw as' pa β υ ω sid τs n) s.heap.size)) (F0 m 28 ls []) := by
    intro ht H locs hB
    have hf := cnd_f ht hf
    have e0 := inj1 hf
    exact g_xvret (x := ()) hx hb hr hlocks hK hB e0.symm (Nat.le_of_ble_eq_true rfl) (Nat.le_of_ble_eq_true rfl) dX3_checkStock_28
  refine lv_if_lt (tgt := 18) hx hb dX3_checkStock_1 (by decide) (fun c3 => ?_) (fun c3 => ?_)
  · have hD2 := ite_t c3 hD2
    have e0 := inj1 hD2
    exact kTt1 e0.symm _ _ hB
  · have hD2 := ite_f c3 hD2
    refine lv_iload_n hx hb dX3_checkStock_4 rfl (lv_at hl 1 rfl) ?_
    refine lv_aload_n hx hb dX3_checkStock_5 rfl (lv_at hl 0 rfl) ?_
    refine g_get (C := RX3) (T := TX3) (N := 7) hx hb hts hinX3 hown hK hB 0 rfl rfl 3 rfl hq3 rfl rfl dX3_checkStock_6 ?_
    obtain ⟨_, g4, hD2⟩ := ob1_s hD2
    have g4 := gW_s g4
    refine g_get (C := RX2) (T := TX2) (N := 14) hx hb hts hinX2 hown hK (hB.perm (cU_view cyI cyB cyO ua ub up aw as' pa β υ ω sid τs n g4)) 0 rfl rfl 0 rfl hq4 rfl rfl dX3_checkStock_9 ?_
    obtain ⟨_, g5, hD2⟩ := ob1_s hD2
    have g5 := gW_s g5
    refine g_get (C := RX0) (T := TX0) (N := 17) hx hb hts hinX0 hown hK (hB.perm (cU_view cyI cyB cyO ua ub up aw as' pa β υ ω sid τs n g5)) 12 rfl rfl 2 rfl hq5 rfl rfl dX3_checkStock_12 ?_
    refine lv_icmp_lt (tgt := 28) hx hb dX3_checkStock_15 (by decide) (fun c6 => ?_) (fun c6 => ?_)
    · have hD2 := ite_t c6 hD2
      have e0 := inj1 hD2
      exact kFt1 e0.symm _ _ hB
    · have hD2 := ite_f c6 hD2
      have e0 := inj1 hD2
      exact kTt1 e0.symm _ _ hB

abbrev rmX3_stock : Room := { frames := 7, cells := 2, slots := 12, locals := 111 }

set_option maxHeartbeats 4000000 in
set_option maxRecDepth 100000 in
theorem kX3_stock (l : Launch) (hl0 : l.stackTraces = false) (dC : Nat → ClassId) (dI : Nat → Nat → Nat) (cyI cyB cyO : ClassId) (ua ub up : Nat) (aw as' : Nat → Nat → Nat) (sz : Nat) {fu : Nat} {τs : WS} {n : Nat} {pa : PA} {β : FS} {υ : MS} {ω : WS} {sid : PA} {i1 : Int32} {i2 : Int32} {o : (String ⊕ Int32)} (hf : mX3_stock fu τs n pa β υ ω sid i1 i2 = some o) : vx_Met l yX3_stock wsX3_stock rmX3_stock (PcX (dC, dI) [(cyI, .int), (cyB, .byte), (cyO, .object "UndoJourneys$World")] (cU cyI cyB cyO ua ub up aw as' pa β υ ω sid τs n) sz [.ref ua, .int i1, .int i2]) (QiX (dC, dI) [(cyI, .int), (cyB, .byte), (cyO, .object "UndoJourneys$World")] (cU cyI cyB cyO ua ub up aw as' pa β υ ω sid τs n) (fun x => (cU cyI cyB cyO ua ub up aw as' pa β υ ω sid τs n)) (fun x => x) sz o) (XF (dC, dI) [(cyI, .int), (cyB, .byte), (cyO, .object "UndoJourneys$World")] (cU cyI cyB cyO ua ub up aw as' pa β υ ω sid τs n) sz o) 2 12 (va_A (cU cyI cyB cyO ua ub up aw as' pa β υ ω sid τs n) sz) := by
  refine vx_ofW (cc := cX3_stock) (maxL := 3) (ret := (some .int)) (by decide) rfl ?_
  intro p e s m args below meth c s₁ B hml ht0 hv
  obtain ⟨rfl, ⟨hsz, hP, hK, hD0⟩, hEX⟩ := hv
  have hx := B.exec
  have hb := B.bytes
  have hr := B.returns
  have hts := atoms_spec (ws := wsX3_stock) B.pre
  have hown : s.vm.findClass RX3 = some m.cls := findClass_of_methodNamed B.named
  have hlocks := B.notSynchronized
  subst hsz
  have hA : ∀ q : Nat, s.heap.size ≤ q → va_A (cU cyI cyB cyO ua ub up aw as' pa β υ ω sid τs n) s.heap.size q := fun q h => Or.inr h
  have hB : Bd (dC, dI) [(cyI, .int), (cyB, .byte), (cyO, .object "UndoJourneys$World")] (va_A (cU cyI cyB cyO ua ub up aw as' pa β υ ω sid τs n) s.heap.size) s (cU cyI cyB cyO ua ub up aw as' pa β υ ω sid τs n) s.heap [] := ⟨hP, hD0.self, va_S.rf⟩
  have hq1 : (Cond.fieldLink RX3 35 "UndoJourneys" "now" "LUndoJourneys$World;").before _ s = true := hts _ (List.mem_of_getElem? (i := 1) rfl)
  have hinX0 : ∀ w ∈ wsX00, w ∈ wsX3_stock := fun w h => List.mem_cons_of_mem _ (List.mem_append_left _ (List.mem_append_left _ (List.mem_append_right _ h)))
  have hinX2 : ∀ w ∈ wsX20, w ∈ wsX3_stock := fun w h => List.mem_cons_of_mem _ (List.mem_append_left _ (List.mem_append_left _ (List.mem_append_left _ (List.mem_append_right _ h))))
  have hinX3 : ∀ w ∈ wsX30, w ∈ wsX3_stock := fun w h => List.mem_cons_of_mem _ (List.mem_append_left _ (List.mem_append_left _ (List.mem_append_left _ (List.mem_append_left _ (List.mem_append_right _ h)))))
  have hl := lv_entry [.ref ua, .int i1, .int i2] (n := 3) (Nat.le_of_ble_eq_true rfl)
  rw [lg_entry_eq]
  generalize (lg_sl [.ref ua, .int i1, .int i2] ++ List.replicate (3 - (lg_sl [.ref ua, .int i1, .int i2]).length) Slot.unset).toArray = ls at hl ⊢
  have hl : lv_has ls 3 [(0, .ref ua), (1, .int i1), (2, .int i2)] := hl
  clear hP hD0
  suffices main : ∀ (H : Heap) (locs : List Loc), Bd (dC, dI) [(cyI, .int), (cyB, .byte), (cyO, .object "UndoJourneys$World")] (va_A (cU cyI cyB cyO ua ub up aw as' pa β υ ω sid τs n) s.heap.size) s (cU cyI cyB cyO ua ub up aw as' pa β υ ω sid τs n) H locs → W p l e (headSpec wsX3_stock rmX3_stock).room s m ([.ref ua, .int i1, .int i2] : List Value).toArray below meth c H locs 0 0 (vx_MQ below (QiX (dC, dI) [(cyI, .int), (cyB, .byte), (cyO, .object "UndoJourneys$World")] (cU cyI cyB cyO ua ub up aw as' pa β υ ω sid τs n) (fun x => (cU cyI cyB cyO ua ub up aw as' pa β υ ω sid τs n)) (fun x => x) s.heap.size o) (XF (dC, dI) [(cyI, .int), (cyB, .byte), (cyO, .object "UndoJourneys$World")] (cU cyI cyB cyO ua ub up aw as' pa β υ ω sid τs n) s.heap.size o) ([.ref ua, .int i1, .int i2] : List Value).toArray s 2 12 (va_A (cU cyI cyB cyO ua ub up aw as' pa β υ ω sid τs n) s.heap.size)) (F0 m 0 ls []) from main _ _ hB
  clear hB
  intro H locs hB
  unfold mX3_stock at hf
  refine lv_aload_n hx hb dX3_stock_0 rfl (lv_at hl 0 rfl) ?_
  refine lv_iload_n hx hb dX3_stock_1 rfl (lv_at hl 1 rfl) ?_
  obtain ⟨o1, hc, hE, hf9⟩ := obX_s hf
  refine g_chkV (As := [.int i1]) (rest := []) ⟨hx, hb, hml, hown, hts⟩ hEX (kX3_checkStock l hl0 dC dI cyI cyB cyO ua ub up aw as' H.size hc) (cwV 1 hts gX3_stock_X3_checkStock rfl rfl rfl (by decide +kernel) ⟨Nat.le_of_ble_eq_true rfl, Nat.le_of_ble_eq_true rfl⟩) hK hB hA (g_recv (ci := 3) hK hB 0 rfl rfl rfl) ht0 hlocks rfl hE rfl hl.1 rfl (Nat.le_of_ble_eq_true rfl) dX3_stock_2 ⟨Nat.le_of_ble_eq_true rfl, Nat.le_of_ble_eq_true rfl⟩ (Nat.le_of_ble_eq_true rfl) (Nat.le_of_ble_eq_true rfl) (fun ho9 H locs hB => ?_)
  have hf := hf9 () ho9
  refine lv_iload_n hx hb dX3_stock_5 rfl (lv_at hl 2 rfl) ?_
  refine lv_bipush (v := (6 : Int32)) hx hb dX3_stock_6 (by decide) ?_
  obtain ⟨o2, hc, hE, hf9⟩ := obX_s hf
  refine g_chkS (As := [.int i2, .int (6 : Int32)]) (rest := []) ⟨hx, hb, hml, hown, hts⟩ hEX (kX3_checkWhat l hl0 dC dI cyI cyB cyO ua ub up aw as' H.size hc) (va_cwS 2 hts gX3_stock_X3_checkWhat rfl rfl rfl (by decide +kernel) ⟨Nat.le_of_ble_eq_true rfl, Nat.le_of_ble_eq_true rfl⟩) hK hB hA ht0 hlocks rfl hE rfl hl.1 rfl (Nat.le_of_ble_eq_true rfl) dX3_stock_8 ⟨Nat.le_of_ble_eq_true rfl, Nat.le_of_ble_eq_true rfl⟩ (Nat.le_of_ble_eq_true rfl) (Nat.le_of_ble_eq_true rfl) (fun ho9 H locs hB => ?_)
  have hf := hf9 () ho9
  refine lv_aload_n hx hb dX3_stock_11 rfl (lv_at hl 0 rfl) ?_
  refine g_get (C := RX3) (T := TX3) (N := 7) hx hb hts hinX3 hown hK hB 0 rfl rfl 3 rfl hq1 rfl rfl dX3_stock_12 ?_
  refine lv_iload_n hx hb dX3_stock_15 rfl (lv_at hl 1 rfl) ?_
  refine lv_iload_n hx hb dX3_stock_16 rfl (lv_at hl 2 rfl) ?_
  obtain ⟨_, g3, hf⟩ := ob1_s hf
  have g3 := gW_s g3
  obtain ⟨r4, hc, hf⟩ := ob1_s hf
  refine g_pcutVi (As := [.int i1, .int i2]) (rest := []) (w2 := (cU cyI cyB cyO ua ub up aw as' pa β υ ω sid τs n)) ⟨hx, hb, hml, hown, hts⟩ (kX2_numberOfStock l dC dI cyI (aw 0) (as' (sid 0)) H.size hc) (cwV 2 hts gX3_stock_X2_numberOfStock rfl rfl rfl (by decide +kernel) ⟨Nat.le_of_ble_eq_true rfl, Nat.le_of_ble_eq_true rfl⟩) (hK.sub [0] rfl) hB hA (g_recv (ci := 2) hK (hB.perm (cU_view cyI cyB cyO ua ub up aw as' pa β υ ω sid τs n g3)) 0 rfl rfl rfl) (cU_view cyI cyB cyO ua ub up aw as' pa β υ ω sid τs n g3) (cU_view cyI cyB cyO ua ub up aw as' pa β υ ω sid τs n g3).symm rfl hl.1 rfl (Nat.le_of_ble_eq_true rfl) dX3_stock_17 ⟨Nat.le_of_ble_eq_true rfl, Nat.le_of_ble_eq_true rfl⟩ (fun H locs hB => ?_)
  have e0 := inj1 hf
  exact g_xiret (x := r4) hx hb hr hlocks hK hB e0.symm (Nat.le_of_ble_eq_true rfl) (Nat.le_of_ble_eq_true rfl) dX3_stock_20

abbrev rmX3_checkJourney : Room := { frames := 6, cells := 1, slots := 6, locals := 90 }

set_option maxHeartbeats 4000000 in
set_option maxRecDepth 100000 in
theorem kX3_checkJourney (l : Launch) (hl0 : l.stackTraces = false) (dC : Nat → ClassId) (dI : Nat → Nat → Nat) (cyI cyB cyO : ClassId) (ua ub up : Nat) (aw as' : Nat → Nat → Nat) (sz : Nat) {fu : Nat} {τs : WS} {n : Nat} {pa : PA} {β : FS} {υ : MS} {ω : WS} {sid : PA} {i1 : Int32} {o : (String ⊕ Unit)} (hf : mX3_checkJourney fu τs n pa β υ ω sid i1 = some o) : vx_Met l yX3_checkJourney wsX3_checkJourney rmX3_checkJourney (PcX (dC, dI) [(cyI, .int), (cyB, .byte), (cyO, .object "UndoJourneys$World")] (cU cyI cyB cyO ua ub up aw as' pa β υ ω sid τs n) sz [.ref ua, .int i1]) (QvX (dC, dI) [(cyI, .int), (cyB, .byte), (cyO, .object "UndoJourneys$World")] (cU cyI cyB cyO ua ub up aw as' pa β υ ω sid τs n) (fun x => (cU cyI cyB cyO ua ub up aw as' pa β υ ω sid τs n)) sz o) (XF (dC, dI) [(cyI, .int), (cyB, .byte), (cyO, .object "UndoJourneys$World")] (cU cyI cyB cyO ua ub up aw as' pa β υ ω sid τs n) sz o) 1 6 (va_A (cU cyI cyB cyO ua ub up aw as' pa β υ ω sid τs n) sz) := by
  refine vx_ofW (cc := cX3_checkJourney) (maxL := 2) (ret := none) (by decide) rfl ?_
  intro p e s m args below meth c s₁ B hml ht0 hv
  obtain ⟨rfl, ⟨hsz, hP, hK, hD0⟩, hEX⟩ := hv
  have hx := B.exec
  have hb := B.bytes
  have hr := B.returns
  have hts := atoms_spec (ws := wsX3_checkJourney) B.pre
  have hown : s.vm.findClass RX3 = some m.cls := findClass_of_methodNamed B.named
  have hlocks := B.notSynchronized
  subst hsz
  have hA : ∀ q : Nat, s.heap.size ≤ q → va_A (cU cyI cyB cyO ua ub up aw as' pa β υ ω sid τs n) s.heap.size q := fun q h => Or.inr h
  have hB : Bd (dC, dI) [(cyI, .int), (cyB, .byte), (cyO, .object "UndoJourneys$World")] (va_A (cU cyI cyB cyO ua ub up aw as' pa β υ ω sid τs n) s.heap.size) s (cU cyI cyB cyO ua ub up aw as' pa β υ ω sid τs n) s.heap [] := ⟨hP, hD0.self, va_S.rf⟩
  have hq1 : (Cond.classLink RX3 179 "java/lang/IndexOutOfBoundsException").before _ s = true := hts _ (List.mem_of_getElem? (i := 1) rfl)
  have hq2 : (Cond.initialized "java/lang/IndexOutOfBoundsException").before _ s = true := hts _ (List.mem_of_getElem? (i := 2) rfl)
  have hq3 : (Cond.fieldLink RX3 35 "UndoJourneys" "now" "LUndoJourneys$World;").before _ s = true := hts _ (List.mem_of_getElem? (i := 3) rfl)
  have hq4 : (Cond.fieldLink RX3 77 "UndoJourneys$World" "setup" "LUndoJourneys$Setup;").before _ s = true := hts _ (List.mem_of_getElem? (i := 4) rfl)
  have hq5 : (Cond.fieldLink RX3 78 "UndoJourneys$Setup" "journeys" "I").before _ s = true := hts _ (List.mem_of_getElem? (i := 5) rfl)
  have hinX0 : ∀ w ∈ wsX00, w ∈ wsX3_checkJourney := fun w h => List.mem_cons_of_mem _ (List.mem_append_left _ (List.mem_append_right _ h))
  have hinX2 : ∀ w ∈ wsX20, w ∈ wsX3_checkJourney := fun w h => List.mem_cons_of_mem _ (List.mem_append_left _ (List.mem_append_left _ (List.mem_append_right _ h)))
  have hinX3 : ∀ w ∈ wsX30, w ∈ wsX3_checkJourney := fun w h => List.mem_cons_of_mem _ (List.mem_append_left _ (List.mem_append_left _ (List.mem_append_left _ (List.mem_append_right _ h))))
  have hl := lv_entry [.ref ua, .int i1] (n := 2) (Nat.le_of_ble_eq_true rfl)
  rw [lg_entry_eq]
  generalize (lg_sl [.ref ua, .int i1] ++ List.replicate (2 - (lg_sl [.ref ua, .int i1]).length) Slot.unset).toArray = ls at hl ⊢
  have hl : lv_has ls 2 [(0, .ref ua), (1, .int i1)] := hl
  clear hP hD0
  suffices main : ∀ (H : Heap) (locs : List Loc), Bd (dC, dI) [(cyI, .int), (cyB, .byte), (cyO, .object "UndoJourneys$World")] (va_A (cU cyI cyB cyO ua ub up aw as' pa β υ ω sid τs n) s.heap.size) s (cU cyI cyB cyO ua ub up aw as' pa β υ ω sid τs n) H locs → W p l e (headSpec wsX3_checkJourney rmX3_checkJourney).room s m ([.ref ua, .int i1] : List Value).toArray below meth c H locs 0 0 (vx_MQ below (QvX (dC, dI) [(cyI, .int), (cyB, .byte), (cyO, .object "UndoJourneys$World")] (cU cyI cyB cyO ua ub up aw as' pa β υ ω sid τs n) (fun x => (cU cyI cyB cyO ua ub up aw as' pa β υ ω sid τs n)) s.heap.size o) (XF (dC, dI) [(cyI, .int), (cyB, .byte), (cyO, .object "UndoJourneys$World")] (cU cyI cyB cyO ua ub up aw as' pa β υ ω sid τs n) s.heap.size o) ([.ref ua, .int i1] : List Value).toArray s 1 6 (va_A (cU cyI cyB cyO ua ub up aw as' pa β υ ω sid τs n) s.heap.size)) (F0 m 0 ls []) from main _ _ hB
  clear hB
  intro H locs hB
  unfold mX3_checkJourney at hf
  refine lv_iload_n hx hb dX3_checkJourney_0 rfl (lv_at hl 1 rfl) ?_
  obtain ⟨t1, hD2, hf⟩ := ob1_s hf
  have kTt1 : t1 = true → ∀ (H : Heap) (locs : List Loc), Bd (dC, dI) [(cyI, .int), (cyB, .byte), (cyO, .object "UndoJourneys$World")] (va_A (cU cyI cyB cyO ua ub up aw as' pa β υ ω sid τs n) s.heap.size) s (cU cyI cyB cyO ua ub up aw as' pa β υ ω sid τs n) H locs → W p l e (headSpec wsX3_checkJourney rmX3_checkJourney).room s m ([.ref ua, .int i1] : List Value).toArray below meth c H locs 0 0 (vx_MQ below (QvX (dC, dI) [(cyI, .int), (cyB, .byte), (cyO, .object "UndoJourneys$World")] (cU cyI cyB cyO ua ub up aw as' pa β υ ω sid τs n) (fun x => (cU cyI cyB cyO ua ub up aw as' pa β υ ω sid τs n)) s.heap.size o) (XF (dC, dI) [(cyI, .int), (cyB, .byte), (cyO, .object "UndoJourneys$World")] (cU cyI cyB cyO ua ub up aw as' pa β υ ω sid τs n) s.heap.size o) ([.ref ua, .int i1] : List Value).toArray s 1 6 (va_A (cU cyI cyB cyO ua ub up aw as' pa β υ ω sid τs n) s.heap.size)) (F0 m 18 ls []) := by
    intro ht H locs hB
    have hf := cnd_t ht hf
    have e0 := inj1 hf
    refine g_throw (names := ["java/lang/RuntimeException", "java/lang/Exception"]) hl0 hx hb hown hEX ht0 hlocks hK hB rfl e0.symm hml hl.1 (by decide) (by decide) hq1 hq2 (List.mem_of_getElem? (i := 6) rfl) (fun w h => hts w (List.mem_cons_of_mem _ (List.mem_append_right _ h))) (by decide +kernel) (by decide +kernel) dX3_checkJourney_18 dX3_checkJourney_21 dX3_checkJourney_22 dX3_checkJourney_24 dX3_checkJourney_27 (Nat.le_of_ble_eq_true rfl) (Nat.le_of_ble_eq_true rfl) (Nat.le_of_ble_eq_true rfl) (Nat.le_of_ble_eq_true rfl) (Nat.le_of_ble_eq_true rfl) (Nat.le_of_ble_eq_true rfl)
  have kFt1 : t1 = false → ∀ (H : Heap) (locs : List Loc), Bd (dC, dI) [(cyI, .int), (cyB, .byte), (cyO, .object "UndoJourneys$World")] (va_A (cU cyI cyB cyO ua ub up aw as' pa β υ ω sid τs n) s.heap.size) s (cU cyI cyB cyO ua ub up aw as' pa β υ ω sid τs n) H locs → W p l e (headSpec wsX3_checkJourney rmX3_checkJourney).room s m ([.ref ua, .int i1] : List Value).toArray below meth c H locs 0 0 (vx_MQ below (QvX (dC, dI) [(cyI, .int), (cyB, .byte), (cyO, .object "UndoJourneys$World")] (cU cyI cyB cyO ua ub up aw as' pa β υ ω sid τs n) (fun x => (cU cyI cyB cyO ua ub up aw as' pa β υ ω sid τs n)) s.heap.size o) (XF (dC, dI) [(cyI, .int), (cyB, .byte), (cyO, .object "UndoJourneys$World")] (cU cyI cyB cyO ua ub up aw as' pa β υ ω sid τs n) s.heap.size o) ([.ref ua, .int i1] : List Value).toArray s 1 6 (va_A (cU cyI cyB cyO ua ub up aw as' pa β υ ω sid τs n) s.heap.size)) (F0 m 28 ls []) := by
    intro ht H locs hB
    have hf := cnd_f ht hf
    have e0 := inj1 hf
    exact g_xvret (x := ()) hx hb hr hlocks hK hB e0.symm (Nat.le_of_ble_eq_true rfl) (Nat.le_of_ble_eq_true rfl) dX3_checkJourney_28
  refine lv_if_lt (tgt := 18) hx hb dX3_checkJourney_1 (by decide) (fun c3 => ?_) (fun c3 => ?_)
  · have hD2 := ite_t c3 hD2
    have e0 := inj1 hD2
    exact kTt1 e0.symm _ _ hB
  · have hD2 := ite_f c3 hD2
    refine lv_iload_n hx hb dX3_checkJourney_4 rfl (lv_at hl 1 rfl) ?_
    refine lv_aload_n hx hb dX3_checkJourney_5 rfl (lv_at hl 0 rfl) ?_
    refine g_get (C := RX3) (T := TX3) (N := 7) hx hb hts hinX3 hown hK hB 0 rfl rfl 3 rfl hq3 rfl rfl dX3_checkJourney_6 ?_
    obtain ⟨_, g4, hD2⟩ := ob1_s hD2
    have g4 := gW_s g4
    refine g_get (C := RX2) (T := TX2) (N := 14) hx hb hts hinX2 hown hK (hB.perm (cU_view cyI cyB cyO ua ub up aw as' pa β υ ω sid τs n g4)) 0 rfl rfl 0 rfl hq4 rfl rfl dX3_checkJourney_9 ?_
    obtain ⟨_, g5, hD2⟩ := ob1_s hD2
    have g5 := gW_s g5
    refine g_get (C := RX0) (T := TX0) (N := 17) hx hb hts hinX0 hown hK (hB.perm (cU_view cyI cyB cyO ua ub up aw as' pa β υ ω sid τs n g5)) 12 rfl rfl 5 rfl hq5 rfl rfl dX3_checkJourney_12 ?_
    refine lv_icmp_lt (tgt := 28) hx hb dX3_checkJourney_15 (by decide) (fun c6 => ?_) (fun c6 => ?_)
    · have hD2 := ite_t c6 hD2
      have e0 := inj1 hD2
      exact kFt1 e0.symm _ _ hB
    · have hD2 := ite_f c6 hD2
      have e0 := inj1 hD2
      exact kTt1 e0.symm _ _ hB

abbrev rmX3_journey : Room := { frames := 7, cells := 2, slots := 12, locals := 111 }

set_option maxHeartbeats 4000000 in
set_option maxRecDepth 100000 in
theorem kX3_journey (l : Launch) (hl0 : l.stackTraces = false) (dC : Nat → ClassId) (dI : Nat → Nat → Nat) (cyI cyB cyO : ClassId) (ua ub up : Nat) (aw as' : Nat → Nat → Nat) (sz : Nat) {fu : Nat} {τs : WS} {n : Nat} {pa : PA} {β : FS} {υ : MS} {ω : WS} {sid : PA} {i1 : Int32} {i2 : Int32} {o : (String ⊕ Int32)} (hf : mX3_journey fu τs n pa β υ ω sid i1 i2 = some o) : vx_Met l yX3_journey wsX3_journey rmX3_journey (PcX (dC, dI) [(cyI, .int), (cyB, .byte), (cyO, .object "UndoJourneys$World")] (cU cyI cyB cyO ua ub up aw as' pa β υ ω sid τs n) sz [.ref ua, .int i1, .int i2]) (QiX (dC, dI) [(cyI, .int), (cyB, .byte), (cyO, .object "UndoJourneys$World")] (cU cyI cyB cyO ua ub up aw as' pa β υ ω sid τs n) (fun x => (cU cyI cyB cyO ua ub up aw as' pa β υ ω sid τs n)) (fun x => x) sz o) (XF (dC, dI) [(cyI, .int), (cyB, .byte), (cyO, .object "UndoJourneys$World")] (cU cyI cyB cyO ua ub up aw as' pa β υ ω sid τs n) sz o) 2 12 (va_A (cU cyI cyB cyO ua ub up aw as' pa β υ ω sid τs n) sz) := by
  refine vx_ofW (cc := cX3_journey) (maxL := 3) (ret := (some .int)) (by decide) rfl ?_
  intro p e s m args below meth c s₁ B hml ht0 hv
  obtain ⟨rfl, ⟨hsz, hP, hK, hD0⟩, hEX⟩ := hv
  have hx := B.exec
  have hb := B.bytes
  have hr := B.returns
  have hts := atoms_spec (ws := wsX3_journey) B.pre
  have hown : s.vm.findClass RX3 = some m.cls := findClass_of_methodNamed B.named
  have hlocks := B.notSynchronized
  subst hsz
  have hA : ∀ q : Nat, s.heap.size ≤ q → va_A (cU cyI cyB cyO ua ub up aw as' pa β υ ω sid τs n) s.heap.size q := fun q h => Or.inr h
  have hB : Bd (dC, dI) [(cyI, .int), (cyB, .byte), (cyO, .object "UndoJourneys$World")] (va_A (cU cyI cyB cyO ua ub up aw as' pa β υ ω sid τs n) s.heap.size) s (cU cyI cyB cyO ua ub up aw as' pa β υ ω sid τs n) s.heap [] := ⟨hP, hD0.self, va_S.rf⟩
  have hq1 : (Cond.fieldLink RX3 35 "UndoJourneys" "now" "LUndoJourneys$World;").before _ s = true := hts _ (List.mem_of_getElem? (i := 1) rfl)
  have hinX0 : ∀ w ∈ wsX00, w ∈ wsX3_journey := fun w h => List.mem_cons_of_mem _ (List.mem_append_left _ (List.mem_append_left _ (List.mem_append_right _ h)))
  have hinX2 : ∀ w ∈ wsX20, w ∈ wsX3_journey := fun w h => List.mem_cons_of_mem _ (List.mem_append_left _ (List.mem_append_left _ (List.mem_append_left _ (List.mem_append_right _ h))))
  have hinX3 : ∀ w ∈ wsX30, w ∈ wsX3_journey := fun w h => List.mem_cons_of_mem _ (List.mem_append_left _ (List.mem_append_left _ (List.mem_append_left _ (List.mem_append_left _ (List.mem_append_right _ h)))))
  have hl := lv_entry [.ref ua, .int i1, .int i2] (n := 3) (Nat.le_of_ble_eq_true rfl)
  rw [lg_entry_eq]
  generalize (lg_sl [.ref ua, .int i1, .int i2] ++ List.replicate (3 - (lg_sl [.ref ua, .int i1, .int i2]).length) Slot.unset).toArray = ls at hl ⊢
  have hl : lv_has ls 3 [(0, .ref ua), (1, .int i1), (2, .int i2)] := hl
  clear hP hD0
  suffices main : ∀ (H : Heap) (locs : List Loc), Bd (dC, dI) [(cyI, .int), (cyB, .byte), (cyO, .object "UndoJourneys$World")] (va_A (cU cyI cyB cyO ua ub up aw as' pa β υ ω sid τs n) s.heap.size) s (cU cyI cyB cyO ua ub up aw as' pa β υ ω sid τs n) H locs → W p l e (headSpec wsX3_journey rmX3_journey).room s m ([.ref ua, .int i1, .int i2] : List Value).toArray below meth c H locs 0 0 (vx_MQ below (QiX (dC, dI) [(cyI, .int), (cyB, .byte), (cyO, .object "UndoJourneys$World")] (cU cyI cyB cyO ua ub up aw as' pa β υ ω sid τs n) (fun x => (cU cyI cyB cyO ua ub up aw as' pa β υ ω sid τs n)) (fun x => x) s.heap.size o) (XF (dC, dI) [(cyI, .int), (cyB, .byte), (cyO, .object "UndoJourneys$World")] (cU cyI cyB cyO ua ub up aw as' pa β υ ω sid τs n) s.heap.size o) ([.ref ua, .int i1, .int i2] : List Value).toArray s 2 12 (va_A (cU cyI cyB cyO ua ub up aw as' pa β υ ω sid τs n) s.heap.size)) (F0 m 0 ls []) from main _ _ hB
  clear hB
  intro H locs hB
  unfold mX3_journey at hf
  refine lv_aload_n hx hb dX3_journey_0 rfl (lv_at hl 0 rfl) ?_
  refine lv_iload_n hx hb dX3_journey_1 rfl (lv_at hl 1 rfl) ?_
  obtain ⟨o1, hc, hE, hf9⟩ := obX_s hf
  refine g_chkV (As := [.int i1]) (rest := []) ⟨hx, hb, hml, hown, hts⟩ hEX (kX3_checkJourney l hl0 dC dI cyI cyB cyO ua ub up aw as' H.size hc) (cwV 1 hts gX3_journey_X3_checkJourney rfl rfl rfl (by decide +kernel) ⟨Nat.le_of_ble_eq_true rfl, Nat.le_of_ble_eq_true rfl⟩) hK hB hA (g_recv (ci := 3) hK hB 0 rfl rfl rfl) ht0 hlocks rfl hE rfl hl.1 rfl (Nat.le_of_ble_eq_true rfl) dX3_journey_2 ⟨Nat.le_of_ble_eq_true rfl, Nat.le_of_ble_eq_true rfl⟩ (Nat.le_of_ble_eq_true rfl) (Nat.le_of_ble_eq_true rfl) (fun ho9 H locs hB => ?_)
  have hf := hf9 () ho9
  refine lv_iload_n hx hb dX3_journey_5 rfl (lv_at hl 2 rfl) ?_
  refine lv_bipush (v := (7 : Int32)) hx hb dX3_journey_6 (by decide) ?_
  obtain ⟨o2, hc, hE, hf9⟩ := obX_s hf
  refine g_chkS (As := [.int i2, .int (7 : Int32)]) (rest := []) ⟨hx, hb, hml, hown, hts⟩ hEX (kX3_checkWhat l hl0 dC dI cyI cyB cyO ua ub up aw as' H.size hc) (va_cwS 2 hts gX3_journey_X3_checkWhat rfl rfl rfl (by decide +kernel) ⟨Nat.le_of_ble_eq_true rfl, Nat.le_of_ble_eq_true rfl⟩) hK hB hA ht0 hlocks rfl hE rfl hl.1 rfl (Nat.le_of_ble_eq_true rfl) dX3_journey_8 ⟨Nat.le_of_ble_eq_true rfl, Nat.le_of_ble_eq_true rfl⟩ (Nat.le_of_ble_eq_true rfl) (Nat.le_of_ble_eq_true rfl) (fun ho9 H locs hB => ?_)
  have hf := hf9 () ho9
  refine lv_aload_n hx hb dX3_journey_11 rfl (lv_at hl 0 rfl) ?_
  refine g_get (C := RX3) (T := TX3) (N := 7) hx hb hts hinX3 hown hK hB 0 rfl rfl 3 rfl hq1 rfl rfl dX3_journey_12 ?_
  refine lv_iload_n hx hb dX3_journey_15 rfl (lv_at hl 1 rfl) ?_
  refine lv_iload_n hx hb dX3_journey_16 rfl (lv_at hl 2 rfl) ?_
  obtain ⟨_, g3, hf⟩ := ob1_s hf
  have g3 := gW_s g3
  obtain ⟨r4, hc, hf⟩ := ob1_s hf
  refine g_pcutVi (As := [.int i1, .int i2]) (rest := []) (w2 := (cU cyI cyB cyO ua ub up aw as' pa β υ ω sid τs n)) ⟨hx, hb, hml, hown, hts⟩ (kX2_numberOfJourney l dC dI cyI (aw 0) (as' (sid 0)) H.size hc) (cwV 2 hts gX3_journey_X2_numberOfJourney rfl rfl rfl (by decide +kernel) ⟨Nat.le_of_ble_eq_true rfl, Nat.le_of_ble_eq_true rfl⟩) (hK.sub [0] rfl) hB hA (g_recv (ci := 2) hK (hB.perm (cU_view cyI cyB cyO ua ub up aw as' pa β υ ω sid τs n g3)) 0 rfl rfl rfl) (cU_view cyI cyB cyO ua ub up aw as' pa β υ ω sid τs n g3) (cU_view cyI cyB cyO ua ub up aw as' pa β υ ω sid τs n g3).symm rfl hl.1 rfl (Nat.le_of_ble_eq_true rfl) dX3_journey_17 ⟨Nat.le_of_ble_eq_true rfl, Nat.le_of_ble_eq_true rfl⟩ (fun H locs hB => ?_)
  have e0 := inj1 hf
  exact g_xiret (x := r4) hx hb hr hlocks hK hB e0.symm (Nat.le_of_ble_eq_true rfl) (Nat.le_of_ble_eq_true rfl) dX3_journey_20

abbrev rmX3_step : Room := { frames := 7, cells := 3, slots := 18, locals := 111 }

set_option maxHeartbeats 4000000 in
set_option maxRecDepth 100000 in
theorem kX3_step (l : Launch) (hl0 : l.stackTraces = false) (dC : Nat → ClassId) (dI : Nat → Nat → Nat) (cyI cyB cyO : ClassId) (ua ub up : Nat) (aw as' : Nat → Nat → Nat) (sz : Nat) {fu : Nat} {τs : WS} {n : Nat} {pa : PA} {β : FS} {υ : MS} {ω : WS} {sid : PA} {i1 : Int32} {i2 : Int32} {i3 : Int32} {o : (String ⊕ Int32)} (hf : mX3_step fu τs n pa β υ ω sid i1 i2 i3 = some o) : vx_Met l yX3_step wsX3_step rmX3_step (PcX (dC, dI) [(cyI, .int), (cyB, .byte), (cyO, .object "UndoJourneys$World")] (cU cyI cyB cyO ua ub up aw as' pa β υ ω sid τs n) sz [.ref ua, .int i1, .int i2, .int i3]) (QiX (dC, dI) [(cyI, .int), (cyB, .byte), (cyO, .object "UndoJourneys$World")] (cU cyI cyB cyO ua ub up aw as' pa β υ ω sid τs n) (fun x => (cU cyI cyB cyO ua ub up aw as' pa β υ ω sid τs n)) (fun x => x) sz o) (XF (dC, dI) [(cyI, .int), (cyB, .byte), (cyO, .object "UndoJourneys$World")] (cU cyI cyB cyO ua ub up aw as' pa β υ ω sid τs n) sz o) 3 18 (va_A (cU cyI cyB cyO ua ub up aw as' pa β υ ω sid τs n) sz) := by
  refine vx_ofW (cc := cX3_step) (maxL := 4) (ret := (some .int)) (by decide) rfl ?_
  intro p e s m args below meth c s₁ B hml ht0 hv
  obtain ⟨rfl, ⟨hsz, hP, hK, hD0⟩, hEX⟩ := hv
  have hx := B.exec
  have hb := B.bytes
  have hr := B.returns
  have hts := atoms_spec (ws := wsX3_step) B.pre
  have hown : s.vm.findClass RX3 = some m.cls := findClass_of_methodNamed B.named
  have hlocks := B.notSynchronized
  subst hsz
  have hA : ∀ q : Nat, s.heap.size ≤ q → va_A (cU cyI cyB cyO ua ub up aw as' pa β υ ω sid τs n) s.heap.size q := fun q h => Or.inr h
  have hB : Bd (dC, dI) [(cyI, .int), (cyB, .byte), (cyO, .object "UndoJourneys$World")] (va_A (cU cyI cyB cyO ua ub up aw as' pa β υ ω sid τs n) s.heap.size) s (cU cyI cyB cyO ua ub up aw as' pa β υ ω sid τs n) s.heap [] := ⟨hP, hD0.self, va_S.rf⟩
  have hq1 : (Cond.classLink RX3 105 "java/util/NoSuchElementException").before _ s = true := hts _ (List.mem_of_getElem? (i := 1) rfl)
  have hq2 : (Cond.initialized "java/util/NoSuchElementException").before _ s = true := hts _ (List.mem_of_getElem? (i := 2) rfl)
  have hq3 : (Cond.fieldLink RX3 35 "UndoJourneys" "now" "LUndoJourneys$World;").before _ s = true := hts _ (List.mem_of_getElem? (i := 3) rfl)
  have hq4 : (Cond.fieldLink RX3 77 "UndoJourneys$World" "setup" "LUndoJourneys$Setup;").before _ s = true := hts _ (List.mem_of_getElem? (i := 4) rfl)
  have hq5 : (Cond.fieldLink RX3 110 "UndoJourneys$Setup" "firstStep" "[I").before _ s = true := hts _ (List.mem_of_getElem? (i := 5) rfl)
  have hinX0 : ∀ w ∈ wsX00, w ∈ wsX3_step := fun w h => List.mem_cons_of_mem _ (List.mem_append_left _ (List.mem_append_left _ (List.mem_append_left _ (List.mem_append_right _ h))))
  have hinX2 : ∀ w ∈ wsX20, w ∈ wsX3_step := fun w h => List.mem_cons_of_mem _ (List.mem_append_left _ (List.mem_append_left _ (List.mem_append_left _ (List.mem_append_left _ (List.mem_append_right _ h)))))
  have hinX3 : ∀ w ∈ wsX30, w ∈ wsX3_step := fun w h => List.mem_cons_of_mem _ (List.mem_append_left _ (List.mem_append_left _ (List.mem_append_left _ (List.mem_append_left _ (List.mem_append_left _ (List.mem_append_right _ h))))))
  have hl := lv_entry [.ref ua, .int i1, .int i2, .int i3] (n := 4) (Nat.le_of_ble_eq_true rfl)
  rw [lg_entry_eq]
  generalize (lg_sl [.ref ua, .int i1, .int i2, .int i3] ++ List.replicate (4 - (lg_sl [.ref ua, .int i1, .int i2, .int i3]).length) Slot.unset).toArray = ls at hl ⊢
  have hl : lv_has ls 4 [(0, .ref ua), (1, .int i1), (2, .int i2), (3, .int i3)] := hl
  clear hP hD0
  suffices main : ∀ (H : Heap) (locs : List Loc), Bd (dC, dI) [(cyI, .int), (cyB, .byte), (cyO, .object "UndoJourneys$World")] (va_A (cU cyI cyB cyO ua ub up aw as' pa β υ ω sid τs n) s.heap.size) s (cU cyI cyB cyO ua ub up aw as' pa β υ ω sid τs n) H locs → W p l e (headSpec wsX3_step rmX3_step).room s m ([.ref ua, .int i1, .int i2, .int i3] : List Value).toArray below meth c H locs 0 0 (vx_MQ below (QiX (dC, dI) [(cyI, .int), (cyB, .byte), (cyO, .object "UndoJourneys$World")] (cU cyI cyB cyO ua ub up aw as' pa β υ ω sid τs n) (fun x => (cU cyI cyB cyO ua ub up aw as' pa β υ ω sid τs n)) (fun x => x) s.heap.size o) (XF (dC, dI) [(cyI, .int), (cyB, .byte), (cyO, .object "UndoJourneys$World")] (cU cyI cyB cyO ua ub up aw as' pa β υ ω sid τs n) s.heap.size o) ([.ref ua, .int i1, .int i2, .int i3] : List Value).toArray s 3 18 (va_A (cU cyI cyB cyO ua ub up aw as' pa β υ ω sid τs n) s.heap.size)) (F0 m 0 ls []) from main _ _ hB
  clear hB
  intro H locs hB
  unfold mX3_step at hf
  refine lv_aload_n hx hb dX3_step_0 rfl (lv_at hl 0 rfl) ?_
  refine lv_iload_n hx hb dX3_step_1 rfl (lv_at hl 1 rfl) ?_
  obtain ⟨o1, hc, hE, hf9⟩ := obX_s hf
  refine g_chkV (As := [.int i1]) (rest := []) ⟨hx, hb, hml, hown, hts⟩ hEX (kX3_checkJourney l hl0 dC dI cyI cyB cyO ua ub up aw as' H.size hc) (cwV 1 hts gX3_step_X3_checkJourney rfl rfl rfl (by decide +kernel) ⟨Nat.le_of_ble_eq_true rfl, Nat.le_of_ble_eq_true rfl⟩) hK hB hA (g_recv (ci := 3) hK hB 0 rfl rfl rfl) ht0 hlocks rfl hE rfl hl.1 rfl (Nat.le_of_ble_eq_true rfl) dX3_step_2 ⟨Nat.le_of_ble_eq_true rfl, Nat.le_of_ble_eq_true rfl⟩ (Nat.le_of_ble_eq_true rfl) (Nat.le_of_ble_eq_true rfl) (fun ho9 H locs hB => ?_)
  have hf := hf9 () ho9
  refine lv_iload_n hx hb dX3_step_5 rfl (lv_at hl 2 rfl) ?_
  obtain ⟨t2, hD3, hf⟩ := ob1_s hf
  have kTt2 : t2 = true → ∀ (H : Heap) (locs : List Loc), Bd (dC, dI) [(cyI, .int), (cyB, .byte), (cyO, .object "UndoJourneys$World")] (va_A (cU cyI cyB cyO ua ub up aw as' pa β υ ω sid τs n) s.heap.size) s (cU cyI cyB cyO ua ub up aw as' pa β υ ω sid τs n) H locs → W p l e (headSpec wsX3_step rmX3_step).room s m ([.ref ua, .int i1, .int i2, .int i3] : List Value).toArray below meth c H locs 1 6 (vx_MQ below (QiX (dC, dI) [(cyI, .int), (cyB, .byte), (cyO, .object "UndoJourneys$World")] (cU cyI cyB cyO ua ub up aw as' pa β υ ω sid τs n) (fun x => (cU cyI cyB cyO ua ub up aw as' pa β υ ω sid τs n)) (fun x => x) s.heap.size o) (XF (dC, dI) [(cyI, .int), (cyB, .byte), (cyO, .object "UndoJourneys$World")] (cU cyI cyB cyO ua ub up aw as' pa β υ ω sid τs n) s.heap.size o) ([.ref ua, .int i1, .int i2, .int i3] : List Value).toArray s 3 18 (va_A (cU cyI cyB cyO ua ub up aw as' pa β υ ω sid τs n) s.heap.size)) (F0 m 24 ls []) := by
    intro ht H locs hB
    have hf := cnd_t ht hf
    have e0 := inj1 hf
    refine g_throwN hl0 hx hb hown hEX ht0 hlocks hK hB rfl e0.symm hml hl.1 hq1 hq2 (List.mem_of_getElem? (i := 1) rfl) (fun w h => hts w (List.mem_cons_of_mem _ (List.mem_append_left _ (List.mem_append_left _ (List.mem_append_right _ h))))) dX3_step_24 dX3_step_27 dX3_step_28 dX3_step_30 dX3_step_33 (Nat.le_of_ble_eq_true rfl) (Nat.le_of_ble_eq_true rfl) (Nat.le_of_ble_eq_true rfl) (Nat.le_of_ble_eq_true rfl) (Nat.le_of_ble_eq_true rfl) (Nat.le_of_ble_eq_true rfl)
  have kFt2 : t2 = false → ∀ (H : Heap) (locs : List Loc), Bd (dC, dI) [(cyI, .int), (cyB, .byte), (cyO, .object "UndoJourneys$World")] (va_A (cU cyI cyB cyO ua ub up aw as' pa β υ ω sid τs n) s.heap.size) s (cU cyI cyB cyO ua ub up aw as' pa β υ ω sid τs n) H locs → W p l e (headSpec wsX3_step rmX3_step).room s m ([.ref ua, .int i1, .int i2, .int i3] : List Value).toArray below meth c H locs 1 6 (vx_MQ below (QiX (dC, dI) [(cyI, .int), (cyB, .byte), (cyO, .object "UndoJourneys$World")] (cU cyI cyB cyO ua ub up aw as' pa β υ ω sid τs n) (fun x => (cU cyI cyB cyO ua ub up aw as' pa β υ ω sid τs n)) (fun x => x) s.heap.size o) (XF (dC, dI) [(cyI, .int), (cyB, .byte), (cyO, .object "UndoJourneys$World")] (cU cyI cyB cyO ua ub up aw as' pa β υ ω sid τs n) s.heap.size o) ([.ref ua, .int i1, .int i2, .int i3] : List Value).toArray s 3 18 (va_A (cU cyI cyB cyO ua ub up aw as' pa β υ ω sid τs n) s.heap.size)) (F0 m 34 ls []) := by
    intro ht H locs hB
    have hf := cnd_f ht hf
    refine lv_iload_n hx hb dX3_step_34 rfl (lv_at hl 3 rfl) ?_
    refine lv_bipush (v := (7 : Int32)) hx hb dX3_step_35 (by decide) ?_
    obtain ⟨o9, hc, hE, hf9⟩ := obX_s hf
    refine g_chkS (As := [.int i3, .int (7 : Int32)]) (rest := []) ⟨hx, hb, hml, hown, hts⟩ hEX (kX3_checkWhat l hl0 dC dI cyI cyB cyO ua ub up aw as' H.size hc) (va_cwS 2 hts gX3_step_X3_checkWhat rfl rfl rfl (by decide +kernel) ⟨Nat.le_of_ble_eq_true rfl, Nat.le_of_ble_eq_true rfl⟩) hK hB hA ht0 hlocks rfl hE rfl hl.1 rfl (Nat.le_of_ble_eq_true rfl) dX3_step_37 ⟨Nat.le_of_ble_eq_true rfl, Nat.le_of_ble_eq_true rfl⟩ (Nat.le_of_ble_eq_true rfl) (Nat.le_of_ble_eq_true rfl) (fun ho9 H locs hB => ?_)
    have hf := hf9 () ho9
    refine lv_aload_n hx hb dX3_step_40 rfl (lv_at hl 0 rfl) ?_
    refine g_get (C := RX3) (T := TX3) (N := 7) hx hb hts hinX3 hown hK hB 0 rfl rfl 3 rfl hq3 rfl rfl dX3_step_41 ?_
    refine lv_aload_n hx hb dX3_step_44 rfl (lv_at hl 0 rfl) ?_
    refine g_get (C := RX3) (T := TX3) (N := 7) hx hb hts hinX3 hown hK hB 0 rfl rfl 3 rfl hq3 rfl rfl dX3_step_45 ?_
    obtain ⟨_, g10, hf⟩ := ob1_s hf
    have g10 := gW_s g10
    refine g_get (C := RX2) (T := TX2) (N := 14) hx hb hts hinX2 hown hK (hB.perm (cU_view cyI cyB cyO ua ub up aw as' pa β υ ω sid τs n g10)) 0 rfl rfl 0 rfl hq4 rfl rfl dX3_step_48 ?_
    obtain ⟨_, g11, hf⟩ := ob1_s hf
    have g11 := gW_s g11
    refine g_get (C := RX0) (T := TX0) (N := 17) hx hb hts hinX0 hown hK (hB.perm (cU_view cyI cyB cyO ua ub up aw as' pa β υ ω sid τs n g11)) 12 rfl rfl 8 rfl hq5 rfl rfl dX3_step_51 ?_
    refine lv_iload_n hx hb dX3_step_54 rfl (lv_at hl 1 rfl) ?_
    obtain ⟨_, g12, hf⟩ := ob1_s hf
    have g12 := gW_s g12
    obtain ⟨x13, e9, hf⟩ := ob1_s hf
    refine g_iald hx hb hK (hB.perm (cU_view cyI cyB cyO ua ub up aw as' pa β υ ω sid τs n g12)) 17 0 rfl rfl (rd_s e9) dX3_step_55 ?_
    refine lv_iload_n hx hb dX3_step_56 rfl (lv_at hl 2 rfl) ?_
    refine lv_iadd hx hb dX3_step_57 ?_
    refine lv_iload_n hx hb dX3_step_58 rfl (lv_at hl 3 rfl) ?_
    obtain ⟨_, g14, hf⟩ := ob1_s hf
    have g14 := gW_s g14
    obtain ⟨r15, hc, hf⟩ := ob1_s hf
    refine g_pcutVi (As := [.int (x13 + i2), .int i3]) (rest := []) (w2 := (cU cyI cyB cyO ua ub up aw as' pa β υ ω sid τs n)) ⟨hx, hb, hml, hown, hts⟩ (kX2_numberOfStep l dC dI cyI (aw 0) (as' (sid 0)) H.size hc) (cwV 2 hts gX3_step_X2_numberOfStep rfl rfl rfl (by decide +kernel) ⟨Nat.le_of_ble_eq_true rfl, Nat.le_of_ble_eq_true rfl⟩) (hK.sub [0] rfl) hB hA (g_recv (ci := 2) hK (hB.perm (cU_view cyI cyB cyO ua ub up aw as' pa β υ ω sid τs n g14)) 0 rfl rfl rfl) (cU_view cyI cyB cyO ua ub up aw as' pa β υ ω sid τs n g14) (cU_view cyI cyB cyO ua ub up aw as' pa β υ ω sid τs n g14).symm rfl hl.1 rfl (Nat.le_of_ble_eq_true rfl) dX3_step_59 ⟨Nat.le_of_ble_eq_true rfl, Nat.le_of_ble_eq_true rfl⟩ (fun H locs hB => ?_)
    have e0 := inj1 hf
    exact g_xiret (x := r15) hx hb hr hlocks hK hB e0.symm (Nat.le_of_ble_eq_true rfl) (Nat.le_of_ble_eq_true rfl) dX3_step_62
  refine lv_if_lt (tgt := 24) hx hb dX3_step_6 (by decide) (fun c4 => ?_) (fun c4 => ?_)
  · have hD3 := ite_t c4 hD3
    have e0 := inj1 hD3
    exact kTt2 e0.symm _ _ hB
  · have hD3 := ite_f c4 hD3
    refine lv_iload_n hx hb dX3_step_9 rfl (lv_at hl 2 rfl) ?_
    refine lv_aload_n hx hb dX3_step_10 rfl (lv_at hl 0 rfl) ?_
    refine g_get (C := RX3) (T := TX3) (N := 7) hx hb hts hinX3 hown hK hB 0 rfl rfl 3 rfl hq3 rfl rfl dX3_step_11 ?_
    obtain ⟨_, g5, hD3⟩ := ob1_s hD3
    have g5 := gW_s g5
    refine g_get (C := RX2) (T := TX2) (N := 14) hx hb hts hinX2 hown hK (hB.perm (cU_view cyI cyB cyO ua ub up aw as' pa β υ ω sid τs n g5)) 0 rfl rfl 0 rfl hq4 rfl rfl dX3_step_14 ?_
    refine lv_iload_n hx hb dX3_step_17 rfl (lv_at hl 1 rfl) ?_
    obtain ⟨_, g6, hD3⟩ := ob1_s hD3
    have g6 := gW_s g6
    obtain ⟨r7, hc, hD3⟩ := ob1_s hD3
    refine g_pcutVi (As := [.int i1]) (rest := [.int i2]) (w2 := (cU cyI cyB cyO ua ub up aw as' pa β υ ω sid τs n)) ⟨hx, hb, hml, hown, hts⟩ (kX0_stepsOf l dC dI cyI (as' (sid 0)) H.size hc) (cwV 1 hts gX3_step_X0_stepsOf rfl rfl rfl (by decide +kernel) ⟨Nat.le_of_ble_eq_true rfl, Nat.le_of_ble_eq_true rfl⟩) (hK.sub [0] rfl) hB hA (g_recv (ci := 0) hK (hB.perm (cU_view cyI cyB cyO ua ub up aw as' pa β υ ω sid τs n g6)) 12 rfl rfl rfl) (cU_viewS cyI cyB cyO ua ub up aw as' pa β υ ω sid τs n g6) (cU_viewS cyI cyB cyO ua ub up aw as' pa β υ ω sid τs n g6).symm rfl hl.1 rfl (Nat.le_of_ble_eq_true rfl) dX3_step_18 ⟨Nat.le_of_ble_eq_true rfl, Nat.le_of_ble_eq_true rfl⟩ (fun H locs hB => ?_)
    refine lv_icmp_lt (tgt := 34) hx hb dX3_step_21 (by decide) (fun c8 => ?_) (fun c8 => ?_)
    · have hD3 := ite_t c8 hD3
      have e0 := inj1 hD3
      exact kFt2 e0.symm _ _ hB
    · have hD3 := ite_f c8 hD3
      have e0 := inj1 hD3
      exact kTt2 e0.symm _ _ hB

abbrev rmX3_owed : Room := { frames := 7, cells := 2, slots := 12, locals := 111 }

set_option maxHeartbeats 4000000 in
set_option maxRecDepth 100000 in
theorem kX3_owed (l : Launch) (hl0 : l.stackTraces = false) (dC : Nat → ClassId) (dI : Nat → Nat → Nat) (cyI cyB cyO : ClassId) (ua ub up : Nat) (aw as' : Nat → Nat → Nat) (sz : Nat) {fu : Nat} {τs : WS} {n : Nat} {pa : PA} {β : FS} {υ : MS} {ω : WS} {sid : PA} {i1 : Int32} {i2 : Int32} {o : (String ⊕ Int32)} (hf : mX3_owed fu τs n pa β υ ω sid i1 i2 = some o) : vx_Met l yX3_owed wsX3_owed rmX3_owed (PcX (dC, dI) [(cyI, .int), (cyB, .byte), (cyO, .object "UndoJourneys$World")] (cU cyI cyB cyO ua ub up aw as' pa β υ ω sid τs n) sz [.ref ua, .int i1, .int i2]) (QiX (dC, dI) [(cyI, .int), (cyB, .byte), (cyO, .object "UndoJourneys$World")] (cU cyI cyB cyO ua ub up aw as' pa β υ ω sid τs n) (fun x => (cU cyI cyB cyO ua ub up aw as' pa β υ ω sid τs n)) (fun x => x) sz o) (XF (dC, dI) [(cyI, .int), (cyB, .byte), (cyO, .object "UndoJourneys$World")] (cU cyI cyB cyO ua ub up aw as' pa β υ ω sid τs n) sz o) 2 12 (va_A (cU cyI cyB cyO ua ub up aw as' pa β υ ω sid τs n) sz) := by
  refine vx_ofW (cc := cX3_owed) (maxL := 4) (ret := (some .int)) (by decide) rfl ?_
  intro p e s m args below meth c s₁ B hml ht0 hv
  obtain ⟨rfl, ⟨hsz, hP, hK, hD0⟩, hEX⟩ := hv
  have hx := B.exec
  have hb := B.bytes
  have hr := B.returns
  have hts := atoms_spec (ws := wsX3_owed) B.pre
  have hown : s.vm.findClass RX3 = some m.cls := findClass_of_methodNamed B.named
  have hlocks := B.notSynchronized
  subst hsz
  have hA : ∀ q : Nat, s.heap.size ≤ q → va_A (cU cyI cyB cyO ua ub up aw as' pa β υ ω sid τs n) s.heap.size q := fun q h => Or.inr h
  have hB : Bd (dC, dI) [(cyI, .int), (cyB, .byte), (cyO, .object "UndoJourneys$World")] (va_A (cU cyI cyB cyO ua ub up aw as' pa β υ ω sid τs n) s.heap.size) s (cU cyI cyB cyO ua ub up aw as' pa β υ ω sid τs n) s.heap [] := ⟨hP, hD0.self, va_S.rf⟩
  have hq1 : (Cond.classLink RX3 105 "java/util/NoSuchElementException").before _ s = true := hts _ (List.mem_of_getElem? (i := 1) rfl)
  have hq2 : (Cond.initialized "java/util/NoSuchElementException").before _ s = true := hts _ (List.mem_of_getElem? (i := 2) rfl)
  have hq3 : (Cond.fieldLink RX3 35 "UndoJourneys" "now" "LUndoJourneys$World;").before _ s = true := hts _ (List.mem_of_getElem? (i := 3) rfl)
  have hq4 : (Cond.fieldLink RX3 77 "UndoJourneys$World" "setup" "LUndoJourneys$Setup;").before _ s = true := hts _ (List.mem_of_getElem? (i := 4) rfl)
  have hq5 : (Cond.fieldLink RX3 110 "UndoJourneys$Setup" "firstStep" "[I").before _ s = true := hts _ (List.mem_of_getElem? (i := 5) rfl)
  have hinX0 : ∀ w ∈ wsX00, w ∈ wsX3_owed := fun w h => List.mem_cons_of_mem _ (List.mem_append_left _ (List.mem_append_left _ (List.mem_append_right _ h)))
  have hinX2 : ∀ w ∈ wsX20, w ∈ wsX3_owed := fun w h => List.mem_cons_of_mem _ (List.mem_append_left _ (List.mem_append_left _ (List.mem_append_left _ (List.mem_append_right _ h))))
  have hinX3 : ∀ w ∈ wsX30, w ∈ wsX3_owed := fun w h => List.mem_cons_of_mem _ (List.mem_append_left _ (List.mem_append_left _ (List.mem_append_left _ (List.mem_append_left _ (List.mem_append_right _ h)))))
  have hl := lv_entry [.ref ua, .int i1, .int i2] (n := 4) (Nat.le_of_ble_eq_true rfl)
  rw [lg_entry_eq]
  generalize (lg_sl [.ref ua, .int i1, .int i2] ++ List.replicate (4 - (lg_sl [.ref ua, .int i1, .int i2]).length) Slot.unset).toArray = ls at hl ⊢
  have hl : lv_has ls 4 [(0, .ref ua), (1, .int i1), (2, .int i2)] := hl
  clear hP hD0
  suffices main : ∀ (H : Heap) (locs : List Loc), Bd (dC, dI) [(cyI, .int), (cyB, .byte), (cyO, .object "UndoJourneys$World")] (va_A (cU cyI cyB cyO ua ub up aw as' pa β υ ω sid τs n) s.heap.size) s (cU cyI cyB cyO ua ub up aw as' pa β υ ω sid τs n) H locs → W p l e (headSpec wsX3_owed rmX3_owed).room s m ([.ref ua, .int i1, .int i2] : List Value).toArray below meth c H locs 0 0 (vx_MQ below (QiX (dC, dI) [(cyI, .int), (cyB, .byte), (cyO, .object "UndoJourneys$World")] (cU cyI cyB cyO ua ub up aw as' pa β υ ω sid τs n) (fun x => (cU cyI cyB cyO ua ub up aw as' pa β υ ω sid τs n)) (fun x => x) s.heap.size o) (XF (dC, dI) [(cyI, .int), (cyB, .byte), (cyO, .object "UndoJourneys$World")] (cU cyI cyB cyO ua ub up aw as' pa β υ ω sid τs n) s.heap.size o) ([.ref ua, .int i1, .int i2] : List Value).toArray s 2 12 (va_A (cU cyI cyB cyO ua ub up aw as' pa β υ ω sid τs n) s.heap.size)) (F0 m 0 ls []) from main _ _ hB
  clear hB
  intro H locs hB
  unfold mX3_owed at hf
  refine lv_aload_n hx hb dX3_owed_0 rfl (lv_at hl 0 rfl) ?_
  refine lv_iload_n hx hb dX3_owed_1 rfl (lv_at hl 1 rfl) ?_
  obtain ⟨o1, hc, hE, hf9⟩ := obX_s hf
  refine g_chkV (As := [.int i1]) (rest := []) ⟨hx, hb, hml, hown, hts⟩ hEX (kX3_checkJourney l hl0 dC dI cyI cyB cyO ua ub up aw as' H.size hc) (cwV 1 hts gX3_owed_X3_checkJourney rfl rfl rfl (by decide +kernel) ⟨Nat.le_of_ble_eq_true rfl, Nat.le_of_ble_eq_true rfl⟩) hK hB hA (g_recv (ci := 3) hK hB 0 rfl rfl rfl) ht0 hlocks rfl hE rfl hl.1 rfl (Nat.le_of_ble_eq_true rfl) dX3_owed_2 ⟨Nat.le_of_ble_eq_true rfl, Nat.le_of_ble_eq_true rfl⟩ (Nat.le_of_ble_eq_true rfl) (Nat.le_of_ble_eq_true rfl) (fun ho9 H locs hB => ?_)
  have hf := hf9 () ho9
  refine lv_iload_n hx hb dX3_owed_5 rfl (lv_at hl 2 rfl) ?_
  obtain ⟨v2, hJ3, hf⟩ := ob1_s hf
  have kJ4 : ∀ (H : Heap) (locs : List Loc) (ls : Array Slot), Bd (dC, dI) [(cyI, .int), (cyB, .byte), (cyO, .object "UndoJourneys$World")] (va_A (cU cyI cyB cyO ua ub up aw as' pa β υ ω sid τs n) s.heap.size) s (cU cyI cyB cyO ua ub up aw as' pa β υ ω sid τs n) H locs → lv_has ls 4 [(0, .ref ua), (1, .int i1)] → W p l e (headSpec wsX3_owed rmX3_owed).room s m ([.ref ua, .int i1, .int i2] : List Value).toArray below meth c H locs 1 6 (vx_MQ below (QiX (dC, dI) [(cyI, .int), (cyB, .byte), (cyO, .object "UndoJourneys$World")] (cU cyI cyB cyO ua ub up aw as' pa β υ ω sid τs n) (fun x => (cU cyI cyB cyO ua ub up aw as' pa β υ ω sid τs n)) (fun x => x) s.heap.size o) (XF (dC, dI) [(cyI, .int), (cyB, .byte), (cyO, .object "UndoJourneys$World")] (cU cyI cyB cyO ua ub up aw as' pa β υ ω sid τs n) s.heap.size o) ([.ref ua, .int i1, .int i2] : List Value).toArray s 2 12 (va_A (cU cyI cyB cyO ua ub up aw as' pa β υ ω sid τs n) s.heap.size)) (F0 m 22 ls [.int v2]) := by
    intro H locs ls hB hl
    refine lv_istore_n (lv' := [(3, .int v2), (0, .ref ua), (1, .int i1)]) hx hb dX3_owed_22 rfl hl (by decide) rfl (fun ls hl => ?_)
    refine lv_iload_n hx hb dX3_owed_23 rfl (lv_at hl 0 rfl) ?_
    refine lv_if_ge (tgt := 37) hx hb dX3_owed_24 (by decide) (fun c8 => ?_) (fun c8 => ?_)
    · have hf := ite_t c8 hf
      refine lv_iload_n hx hb dX3_owed_37 rfl (lv_at hl 0 rfl) ?_
      refine lv_aload_n hx hb dX3_owed_38 rfl (lv_at hl 1 rfl) ?_
      refine g_get (C := RX3) (T := TX3) (N := 7) hx hb hts hinX3 hown hK hB 0 rfl rfl 3 rfl hq3 rfl rfl dX3_owed_39 ?_
      obtain ⟨_, g9, hf⟩ := ob1_s hf
      have g9 := gW_s g9
      refine g_get (C := RX2) (T := TX2) (N := 14) hx hb hts hinX2 hown hK (hB.perm (cU_view cyI cyB cyO ua ub up aw as' pa β υ ω sid τs n g9)) 0 rfl rfl 0 rfl hq4 rfl rfl dX3_owed_42 ?_
      obtain ⟨_, g10, hf⟩ := ob1_s hf
      have g10 := gW_s g10
      refine g_get (C := RX0) (T := TX0) (N := 17) hx hb hts hinX0 hown hK (hB.perm (cU_view cyI cyB cyO ua ub up aw as' pa β υ ω sid τs n g10)) 12 rfl rfl 8 rfl hq5 rfl rfl dX3_owed_45 ?_
      refine lv_iload_n hx hb dX3_owed_48 rfl (lv_at hl 2 rfl) ?_
      obtain ⟨_, g11, hf⟩ := ob1_s hf
      have g11 := gW_s g11
      obtain ⟨x12, e9, hf⟩ := ob1_s hf
      refine g_iald hx hb hK (hB.perm (cU_view cyI cyB cyO ua ub up aw as' pa β υ ω sid τs n g11)) 17 0 rfl rfl (rd_s e9) dX3_owed_49 ?_
      refine lv_isub hx hb dX3_owed_50 ?_
      have e0 := inj1 hf
      exact g_xiret (x := (v2 - x12)) hx hb hr hlocks hK hB e0.symm (Nat.le_of_ble_eq_true rfl) (Nat.le_of_ble_eq_true rfl) dX3_owed_51
    · have hf := ite_f c8 hf
      have e0 := inj1 hf
      refine g_throwN hl0 hx hb hown hEX ht0 hlocks hK hB rfl e0.symm hml hl.1 hq1 hq2 (List.mem_of_getElem? (i := 2) rfl) (fun w h => hts w (List.mem_cons_of_mem _ (List.mem_append_left _ (List.mem_append_right _ h)))) dX3_owed_27 dX3_owed_30 dX3_owed_31 dX3_owed_33 dX3_owed_36 (Nat.le_of_ble_eq_true rfl) (Nat.le_of_ble_eq_true rfl) (Nat.le_of_ble_eq_true rfl) (Nat.le_of_ble_eq_true rfl) (Nat.le_of_ble_eq_true rfl) (Nat.le_of_ble_eq_true rfl)
  refine lv_if_ge (tgt := 13) hx hb dX3_owed_6 (by decide) (fun c5 => ?_) (fun c5 => ?_)
  · have hJ3 := ite_t c5 hJ3
    refine lv_aload_n hx hb dX3_owed_13 rfl (lv_at hl 0 rfl) ?_
    refine g_get (C := RX3) (T := TX3) (N := 7) hx hb hts hinX3 hown hK hB 0 rfl rfl 3 rfl hq3 rfl rfl dX3_owed_14 ?_
    refine lv_iload_n hx hb dX3_owed_17 rfl (lv_at hl 1 rfl) ?_
    refine lv_iload_n hx hb dX3_owed_18 rfl (lv_at hl 2 rfl) ?_
    obtain ⟨_, g6, hJ3⟩ := ob1_s hJ3
    have g6 := gW_s g6
    obtain ⟨r7, hc, hJ3⟩ := ob1_s hJ3
    refine g_pcutVi (As := [.int i1, .int i2]) (rest := []) (w2 := (cU cyI cyB cyO ua ub up aw as' pa β υ ω sid τs n)) ⟨hx, hb, hml, hown, hts⟩ (kX2_doneStepFromBehind l dC dI cyI (aw 0) (as' (sid 0)) H.size hc) (cwV 2 hts gX3_owed_X2_doneStepFromBehind rfl rfl rfl (by decide +kernel) ⟨Nat.le_of_ble_eq_true rfl, Nat.le_of_ble_eq_true rfl⟩) (hK.sub [0] rfl) hB hA (g_recv (ci := 2) hK (hB.perm (cU_view cyI cyB cyO ua ub up aw as' pa β υ ω sid τs n g6)) 0 rfl rfl rfl) (cU_view cyI cyB cyO ua ub up aw as' pa β υ ω sid τs n g6) (cU_view cyI cyB cyO ua ub up aw as' pa β υ ω sid τs n g6).symm rfl hl.1 rfl (Nat.le_of_ble_eq_true rfl) dX3_owed_19 ⟨Nat.le_of_ble_eq_true rfl, Nat.le_of_ble_eq_true rfl⟩ (fun H locs hB => ?_)
    have e0 := inj1 hJ3
    subst e0
    exact kJ4 _ _ _ hB (lv_sub hl [0, 1] rfl)
  · have hJ3 := ite_f c5 hJ3
    refine lv_iconst (v := (-1 : Int32)) hx hb dX3_owed_9 (by decide) ?_
    refine lv_goto (tgt := 22) hx hb dX3_owed_10 (by decide) ?_
    have e0 := inj1 hJ3
    subst e0
    exact kJ4 _ _ _ hB (lv_sub hl [0, 1] rfl)

abbrev rmX3_restsIn : Room := { frames := 7, cells := 1, slots := 6, locals := 142 }

set_option maxHeartbeats 4000000 in
set_option maxRecDepth 100000 in
theorem kX3_restsIn (l : Launch) (hl0 : l.stackTraces = false) (dC : Nat → ClassId) (dI : Nat → Nat → Nat) (cyI cyB cyO : ClassId) (ua ub up : Nat) (aw as' : Nat → Nat → Nat) (sz : Nat) {fu : Nat} {τs : WS} {n : Nat} {pa : PA} {β : FS} {υ : MS} {ω : WS} {sid : PA} {i1 : Int32} {o : (String ⊕ (Int32 × WS × PA))} (hf : mX3_restsIn fu τs n pa β υ ω sid i1 = some o) : vx_Met l yX3_restsIn wsX3_restsIn rmX3_restsIn (PcX (dC, dI) [(cyI, .int), (cyB, .byte), (cyO, .object "UndoJourneys$World")] (cU cyI cyB cyO ua ub up aw as' pa β υ ω sid τs n) sz [.ref ua, .int i1]) (QiX (dC, dI) [(cyI, .int), (cyB, .byte), (cyO, .object "UndoJourneys$World")] (cU cyI cyB cyO ua ub up aw as' pa β υ ω sid τs n) (fun x => (cU cyI cyB cyO ua ub up aw as' pa β υ (x.2.1) (x.2.2) τs n)) (fun x => (x.1)) sz o) (XF (dC, dI) [(cyI, .int), (cyB, .byte), (cyO, .object "UndoJourneys$World")] (cU cyI cyB cyO ua ub up aw as' pa β υ ω sid τs n) sz o) 1 6 (va_A (cU cyI cyB cyO ua ub up aw as' pa β υ ω sid τs n) sz) := by
  refine vx_ofW (cc := cX3_restsIn) (maxL := 2) (ret := (some .int)) (by decide) rfl ?_
  intro p e s m args below meth c s₁ B hml ht0 hv
  obtain ⟨rfl, ⟨hsz, hP, hK, hD0⟩, hEX⟩ := hv
  have hx := B.exec
  have hb := B.bytes
  have hr := B.returns
  have hts := atoms_spec (ws := wsX3_restsIn) B.pre
  have hown : s.vm.findClass RX3 = some m.cls := findClass_of_methodNamed B.named
  have hlocks := B.notSynchronized
  subst hsz
  have hA : ∀ q : Nat, s.heap.size ≤ q → va_A (cU cyI cyB cyO ua ub up aw as' pa β υ ω sid τs n) s.heap.size q := fun q h => Or.inr h
  have hB : Bd (dC, dI) [(cyI, .int), (cyB, .byte), (cyO, .object "UndoJourneys$World")] (va_A (cU cyI cyB cyO ua ub up aw as' pa β υ ω sid τs n) s.heap.size) s (cU cyI cyB cyO ua ub up aw as' pa β υ ω sid τs n) s.heap [] := ⟨hP, hD0.self, va_S.rf⟩
  have hq1 : (Cond.fieldLink RX3 39 "UndoJourneys" "forecast" "LUndoJourneys$World;").before _ s = true := hts _ (List.mem_of_getElem? (i := 1) rfl)
  have hq2 : (Cond.fieldLink RX3 35 "UndoJourneys" "now" "LUndoJourneys$World;").before _ s = true := hts _ (List.mem_of_getElem? (i := 2) rfl)
  have hq3 : (Cond.fieldLink RX3 133 "UndoJourneys$World" "time" "I").before _ s = true := hts _ (List.mem_of_getElem? (i := 3) rfl)
  have hinX0 : ∀ w ∈ wsX00, w ∈ wsX3_restsIn := fun w h => List.mem_cons_of_mem _ (List.mem_append_left _ (List.mem_append_right _ h))
  have hinX2 : ∀ w ∈ wsX20, w ∈ wsX3_restsIn := fun w h => List.mem_cons_of_mem _ (List.mem_append_left _ (List.mem_append_left _ (List.mem_append_right _ h)))
  have hinX3 : ∀ w ∈ wsX30, w ∈ wsX3_restsIn := fun w h => List.mem_cons_of_mem _ (List.mem_append_left _ (List.mem_append_left _ (List.mem_append_left _ (List.mem_append_right _ h))))
  have hl := lv_entry [.ref ua, .int i1] (n := 2) (Nat.le_of_ble_eq_true rfl)
  rw [lg_entry_eq]
  generalize (lg_sl [.ref ua, .int i1] ++ List.replicate (2 - (lg_sl [.ref ua, .int i1]).length) Slot.unset).toArray = ls at hl ⊢
  have hl : lv_has ls 2 [(0, .ref ua), (1, .int i1)] := hl
  clear hP hD0
  suffices main : ∀ (H : Heap) (locs : List Loc), Bd (dC, dI) [(cyI, .int), (cyB, .byte), (cyO, .object "UndoJourneys$World")] (va_A (cU cyI cyB cyO ua ub up aw as' pa β υ ω sid τs n) s.heap.size) s (cU cyI cyB cyO ua ub up aw as' pa β υ ω sid τs n) H locs → W p l e (headSpec wsX3_restsIn rmX3_restsIn).room s m ([.ref ua, .int i1] : List Value).toArray below meth c H locs 0 0 (vx_MQ below (QiX (dC, dI) [(cyI, .int), (cyB, .byte), (cyO, .object "UndoJourneys$World")] (cU cyI cyB cyO ua ub up aw as' pa β υ ω sid τs n) (fun x => (cU cyI cyB cyO ua ub up aw as' pa β υ (x.2.1) (x.2.2) τs n)) (fun x => (x.1)) s.heap.size o) (XF (dC, dI) [(cyI, .int), (cyB, .byte), (cyO, .object "UndoJourneys$World")] (cU cyI cyB cyO ua ub up aw as' pa β υ ω sid τs n) s.heap.size o) ([.ref ua, .int i1] : List Value).toArray s 1 6 (va_A (cU cyI cyB cyO ua ub up aw as' pa β υ ω sid τs n) s.heap.size)) (F0 m 0 ls []) from main _ _ hB
  clear hB
  intro H locs hB
  unfold mX3_restsIn at hf
  refine lv_aload_n hx hb dX3_restsIn_0 rfl (lv_at hl 0 rfl) ?_
  refine lv_iload_n hx hb dX3_restsIn_1 rfl (lv_at hl 1 rfl) ?_
  obtain ⟨o1, hc, hE, hf9⟩ := obX_s hf
  refine g_chkV (As := [.int i1]) (rest := []) ⟨hx, hb, hml, hown, hts⟩ hEX (kX3_checkJourney l hl0 dC dI cyI cyB cyO ua ub up aw as' H.size hc) (cwV 1 hts gX3_restsIn_X3_checkJourney rfl rfl rfl (by decide +kernel) ⟨Nat.le_of_ble_eq_true rfl, Nat.le_of_ble_eq_true rfl⟩) hK hB hA (g_recv (ci := 3) hK hB 0 rfl rfl rfl) ht0 hlocks rfl hE rfl hl.1 rfl (Nat.le_of_ble_eq_true rfl) dX3_restsIn_2 ⟨Nat.le_of_ble_eq_true rfl, Nat.le_of_ble_eq_true rfl⟩ (Nat.le_of_ble_eq_true rfl) (Nat.le_of_ble_eq_true rfl) (fun ho9 H locs hB => ?_)
  have hf := hf9 () ho9
  refine lv_aload_n hx hb dX3_restsIn_5 rfl (lv_at hl 0 rfl) ?_
  refine g_get (C := RX3) (T := TX3) (N := 7) hx hb hts hinX3 hown hK hB 0 rfl rfl 4 rfl hq1 rfl rfl dX3_restsIn_6 ?_
  refine lv_aload_n hx hb dX3_restsIn_9 rfl (lv_at hl 0 rfl) ?_
  refine g_get (C := RX3) (T := TX3) (N := 7) hx hb hts hinX3 hown hK hB 0 rfl rfl 3 rfl hq2 rfl rfl dX3_restsIn_10 ?_
  obtain ⟨_, g2, hf⟩ := ob1_s hf
  have g2 := gC_s g2
  obtain ⟨σ3, hc, hf⟩ := ob1_s hf
  obtain ⟨ω4, e9, hf⟩ := ob1_s hf
  have e9 := inj1 e9
  obtain ⟨sid5, e8, hf⟩ := ob1_s hf
  have e8 := inj1 e8
  refine g_pcutVv (As := [.ref (aw 0 0)]) (rest := []) (w2 := (cU cyI cyB cyO ua ub up aw as' pa β υ ω4 sid5 τs n)) ⟨hx, hb, hml, hown, hts⟩ (kX2_copyFrom (bs := as' (sid 1) 0) l dC dI cyI (aw 1) (aw 0) (as' (sid 0) 0) H.size hc) (cwV 1 hts gX3_restsIn_X2_copyFrom rfl rfl rfl (by decide +kernel) ⟨Nat.le_of_ble_eq_true rfl, Nat.le_of_ble_eq_true rfl⟩) (hK.sub [0] rfl) hB hA (g_recv (ci := 2) hK (hB.perm (cU_view2 cyI cyB cyO ua ub up aw as' pa β υ ω sid τs n g2.1 g2.2.1 g2.2.2.1)) 0 rfl rfl rfl) (cU_view2 cyI cyB cyO ua ub up aw as' pa β υ ω sid τs n g2.1 g2.2.1 g2.2.2.1) (by rw [← e9, ← e8]; exact cU_back2 cyI cyB cyO ua ub up aw as' pa β υ ω sid τs n g2.1 g2.2.1 g2.2.2.1 σ3) rfl hl.1 rfl (Nat.le_of_ble_eq_true rfl) dX3_restsIn_13 ⟨Nat.le_of_ble_eq_true rfl, Nat.le_of_ble_eq_true rfl⟩ (fun H locs hB => ?_)
  refine lv_aload_n hx hb dX3_restsIn_16 rfl (lv_at hl 0 rfl) ?_
  refine g_get (C := RX3) (T := TX3) (N := 7) hx hb hts hinX3 hown hK hB 0 rfl rfl 4 rfl hq1 rfl rfl dX3_restsIn_17 ?_
  refine lv_sipush (v := (3000 : Int32)) hx hb dX3_restsIn_20 (by decide) ?_
  refine lv_iload_n hx hb dX3_restsIn_23 rfl (lv_at hl 1 rfl) ?_
  obtain ⟨_, g6, hf⟩ := ob1_s hf
  have g6 := gW_s g6
  obtain ⟨σ7, hc, hf⟩ := ob1_s hf
  obtain ⟨ω8, e9, hf⟩ := ob1_s hf
  have e9 := inj1 e9
  refine g_pcutVv (As := [.int (3000 : Int32), .int i1]) (rest := []) (w2 := (cU cyI cyB cyO ua ub up aw as' pa β υ ω8 sid5 τs n)) ⟨hx, hb, hml, hown, hts⟩ (kX2_passTicks l dC dI cyI (aw 1) (as' (sid5 1)) H.size hc) (cwV 2 hts gX3_restsIn_X2_passTicks rfl rfl rfl (by decide +kernel) ⟨Nat.le_of_ble_eq_true rfl, Nat.le_of_ble_eq_true rfl⟩) (hK.sub [0] rfl) hB hA (g_recv (ci := 2) hK (hB.perm (cU_view cyI cyB cyO ua ub up aw as' pa β υ ω4 sid5 τs n g6)) 0 rfl rfl rfl) (cU_view cyI cyB cyO ua ub up aw as' pa β υ ω4 sid5 τs n g6) (by rw [← e9]; exact cU_back cyI cyB cyO ua ub up aw as' pa β υ ω4 sid5 τs n g6 σ7) rfl hl.1 rfl (Nat.le_of_ble_eq_true rfl) dX3_restsIn_24 ⟨Nat.le_of_ble_eq_true rfl, Nat.le_of_ble_eq_true rfl⟩ (fun H locs hB => ?_)
  refine lv_aload_n hx hb dX3_restsIn_27 rfl (lv_at hl 0 rfl) ?_
  refine g_get (C := RX3) (T := TX3) (N := 7) hx hb hts hinX3 hown hK hB 0 rfl rfl 4 rfl hq1 rfl rfl dX3_restsIn_28 ?_
  refine lv_iload_n hx hb dX3_restsIn_31 rfl (lv_at hl 1 rfl) ?_
  obtain ⟨_, g9, hf⟩ := ob1_s hf
  have g9 := gW_s g9
  obtain ⟨r10, hc, hf⟩ := ob1_s hf
  refine g_pcutVz (As := [.int i1]) (rest := []) (w2 := (cU cyI cyB cyO ua ub up aw as' pa β υ ω8 sid5 τs n)) ⟨hx, hb, hml, hown, hts⟩ (kX2_rests l dC dI cyI (aw 1) (as' (sid5 1)) H.size hc) (cwV 1 hts gX3_restsIn_X2_rests rfl rfl rfl (by decide +kernel) ⟨Nat.le_of_ble_eq_true rfl, Nat.le_of_ble_eq_true rfl⟩) (hK.sub [0] rfl) hB hA (g_recv (ci := 2) hK (hB.perm (cU_view cyI cyB cyO ua ub up aw as' pa β υ ω8 sid5 τs n g9)) 0 rfl rfl rfl) (cU_view cyI cyB cyO ua ub up aw as' pa β υ ω8 sid5 τs n g9) (cU_view cyI cyB cyO ua ub up aw as' pa β υ ω8 sid5 τs n g9).symm rfl hl.1 rfl (Nat.le_of_ble_eq_true rfl) dX3_restsIn_32 ⟨Nat.le_of_ble_eq_true rfl, Nat.le_of_ble_eq_true rfl⟩ (fun z11 H locs hB => ?_)
  obtain ⟨v12, hJ13, hf⟩ := ob1_s hf
  have kJ14 : ∀ (H : Heap) (locs : List Loc) (ls : Array Slot), Bd (dC, dI) [(cyI, .int), (cyB, .byte), (cyO, .object "UndoJourneys$World")] (va_A (cU cyI cyB cyO ua ub up aw as' pa β υ ω sid τs n) s.heap.size) s (cU cyI cyB cyO ua ub up aw as' pa β υ ω8 sid5 τs n) H locs → lv_has ls 2 [] → W p l e (headSpec wsX3_restsIn rmX3_restsIn).room s m ([.ref ua, .int i1] : List Value).toArray below meth c H locs 1 6 (vx_MQ below (QiX (dC, dI) [(cyI, .int), (cyB, .byte), (cyO, .object "UndoJourneys$World")] (cU cyI cyB cyO ua ub up aw as' pa β υ ω sid τs n) (fun x => (cU cyI cyB cyO ua ub up aw as' pa β υ (x.2.1) (x.2.2) τs n)) (fun x => (x.1)) s.heap.size o) (XF (dC, dI) [(cyI, .int), (cyB, .byte), (cyO, .object "UndoJourneys$World")] (cU cyI cyB cyO ua ub up aw as' pa β υ ω sid τs n) s.heap.size o) ([.ref ua, .int i1] : List Value).toArray s 1 6 (va_A (cU cyI cyB cyO ua ub up aw as' pa β υ ω sid τs n) s.heap.size)) (F0 m 57 ls [.int v12]) := by
    intro H locs ls hB hl
    have e0 := inj1 hf
    exact g_xiret (x := (v12, ω8, sid5)) hx hb hr hlocks hK hB e0.symm (Nat.le_of_ble_eq_true rfl) (Nat.le_of_ble_eq_true rfl) dX3_restsIn_57
  refine lv_if_eq (tgt := 56) hx hb dX3_restsIn_35 (by decide) (fun c15 => ?_) (fun c15 => ?_)
  · have hJ13 := ite_t c15 hJ13
    refine lv_iconst (v := (-1 : Int32)) hx hb dX3_restsIn_56 (by decide) ?_
    have e0 := inj1 hJ13
    subst e0
    exact kJ14 _ _ _ hB (lv_sub hl [] rfl)
  · have hJ13 := ite_f c15 hJ13
    refine lv_aload_n hx hb dX3_restsIn_38 rfl (lv_at hl 0 rfl) ?_
    refine g_get (C := RX3) (T := TX3) (N := 7) hx hb hts hinX3 hown hK hB 0 rfl rfl 4 rfl hq1 rfl rfl dX3_restsIn_39 ?_
    obtain ⟨_, g16, hJ13⟩ := ob1_s hJ13
    have g16 := gW_s g16
    refine g_get (C := RX2) (T := TX2) (N := 14) hx hb hts hinX2 hown hK (hB.perm (cU_view cyI cyB cyO ua ub up aw as' pa β υ ω8 sid5 τs n g16)) 0 rfl rfl 1 rfl hq3 rfl rfl dX3_restsIn_42 ?_
    refine lv_aload_n hx hb dX3_restsIn_45 rfl (lv_at hl 0 rfl) ?_
    refine g_get (C := RX3) (T := TX3) (N := 7) hx hb hts hinX3 hown hK hB 0 rfl rfl 3 rfl hq2 rfl rfl dX3_restsIn_46 ?_
    obtain ⟨_, g17, hJ13⟩ := ob1_s hJ13
    have g17 := gW_s g17
    refine g_get (C := RX2) (T := TX2) (N := 14) hx hb hts hinX2 hown hK (hB.perm (cU_view cyI cyB cyO ua ub up aw as' pa β υ ω8 sid5 τs n g17)) 0 rfl rfl 1 rfl hq3 rfl rfl dX3_restsIn_49 ?_
    refine lv_isub hx hb dX3_restsIn_52 ?_
    refine lv_goto (tgt := 57) hx hb dX3_restsIn_53 (by decide) ?_
    have e0 := inj1 hJ13
    subst e0
    exact kJ14 _ _ _ hB (lv_sub hl [] rfl)

