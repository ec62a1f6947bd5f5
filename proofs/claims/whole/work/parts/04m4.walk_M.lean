abbrev rmX4_toldStock : Room := { frames := 7, cells := 0, slots := 0, locals := 154 }

set_option maxHeartbeats 4000000 in
set_option maxRecDepth 100000 in
theorem kX4_toldStock (l : Launch) (dC : Nat → ClassId) (dI : Nat → Nat → Nat) (cyI cyO : ClassId) (ad : Nat → Nat) (sz : Nat) {fu : Nat} {μ : MS} {i1 : Int32} {i2 : Int32} {r : Int32} (hf : mX4_toldStock fu μ i1 i2 = some r) : Met l yX4_toldStock wsX4_toldStock rmX4_toldStock (PcF (dC, dI) [(cyI, .int), (cyO, .array .int)] (cM cyI cyO ad μ) sz [.ref (ad 0), .int i1, .int i2]) (QiF (dC, dI) [(cyI, .int), (cyO, .array .int)] (cM cyI cyO ad μ) (cM cyI cyO ad μ) sz r) 0 0 (va_A (cM cyI cyO ad μ) sz) := by
  refine Met.ofW (cc := cX4_toldStock) (maxL := 3) (ret := (some .int)) (by decide) rfl ?_
  intro p e s m args below meth c s₁ B hml hv
  obtain ⟨rfl, hsz, hP, hK, hD0⟩ := hv
  have hx := B.exec
  have hb := B.bytes
  have hr := B.returns
  have hts := atoms_spec (ws := wsX4_toldStock) B.pre
  have hown : s.vm.findClass RX4 = some m.cls := findClass_of_methodNamed B.named
  have hlocks := B.notSynchronized
  subst hsz
  have hA : ∀ q : Nat, s.heap.size ≤ q → va_A (cM cyI cyO ad μ) s.heap.size q := fun q h => Or.inr h
  have hB : Bd (dC, dI) [(cyI, .int), (cyO, .array .int)] (va_A (cM cyI cyO ad μ) s.heap.size) s (cM cyI cyO ad μ) s.heap [] := ⟨hP, hD0.self, va_S.rf⟩
  have hq1 : (Cond.fieldLink RX4 17 "UndoJourneysModel" "data" "[I").before _ s = true := hts _ (List.mem_of_getElem? (i := 1) rfl)
  have hinX4 : ∀ w ∈ wsX40, w ∈ wsX4_toldStock := fun w h => List.mem_cons_of_mem _ (List.mem_append_right _ h)
  have hl := lv_entry [.ref (ad 0), .int i1, .int i2] (n := 3) (Nat.le_of_ble_eq_true rfl)
  rw [lg_entry_eq]
  generalize (lg_sl [.ref (ad 0), .int i1, .int i2] ++ List.replicate (3 - (lg_sl [.ref (ad 0), .int i1, .int i2]).length) Slot.unset).toArray = ls at hl ⊢
  have hl : lv_has ls 3 [(0, .ref (ad 0)), (1, .int i1), (2, .int i2)] := hl
  clear hP hD0
  suffices main : ∀ (H : Heap) (locs : List Loc), Bd (dC, dI) [(cyI, .int), (cyO, .array .int)] (va_A (cM cyI cyO ad μ) s.heap.size) s (cM cyI cyO ad μ) H locs → W p l e (headSpec wsX4_toldStock rmX4_toldStock).room s m ([.ref (ad 0), .int i1, .int i2] : List Value).toArray below meth c H locs 0 0 (MQ below (QiF (dC, dI) [(cyI, .int), (cyO, .array .int)] (cM cyI cyO ad μ) (cM cyI cyO ad μ) s.heap.size r) ([.ref (ad 0), .int i1, .int i2] : List Value).toArray s 0 0 (va_A (cM cyI cyO ad μ) s.heap.size)) (F0 m 0 ls []) from main _ _ hB
  clear hB
  intro H locs hB
  unfold mX4_toldStock at hf
  refine lv_iload_n hx hb dX4_toldStock_0 rfl (lv_at hl 2 rfl) ?_
  refine lv_iconst (v := (2 : Int32)) hx hb dX4_toldStock_1 (by decide) ?_
  obtain ⟨v1, hJ2, hf⟩ := ob1_s hf
  have kJ3 : ∀ (H : Heap) (locs : List Loc) (ls : Array Slot), Bd (dC, dI) [(cyI, .int), (cyO, .array .int)] (va_A (cM cyI cyO ad μ) s.heap.size) s (cM cyI cyO ad μ) H locs → lv_has ls 3 [] → W p l e (headSpec wsX4_toldStock rmX4_toldStock).room s m ([.ref (ad 0), .int i1, .int i2] : List Value).toArray below meth c H locs 0 0 (MQ below (QiF (dC, dI) [(cyI, .int), (cyO, .array .int)] (cM cyI cyO ad μ) (cM cyI cyO ad μ) s.heap.size r) ([.ref (ad 0), .int i1, .int i2] : List Value).toArray s 0 0 (va_A (cM cyI cyO ad μ) s.heap.size)) (F0 m 40 ls [.int v1]) := by
    intro H locs ls hB hl
    have e0 := inj1 hf
    subst e0
    exact g_iret hx hb hr hlocks hK hB dX4_toldStock_40
  refine lv_icmp_ge (tgt := 21) hx hb dX4_toldStock_2 (by decide) (fun c4 => ?_) (fun c4 => ?_)
  · have hJ2 := ite_t c4 hJ2
    refine lv_iload_n hx hb dX4_toldStock_21 rfl (lv_at hl 2 rfl) ?_
    refine lv_iconst (v := (2 : Int32)) hx hb dX4_toldStock_22 (by decide) ?_
    refine lv_icmp_ne (tgt := 34) hx hb dX4_toldStock_23 (by decide) (fun c5 => ?_) (fun c5 => ?_)
    · have hJ2 := ite_f c5 hJ2
      refine lv_aload_n hx hb dX4_toldStock_34 rfl (lv_at hl 0 rfl) ?_
      refine lv_iload_n hx hb dX4_toldStock_35 rfl (lv_at hl 1 rfl) ?_
      refine lv_iload_n hx hb dX4_toldStock_36 rfl (lv_at hl 2 rfl) ?_
      obtain ⟨r6, hc, hJ2⟩ := ob1_s hJ2
      refine g_callVi (As := [.int i1, .int i2]) (rest := []) ⟨hx, hb, hml, hown, hts⟩ (kX4_sumOf l dC dI cyI cyO ad H.size hc) (cwV 2 hts gX4_toldStock_X4_sumOf rfl rfl rfl (by decide +kernel) ⟨Nat.le_of_ble_eq_true rfl, Nat.le_of_ble_eq_true rfl⟩) hK hB hA (g_recv (ci := 4) hK hB 0 rfl rfl rfl) rfl hl.1 rfl (Nat.le_of_ble_eq_true rfl) dX4_toldStock_37 ⟨Nat.zero_le _, Nat.zero_le _⟩ (fun H locs hB => ?_)
      have e0 := inj1 hJ2
      subst e0
      exact kJ3 _ _ _ hB (lv_sub hl [] rfl)
    · have hJ2 := ite_t c5 hJ2
      refine lv_aload_n hx hb dX4_toldStock_26 rfl (lv_at hl 0 rfl) ?_
      refine lv_iload_n hx hb dX4_toldStock_27 rfl (lv_at hl 1 rfl) ?_
      obtain ⟨r7, hc, hJ2⟩ := ob1_s hJ2
      refine g_callVi (As := [.int i1]) (rest := []) ⟨hx, hb, hml, hown, hts⟩ (kX4_holders l dC dI cyI cyO ad H.size hc) (cwV 1 hts gX4_toldStock_X4_holders rfl rfl rfl (by decide +kernel) ⟨Nat.le_of_ble_eq_true rfl, Nat.le_of_ble_eq_true rfl⟩) hK hB hA (g_recv (ci := 4) hK hB 0 rfl rfl rfl) rfl hl.1 rfl (Nat.le_of_ble_eq_true rfl) dX4_toldStock_28 ⟨Nat.zero_le _, Nat.zero_le _⟩ (fun H locs hB => ?_)
      refine lv_goto (tgt := 40) hx hb dX4_toldStock_31 (by decide) ?_
      have e0 := inj1 hJ2
      subst e0
      exact kJ3 _ _ _ hB (lv_sub hl [] rfl)
  · have hJ2 := ite_f c4 hJ2
    refine lv_aload_n hx hb dX4_toldStock_5 rfl (lv_at hl 0 rfl) ?_
    refine g_get (C := RX4) (T := TX4) (N := 15) hx hb hts hinX4 hown hK hB 0 rfl rfl 8 rfl hq1 rfl rfl dX4_toldStock_6 ?_
    refine lv_bipush (v := (7 : Int32)) hx hb dX4_toldStock_9 (by decide) ?_
    refine lv_iconst (v := (2 : Int32)) hx hb dX4_toldStock_11 (by decide) ?_
    refine lv_iload_n hx hb dX4_toldStock_12 rfl (lv_at hl 1 rfl) ?_
    refine lv_imul hx hb dX4_toldStock_13 ?_
    refine lv_iadd hx hb dX4_toldStock_14 ?_
    refine lv_iload_n hx hb dX4_toldStock_15 rfl (lv_at hl 2 rfl) ?_
    refine lv_iadd hx hb dX4_toldStock_16 ?_
    obtain ⟨x8, e9, hJ2⟩ := ob1_s hJ2
    refine g_iald hx hb hK hB 2 0 rfl rfl (rd_s e9) dX4_toldStock_17 ?_
    refine lv_goto (tgt := 40) hx hb dX4_toldStock_18 (by decide) ?_
    have e0 := inj1 hJ2
    subst e0
    exact kJ3 _ _ _ hB (lv_sub hl [] rfl)

abbrev rmX4_stock : Room := { frames := 8, cells := 0, slots := 0, locals := 176 }

set_option maxHeartbeats 4000000 in
set_option maxRecDepth 100000 in
theorem kX4_stock (l : Launch) (dC : Nat → ClassId) (dI : Nat → Nat → Nat) (cyI cyO : ClassId) (ad : Nat → Nat) (sz : Nat) {fu : Nat} {μ : MS} {i1 : Int32} {i2 : Int32} {r : Int32} {μ_ : MS} (hf : mX4_stock fu μ i1 i2 = some (r, μ_)) : Met l yX4_stock wsX4_stock rmX4_stock (PcF (dC, dI) [(cyI, .int), (cyO, .array .int)] (cM cyI cyO ad μ) sz [.ref (ad 0), .int i1, .int i2]) (QiF (dC, dI) [(cyI, .int), (cyO, .array .int)] (cM cyI cyO ad μ) (cM cyI cyO ad μ_) sz r) 0 0 (va_A (cM cyI cyO ad μ) sz) := by
  refine Met.ofW (cc := cX4_stock) (maxL := 3) (ret := (some .int)) (by decide) rfl ?_
  intro p e s m args below meth c s₁ B hml hv
  obtain ⟨rfl, hsz, hP, hK, hD0⟩ := hv
  have hx := B.exec
  have hb := B.bytes
  have hr := B.returns
  have hts := atoms_spec (ws := wsX4_stock) B.pre
  have hown : s.vm.findClass RX4 = some m.cls := findClass_of_methodNamed B.named
  have hlocks := B.notSynchronized
  subst hsz
  have hA : ∀ q : Nat, s.heap.size ≤ q → va_A (cM cyI cyO ad μ) s.heap.size q := fun q h => Or.inr h
  have hB : Bd (dC, dI) [(cyI, .int), (cyO, .array .int)] (va_A (cM cyI cyO ad μ) s.heap.size) s (cM cyI cyO ad μ) s.heap [] := ⟨hP, hD0.self, va_S.rf⟩
  have hq1 : (Cond.fieldLink RX4 35 "UndoJourneysModel" "thrown" "I").before _ s = true := hts _ (List.mem_of_getElem? (i := 1) rfl)
  have hinX4 : ∀ w ∈ wsX40, w ∈ wsX4_stock := fun w h => List.mem_cons_of_mem _ (List.mem_append_right _ h)
  have hl := lv_entry [.ref (ad 0), .int i1, .int i2] (n := 3) (Nat.le_of_ble_eq_true rfl)
  rw [lg_entry_eq]
  generalize (lg_sl [.ref (ad 0), .int i1, .int i2] ++ List.replicate (3 - (lg_sl [.ref (ad 0), .int i1, .int i2]).length) Slot.unset).toArray = ls at hl ⊢
  have hl : lv_has ls 3 [(0, .ref (ad 0)), (1, .int i1), (2, .int i2)] := hl
  clear hP hD0
  suffices main : ∀ (H : Heap) (locs : List Loc), Bd (dC, dI) [(cyI, .int), (cyO, .array .int)] (va_A (cM cyI cyO ad μ) s.heap.size) s (cM cyI cyO ad μ) H locs → W p l e (headSpec wsX4_stock rmX4_stock).room s m ([.ref (ad 0), .int i1, .int i2] : List Value).toArray below meth c H locs 0 0 (MQ below (QiF (dC, dI) [(cyI, .int), (cyO, .array .int)] (cM cyI cyO ad μ) (cM cyI cyO ad μ_) s.heap.size r) ([.ref (ad 0), .int i1, .int i2] : List Value).toArray s 0 0 (va_A (cM cyI cyO ad μ) s.heap.size)) (F0 m 0 ls []) from main _ _ hB
  clear hB
  intro H locs hB
  unfold mX4_stock at hf
  refine lv_aload_n hx hb dX4_stock_0 rfl (lv_at hl 0 rfl) ?_
  refine lv_iconst (v := (0 : Int32)) hx hb dX4_stock_1 (by decide) ?_
  obtain ⟨μ1, e9, hf⟩ := ob1_s hf
  have e9 := inj1 e9
  refine g_put (C := RX4) (T := TX4) (N := 15) hx hb hts hinX4 tyX4 tyX4_ok nmX4 hown hK hB 0 rfl rfl 0 rfl hq1 rfl rfl rfl rfl rfl rfl dX4_stock_2 (w2 := (cM cyI cyO ad μ1)) (by rw [← e9]; rfl) (fun H locs hB => ?_)
  refine lv_aload_n hx hb dX4_stock_5 rfl (lv_at hl 0 rfl) ?_
  refine lv_iload_n hx hb dX4_stock_6 rfl (lv_at hl 1 rfl) ?_
  obtain ⟨r2, μ3, hc, hf⟩ := ob2_s hf
  refine g_callVz (As := [.int i1]) (rest := []) ⟨hx, hb, hml, hown, hts⟩ (kX4_noStock l dC dI cyI cyO ad H.size hc) (cwV 1 hts gX4_stock_X4_noStock rfl rfl rfl (by decide +kernel) ⟨Nat.le_of_ble_eq_true rfl, Nat.le_of_ble_eq_true rfl⟩) hK hB hA (g_recv (ci := 4) hK hB 0 rfl rfl rfl) rfl hl.1 rfl (Nat.le_of_ble_eq_true rfl) dX4_stock_7 ⟨Nat.zero_le _, Nat.zero_le _⟩ (fun z4 H locs hB => ?_)
  obtain ⟨v5, μ6, hJ7, hf⟩ := ob2_s hf
  have kJ8 : ∀ (H : Heap) (locs : List Loc) (ls : Array Slot), Bd (dC, dI) [(cyI, .int), (cyO, .array .int)] (va_A (cM cyI cyO ad μ) s.heap.size) s (cM cyI cyO ad μ6) H locs → lv_has ls 3 [] → W p l e (headSpec wsX4_stock rmX4_stock).room s m ([.ref (ad 0), .int i1, .int i2] : List Value).toArray below meth c H locs 0 0 (MQ below (QiF (dC, dI) [(cyI, .int), (cyO, .array .int)] (cM cyI cyO ad μ) (cM cyI cyO ad μ_) s.heap.size r) ([.ref (ad 0), .int i1, .int i2] : List Value).toArray s 0 0 (va_A (cM cyI cyO ad μ) s.heap.size)) (F0 m 45 ls [.int v5]) := by
    intro H locs ls hB hl
    obtain ⟨e0, e1⟩ := inj2 hf
    subst e0
    subst e1
    exact g_iret hx hb hr hlocks hK hB dX4_stock_45
  refine lv_if_ne (tgt := 35) hx hb dX4_stock_10 (by decide) (fun c9 => ?_) (fun c9 => ?_)
  · have hJ7 := ite_f c9 hJ7
    refine lv_iconst (v := (0 : Int32)) hx hb dX4_stock_35 (by decide) ?_
    refine lv_goto (tgt := 45) hx hb dX4_stock_36 (by decide) ?_
    obtain ⟨e0, e1⟩ := inj2 hJ7
    subst e0
    subst e1
    exact kJ8 _ _ _ hB (lv_sub hl [] rfl)
  · have hJ7 := ite_t c9 hJ7
    refine lv_aload_n hx hb dX4_stock_13 rfl (lv_at hl 0 rfl) ?_
    refine lv_iload_n hx hb dX4_stock_14 rfl (lv_at hl 2 rfl) ?_
    refine lv_iconst (v := (0 : Int32)) hx hb dX4_stock_15 (by decide) ?_
    refine lv_iconst (v := (5 : Int32)) hx hb dX4_stock_16 (by decide) ?_
    obtain ⟨r10, hc, hJ7⟩ := ob1_s hJ7
    refine g_pcutSz (As := [.int i2, .int (0 : Int32), .int (5 : Int32)]) (rest := [.ref (ad 0)]) (w2 := (cM cyI cyO ad μ3)) ⟨hx, hb, hml, hown, hts⟩ (kX4_in l dC dI [(cyI, .int), (cyO, .array .int)] H.size hc) (va_cwS 3 hts gX4_stock_X4_in rfl rfl rfl (by decide +kernel) ⟨Nat.le_of_ble_eq_true rfl, Nat.le_of_ble_eq_true rfl⟩) hK hB hA (List.Perm.refl _) (List.Perm.refl _) rfl hl.1 rfl (Nat.le_of_ble_eq_true rfl) dX4_stock_17 ⟨Nat.zero_le _, Nat.zero_le _⟩ (fun z11 H locs hB => ?_)
    obtain ⟨v12, hJ14, hJ7⟩ := ob1_s hJ7
    have kJ15 : (v12 = 0 ∨ v12 = 1) → ∀ (H : Heap) (locs : List Loc) (ls : Array Slot), Bd (dC, dI) [(cyI, .int), (cyO, .array .int)] (va_A (cM cyI cyO ad μ) s.heap.size) s (cM cyI cyO ad μ3) H locs → lv_has ls 3 [(0, .ref (ad 0)), (1, .int i1), (2, .int i2)] → W p l e (headSpec wsX4_stock rmX4_stock).room s m ([.ref (ad 0), .int i1, .int i2] : List Value).toArray below meth c H locs 0 0 (MQ below (QiF (dC, dI) [(cyI, .int), (cyO, .array .int)] (cM cyI cyO ad μ) (cM cyI cyO ad μ_) s.heap.size r) ([.ref (ad 0), .int i1, .int i2] : List Value).toArray s 0 0 (va_A (cM cyI cyO ad μ) s.heap.size)) (F0 m 28 ls [.int v12, .ref (ad 0)]) := by
      intro z13 H locs ls hB hl
      refine lv_iconst (v := (2 : Int32)) hx hb dX4_stock_28 (by decide) ?_
      obtain ⟨r17, μ18, hc, hJ7⟩ := ob2_s hJ7
      refine g_callVz (As := [.int v12, .int (2 : Int32)]) (rest := []) ⟨hx, hb, hml, hown, hts⟩ (kX4_fails l dC dI cyI cyO ad H.size hc) (cwV 2 hts gX4_stock_X4_fails rfl rfl rfl (by decide +kernel) ⟨Nat.le_of_ble_eq_true rfl, Nat.le_of_ble_eq_true rfl⟩) hK hB hA (g_recv (ci := 4) hK hB 0 rfl rfl rfl) rfl hl.1 rfl (Nat.le_of_ble_eq_true rfl) dX4_stock_29 ⟨Nat.zero_le _, Nat.zero_le _⟩ (fun z19 H locs hB => ?_)
      refine lv_if_eq (tgt := 39) hx hb dX4_stock_32 (by decide) (fun c20 => ?_) (fun c20 => ?_)
      · have hJ7 := ite_t c20 hJ7
        refine lv_aload_n hx hb dX4_stock_39 rfl (lv_at hl 0 rfl) ?_
        refine lv_iload_n hx hb dX4_stock_40 rfl (lv_at hl 1 rfl) ?_
        refine lv_iload_n hx hb dX4_stock_41 rfl (lv_at hl 2 rfl) ?_
        obtain ⟨r21, hc, hJ7⟩ := ob1_s hJ7
        refine g_callVi (As := [.int i1, .int i2]) (rest := []) ⟨hx, hb, hml, hown, hts⟩ (kX4_toldStock l dC dI cyI cyO ad H.size hc) (cwV 2 hts gX4_stock_X4_toldStock rfl rfl rfl (by decide +kernel) ⟨Nat.le_of_ble_eq_true rfl, Nat.le_of_ble_eq_true rfl⟩) hK hB hA (g_recv (ci := 4) hK hB 0 rfl rfl rfl) rfl hl.1 rfl (Nat.le_of_ble_eq_true rfl) dX4_stock_42 ⟨Nat.zero_le _, Nat.zero_le _⟩ (fun H locs hB => ?_)
        obtain ⟨e0, e1⟩ := inj2 hJ7
        subst e0
        subst e1
        exact kJ8 _ _ _ hB (lv_sub hl [] rfl)
      · have hJ7 := ite_f c20 hJ7
        refine lv_iconst (v := (0 : Int32)) hx hb dX4_stock_35 (by decide) ?_
        refine lv_goto (tgt := 45) hx hb dX4_stock_36 (by decide) ?_
        obtain ⟨e0, e1⟩ := inj2 hJ7
        subst e0
        subst e1
        exact kJ8 _ _ _ hB (lv_sub hl [] rfl)
    refine lv_if_ne (tgt := 27) hx hb dX4_stock_20 (by decide) (fun c16 => ?_) (fun c16 => ?_)
    · have hJ14 := ite_f c16 hJ14
      refine lv_iconst (v := (0 : Int32)) hx hb dX4_stock_27 (by decide) ?_
      have e0 := inj1 hJ14
      subst e0
      exact kJ15 (Or.inl rfl) _ _ _ hB (lv_sub hl [0, 1, 2] rfl)
    · have hJ14 := ite_t c16 hJ14
      refine lv_iconst (v := (1 : Int32)) hx hb dX4_stock_23 (by decide) ?_
      refine lv_goto (tgt := 28) hx hb dX4_stock_24 (by decide) ?_
      have e0 := inj1 hJ14
      subst e0
      exact kJ15 (Or.inr rfl) _ _ _ hB (lv_sub hl [0, 1, 2] rfl)

abbrev rmX4_toldJourney : Room := { frames := 4, cells := 0, slots := 0, locals := 86 }

set_option maxHeartbeats 4000000 in
set_option maxRecDepth 100000 in
theorem kX4_toldJourney (l : Launch) (dC : Nat → ClassId) (dI : Nat → Nat → Nat) (cyI cyO : ClassId) (ad : Nat → Nat) (sz : Nat) {fu : Nat} {μ : MS} {i1 : Int32} {i2 : Int32} {r : Int32} (hf : mX4_toldJourney fu μ i1 i2 = some r) : Met l yX4_toldJourney wsX4_toldJourney rmX4_toldJourney (PcF (dC, dI) [(cyI, .int), (cyO, .array .int)] (cM cyI cyO ad μ) sz [.ref (ad 0), .int i1, .int i2]) (QiF (dC, dI) [(cyI, .int), (cyO, .array .int)] (cM cyI cyO ad μ) (cM cyI cyO ad μ) sz r) 0 0 (va_A (cM cyI cyO ad μ) sz) := by
  refine Met.ofW (cc := cX4_toldJourney) (maxL := 6) (ret := (some .int)) (by decide) rfl ?_
  intro p e s m args below meth c s₁ B hml hv
  obtain ⟨rfl, hsz, hP, hK, hD0⟩ := hv
  have hx := B.exec
  have hb := B.bytes
  have hr := B.returns
  have hts := atoms_spec (ws := wsX4_toldJourney) B.pre
  have hown : s.vm.findClass RX4 = some m.cls := findClass_of_methodNamed B.named
  have hlocks := B.notSynchronized
  subst hsz
  have hA : ∀ q : Nat, s.heap.size ≤ q → va_A (cM cyI cyO ad μ) s.heap.size q := fun q h => Or.inr h
  have hB : Bd (dC, dI) [(cyI, .int), (cyO, .array .int)] (va_A (cM cyI cyO ad μ) s.heap.size) s (cM cyI cyO ad μ) s.heap [] := ⟨hP, hD0.self, va_S.rf⟩
  have hq1 : (Cond.fieldLink RX4 17 "UndoJourneysModel" "data" "[I").before _ s = true := hts _ (List.mem_of_getElem? (i := 1) rfl)
  have hinX4 : ∀ w ∈ wsX40, w ∈ wsX4_toldJourney := fun w h => List.mem_cons_of_mem _ (List.mem_append_right _ h)
  have hl := lv_entry [.ref (ad 0), .int i1, .int i2] (n := 6) (Nat.le_of_ble_eq_true rfl)
  rw [lg_entry_eq]
  generalize (lg_sl [.ref (ad 0), .int i1, .int i2] ++ List.replicate (6 - (lg_sl [.ref (ad 0), .int i1, .int i2]).length) Slot.unset).toArray = ls at hl ⊢
  have hl : lv_has ls 6 [(0, .ref (ad 0)), (1, .int i1), (2, .int i2)] := hl
  clear hP hD0
  suffices main : ∀ (H : Heap) (locs : List Loc), Bd (dC, dI) [(cyI, .int), (cyO, .array .int)] (va_A (cM cyI cyO ad μ) s.heap.size) s (cM cyI cyO ad μ) H locs → W p l e (headSpec wsX4_toldJourney rmX4_toldJourney).room s m ([.ref (ad 0), .int i1, .int i2] : List Value).toArray below meth c H locs 0 0 (MQ below (QiF (dC, dI) [(cyI, .int), (cyO, .array .int)] (cM cyI cyO ad μ) (cM cyI cyO ad μ) s.heap.size r) ([.ref (ad 0), .int i1, .int i2] : List Value).toArray s 0 0 (va_A (cM cyI cyO ad μ) s.heap.size)) (F0 m 0 ls []) from main _ _ hB
  clear hB
  intro H locs hB
  unfold mX4_toldJourney at hf
  refine lv_iload_n hx hb dX4_toldJourney_0 rfl (lv_at hl 2 rfl) ?_
  refine lv_bipush (v := (6 : Int32)) hx hb dX4_toldJourney_1 (by decide) ?_
  refine lv_icmp_ge (tgt := 13) hx hb dX4_toldJourney_3 (by decide) (fun c1 => ?_) (fun c1 => ?_)
  · have hf := ite_t c1 hf
    refine lv_iconst (v := (0 : Int32)) hx hb dX4_toldJourney_13 (by decide) ?_
    refine lv_istore_n (lv' := [(3, .int (0 : Int32)), (0, .ref (ad 0)), (1, .int i1), (2, .int i2)]) hx hb dX4_toldJourney_14 rfl hl (by decide) rfl (fun ls hl => ?_)
    refine lv_aload_n hx hb dX4_toldJourney_15 rfl (lv_at hl 1 rfl) ?_
    refine lv_iload_n hx hb dX4_toldJourney_16 rfl (lv_at hl 2 rfl) ?_
    refine lv_iconst (v := (0 : Int32)) hx hb dX4_toldJourney_17 (by decide) ?_
    obtain ⟨r2, hc, hf⟩ := ob1_s hf
    refine g_callVi (As := [.int i1, .int (0 : Int32)]) (rest := []) ⟨hx, hb, hml, hown, hts⟩ (kX4_ofJourney l dC dI cyI cyO ad H.size hc) (cwV 2 hts gX4_toldJourney_X4_ofJourney rfl rfl rfl (by decide +kernel) ⟨Nat.le_of_ble_eq_true rfl, Nat.le_of_ble_eq_true rfl⟩) hK hB hA (g_recv (ci := 4) hK hB 0 rfl rfl rfl) rfl hl.1 rfl (Nat.le_of_ble_eq_true rfl) dX4_toldJourney_18 ⟨Nat.zero_le _, Nat.zero_le _⟩ (fun H locs hB => ?_)
    refine lv_istore (lv' := [(4, .int r2), (3, .int (0 : Int32)), (0, .ref (ad 0)), (1, .int i1), (2, .int i2)]) hx hb dX4_toldJourney_21 hl (by decide) rfl (fun ls hl => ?_)
    refine lv_iconst (v := (0 : Int32)) hx hb dX4_toldJourney_23 (by decide) ?_
    refine lv_istore (lv' := [(5, .int (0 : Int32)), (4, .int r2), (3, .int (0 : Int32)), (0, .ref (ad 0)), (1, .int i1), (2, .int i2)]) hx hb dX4_toldJourney_24 hl (by decide) rfl (fun ls hl => ?_)
    obtain ⟨v21, hL24, hf⟩ := ob1_s hf
    have kE22 : ∀ (H : Heap) (locs : List Loc) (ls : Array Slot), Bd (dC, dI) [(cyI, .int), (cyO, .array .int)] (va_A (cM cyI cyO ad μ) s.heap.size) s (cM cyI cyO ad μ) H locs → lv_has ls 6 [(3, .int v21)] → W p l e (headSpec wsX4_toldJourney rmX4_toldJourney).room s m ([.ref (ad 0), .int i1, .int i2] : List Value).toArray below meth c H locs 0 0 (MQ below (QiF (dC, dI) [(cyI, .int), (cyO, .array .int)] (cM cyI cyO ad μ) (cM cyI cyO ad μ) s.heap.size r) ([.ref (ad 0), .int i1, .int i2] : List Value).toArray s 0 0 (va_A (cM cyI cyO ad μ) s.heap.size)) (F0 m 87 ls []) := by
      intro H locs ls hB hl
      refine lv_iload_n hx hb dX4_toldJourney_87 rfl (lv_at hl 0 rfl) ?_
      have e0 := inj1 hf
      subst e0
      exact g_iret hx hb hr hlocks hK hB dX4_toldJourney_88
    have key23 : ∀ (n9 : Nat) (v27 : Int32) (v28 : Int32) (H : Heap) (locs : List Loc) (ls : Array Slot), loopM (fun st => mX4_toldJourney_L26 fu r2 i1 μ st.1 st.2) n9 (v27, v28) = some v21 → Bd (dC, dI) [(cyI, .int), (cyO, .array .int)] (va_A (cM cyI cyO ad μ) s.heap.size) s (cM cyI cyO ad μ) H locs → lv_has ls 6 [(5, .int v27), (4, .int r2), (3, .int v28), (0, .ref (ad 0)), (1, .int i1)] → W p l e (headSpec wsX4_toldJourney rmX4_toldJourney).room s m ([.ref (ad 0), .int i1, .int i2] : List Value).toArray below meth c H locs 0 0 (MQ below (QiF (dC, dI) [(cyI, .int), (cyO, .array .int)] (cM cyI cyO ad μ) (cM cyI cyO ad μ) s.heap.size r) ([.ref (ad 0), .int i1, .int i2] : List Value).toArray s 0 0 (va_A (cM cyI cyO ad μ) s.heap.size)) (F0 m 26 ls []) := by
      intro n9
      induction n9 with
      | zero => intro v27 v28 H locs ls hL24; exact (loopM_z hL24).elim
      | succ n9 ih9 =>
        intro v27 v28 H locs ls hL24 hB hl
        obtain ⟨o29, hg25, hL24⟩ := loopM_s hL24
        have hg25 : mX4_toldJourney_L26 fu r2 i1 μ v27 v28 = some o29 := hg25
        unfold mX4_toldJourney_L26 at hg25
        refine lv_iload hx hb dX4_toldJourney_26 (lv_at hl 0 rfl) ?_
        refine lv_aload_n hx hb dX4_toldJourney_28 rfl (lv_at hl 3 rfl) ?_
        refine lv_iload_n hx hb dX4_toldJourney_29 rfl (lv_at hl 4 rfl) ?_
        refine lv_iconst (v := (3 : Int32)) hx hb dX4_toldJourney_30 (by decide) ?_
        obtain ⟨r30, hc, hg25⟩ := ob1_s hg25
        refine g_callVi (As := [.int i1, .int (3 : Int32)]) (rest := [.int v27]) ⟨hx, hb, hml, hown, hts⟩ (kX4_ofJourney l dC dI cyI cyO ad H.size hc) (cwV 2 hts gX4_toldJourney_X4_ofJourney rfl rfl rfl (by decide +kernel) ⟨Nat.le_of_ble_eq_true rfl, Nat.le_of_ble_eq_true rfl⟩) hK hB hA (g_recv (ci := 4) hK hB 0 rfl rfl rfl) rfl hl.1 rfl (Nat.le_of_ble_eq_true rfl) dX4_toldJourney_31 ⟨Nat.zero_le _, Nat.zero_le _⟩ (fun H locs hB => ?_)
        obtain ⟨t31, hD32, hg25⟩ := ob1_s hg25
        have kTt31 : t31 = true → ∀ (H : Heap) (locs : List Loc), Bd (dC, dI) [(cyI, .int), (cyO, .array .int)] (va_A (cM cyI cyO ad μ) s.heap.size) s (cM cyI cyO ad μ) H locs → W p l e (headSpec wsX4_toldJourney rmX4_toldJourney).room s m ([.ref (ad 0), .int i1, .int i2] : List Value).toArray below meth c H locs 0 0 (MQ below (QiF (dC, dI) [(cyI, .int), (cyO, .array .int)] (cM cyI cyO ad μ) (cM cyI cyO ad μ) s.heap.size r) ([.ref (ad 0), .int i1, .int i2] : List Value).toArray s 0 0 (va_A (cM cyI cyO ad μ) s.heap.size)) (F0 m 49 ls []) := by
          intro ht H locs hB
          have hg25 := cnd_t ht hg25
          refine lv_iload_n hx hb dX4_toldJourney_49 rfl (lv_at hl 2 rfl) ?_
          refine lv_aload_n hx hb dX4_toldJourney_50 rfl (lv_at hl 3 rfl) ?_
          refine lv_iload_n hx hb dX4_toldJourney_51 rfl (lv_at hl 4 rfl) ?_
          refine lv_iload hx hb dX4_toldJourney_52 (lv_at hl 0 rfl) ?_
          obtain ⟨r36, hc, hg25⟩ := ob1_s hg25
          refine g_callVi (As := [.int i1, .int v27]) (rest := [.int v28]) ⟨hx, hb, hml, hown, hts⟩ (kX4_stateOf l dC dI cyI cyO ad H.size hc) (cwV 2 hts gX4_toldJourney_X4_stateOf rfl rfl rfl (by decide +kernel) ⟨Nat.le_of_ble_eq_true rfl, Nat.le_of_ble_eq_true rfl⟩) hK hB hA (g_recv (ci := 4) hK hB 0 rfl rfl rfl) rfl hl.1 rfl (Nat.le_of_ble_eq_true rfl) dX4_toldJourney_54 ⟨Nat.zero_le _, Nat.zero_le _⟩ (fun H locs hB => ?_)
          refine lv_iconst (v := (3 : Int32)) hx hb dX4_toldJourney_57 (by decide) ?_
          obtain ⟨v37, hJ38, hg25⟩ := ob1_s hg25
          have kJ39 : ∀ (H : Heap) (locs : List Loc) (ls : Array Slot), Bd (dC, dI) [(cyI, .int), (cyO, .array .int)] (va_A (cM cyI cyO ad μ) s.heap.size) s (cM cyI cyO ad μ) H locs → lv_has ls 6 [(5, .int v27), (4, .int r2), (0, .ref (ad 0)), (1, .int i1)] → W p l e (headSpec wsX4_toldJourney rmX4_toldJourney).room s m ([.ref (ad 0), .int i1, .int i2] : List Value).toArray below meth c H locs 0 0 (MQ below (QiF (dC, dI) [(cyI, .int), (cyO, .array .int)] (cM cyI cyO ad μ) (cM cyI cyO ad μ) s.heap.size r) ([.ref (ad 0), .int i1, .int i2] : List Value).toArray s 0 0 (va_A (cM cyI cyO ad μ) s.heap.size)) (F0 m 79 ls [.int v37, .int v28]) := by
            intro H locs ls hB hl
            refine lv_iadd hx hb dX4_toldJourney_79 ?_
            refine lv_istore_n (lv' := [(3, .int (v28 + v37)), (5, .int v27), (4, .int r2), (0, .ref (ad 0)), (1, .int i1)]) hx hb dX4_toldJourney_80 rfl hl (by decide) rfl (fun ls hl => ?_)
            refine lv_iinc (v := (v27 + (1 : Int32))) (lv' := [(5, .int (v27 + (1 : Int32))), (3, .int (v28 + v37)), (4, .int r2), (0, .ref (ad 0)), (1, .int i1)]) hx hb dX4_toldJourney_81 hl (k := 1) rfl rfl (by decide) rfl (fun ls hl => ?_)
            refine lv_goto (tgt := 26) hx hb dX4_toldJourney_84 (by decide) ?_
            have hL24 := el1_r (inj1 hg25) hL24
            exact ih9 _ _ _ _ _ hL24 hB (lv_sub hl [0, 2, 1, 3, 4] rfl)
          refine lv_icmp_ne (tgt := 78) hx hb dX4_toldJourney_58 (by decide) (fun c40 => ?_) (fun c40 => ?_)
          · have hJ38 := ite_f c40 hJ38
            refine lv_iconst (v := (0 : Int32)) hx hb dX4_toldJourney_78 (by decide) ?_
            have e0 := inj1 hJ38
            subst e0
            exact kJ39 _ _ _ hB (lv_sub hl [0, 1, 3, 4] rfl)
          · have hJ38 := ite_t c40 hJ38
            refine lv_aload_n hx hb dX4_toldJourney_61 rfl (lv_at hl 3 rfl) ?_
            refine g_get (C := RX4) (T := TX4) (N := 15) hx hb hts hinX4 hown hK hB 0 rfl rfl 8 rfl hq1 rfl rfl dX4_toldJourney_62 ?_
            refine lv_aload_n hx hb dX4_toldJourney_65 rfl (lv_at hl 3 rfl) ?_
            refine lv_iload_n hx hb dX4_toldJourney_66 rfl (lv_at hl 4 rfl) ?_
            refine lv_iload hx hb dX4_toldJourney_67 (lv_at hl 0 rfl) ?_
            obtain ⟨r41, hc, hJ38⟩ := ob1_s hJ38
            refine g_callVi (As := [.int i1, .int v27]) (rest := [.ref (ad 8), .int v28]) ⟨hx, hb, hml, hown, hts⟩ (kX4_stepAt l dC dI cyI cyO ad H.size hc) (cwV 2 hts gX4_toldJourney_X4_stepAt rfl rfl rfl (by decide +kernel) ⟨Nat.le_of_ble_eq_true rfl, Nat.le_of_ble_eq_true rfl⟩) hK hB hA (g_recv (ci := 4) hK hB 0 rfl rfl rfl) rfl hl.1 rfl (Nat.le_of_ble_eq_true rfl) dX4_toldJourney_69 ⟨Nat.zero_le _, Nat.zero_le _⟩ (fun H locs hB => ?_)
            refine lv_iconst (v := (2 : Int32)) hx hb dX4_toldJourney_72 (by decide) ?_
            refine lv_iadd hx hb dX4_toldJourney_73 ?_
            obtain ⟨x42, e9, hJ38⟩ := ob1_s hJ38
            refine g_iald hx hb hK hB 2 0 rfl rfl (rd_s e9) dX4_toldJourney_74 ?_
            refine lv_goto (tgt := 79) hx hb dX4_toldJourney_75 (by decide) ?_
            have e0 := inj1 hJ38
            subst e0
            exact kJ39 _ _ _ hB (lv_sub hl [0, 1, 3, 4] rfl)
        have kFt31 : t31 = false → ∀ (H : Heap) (locs : List Loc), Bd (dC, dI) [(cyI, .int), (cyO, .array .int)] (va_A (cM cyI cyO ad μ) s.heap.size) s (cM cyI cyO ad μ) H locs → W p l e (headSpec wsX4_toldJourney rmX4_toldJourney).room s m ([.ref (ad 0), .int i1, .int i2] : List Value).toArray below meth c H locs 0 0 (MQ below (QiF (dC, dI) [(cyI, .int), (cyO, .array .int)] (cM cyI cyO ad μ) (cM cyI cyO ad μ) s.heap.size r) ([.ref (ad 0), .int i1, .int i2] : List Value).toArray s 0 0 (va_A (cM cyI cyO ad μ) s.heap.size)) (F0 m 87 ls []) := by
          intro ht H locs hB
          have hg25 := cnd_f ht hg25
          have hL24 := el1_l (inj1 hg25) hL24
          have e0 := inj1 hL24
          subst e0
          exact kE22 _ _ _ hB (lv_sub hl [2] rfl)
        refine lv_icmp_ge (tgt := 87) hx hb dX4_toldJourney_34 (by decide) (fun c33 => ?_) (fun c33 => ?_)
        · have hD32 := ite_t c33 hD32
          have e0 := inj1 hD32
          exact kFt31 e0.symm _ _ hB
        · have hD32 := ite_f c33 hD32
          refine lv_iload hx hb dX4_toldJourney_37 (lv_at hl 1 rfl) ?_
          refine lv_iconst (v := (2 : Int32)) hx hb dX4_toldJourney_39 (by decide) ?_
          refine lv_icmp_eq (tgt := 49) hx hb dX4_toldJourney_40 (by decide) (fun c34 => ?_) (fun c34 => ?_)
          · have hD32 := ite_t c34 hD32
            have e0 := inj1 hD32
            exact kTt31 e0.symm _ _ hB
          · have hD32 := ite_f c34 hD32
            refine lv_iload hx hb dX4_toldJourney_43 (lv_at hl 1 rfl) ?_
            refine lv_iconst (v := (5 : Int32)) hx hb dX4_toldJourney_45 (by decide) ?_
            refine lv_icmp_ne (tgt := 87) hx hb dX4_toldJourney_46 (by decide) (fun c35 => ?_) (fun c35 => ?_)
            · have hD32 := ite_f c35 hD32
              have e0 := inj1 hD32
              exact kFt31 e0.symm _ _ hB
            · have hD32 := ite_t c35 hD32
              have e0 := inj1 hD32
              exact kTt31 e0.symm _ _ hB
    exact key23 fu _ _ _ _ _ hL24 hB (lv_sub hl [0, 1, 2, 3, 4] rfl)
  · have hf := ite_f c1 hf
    refine lv_aload_n hx hb dX4_toldJourney_6 rfl (lv_at hl 0 rfl) ?_
    refine lv_iload_n hx hb dX4_toldJourney_7 rfl (lv_at hl 1 rfl) ?_
    refine lv_iload_n hx hb dX4_toldJourney_8 rfl (lv_at hl 2 rfl) ?_
    obtain ⟨r43, hc, hf⟩ := ob1_s hf
    refine g_callVi (As := [.int i1, .int i2]) (rest := []) ⟨hx, hb, hml, hown, hts⟩ (kX4_ofJourney l dC dI cyI cyO ad H.size hc) (cwV 2 hts gX4_toldJourney_X4_ofJourney rfl rfl rfl (by decide +kernel) ⟨Nat.le_of_ble_eq_true rfl, Nat.le_of_ble_eq_true rfl⟩) hK hB hA (g_recv (ci := 4) hK hB 0 rfl rfl rfl) rfl hl.1 rfl (Nat.le_of_ble_eq_true rfl) dX4_toldJourney_9 ⟨Nat.zero_le _, Nat.zero_le _⟩ (fun H locs hB => ?_)
    have e0 := inj1 hf
    subst e0
    exact g_iret hx hb hr hlocks hK hB dX4_toldJourney_12

abbrev rmX4_journey : Room := { frames := 5, cells := 0, slots := 0, locals := 111 }

set_option maxHeartbeats 4000000 in
set_option maxRecDepth 100000 in
theorem kX4_journey (l : Launch) (dC : Nat → ClassId) (dI : Nat → Nat → Nat) (cyI cyO : ClassId) (ad : Nat → Nat) (sz : Nat) {fu : Nat} {μ : MS} {i1 : Int32} {i2 : Int32} {r : Int32} {μ_ : MS} (hf : mX4_journey fu μ i1 i2 = some (r, μ_)) : Met l yX4_journey wsX4_journey rmX4_journey (PcF (dC, dI) [(cyI, .int), (cyO, .array .int)] (cM cyI cyO ad μ) sz [.ref (ad 0), .int i1, .int i2]) (QiF (dC, dI) [(cyI, .int), (cyO, .array .int)] (cM cyI cyO ad μ) (cM cyI cyO ad μ_) sz r) 0 0 (va_A (cM cyI cyO ad μ) sz) := by
  refine Met.ofW (cc := cX4_journey) (maxL := 3) (ret := (some .int)) (by decide) rfl ?_
  intro p e s m args below meth c s₁ B hml hv
  obtain ⟨rfl, hsz, hP, hK, hD0⟩ := hv
  have hx := B.exec
  have hb := B.bytes
  have hr := B.returns
  have hts := atoms_spec (ws := wsX4_journey) B.pre
  have hown : s.vm.findClass RX4 = some m.cls := findClass_of_methodNamed B.named
  have hlocks := B.notSynchronized
  subst hsz
  have hA : ∀ q : Nat, s.heap.size ≤ q → va_A (cM cyI cyO ad μ) s.heap.size q := fun q h => Or.inr h
  have hB : Bd (dC, dI) [(cyI, .int), (cyO, .array .int)] (va_A (cM cyI cyO ad μ) s.heap.size) s (cM cyI cyO ad μ) s.heap [] := ⟨hP, hD0.self, va_S.rf⟩
  have hq1 : (Cond.fieldLink RX4 35 "UndoJourneysModel" "thrown" "I").before _ s = true := hts _ (List.mem_of_getElem? (i := 1) rfl)
  have hinX4 : ∀ w ∈ wsX40, w ∈ wsX4_journey := fun w h => List.mem_cons_of_mem _ (List.mem_append_right _ h)
  have hl := lv_entry [.ref (ad 0), .int i1, .int i2] (n := 3) (Nat.le_of_ble_eq_true rfl)
  rw [lg_entry_eq]
  generalize (lg_sl [.ref (ad 0), .int i1, .int i2] ++ List.replicate (3 - (lg_sl [.ref (ad 0), .int i1, .int i2]).length) Slot.unset).toArray = ls at hl ⊢
  have hl : lv_has ls 3 [(0, .ref (ad 0)), (1, .int i1), (2, .int i2)] := hl
  clear hP hD0
  suffices main : ∀ (H : Heap) (locs : List Loc), Bd (dC, dI) [(cyI, .int), (cyO, .array .int)] (va_A (cM cyI cyO ad μ) s.heap.size) s (cM cyI cyO ad μ) H locs → W p l e (headSpec wsX4_journey rmX4_journey).room s m ([.ref (ad 0), .int i1, .int i2] : List Value).toArray below meth c H locs 0 0 (MQ below (QiF (dC, dI) [(cyI, .int), (cyO, .array .int)] (cM cyI cyO ad μ) (cM cyI cyO ad μ_) s.heap.size r) ([.ref (ad 0), .int i1, .int i2] : List Value).toArray s 0 0 (va_A (cM cyI cyO ad μ) s.heap.size)) (F0 m 0 ls []) from main _ _ hB
  clear hB
  intro H locs hB
  unfold mX4_journey at hf
  refine lv_aload_n hx hb dX4_journey_0 rfl (lv_at hl 0 rfl) ?_
  refine lv_iconst (v := (0 : Int32)) hx hb dX4_journey_1 (by decide) ?_
  obtain ⟨μ1, e9, hf⟩ := ob1_s hf
  have e9 := inj1 e9
  refine g_put (C := RX4) (T := TX4) (N := 15) hx hb hts hinX4 tyX4 tyX4_ok nmX4 hown hK hB 0 rfl rfl 0 rfl hq1 rfl rfl rfl rfl rfl rfl dX4_journey_2 (w2 := (cM cyI cyO ad μ1)) (by rw [← e9]; rfl) (fun H locs hB => ?_)
  refine lv_aload_n hx hb dX4_journey_5 rfl (lv_at hl 0 rfl) ?_
  refine lv_iload_n hx hb dX4_journey_6 rfl (lv_at hl 1 rfl) ?_
  obtain ⟨r2, μ3, hc, hf⟩ := ob2_s hf
  refine g_callVz (As := [.int i1]) (rest := []) ⟨hx, hb, hml, hown, hts⟩ (kX4_noJourney l dC dI cyI cyO ad H.size hc) (cwV 1 hts gX4_journey_X4_noJourney rfl rfl rfl (by decide +kernel) ⟨Nat.le_of_ble_eq_true rfl, Nat.le_of_ble_eq_true rfl⟩) hK hB hA (g_recv (ci := 4) hK hB 0 rfl rfl rfl) rfl hl.1 rfl (Nat.le_of_ble_eq_true rfl) dX4_journey_7 ⟨Nat.zero_le _, Nat.zero_le _⟩ (fun z4 H locs hB => ?_)
  obtain ⟨v5, μ6, hJ7, hf⟩ := ob2_s hf
  have kJ8 : ∀ (H : Heap) (locs : List Loc) (ls : Array Slot), Bd (dC, dI) [(cyI, .int), (cyO, .array .int)] (va_A (cM cyI cyO ad μ) s.heap.size) s (cM cyI cyO ad μ6) H locs → lv_has ls 3 [] → W p l e (headSpec wsX4_journey rmX4_journey).room s m ([.ref (ad 0), .int i1, .int i2] : List Value).toArray below meth c H locs 0 0 (MQ below (QiF (dC, dI) [(cyI, .int), (cyO, .array .int)] (cM cyI cyO ad μ) (cM cyI cyO ad μ_) s.heap.size r) ([.ref (ad 0), .int i1, .int i2] : List Value).toArray s 0 0 (va_A (cM cyI cyO ad μ) s.heap.size)) (F0 m 46 ls [.int v5]) := by
    intro H locs ls hB hl
    obtain ⟨e0, e1⟩ := inj2 hf
    subst e0
    subst e1
    exact g_iret hx hb hr hlocks hK hB dX4_journey_46
  refine lv_if_ne (tgt := 36) hx hb dX4_journey_10 (by decide) (fun c9 => ?_) (fun c9 => ?_)
  · have hJ7 := ite_f c9 hJ7
    refine lv_iconst (v := (0 : Int32)) hx hb dX4_journey_36 (by decide) ?_
    refine lv_goto (tgt := 46) hx hb dX4_journey_37 (by decide) ?_
    obtain ⟨e0, e1⟩ := inj2 hJ7
    subst e0
    subst e1
    exact kJ8 _ _ _ hB (lv_sub hl [] rfl)
  · have hJ7 := ite_t c9 hJ7
    refine lv_aload_n hx hb dX4_journey_13 rfl (lv_at hl 0 rfl) ?_
    refine lv_iload_n hx hb dX4_journey_14 rfl (lv_at hl 2 rfl) ?_
    refine lv_iconst (v := (0 : Int32)) hx hb dX4_journey_15 (by decide) ?_
    refine lv_bipush (v := (6 : Int32)) hx hb dX4_journey_16 (by decide) ?_
    obtain ⟨r10, hc, hJ7⟩ := ob1_s hJ7
    refine g_pcutSz (As := [.int i2, .int (0 : Int32), .int (6 : Int32)]) (rest := [.ref (ad 0)]) (w2 := (cM cyI cyO ad μ3)) ⟨hx, hb, hml, hown, hts⟩ (kX4_in l dC dI [(cyI, .int), (cyO, .array .int)] H.size hc) (va_cwS 3 hts gX4_journey_X4_in rfl rfl rfl (by decide +kernel) ⟨Nat.le_of_ble_eq_true rfl, Nat.le_of_ble_eq_true rfl⟩) hK hB hA (List.Perm.refl _) (List.Perm.refl _) rfl hl.1 rfl (Nat.le_of_ble_eq_true rfl) dX4_journey_18 ⟨Nat.zero_le _, Nat.zero_le _⟩ (fun z11 H locs hB => ?_)
    obtain ⟨v12, hJ14, hJ7⟩ := ob1_s hJ7
    have kJ15 : (v12 = 0 ∨ v12 = 1) → ∀ (H : Heap) (locs : List Loc) (ls : Array Slot), Bd (dC, dI) [(cyI, .int), (cyO, .array .int)] (va_A (cM cyI cyO ad μ) s.heap.size) s (cM cyI cyO ad μ3) H locs → lv_has ls 3 [(0, .ref (ad 0)), (1, .int i1), (2, .int i2)] → W p l e (headSpec wsX4_journey rmX4_journey).room s m ([.ref (ad 0), .int i1, .int i2] : List Value).toArray below meth c H locs 0 0 (MQ below (QiF (dC, dI) [(cyI, .int), (cyO, .array .int)] (cM cyI cyO ad μ) (cM cyI cyO ad μ_) s.heap.size r) ([.ref (ad 0), .int i1, .int i2] : List Value).toArray s 0 0 (va_A (cM cyI cyO ad μ) s.heap.size)) (F0 m 29 ls [.int v12, .ref (ad 0)]) := by
      intro z13 H locs ls hB hl
      refine lv_iconst (v := (2 : Int32)) hx hb dX4_journey_29 (by decide) ?_
      obtain ⟨r17, μ18, hc, hJ7⟩ := ob2_s hJ7
      refine g_callVz (As := [.int v12, .int (2 : Int32)]) (rest := []) ⟨hx, hb, hml, hown, hts⟩ (kX4_fails l dC dI cyI cyO ad H.size hc) (cwV 2 hts gX4_journey_X4_fails rfl rfl rfl (by decide +kernel) ⟨Nat.le_of_ble_eq_true rfl, Nat.le_of_ble_eq_true rfl⟩) hK hB hA (g_recv (ci := 4) hK hB 0 rfl rfl rfl) rfl hl.1 rfl (Nat.le_of_ble_eq_true rfl) dX4_journey_30 ⟨Nat.zero_le _, Nat.zero_le _⟩ (fun z19 H locs hB => ?_)
      refine lv_if_eq (tgt := 40) hx hb dX4_journey_33 (by decide) (fun c20 => ?_) (fun c20 => ?_)
      · have hJ7 := ite_t c20 hJ7
        refine lv_aload_n hx hb dX4_journey_40 rfl (lv_at hl 0 rfl) ?_
        refine lv_iload_n hx hb dX4_journey_41 rfl (lv_at hl 1 rfl) ?_
        refine lv_iload_n hx hb dX4_journey_42 rfl (lv_at hl 2 rfl) ?_
        obtain ⟨r21, hc, hJ7⟩ := ob1_s hJ7
        refine g_callVi (As := [.int i1, .int i2]) (rest := []) ⟨hx, hb, hml, hown, hts⟩ (kX4_toldJourney l dC dI cyI cyO ad H.size hc) (cwV 2 hts gX4_journey_X4_toldJourney rfl rfl rfl (by decide +kernel) ⟨Nat.le_of_ble_eq_true rfl, Nat.le_of_ble_eq_true rfl⟩) hK hB hA (g_recv (ci := 4) hK hB 0 rfl rfl rfl) rfl hl.1 rfl (Nat.le_of_ble_eq_true rfl) dX4_journey_43 ⟨Nat.zero_le _, Nat.zero_le _⟩ (fun H locs hB => ?_)
        obtain ⟨e0, e1⟩ := inj2 hJ7
        subst e0
        subst e1
        exact kJ8 _ _ _ hB (lv_sub hl [] rfl)
      · have hJ7 := ite_f c20 hJ7
        refine lv_iconst (v := (0 : Int32)) hx hb dX4_journey_36 (by decide) ?_
        refine lv_goto (tgt := 46) hx hb dX4_journey_37 (by decide) ?_
        obtain ⟨e0, e1⟩ := inj2 hJ7
        subst e0
        subst e1
        exact kJ8 _ _ _ hB (lv_sub hl [] rfl)
    refine lv_if_ne (tgt := 28) hx hb dX4_journey_21 (by decide) (fun c16 => ?_) (fun c16 => ?_)
    · have hJ14 := ite_f c16 hJ14
      refine lv_iconst (v := (0 : Int32)) hx hb dX4_journey_28 (by decide) ?_
      have e0 := inj1 hJ14
      subst e0
      exact kJ15 (Or.inl rfl) _ _ _ hB (lv_sub hl [0, 1, 2] rfl)
    · have hJ14 := ite_t c16 hJ14
      refine lv_iconst (v := (1 : Int32)) hx hb dX4_journey_24 (by decide) ?_
      refine lv_goto (tgt := 29) hx hb dX4_journey_25 (by decide) ?_
      have e0 := inj1 hJ14
      subst e0
      exact kJ15 (Or.inr rfl) _ _ _ hB (lv_sub hl [0, 1, 2] rfl)

abbrev rmX4_step : Room := { frames := 3, cells := 0, slots := 0, locals := 64 }

set_option maxHeartbeats 4000000 in
set_option maxRecDepth 100000 in
theorem kX4_step (l : Launch) (dC : Nat → ClassId) (dI : Nat → Nat → Nat) (cyI cyO : ClassId) (ad : Nat → Nat) (sz : Nat) {fu : Nat} {μ : MS} {i1 : Int32} {i2 : Int32} {i3 : Int32} {r : Int32} {μ_ : MS} (hf : mX4_step fu μ i1 i2 i3 = some (r, μ_)) : Met l yX4_step wsX4_step rmX4_step (PcF (dC, dI) [(cyI, .int), (cyO, .array .int)] (cM cyI cyO ad μ) sz [.ref (ad 0), .int i1, .int i2, .int i3]) (QiF (dC, dI) [(cyI, .int), (cyO, .array .int)] (cM cyI cyO ad μ) (cM cyI cyO ad μ_) sz r) 0 0 (va_A (cM cyI cyO ad μ) sz) := by
  refine Met.ofW (cc := cX4_step) (maxL := 4) (ret := (some .int)) (by decide) rfl ?_
  intro p e s m args below meth c s₁ B hml hv
  obtain ⟨rfl, hsz, hP, hK, hD0⟩ := hv
  have hx := B.exec
  have hb := B.bytes
  have hr := B.returns
  have hts := atoms_spec (ws := wsX4_step) B.pre
  have hown : s.vm.findClass RX4 = some m.cls := findClass_of_methodNamed B.named
  have hlocks := B.notSynchronized
  subst hsz
  have hA : ∀ q : Nat, s.heap.size ≤ q → va_A (cM cyI cyO ad μ) s.heap.size q := fun q h => Or.inr h
  have hB : Bd (dC, dI) [(cyI, .int), (cyO, .array .int)] (va_A (cM cyI cyO ad μ) s.heap.size) s (cM cyI cyO ad μ) s.heap [] := ⟨hP, hD0.self, va_S.rf⟩
  have hq1 : (Cond.fieldLink RX4 35 "UndoJourneysModel" "thrown" "I").before _ s = true := hts _ (List.mem_of_getElem? (i := 1) rfl)
  have hq2 : (Cond.fieldLink RX4 17 "UndoJourneysModel" "data" "[I").before _ s = true := hts _ (List.mem_of_getElem? (i := 2) rfl)
  have hinX4 : ∀ w ∈ wsX40, w ∈ wsX4_step := fun w h => List.mem_cons_of_mem _ (List.mem_append_right _ h)
  have hl := lv_entry [.ref (ad 0), .int i1, .int i2, .int i3] (n := 4) (Nat.le_of_ble_eq_true rfl)
  rw [lg_entry_eq]
  generalize (lg_sl [.ref (ad 0), .int i1, .int i2, .int i3] ++ List.replicate (4 - (lg_sl [.ref (ad 0), .int i1, .int i2, .int i3]).length) Slot.unset).toArray = ls at hl ⊢
  have hl : lv_has ls 4 [(0, .ref (ad 0)), (1, .int i1), (2, .int i2), (3, .int i3)] := hl
  clear hP hD0
  suffices main : ∀ (H : Heap) (locs : List Loc), Bd (dC, dI) [(cyI, .int), (cyO, .array .int)] (va_A (cM cyI cyO ad μ) s.heap.size) s (cM cyI cyO ad μ) H locs → W p l e (headSpec wsX4_step rmX4_step).room s m ([.ref (ad 0), .int i1, .int i2, .int i3] : List Value).toArray below meth c H locs 0 0 (MQ below (QiF (dC, dI) [(cyI, .int), (cyO, .array .int)] (cM cyI cyO ad μ) (cM cyI cyO ad μ_) s.heap.size r) ([.ref (ad 0), .int i1, .int i2, .int i3] : List Value).toArray s 0 0 (va_A (cM cyI cyO ad μ) s.heap.size)) (F0 m 0 ls []) from main _ _ hB
  clear hB
  intro H locs hB
  unfold mX4_step at hf
  refine lv_aload_n hx hb dX4_step_0 rfl (lv_at hl 0 rfl) ?_
  refine lv_iconst (v := (0 : Int32)) hx hb dX4_step_1 (by decide) ?_
  obtain ⟨μ1, e9, hf⟩ := ob1_s hf
  have e9 := inj1 e9
  refine g_put (C := RX4) (T := TX4) (N := 15) hx hb hts hinX4 tyX4 tyX4_ok nmX4 hown hK hB 0 rfl rfl 0 rfl hq1 rfl rfl rfl rfl rfl rfl dX4_step_2 (w2 := (cM cyI cyO ad μ1)) (by rw [← e9]; rfl) (fun H locs hB => ?_)
  refine lv_aload_n hx hb dX4_step_5 rfl (lv_at hl 0 rfl) ?_
  refine lv_iload_n hx hb dX4_step_6 rfl (lv_at hl 1 rfl) ?_
  obtain ⟨r2, μ3, hc, hf⟩ := ob2_s hf
  refine g_callVz (As := [.int i1]) (rest := []) ⟨hx, hb, hml, hown, hts⟩ (kX4_noJourney l dC dI cyI cyO ad H.size hc) (cwV 1 hts gX4_step_X4_noJourney rfl rfl rfl (by decide +kernel) ⟨Nat.le_of_ble_eq_true rfl, Nat.le_of_ble_eq_true rfl⟩) hK hB hA (g_recv (ci := 4) hK hB 0 rfl rfl rfl) rfl hl.1 rfl (Nat.le_of_ble_eq_true rfl) dX4_step_7 ⟨Nat.zero_le _, Nat.zero_le _⟩ (fun z4 H locs hB => ?_)
  refine lv_if_ne (tgt := 65) hx hb dX4_step_10 (by decide) (fun c5 => ?_) (fun c5 => ?_)
  · have hf := ite_f c5 hf
    refine lv_iconst (v := (0 : Int32)) hx hb dX4_step_65 (by decide) ?_
    obtain ⟨e0, e1⟩ := inj2 hf
    subst e0
    subst e1
    exact g_iret hx hb hr hlocks hK hB dX4_step_66
  · have hf := ite_t c5 hf
    refine lv_aload_n hx hb dX4_step_13 rfl (lv_at hl 0 rfl) ?_
    refine lv_iload_n hx hb dX4_step_14 rfl (lv_at hl 2 rfl) ?_
    refine lv_iconst (v := (0 : Int32)) hx hb dX4_step_15 (by decide) ?_
    refine lv_aload_n hx hb dX4_step_16 rfl (lv_at hl 0 rfl) ?_
    refine lv_iload_n hx hb dX4_step_17 rfl (lv_at hl 1 rfl) ?_
    refine lv_iconst (v := (3 : Int32)) hx hb dX4_step_18 (by decide) ?_
    obtain ⟨r6, hc, hf⟩ := ob1_s hf
    refine g_callVi (As := [.int i1, .int (3 : Int32)]) (rest := [.int (0 : Int32), .int i2, .ref (ad 0)]) ⟨hx, hb, hml, hown, hts⟩ (kX4_ofJourney l dC dI cyI cyO ad H.size hc) (cwV 2 hts gX4_step_X4_ofJourney rfl rfl rfl (by decide +kernel) ⟨Nat.le_of_ble_eq_true rfl, Nat.le_of_ble_eq_true rfl⟩) hK hB hA (g_recv (ci := 4) hK hB 0 rfl rfl rfl) rfl hl.1 rfl (Nat.le_of_ble_eq_true rfl) dX4_step_19 ⟨Nat.zero_le _, Nat.zero_le _⟩ (fun H locs hB => ?_)
    refine lv_iconst (v := (1 : Int32)) hx hb dX4_step_22 (by decide) ?_
    refine lv_isub hx hb dX4_step_23 ?_
    obtain ⟨r7, hc, hf⟩ := ob1_s hf
    refine g_pcutSz (As := [.int i2, .int (0 : Int32), .int (r6 - (1 : Int32))]) (rest := [.ref (ad 0)]) (w2 := (cM cyI cyO ad μ3)) ⟨hx, hb, hml, hown, hts⟩ (kX4_in l dC dI [(cyI, .int), (cyO, .array .int)] H.size hc) (va_cwS 3 hts gX4_step_X4_in rfl rfl rfl (by decide +kernel) ⟨Nat.le_of_ble_eq_true rfl, Nat.le_of_ble_eq_true rfl⟩) hK hB hA (List.Perm.refl _) (List.Perm.refl _) rfl hl.1 rfl (Nat.le_of_ble_eq_true rfl) dX4_step_24 ⟨Nat.zero_le _, Nat.zero_le _⟩ (fun z8 H locs hB => ?_)
    obtain ⟨v9, hJ11, hf⟩ := ob1_s hf
    have kJ12 : (v9 = 0 ∨ v9 = 1) → ∀ (H : Heap) (locs : List Loc) (ls : Array Slot), Bd (dC, dI) [(cyI, .int), (cyO, .array .int)] (va_A (cM cyI cyO ad μ) s.heap.size) s (cM cyI cyO ad μ3) H locs → lv_has ls 4 [(0, .ref (ad 0)), (1, .int i1), (2, .int i2), (3, .int i3)] → W p l e (headSpec wsX4_step rmX4_step).room s m ([.ref (ad 0), .int i1, .int i2, .int i3] : List Value).toArray below meth c H locs 0 0 (MQ below (QiF (dC, dI) [(cyI, .int), (cyO, .array .int)] (cM cyI cyO ad μ) (cM cyI cyO ad μ_) s.heap.size r) ([.ref (ad 0), .int i1, .int i2, .int i3] : List Value).toArray s 0 0 (va_A (cM cyI cyO ad μ) s.heap.size)) (F0 m 35 ls [.int v9, .ref (ad 0)]) := by
      intro z10 H locs ls hB hl
      refine lv_iconst (v := (2 : Int32)) hx hb dX4_step_35 (by decide) ?_
      obtain ⟨r14, μ15, hc, hf⟩ := ob2_s hf
      refine g_callVz (As := [.int v9, .int (2 : Int32)]) (rest := []) ⟨hx, hb, hml, hown, hts⟩ (kX4_fails l dC dI cyI cyO ad H.size hc) (cwV 2 hts gX4_step_X4_fails rfl rfl rfl (by decide +kernel) ⟨Nat.le_of_ble_eq_true rfl, Nat.le_of_ble_eq_true rfl⟩) hK hB hA (g_recv (ci := 4) hK hB 0 rfl rfl rfl) rfl hl.1 rfl (Nat.le_of_ble_eq_true rfl) dX4_step_36 ⟨Nat.zero_le _, Nat.zero_le _⟩ (fun z16 H locs hB => ?_)
      refine lv_if_ne (tgt := 65) hx hb dX4_step_39 (by decide) (fun c17 => ?_) (fun c17 => ?_)
      · have hf := ite_f c17 hf
        refine lv_iconst (v := (0 : Int32)) hx hb dX4_step_65 (by decide) ?_
        obtain ⟨e0, e1⟩ := inj2 hf
        subst e0
        subst e1
        exact g_iret hx hb hr hlocks hK hB dX4_step_66
      · have hf := ite_t c17 hf
        refine lv_aload_n hx hb dX4_step_42 rfl (lv_at hl 0 rfl) ?_
        refine lv_iload_n hx hb dX4_step_43 rfl (lv_at hl 3 rfl) ?_
        refine lv_iconst (v := (0 : Int32)) hx hb dX4_step_44 (by decide) ?_
        refine lv_bipush (v := (6 : Int32)) hx hb dX4_step_45 (by decide) ?_
        obtain ⟨r18, hc, hf⟩ := ob1_s hf
        refine g_pcutSz (As := [.int i3, .int (0 : Int32), .int (6 : Int32)]) (rest := [.ref (ad 0)]) (w2 := (cM cyI cyO ad μ15)) ⟨hx, hb, hml, hown, hts⟩ (kX4_in l dC dI [(cyI, .int), (cyO, .array .int)] H.size hc) (va_cwS 3 hts gX4_step_X4_in rfl rfl rfl (by decide +kernel) ⟨Nat.le_of_ble_eq_true rfl, Nat.le_of_ble_eq_true rfl⟩) hK hB hA (List.Perm.refl _) (List.Perm.refl _) rfl hl.1 rfl (Nat.le_of_ble_eq_true rfl) dX4_step_47 ⟨Nat.zero_le _, Nat.zero_le _⟩ (fun z19 H locs hB => ?_)
        obtain ⟨v20, hJ22, hf⟩ := ob1_s hf
        have kJ23 : (v20 = 0 ∨ v20 = 1) → ∀ (H : Heap) (locs : List Loc) (ls : Array Slot), Bd (dC, dI) [(cyI, .int), (cyO, .array .int)] (va_A (cM cyI cyO ad μ) s.heap.size) s (cM cyI cyO ad μ15) H locs → lv_has ls 4 [(0, .ref (ad 0)), (1, .int i1), (2, .int i2), (3, .int i3)] → W p l e (headSpec wsX4_step rmX4_step).room s m ([.ref (ad 0), .int i1, .int i2, .int i3] : List Value).toArray below meth c H locs 0 0 (MQ below (QiF (dC, dI) [(cyI, .int), (cyO, .array .int)] (cM cyI cyO ad μ) (cM cyI cyO ad μ_) s.heap.size r) ([.ref (ad 0), .int i1, .int i2, .int i3] : List Value).toArray s 0 0 (va_A (cM cyI cyO ad μ) s.heap.size)) (F0 m 58 ls [.int v20, .ref (ad 0)]) := by
          intro z21 H locs ls hB hl
          refine lv_iconst (v := (3 : Int32)) hx hb dX4_step_58 (by decide) ?_
          obtain ⟨r25, μ26, hc, hf⟩ := ob2_s hf
          refine g_callVz (As := [.int v20, .int (3 : Int32)]) (rest := []) ⟨hx, hb, hml, hown, hts⟩ (kX4_fails l dC dI cyI cyO ad H.size hc) (cwV 2 hts gX4_step_X4_fails rfl rfl rfl (by decide +kernel) ⟨Nat.le_of_ble_eq_true rfl, Nat.le_of_ble_eq_true rfl⟩) hK hB hA (g_recv (ci := 4) hK hB 0 rfl rfl rfl) rfl hl.1 rfl (Nat.le_of_ble_eq_true rfl) dX4_step_59 ⟨Nat.zero_le _, Nat.zero_le _⟩ (fun z27 H locs hB => ?_)
          refine lv_if_eq (tgt := 67) hx hb dX4_step_62 (by decide) (fun c28 => ?_) (fun c28 => ?_)
          · have hf := ite_t c28 hf
            refine lv_aload_n hx hb dX4_step_67 rfl (lv_at hl 0 rfl) ?_
            refine g_get (C := RX4) (T := TX4) (N := 15) hx hb hts hinX4 hown hK hB 0 rfl rfl 8 rfl hq2 rfl rfl dX4_step_68 ?_
            refine lv_aload_n hx hb dX4_step_71 rfl (lv_at hl 0 rfl) ?_
            refine lv_iload_n hx hb dX4_step_72 rfl (lv_at hl 1 rfl) ?_
            refine lv_iload_n hx hb dX4_step_73 rfl (lv_at hl 2 rfl) ?_
            obtain ⟨r29, hc, hf⟩ := ob1_s hf
            refine g_callVi (As := [.int i1, .int i2]) (rest := [.ref (ad 8)]) ⟨hx, hb, hml, hown, hts⟩ (kX4_stepAt l dC dI cyI cyO ad H.size hc) (cwV 2 hts gX4_step_X4_stepAt rfl rfl rfl (by decide +kernel) ⟨Nat.le_of_ble_eq_true rfl, Nat.le_of_ble_eq_true rfl⟩) hK hB hA (g_recv (ci := 4) hK hB 0 rfl rfl rfl) rfl hl.1 rfl (Nat.le_of_ble_eq_true rfl) dX4_step_74 ⟨Nat.zero_le _, Nat.zero_le _⟩ (fun H locs hB => ?_)
            refine lv_iload_n hx hb dX4_step_77 rfl (lv_at hl 3 rfl) ?_
            refine lv_iadd hx hb dX4_step_78 ?_
            obtain ⟨x30, e9, hf⟩ := ob1_s hf
            refine g_iald hx hb hK hB 2 0 rfl rfl (rd_s e9) dX4_step_79 ?_
            obtain ⟨e0, e1⟩ := inj2 hf
            subst e0
            subst e1
            exact g_iret hx hb hr hlocks hK hB dX4_step_80
          · have hf := ite_f c28 hf
            refine lv_iconst (v := (0 : Int32)) hx hb dX4_step_65 (by decide) ?_
            obtain ⟨e0, e1⟩ := inj2 hf
            subst e0
            subst e1
            exact g_iret hx hb hr hlocks hK hB dX4_step_66
        refine lv_if_ne (tgt := 57) hx hb dX4_step_50 (by decide) (fun c24 => ?_) (fun c24 => ?_)
        · have hJ22 := ite_f c24 hJ22
          refine lv_iconst (v := (0 : Int32)) hx hb dX4_step_57 (by decide) ?_
          have e0 := inj1 hJ22
          subst e0
          exact kJ23 (Or.inl rfl) _ _ _ hB (lv_sub hl [0, 1, 2, 3] rfl)
        · have hJ22 := ite_t c24 hJ22
          refine lv_iconst (v := (1 : Int32)) hx hb dX4_step_53 (by decide) ?_
          refine lv_goto (tgt := 58) hx hb dX4_step_54 (by decide) ?_
          have e0 := inj1 hJ22
          subst e0
          exact kJ23 (Or.inr rfl) _ _ _ hB (lv_sub hl [0, 1, 2, 3] rfl)
    refine lv_if_ne (tgt := 34) hx hb dX4_step_27 (by decide) (fun c13 => ?_) (fun c13 => ?_)
    · have hJ11 := ite_f c13 hJ11
      refine lv_iconst (v := (0 : Int32)) hx hb dX4_step_34 (by decide) ?_
      have e0 := inj1 hJ11
      subst e0
      exact kJ12 (Or.inl rfl) _ _ _ hB (lv_sub hl [0, 1, 2, 3] rfl)
    · have hJ11 := ite_t c13 hJ11
      refine lv_iconst (v := (1 : Int32)) hx hb dX4_step_30 (by decide) ?_
      refine lv_goto (tgt := 35) hx hb dX4_step_31 (by decide) ?_
      have e0 := inj1 hJ11
      subst e0
      exact kJ12 (Or.inr rfl) _ _ _ hB (lv_sub hl [0, 1, 2, 3] rfl)

abbrev rmX4_owed : Room := { frames := 4, cells := 0, slots := 0, locals := 86 }

set_option maxHeartbeats 4000000 in
set_option maxRecDepth 100000 in
theorem kX4_owed (l : Launch) (dC : Nat → ClassId) (dI : Nat → Nat → Nat) (cyI cyO : ClassId) (ad : Nat → Nat) (sz : Nat) {fu : Nat} {μ : MS} {i1 : Int32} {i2 : Int32} {r : Int32} {μ_ : MS} (hf : mX4_owed fu μ i1 i2 = some (r, μ_)) : Met l yX4_owed wsX4_owed rmX4_owed (PcF (dC, dI) [(cyI, .int), (cyO, .array .int)] (cM cyI cyO ad μ) sz [.ref (ad 0), .int i1, .int i2]) (QiF (dC, dI) [(cyI, .int), (cyO, .array .int)] (cM cyI cyO ad μ) (cM cyI cyO ad μ_) sz r) 0 0 (va_A (cM cyI cyO ad μ) sz) := by
  refine Met.ofW (cc := cX4_owed) (maxL := 5) (ret := (some .int)) (by decide) rfl ?_
  intro p e s m args below meth c s₁ B hml hv
  obtain ⟨rfl, hsz, hP, hK, hD0⟩ := hv
  have hx := B.exec
  have hb := B.bytes
  have hr := B.returns
  have hts := atoms_spec (ws := wsX4_owed) B.pre
  have hown : s.vm.findClass RX4 = some m.cls := findClass_of_methodNamed B.named
  have hlocks := B.notSynchronized
  subst hsz
  have hA : ∀ q : Nat, s.heap.size ≤ q → va_A (cM cyI cyO ad μ) s.heap.size q := fun q h => Or.inr h
  have hB : Bd (dC, dI) [(cyI, .int), (cyO, .array .int)] (va_A (cM cyI cyO ad μ) s.heap.size) s (cM cyI cyO ad μ) s.heap [] := ⟨hP, hD0.self, va_S.rf⟩
  have hq1 : (Cond.fieldLink RX4 35 "UndoJourneysModel" "thrown" "I").before _ s = true := hts _ (List.mem_of_getElem? (i := 1) rfl)
  have hinX4 : ∀ w ∈ wsX40, w ∈ wsX4_owed := fun w h => List.mem_cons_of_mem _ (List.mem_append_right _ h)
  have hl := lv_entry [.ref (ad 0), .int i1, .int i2] (n := 5) (Nat.le_of_ble_eq_true rfl)
  rw [lg_entry_eq]
  generalize (lg_sl [.ref (ad 0), .int i1, .int i2] ++ List.replicate (5 - (lg_sl [.ref (ad 0), .int i1, .int i2]).length) Slot.unset).toArray = ls at hl ⊢
  have hl : lv_has ls 5 [(0, .ref (ad 0)), (1, .int i1), (2, .int i2)] := hl
  clear hP hD0
  suffices main : ∀ (H : Heap) (locs : List Loc), Bd (dC, dI) [(cyI, .int), (cyO, .array .int)] (va_A (cM cyI cyO ad μ) s.heap.size) s (cM cyI cyO ad μ) H locs → W p l e (headSpec wsX4_owed rmX4_owed).room s m ([.ref (ad 0), .int i1, .int i2] : List Value).toArray below meth c H locs 0 0 (MQ below (QiF (dC, dI) [(cyI, .int), (cyO, .array .int)] (cM cyI cyO ad μ) (cM cyI cyO ad μ_) s.heap.size r) ([.ref (ad 0), .int i1, .int i2] : List Value).toArray s 0 0 (va_A (cM cyI cyO ad μ) s.heap.size)) (F0 m 0 ls []) from main _ _ hB
  clear hB
  intro H locs hB
  unfold mX4_owed at hf
  refine lv_aload_n hx hb dX4_owed_0 rfl (lv_at hl 0 rfl) ?_
  refine lv_iconst (v := (0 : Int32)) hx hb dX4_owed_1 (by decide) ?_
  obtain ⟨μ1, e9, hf⟩ := ob1_s hf
  have e9 := inj1 e9
  refine g_put (C := RX4) (T := TX4) (N := 15) hx hb hts hinX4 tyX4 tyX4_ok nmX4 hown hK hB 0 rfl rfl 0 rfl hq1 rfl rfl rfl rfl rfl rfl dX4_owed_2 (w2 := (cM cyI cyO ad μ1)) (by rw [← e9]; rfl) (fun H locs hB => ?_)
  refine lv_aload_n hx hb dX4_owed_5 rfl (lv_at hl 0 rfl) ?_
  refine lv_iload_n hx hb dX4_owed_6 rfl (lv_at hl 1 rfl) ?_
  obtain ⟨r2, μ3, hc, hf⟩ := ob2_s hf
  refine g_callVz (As := [.int i1]) (rest := []) ⟨hx, hb, hml, hown, hts⟩ (kX4_noJourney l dC dI cyI cyO ad H.size hc) (cwV 1 hts gX4_owed_X4_noJourney rfl rfl rfl (by decide +kernel) ⟨Nat.le_of_ble_eq_true rfl, Nat.le_of_ble_eq_true rfl⟩) hK hB hA (g_recv (ci := 4) hK hB 0 rfl rfl rfl) rfl hl.1 rfl (Nat.le_of_ble_eq_true rfl) dX4_owed_7 ⟨Nat.zero_le _, Nat.zero_le _⟩ (fun z4 H locs hB => ?_)
  refine lv_if_eq (tgt := 15) hx hb dX4_owed_10 (by decide) (fun c5 => ?_) (fun c5 => ?_)
  · have hf := ite_t c5 hf
    refine lv_iload_n hx hb dX4_owed_15 rfl (lv_at hl 2 rfl) ?_
    refine lv_istore_n (lv' := [(3, .int i2), (0, .ref (ad 0)), (1, .int i1), (2, .int i2)]) hx hb dX4_owed_16 rfl hl (by decide) rfl (fun ls hl => ?_)
    refine lv_aload_n hx hb dX4_owed_17 rfl (lv_at hl 1 rfl) ?_
    refine lv_iload_n hx hb dX4_owed_18 rfl (lv_at hl 2 rfl) ?_
    refine lv_iconst (v := (3 : Int32)) hx hb dX4_owed_19 (by decide) ?_
    obtain ⟨r6, hc, hf⟩ := ob1_s hf
    refine g_callVi (As := [.int i1, .int (3 : Int32)]) (rest := []) ⟨hx, hb, hml, hown, hts⟩ (kX4_ofJourney l dC dI cyI cyO ad H.size hc) (cwV 2 hts gX4_owed_X4_ofJourney rfl rfl rfl (by decide +kernel) ⟨Nat.le_of_ble_eq_true rfl, Nat.le_of_ble_eq_true rfl⟩) hK hB hA (g_recv (ci := 4) hK hB 0 rfl rfl rfl) rfl hl.1 rfl (Nat.le_of_ble_eq_true rfl) dX4_owed_20 ⟨Nat.zero_le _, Nat.zero_le _⟩ (fun H locs hB => ?_)
    refine lv_iconst (v := (1 : Int32)) hx hb dX4_owed_23 (by decide) ?_
    refine lv_isub hx hb dX4_owed_24 ?_
    refine lv_istore (lv' := [(4, .int (r6 - (1 : Int32))), (3, .int i2), (0, .ref (ad 0)), (1, .int i1), (2, .int i2)]) hx hb dX4_owed_25 hl (by decide) rfl (fun ls hl => ?_)
    obtain ⟨b24, hL21, hf⟩ := ob1_s hf
    have kE19 : ∀ (H : Heap) (locs : List Loc) (ls : Array Slot), Sum.inr () = b24 → Bd (dC, dI) [(cyI, .int), (cyO, .array .int)] (va_A (cM cyI cyO ad μ) s.heap.size) s (cM cyI cyO ad μ3) H locs → lv_has ls 5 [(0, .ref (ad 0))] → W p l e (headSpec wsX4_owed rmX4_owed).room s m ([.ref (ad 0), .int i1, .int i2] : List Value).toArray below meth c H locs 0 0 (MQ below (QiF (dC, dI) [(cyI, .int), (cyO, .array .int)] (cM cyI cyO ad μ) (cM cyI cyO ad μ_) s.heap.size r) ([.ref (ad 0), .int i1, .int i2] : List Value).toArray s 0 0 (va_A (cM cyI cyO ad μ) s.heap.size)) (F0 m 66 ls []) := by
      intro  H locs ls hb9 hB hl
      have hf := el1_r hb9 hf
      refine lv_aload_n hx hb dX4_owed_66 rfl (lv_at hl 0 rfl) ?_
      refine lv_iconst (v := (2 : Int32)) hx hb dX4_owed_67 (by decide) ?_
      obtain ⟨μ23, e9, hf⟩ := ob1_s hf
      have e9 := inj1 e9
      refine g_put (C := RX4) (T := TX4) (N := 15) hx hb hts hinX4 tyX4 tyX4_ok nmX4 hown hK hB 0 rfl rfl 0 rfl hq1 rfl rfl rfl rfl rfl rfl dX4_owed_68 (w2 := (cM cyI cyO ad μ23)) (by rw [← e9]; rfl) (fun H locs hB => ?_)
      refine lv_iconst (v := (0 : Int32)) hx hb dX4_owed_71 (by decide) ?_
      obtain ⟨e0, e1⟩ := inj2 hf
      subst e0
      subst e1
      exact g_iret hx hb hr hlocks hK hB dX4_owed_72
    have key20 : ∀ (n9 : Nat) (v25 : Int32) (v26 : Int32) (H : Heap) (locs : List Loc) (ls : Array Slot), loopM (fun st => mX4_owed_L27 fu i1 i2 μ3 st.1 st.2) n9 (v25, v26) = some b24 → Bd (dC, dI) [(cyI, .int), (cyO, .array .int)] (va_A (cM cyI cyO ad μ) s.heap.size) s (cM cyI cyO ad μ3) H locs → lv_has ls 5 [(4, .int v25), (3, .int v26), (0, .ref (ad 0)), (1, .int i1), (2, .int i2)] → W p l e (headSpec wsX4_owed rmX4_owed).room s m ([.ref (ad 0), .int i1, .int i2] : List Value).toArray below meth c H locs 0 0 (MQ below (QiF (dC, dI) [(cyI, .int), (cyO, .array .int)] (cM cyI cyO ad μ) (cM cyI cyO ad μ_) s.heap.size r) ([.ref (ad 0), .int i1, .int i2] : List Value).toArray s 0 0 (va_A (cM cyI cyO ad μ) s.heap.size)) (F0 m 27 ls []) := by
      intro n9
      induction n9 with
      | zero => intro v25 v26 H locs ls hL21; exact (loopM_z hL21).elim
      | succ n9 ih9 =>
        intro v25 v26 H locs ls hL21 hB hl
        obtain ⟨o27, hg22, hL21⟩ := loopM_s hL21
        have hg22 : mX4_owed_L27 fu i1 i2 μ3 v25 v26 = some o27 := hg22
        unfold mX4_owed_L27 at hg22
        refine lv_iload hx hb dX4_owed_27 (lv_at hl 0 rfl) ?_
        obtain ⟨t28, hD29, hg22⟩ := ob1_s hg22
        have kTt28 : t28 = true → ∀ (H : Heap) (locs : List Loc), Bd (dC, dI) [(cyI, .int), (cyO, .array .int)] (va_A (cM cyI cyO ad μ) s.heap.size) s (cM cyI cyO ad μ3) H locs → W p l e (headSpec wsX4_owed rmX4_owed).room s m ([.ref (ad 0), .int i1, .int i2] : List Value).toArray below meth c H locs 0 0 (MQ below (QiF (dC, dI) [(cyI, .int), (cyO, .array .int)] (cM cyI cyO ad μ) (cM cyI cyO ad μ_) s.heap.size r) ([.ref (ad 0), .int i1, .int i2] : List Value).toArray s 0 0 (va_A (cM cyI cyO ad μ) s.heap.size)) (F0 m 36 ls []) := by
          intro ht H locs hB
          have hg22 := cnd_t ht hg22
          refine lv_aload_n hx hb dX4_owed_36 rfl (lv_at hl 2 rfl) ?_
          refine lv_iload_n hx hb dX4_owed_37 rfl (lv_at hl 3 rfl) ?_
          refine lv_iload hx hb dX4_owed_38 (lv_at hl 0 rfl) ?_
          obtain ⟨r32, hc, hg22⟩ := ob1_s hg22
          refine g_callVi (As := [.int i1, .int v25]) (rest := []) ⟨hx, hb, hml, hown, hts⟩ (kX4_stateOf l dC dI cyI cyO ad H.size hc) (cwV 2 hts gX4_owed_X4_stateOf rfl rfl rfl (by decide +kernel) ⟨Nat.le_of_ble_eq_true rfl, Nat.le_of_ble_eq_true rfl⟩) hK hB hA (g_recv (ci := 4) hK hB 0 rfl rfl rfl) rfl hl.1 rfl (Nat.le_of_ble_eq_true rfl) dX4_owed_40 ⟨Nat.zero_le _, Nat.zero_le _⟩ (fun H locs hB => ?_)
          refine lv_iconst (v := (3 : Int32)) hx hb dX4_owed_43 (by decide) ?_
          refine lv_icmp_eq (tgt := 50) hx hb dX4_owed_44 (by decide) (fun c33 => ?_) (fun c33 => ?_)
          · have hg22 := ite_t c33 hg22
            refine lv_iload_n hx hb dX4_owed_50 rfl (lv_at hl 1 rfl) ?_
            refine lv_if_ne (tgt := 57) hx hb dX4_owed_51 (by decide) (fun c34 => ?_) (fun c34 => ?_)
            · have hg22 := ite_f c34 hg22
              refine lv_iinc (v := (v26 + (-1 : Int32))) (lv' := [(3, .int (v26 + (-1 : Int32))), (4, .int v25), (0, .ref (ad 0)), (1, .int i1), (2, .int i2)]) hx hb dX4_owed_57 hl (k := 1) rfl rfl (by decide) rfl (fun ls hl => ?_)
              refine lv_iinc (v := (v25 + (-1 : Int32))) (lv' := [(4, .int (v25 + (-1 : Int32))), (3, .int (v26 + (-1 : Int32))), (0, .ref (ad 0)), (1, .int i1), (2, .int i2)]) hx hb dX4_owed_60 hl (k := 1) rfl rfl (by decide) rfl (fun ls hl => ?_)
              refine lv_goto (tgt := 27) hx hb dX4_owed_63 (by decide) ?_
              have hL21 := el1_r (inj1 hg22) hL21
              exact ih9 _ _ _ _ _ hL21 hB (lv_sub hl [0, 1, 2, 3, 4] rfl)
            · have hg22 := ite_t c34 hg22
              refine lv_iload hx hb dX4_owed_54 (lv_at hl 0 rfl) ?_
              have hL21 := el1_l (inj1 hg22) hL21
              have hf := el1_l (inj1 hL21) hf
              obtain ⟨e0, e1⟩ := inj2 hf
              subst e0
              subst e1
              exact g_iret hx hb hr hlocks hK hB dX4_owed_56
          · have hg22 := ite_f c33 hg22
            refine lv_goto (tgt := 60) hx hb dX4_owed_47 (by decide) ?_
            refine lv_iinc (v := (v25 + (-1 : Int32))) (lv' := [(4, .int (v25 + (-1 : Int32))), (3, .int v26), (0, .ref (ad 0)), (1, .int i1), (2, .int i2)]) hx hb dX4_owed_60 hl (k := 0) rfl rfl (by decide) rfl (fun ls hl => ?_)
            refine lv_goto (tgt := 27) hx hb dX4_owed_63 (by decide) ?_
            have hL21 := el1_r (inj1 hg22) hL21
            exact ih9 _ _ _ _ _ hL21 hB (lv_sub hl [0, 1, 2, 3, 4] rfl)
        have kFt28 : t28 = false → ∀ (H : Heap) (locs : List Loc), Bd (dC, dI) [(cyI, .int), (cyO, .array .int)] (va_A (cM cyI cyO ad μ) s.heap.size) s (cM cyI cyO ad μ3) H locs → W p l e (headSpec wsX4_owed rmX4_owed).room s m ([.ref (ad 0), .int i1, .int i2] : List Value).toArray below meth c H locs 0 0 (MQ below (QiF (dC, dI) [(cyI, .int), (cyO, .array .int)] (cM cyI cyO ad μ) (cM cyI cyO ad μ_) s.heap.size r) ([.ref (ad 0), .int i1, .int i2] : List Value).toArray s 0 0 (va_A (cM cyI cyO ad μ) s.heap.size)) (F0 m 66 ls []) := by
          intro ht H locs hB
          have hg22 := cnd_f ht hg22
          have hL21 := el1_l (inj1 hg22) hL21
          exact kE19  _ _ _ (inj1 hL21) hB (lv_sub hl [2] rfl)
        refine lv_if_lt (tgt := 66) hx hb dX4_owed_29 (by decide) (fun c30 => ?_) (fun c30 => ?_)
        · have hD29 := ite_t c30 hD29
          have e0 := inj1 hD29
          exact kFt28 e0.symm _ _ hB
        · have hD29 := ite_f c30 hD29
          refine lv_iload_n hx hb dX4_owed_32 rfl (lv_at hl 4 rfl) ?_
          refine lv_if_lt (tgt := 66) hx hb dX4_owed_33 (by decide) (fun c31 => ?_) (fun c31 => ?_)
          · have hD29 := ite_t c31 hD29
            have e0 := inj1 hD29
            exact kFt28 e0.symm _ _ hB
          · have hD29 := ite_f c31 hD29
            have e0 := inj1 hD29
            exact kTt28 e0.symm _ _ hB
    exact key20 fu _ _ _ _ _ hL21 hB (lv_sub hl [0, 1, 2, 3, 4] rfl)
  · have hf := ite_f c5 hf
    refine lv_iconst (v := (0 : Int32)) hx hb dX4_owed_13 (by decide) ?_
    obtain ⟨e0, e1⟩ := inj2 hf
    subst e0
    subst e1
    exact g_iret hx hb hr hlocks hK hB dX4_owed_14

abbrev rmX4_restsIn : Room := { frames := 10, cells := 0, slots := 0, locals := 222 }

set_option maxHeartbeats 4000000 in
set_option maxRecDepth 100000 in
theorem kX4_restsIn (l : Launch) (dC : Nat → ClassId) (dI : Nat → Nat → Nat) (cyI cyO : ClassId) (ad : Nat → Nat) (sz : Nat) {fu : Nat} {μ : MS} {i1 : Int32} {r : Int32} {μ_ : MS} (hf : mX4_restsIn fu μ i1 = some (r, μ_)) : Met l yX4_restsIn wsX4_restsIn rmX4_restsIn (PcF (dC, dI) [(cyI, .int), (cyO, .array .int)] (cM cyI cyO ad μ) sz [.ref (ad 0), .int i1]) (QiF (dC, dI) [(cyI, .int), (cyO, .array .int)] (cM cyI cyO ad μ) (cM cyI cyO ad μ_) sz r) 0 0 (va_A (cM cyI cyO ad μ) sz) := by
  refine Met.ofW (cc := cX4_restsIn) (maxL := 4) (ret := (some .int)) (by decide) rfl ?_
  intro p e s m args below meth c s₁ B hml hv
  obtain ⟨rfl, hsz, hP, hK, hD0⟩ := hv
  have hx := B.exec
  have hb := B.bytes
  have hr := B.returns
  have hts := atoms_spec (ws := wsX4_restsIn) B.pre
  have hown : s.vm.findClass RX4 = some m.cls := findClass_of_methodNamed B.named
  have hlocks := B.notSynchronized
  subst hsz
  have hA : ∀ q : Nat, s.heap.size ≤ q → va_A (cM cyI cyO ad μ) s.heap.size q := fun q h => Or.inr h
  have hB : Bd (dC, dI) [(cyI, .int), (cyO, .array .int)] (va_A (cM cyI cyO ad μ) s.heap.size) s (cM cyI cyO ad μ) s.heap [] := ⟨hP, hD0.self, va_S.rf⟩
  have hq1 : (Cond.fieldLink RX4 35 "UndoJourneysModel" "thrown" "I").before _ s = true := hts _ (List.mem_of_getElem? (i := 1) rfl)
  have hq2 : (Cond.fieldLink RX4 17 "UndoJourneysModel" "data" "[I").before _ s = true := hts _ (List.mem_of_getElem? (i := 2) rfl)
  have hq3 : (Cond.fieldLink RX4 23 "UndoJourneysModel" "tried" "[I").before _ s = true := hts _ (List.mem_of_getElem? (i := 3) rfl)
  have hinX4 : ∀ w ∈ wsX40, w ∈ wsX4_restsIn := fun w h => List.mem_cons_of_mem _ (List.mem_append_right _ h)
  have hl := lv_entry [.ref (ad 0), .int i1] (n := 4) (Nat.le_of_ble_eq_true rfl)
  rw [lg_entry_eq]
  generalize (lg_sl [.ref (ad 0), .int i1] ++ List.replicate (4 - (lg_sl [.ref (ad 0), .int i1]).length) Slot.unset).toArray = ls at hl ⊢
  have hl : lv_has ls 4 [(0, .ref (ad 0)), (1, .int i1)] := hl
  clear hP hD0
  suffices main : ∀ (H : Heap) (locs : List Loc), Bd (dC, dI) [(cyI, .int), (cyO, .array .int)] (va_A (cM cyI cyO ad μ) s.heap.size) s (cM cyI cyO ad μ) H locs → W p l e (headSpec wsX4_restsIn rmX4_restsIn).room s m ([.ref (ad 0), .int i1] : List Value).toArray below meth c H locs 0 0 (MQ below (QiF (dC, dI) [(cyI, .int), (cyO, .array .int)] (cM cyI cyO ad μ) (cM cyI cyO ad μ_) s.heap.size r) ([.ref (ad 0), .int i1] : List Value).toArray s 0 0 (va_A (cM cyI cyO ad μ) s.heap.size)) (F0 m 0 ls []) from main _ _ hB
  clear hB
  intro H locs hB
  unfold mX4_restsIn at hf
  refine lv_aload_n hx hb dX4_restsIn_0 rfl (lv_at hl 0 rfl) ?_
  refine lv_iconst (v := (0 : Int32)) hx hb dX4_restsIn_1 (by decide) ?_
  obtain ⟨μ1, e9, hf⟩ := ob1_s hf
  have e9 := inj1 e9
  refine g_put (C := RX4) (T := TX4) (N := 15) hx hb hts hinX4 tyX4 tyX4_ok nmX4 hown hK hB 0 rfl rfl 0 rfl hq1 rfl rfl rfl rfl rfl rfl dX4_restsIn_2 (w2 := (cM cyI cyO ad μ1)) (by rw [← e9]; rfl) (fun H locs hB => ?_)
  refine lv_aload_n hx hb dX4_restsIn_5 rfl (lv_at hl 0 rfl) ?_
  refine lv_iload_n hx hb dX4_restsIn_6 rfl (lv_at hl 1 rfl) ?_
  obtain ⟨r2, μ3, hc, hf⟩ := ob2_s hf
  refine g_callVz (As := [.int i1]) (rest := []) ⟨hx, hb, hml, hown, hts⟩ (kX4_noJourney l dC dI cyI cyO ad H.size hc) (cwV 1 hts gX4_restsIn_X4_noJourney rfl rfl rfl (by decide +kernel) ⟨Nat.le_of_ble_eq_true rfl, Nat.le_of_ble_eq_true rfl⟩) hK hB hA (g_recv (ci := 4) hK hB 0 rfl rfl rfl) rfl hl.1 rfl (Nat.le_of_ble_eq_true rfl) dX4_restsIn_7 ⟨Nat.zero_le _, Nat.zero_le _⟩ (fun z4 H locs hB => ?_)
  refine lv_if_eq (tgt := 15) hx hb dX4_restsIn_10 (by decide) (fun c5 => ?_) (fun c5 => ?_)
  · have hf := ite_t c5 hf
    refine lv_aload_n hx hb dX4_restsIn_15 rfl (lv_at hl 0 rfl) ?_
    refine g_get (C := RX4) (T := TX4) (N := 15) hx hb hts hinX4 hown hK hB 0 rfl rfl 8 rfl hq2 rfl rfl dX4_restsIn_16 ?_
    refine lv_aload_n hx hb dX4_restsIn_19 rfl (lv_at hl 0 rfl) ?_
    refine g_get (C := RX4) (T := TX4) (N := 15) hx hb hts hinX4 hown hK hB 0 rfl rfl 10 rfl hq3 rfl rfl dX4_restsIn_20 ?_
    obtain ⟨f6, hc, hf⟩ := ob1_s hf
    obtain ⟨μ7, e9, hf⟩ := ob1_s hf
    have e9 := inj1 e9
    refine g_copy (rest := []) hx hb hml hown hts hc (va_cwS 2 hts gX4_restsIn_X4_copy rfl rfl rfl (by decide +kernel) ⟨Nat.le_of_ble_eq_true rfl, Nat.le_of_ble_eq_true rfl⟩) hK rfl hB hA 2 4 rfl rfl (by decide) (w2 := (cM cyI cyO ad μ7)) (by rw [← e9]; rfl) hl.1 rfl (Nat.le_of_ble_eq_true rfl) dX4_restsIn_23 ⟨Nat.zero_le _, Nat.zero_le _⟩ (fun H locs hB => ?_)
    refine lv_iconst (v := (0 : Int32)) hx hb dX4_restsIn_26 (by decide) ?_
    refine lv_istore_n (lv' := [(2, .int (0 : Int32)), (0, .ref (ad 0)), (1, .int i1)]) hx hb dX4_restsIn_27 rfl hl (by decide) rfl (fun ls hl => ?_)
    obtain ⟨v18, μ19, hL22, hf⟩ := ob2_s hf
    have kE20 : ∀ (H : Heap) (locs : List Loc) (ls : Array Slot), Bd (dC, dI) [(cyI, .int), (cyO, .array .int)] (va_A (cM cyI cyO ad μ) s.heap.size) s (cM cyI cyO ad μ19) H locs → lv_has ls 4 [(2, .int v18), (0, .ref (ad 0)), (1, .int i1)] → W p l e (headSpec wsX4_restsIn rmX4_restsIn).room s m ([.ref (ad 0), .int i1] : List Value).toArray below meth c H locs 0 0 (MQ below (QiF (dC, dI) [(cyI, .int), (cyO, .array .int)] (cM cyI cyO ad μ) (cM cyI cyO ad μ_) s.heap.size r) ([.ref (ad 0), .int i1] : List Value).toArray s 0 0 (va_A (cM cyI cyO ad μ) s.heap.size)) (F0 m 53 ls []) := by
      intro H locs ls hB hl
      refine lv_aload_n hx hb dX4_restsIn_53 rfl (lv_at hl 1 rfl) ?_
      refine lv_iload_n hx hb dX4_restsIn_54 rfl (lv_at hl 2 rfl) ?_
      obtain ⟨r24, hc, hf⟩ := ob1_s hf
      refine g_callVz (As := [.int i1]) (rest := []) ⟨hx, hb, hml, hown, hts⟩ (kX4_rests l dC dI cyI cyO ad H.size hc) (cwV 1 hts gX4_restsIn_X4_rests rfl rfl rfl (by decide +kernel) ⟨Nat.le_of_ble_eq_true rfl, Nat.le_of_ble_eq_true rfl⟩) hK hB hA (g_recv (ci := 4) hK hB 0 rfl rfl rfl) rfl hl.1 rfl (Nat.le_of_ble_eq_true rfl) dX4_restsIn_55 ⟨Nat.zero_le _, Nat.zero_le _⟩ (fun z25 H locs hB => ?_)
      refine lv_istore_n (lv' := [(3, .int r24), (2, .int v18), (0, .ref (ad 0)), (1, .int i1)]) hx hb dX4_restsIn_58 rfl hl (by decide) rfl (fun ls hl => ?_)
      refine lv_aload_n hx hb dX4_restsIn_59 rfl (lv_at hl 2 rfl) ?_
      refine g_get (C := RX4) (T := TX4) (N := 15) hx hb hts hinX4 hown hK hB 0 rfl rfl 10 rfl hq3 rfl rfl dX4_restsIn_60 ?_
      refine lv_aload_n hx hb dX4_restsIn_63 rfl (lv_at hl 2 rfl) ?_
      refine g_get (C := RX4) (T := TX4) (N := 15) hx hb hts hinX4 hown hK hB 0 rfl rfl 8 rfl hq2 rfl rfl dX4_restsIn_64 ?_
      obtain ⟨f26, hc, hf⟩ := ob1_s hf
      obtain ⟨μ27, e9, hf⟩ := ob1_s hf
      have e9 := inj1 e9
      refine g_copy (rest := []) hx hb hml hown hts hc (va_cwS 2 hts gX4_restsIn_X4_copy rfl rfl rfl (by decide +kernel) ⟨Nat.le_of_ble_eq_true rfl, Nat.le_of_ble_eq_true rfl⟩) hK rfl hB hA 4 2 rfl rfl (by decide) (w2 := (cM cyI cyO ad μ27)) (by rw [← e9]; rfl) hl.1 rfl (Nat.le_of_ble_eq_true rfl) dX4_restsIn_67 ⟨Nat.zero_le _, Nat.zero_le _⟩ (fun H locs hB => ?_)
      refine lv_iload_n hx hb dX4_restsIn_70 rfl (lv_at hl 0 rfl) ?_
      obtain ⟨v28, hJ29, hf⟩ := ob1_s hf
      have kJ30 : ∀ (H : Heap) (locs : List Loc) (ls : Array Slot), Bd (dC, dI) [(cyI, .int), (cyO, .array .int)] (va_A (cM cyI cyO ad μ) s.heap.size) s (cM cyI cyO ad μ27) H locs → lv_has ls 4 [] → W p l e (headSpec wsX4_restsIn rmX4_restsIn).room s m ([.ref (ad 0), .int i1] : List Value).toArray below meth c H locs 0 0 (MQ below (QiF (dC, dI) [(cyI, .int), (cyO, .array .int)] (cM cyI cyO ad μ) (cM cyI cyO ad μ_) s.heap.size r) ([.ref (ad 0), .int i1] : List Value).toArray s 0 0 (va_A (cM cyI cyO ad μ) s.heap.size)) (F0 m 79 ls [.int v28]) := by
        intro H locs ls hB hl
        obtain ⟨e0, e1⟩ := inj2 hf
        subst e0
        subst e1
        exact g_iret hx hb hr hlocks hK hB dX4_restsIn_79
      refine lv_if_eq (tgt := 78) hx hb dX4_restsIn_71 (by decide) (fun c31 => ?_) (fun c31 => ?_)
      · have hJ29 := ite_t c31 hJ29
        refine lv_iconst (v := (-1 : Int32)) hx hb dX4_restsIn_78 (by decide) ?_
        have e0 := inj1 hJ29
        subst e0
        exact kJ30 _ _ _ hB (lv_sub hl [] rfl)
      · have hJ29 := ite_f c31 hJ29
        refine lv_iload_n hx hb dX4_restsIn_74 rfl (lv_at hl 1 rfl) ?_
        refine lv_goto (tgt := 79) hx hb dX4_restsIn_75 (by decide) ?_
        have e0 := inj1 hJ29
        subst e0
        exact kJ30 _ _ _ hB (lv_sub hl [] rfl)
    have key21 : ∀ (n9 : Nat) (v33 : Int32) (μ34 : MS) (H : Heap) (locs : List Loc) (ls : Array Slot), loopM (fun st => mX4_restsIn_L28 fu i1 st.1 st.2) n9 (v33, μ34) = some (v18, μ19) → Bd (dC, dI) [(cyI, .int), (cyO, .array .int)] (va_A (cM cyI cyO ad μ) s.heap.size) s (cM cyI cyO ad μ34) H locs → lv_has ls 4 [(2, .int v33), (0, .ref (ad 0)), (1, .int i1)] → W p l e (headSpec wsX4_restsIn rmX4_restsIn).room s m ([.ref (ad 0), .int i1] : List Value).toArray below meth c H locs 0 0 (MQ below (QiF (dC, dI) [(cyI, .int), (cyO, .array .int)] (cM cyI cyO ad μ) (cM cyI cyO ad μ_) s.heap.size r) ([.ref (ad 0), .int i1] : List Value).toArray s 0 0 (va_A (cM cyI cyO ad μ) s.heap.size)) (F0 m 28 ls []) := by
      intro n9
      induction n9 with
      | zero => intro v33 μ34 H locs ls hL22; exact (loopM_z hL22).elim
      | succ n9 ih9 =>
        intro v33 μ34 H locs ls hL22 hB hl
        obtain ⟨o35, hg23, hL22⟩ := loopM_s hL22
        have hg23 : mX4_restsIn_L28 fu i1 v33 μ34 = some o35 := hg23
        unfold mX4_restsIn_L28 at hg23
        refine lv_iload_n hx hb dX4_restsIn_28 rfl (lv_at hl 0 rfl) ?_
        refine lv_sipush (v := (3000 : Int32)) hx hb dX4_restsIn_29 (by decide) ?_
        obtain ⟨t36, hD37, hg23⟩ := ob1_s hg23
        have kTt36 : t36 = true → ∀ (H : Heap) (locs : List Loc), Bd (dC, dI) [(cyI, .int), (cyO, .array .int)] (va_A (cM cyI cyO ad μ) s.heap.size) s (cM cyI cyO ad μ34) H locs → W p l e (headSpec wsX4_restsIn rmX4_restsIn).room s m ([.ref (ad 0), .int i1] : List Value).toArray below meth c H locs 0 0 (MQ below (QiF (dC, dI) [(cyI, .int), (cyO, .array .int)] (cM cyI cyO ad μ) (cM cyI cyO ad μ_) s.heap.size r) ([.ref (ad 0), .int i1] : List Value).toArray s 0 0 (va_A (cM cyI cyO ad μ) s.heap.size)) (F0 m 43 ls []) := by
          intro ht H locs hB
          have hg23 := cnd_t ht hg23
          refine lv_aload_n hx hb dX4_restsIn_43 rfl (lv_at hl 1 rfl) ?_
          obtain ⟨μ42, hc, hg23⟩ := ob1_s hg23
          refine g_callVv (As := []) (rest := []) ⟨hx, hb, hml, hown, hts⟩ (kX4_tick l dC dI cyI cyO ad H.size hc) (cwV 0 hts gX4_restsIn_X4_tick rfl rfl rfl (by decide +kernel) ⟨Nat.le_of_ble_eq_true rfl, Nat.le_of_ble_eq_true rfl⟩) hK hB hA (g_recv (ci := 4) hK hB 0 rfl rfl rfl) rfl hl.1 rfl (Nat.le_of_ble_eq_true rfl) dX4_restsIn_44 ⟨Nat.zero_le _, Nat.zero_le _⟩ (fun H locs hB => ?_)
          refine lv_iinc (v := (v33 + (1 : Int32))) (lv' := [(2, .int (v33 + (1 : Int32))), (0, .ref (ad 0)), (1, .int i1)]) hx hb dX4_restsIn_47 hl (k := 0) rfl rfl (by decide) rfl (fun ls hl => ?_)
          refine lv_goto (tgt := 28) hx hb dX4_restsIn_50 (by decide) ?_
          have hL22 := el1_r (inj1 hg23) hL22
          exact ih9 _ _ _ _ _ hL22 hB (lv_sub hl [0, 1, 2] rfl)
        have kFt36 : t36 = false → ∀ (H : Heap) (locs : List Loc), Bd (dC, dI) [(cyI, .int), (cyO, .array .int)] (va_A (cM cyI cyO ad μ) s.heap.size) s (cM cyI cyO ad μ34) H locs → W p l e (headSpec wsX4_restsIn rmX4_restsIn).room s m ([.ref (ad 0), .int i1] : List Value).toArray below meth c H locs 0 0 (MQ below (QiF (dC, dI) [(cyI, .int), (cyO, .array .int)] (cM cyI cyO ad μ) (cM cyI cyO ad μ_) s.heap.size r) ([.ref (ad 0), .int i1] : List Value).toArray s 0 0 (va_A (cM cyI cyO ad μ) s.heap.size)) (F0 m 53 ls []) := by
          intro ht H locs hB
          have hg23 := cnd_f ht hg23
          have hL22 := el1_l (inj1 hg23) hL22
          obtain ⟨e0, e1⟩ := inj2 hL22
          subst e0
          subst e1
          exact kE20 _ _ _ hB (lv_sub hl [0, 1, 2] rfl)
        refine lv_icmp_ge (tgt := 53) hx hb dX4_restsIn_32 (by decide) (fun c38 => ?_) (fun c38 => ?_)
        · have hD37 := ite_t c38 hD37
          have e0 := inj1 hD37
          exact kFt36 e0.symm _ _ hB
        · have hD37 := ite_f c38 hD37
          refine lv_aload_n hx hb dX4_restsIn_35 rfl (lv_at hl 1 rfl) ?_
          refine lv_iload_n hx hb dX4_restsIn_36 rfl (lv_at hl 2 rfl) ?_
          obtain ⟨r39, hc, hD37⟩ := ob1_s hD37
          refine g_callVz (As := [.int i1]) (rest := []) ⟨hx, hb, hml, hown, hts⟩ (kX4_rests l dC dI cyI cyO ad H.size hc) (cwV 1 hts gX4_restsIn_X4_rests rfl rfl rfl (by decide +kernel) ⟨Nat.le_of_ble_eq_true rfl, Nat.le_of_ble_eq_true rfl⟩) hK hB hA (g_recv (ci := 4) hK hB 0 rfl rfl rfl) rfl hl.1 rfl (Nat.le_of_ble_eq_true rfl) dX4_restsIn_37 ⟨Nat.zero_le _, Nat.zero_le _⟩ (fun z40 H locs hB => ?_)
          refine lv_if_ne (tgt := 53) hx hb dX4_restsIn_40 (by decide) (fun c41 => ?_) (fun c41 => ?_)
          · have hD37 := ite_f c41 hD37
            have e0 := inj1 hD37
            exact kFt36 e0.symm _ _ hB
          · have hD37 := ite_t c41 hD37
            have e0 := inj1 hD37
            exact kTt36 e0.symm _ _ hB
    exact key21 fu _ _ _ _ _ hL22 hB (lv_sub hl [0, 1, 2] rfl)
  · have hf := ite_f c5 hf
    refine lv_iconst (v := (0 : Int32)) hx hb dX4_restsIn_13 (by decide) ?_
    obtain ⟨e0, e1⟩ := inj2 hf
    subst e0
    subst e1
    exact g_iret hx hb hr hlocks hK hB dX4_restsIn_14

abbrev rmX4_stateAfter : Room := { frames := 10, cells := 0, slots := 0, locals := 222 }

set_option maxHeartbeats 4000000 in
set_option maxRecDepth 100000 in
theorem kX4_stateAfter (l : Launch) (dC : Nat → ClassId) (dI : Nat → Nat → Nat) (cyI cyO : ClassId) (ad : Nat → Nat) (sz : Nat) {fu : Nat} {μ : MS} {i1 : Int32} {i2 : Int32} {r : Int32} {μ_ : MS} (hf : mX4_stateAfter fu μ i1 i2 = some (r, μ_)) : Met l yX4_stateAfter wsX4_stateAfter rmX4_stateAfter (PcF (dC, dI) [(cyI, .int), (cyO, .array .int)] (cM cyI cyO ad μ) sz [.ref (ad 0), .int i1, .int i2]) (QiF (dC, dI) [(cyI, .int), (cyO, .array .int)] (cM cyI cyO ad μ) (cM cyI cyO ad μ_) sz r) 0 0 (va_A (cM cyI cyO ad μ) sz) := by
  refine Met.ofW (cc := cX4_stateAfter) (maxL := 4) (ret := (some .int)) (by decide) rfl ?_
  intro p e s m args below meth c s₁ B hml hv
  obtain ⟨rfl, hsz, hP, hK, hD0⟩ := hv
  have hx := B.exec
  have hb := B.bytes
  have hr := B.returns
  have hts := atoms_spec (ws := wsX4_stateAfter) B.pre
  have hown : s.vm.findClass RX4 = some m.cls := findClass_of_methodNamed B.named
  have hlocks := B.notSynchronized
  subst hsz
  have hA : ∀ q : Nat, s.heap.size ≤ q → va_A (cM cyI cyO ad μ) s.heap.size q := fun q h => Or.inr h
  have hB : Bd (dC, dI) [(cyI, .int), (cyO, .array .int)] (va_A (cM cyI cyO ad μ) s.heap.size) s (cM cyI cyO ad μ) s.heap [] := ⟨hP, hD0.self, va_S.rf⟩
  have hq1 : (Cond.fieldLink RX4 35 "UndoJourneysModel" "thrown" "I").before _ s = true := hts _ (List.mem_of_getElem? (i := 1) rfl)
  have hq2 : (Cond.fieldLink RX4 17 "UndoJourneysModel" "data" "[I").before _ s = true := hts _ (List.mem_of_getElem? (i := 2) rfl)
  have hq3 : (Cond.fieldLink RX4 23 "UndoJourneysModel" "tried" "[I").before _ s = true := hts _ (List.mem_of_getElem? (i := 3) rfl)
  have hinX4 : ∀ w ∈ wsX40, w ∈ wsX4_stateAfter := fun w h => List.mem_cons_of_mem _ (List.mem_append_right _ h)
  have hl := lv_entry [.ref (ad 0), .int i1, .int i2] (n := 4) (Nat.le_of_ble_eq_true rfl)
  rw [lg_entry_eq]
  generalize (lg_sl [.ref (ad 0), .int i1, .int i2] ++ List.replicate (4 - (lg_sl [.ref (ad 0), .int i1, .int i2]).length) Slot.unset).toArray = ls at hl ⊢
  have hl : lv_has ls 4 [(0, .ref (ad 0)), (1, .int i1), (2, .int i2)] := hl
  clear hP hD0
  suffices main : ∀ (H : Heap) (locs : List Loc), Bd (dC, dI) [(cyI, .int), (cyO, .array .int)] (va_A (cM cyI cyO ad μ) s.heap.size) s (cM cyI cyO ad μ) H locs → W p l e (headSpec wsX4_stateAfter rmX4_stateAfter).room s m ([.ref (ad 0), .int i1, .int i2] : List Value).toArray below meth c H locs 0 0 (MQ below (QiF (dC, dI) [(cyI, .int), (cyO, .array .int)] (cM cyI cyO ad μ) (cM cyI cyO ad μ_) s.heap.size r) ([.ref (ad 0), .int i1, .int i2] : List Value).toArray s 0 0 (va_A (cM cyI cyO ad μ) s.heap.size)) (F0 m 0 ls []) from main _ _ hB
  clear hB
  intro H locs hB
  unfold mX4_stateAfter at hf
  refine lv_aload_n hx hb dX4_stateAfter_0 rfl (lv_at hl 0 rfl) ?_
  refine lv_iconst (v := (0 : Int32)) hx hb dX4_stateAfter_1 (by decide) ?_
  obtain ⟨μ1, e9, hf⟩ := ob1_s hf
  have e9 := inj1 e9
  refine g_put (C := RX4) (T := TX4) (N := 15) hx hb hts hinX4 tyX4 tyX4_ok nmX4 hown hK hB 0 rfl rfl 0 rfl hq1 rfl rfl rfl rfl rfl rfl dX4_stateAfter_2 (w2 := (cM cyI cyO ad μ1)) (by rw [← e9]; rfl) (fun H locs hB => ?_)
  refine lv_aload_n hx hb dX4_stateAfter_5 rfl (lv_at hl 0 rfl) ?_
  refine lv_iload_n hx hb dX4_stateAfter_6 rfl (lv_at hl 1 rfl) ?_
  obtain ⟨r2, μ3, hc, hf⟩ := ob2_s hf
  refine g_callVz (As := [.int i1]) (rest := []) ⟨hx, hb, hml, hown, hts⟩ (kX4_noJourney l dC dI cyI cyO ad H.size hc) (cwV 1 hts gX4_stateAfter_X4_noJourney rfl rfl rfl (by decide +kernel) ⟨Nat.le_of_ble_eq_true rfl, Nat.le_of_ble_eq_true rfl⟩) hK hB hA (g_recv (ci := 4) hK hB 0 rfl rfl rfl) rfl hl.1 rfl (Nat.le_of_ble_eq_true rfl) dX4_stateAfter_7 ⟨Nat.zero_le _, Nat.zero_le _⟩ (fun z4 H locs hB => ?_)
  refine lv_if_ne (tgt := 37) hx hb dX4_stateAfter_10 (by decide) (fun c5 => ?_) (fun c5 => ?_)
  · have hf := ite_f c5 hf
    refine lv_iconst (v := (0 : Int32)) hx hb dX4_stateAfter_37 (by decide) ?_
    obtain ⟨e0, e1⟩ := inj2 hf
    subst e0
    subst e1
    exact g_iret hx hb hr hlocks hK hB dX4_stateAfter_38
  · have hf := ite_t c5 hf
    refine lv_aload_n hx hb dX4_stateAfter_13 rfl (lv_at hl 0 rfl) ?_
    refine lv_iload_n hx hb dX4_stateAfter_14 rfl (lv_at hl 2 rfl) ?_
    refine lv_iconst (v := (0 : Int32)) hx hb dX4_stateAfter_15 (by decide) ?_
    refine lv_sipush (v := (3000 : Int32)) hx hb dX4_stateAfter_16 (by decide) ?_
    obtain ⟨r6, hc, hf⟩ := ob1_s hf
    refine g_pcutSz (As := [.int i2, .int (0 : Int32), .int (3000 : Int32)]) (rest := [.ref (ad 0)]) (w2 := (cM cyI cyO ad μ3)) ⟨hx, hb, hml, hown, hts⟩ (kX4_in l dC dI [(cyI, .int), (cyO, .array .int)] H.size hc) (va_cwS 3 hts gX4_stateAfter_X4_in rfl rfl rfl (by decide +kernel) ⟨Nat.le_of_ble_eq_true rfl, Nat.le_of_ble_eq_true rfl⟩) hK hB hA (List.Perm.refl _) (List.Perm.refl _) rfl hl.1 rfl (Nat.le_of_ble_eq_true rfl) dX4_stateAfter_19 ⟨Nat.zero_le _, Nat.zero_le _⟩ (fun z7 H locs hB => ?_)
    obtain ⟨v8, hJ10, hf⟩ := ob1_s hf
    have kJ11 : (v8 = 0 ∨ v8 = 1) → ∀ (H : Heap) (locs : List Loc) (ls : Array Slot), Bd (dC, dI) [(cyI, .int), (cyO, .array .int)] (va_A (cM cyI cyO ad μ) s.heap.size) s (cM cyI cyO ad μ3) H locs → lv_has ls 4 [(0, .ref (ad 0)), (1, .int i1), (2, .int i2)] → W p l e (headSpec wsX4_stateAfter rmX4_stateAfter).room s m ([.ref (ad 0), .int i1, .int i2] : List Value).toArray below meth c H locs 0 0 (MQ below (QiF (dC, dI) [(cyI, .int), (cyO, .array .int)] (cM cyI cyO ad μ) (cM cyI cyO ad μ_) s.heap.size r) ([.ref (ad 0), .int i1, .int i2] : List Value).toArray s 0 0 (va_A (cM cyI cyO ad μ) s.heap.size)) (F0 m 30 ls [.int v8, .ref (ad 0)]) := by
      intro z9 H locs ls hB hl
      refine lv_iconst (v := (2 : Int32)) hx hb dX4_stateAfter_30 (by decide) ?_
      obtain ⟨r13, μ14, hc, hf⟩ := ob2_s hf
      refine g_callVz (As := [.int v8, .int (2 : Int32)]) (rest := []) ⟨hx, hb, hml, hown, hts⟩ (kX4_fails l dC dI cyI cyO ad H.size hc) (cwV 2 hts gX4_stateAfter_X4_fails rfl rfl rfl (by decide +kernel) ⟨Nat.le_of_ble_eq_true rfl, Nat.le_of_ble_eq_true rfl⟩) hK hB hA (g_recv (ci := 4) hK hB 0 rfl rfl rfl) rfl hl.1 rfl (Nat.le_of_ble_eq_true rfl) dX4_stateAfter_31 ⟨Nat.zero_le _, Nat.zero_le _⟩ (fun z15 H locs hB => ?_)
      refine lv_if_eq (tgt := 39) hx hb dX4_stateAfter_34 (by decide) (fun c16 => ?_) (fun c16 => ?_)
      · have hf := ite_t c16 hf
        refine lv_aload_n hx hb dX4_stateAfter_39 rfl (lv_at hl 0 rfl) ?_
        refine g_get (C := RX4) (T := TX4) (N := 15) hx hb hts hinX4 hown hK hB 0 rfl rfl 8 rfl hq2 rfl rfl dX4_stateAfter_40 ?_
        refine lv_aload_n hx hb dX4_stateAfter_43 rfl (lv_at hl 0 rfl) ?_
        refine g_get (C := RX4) (T := TX4) (N := 15) hx hb hts hinX4 hown hK hB 0 rfl rfl 10 rfl hq3 rfl rfl dX4_stateAfter_44 ?_
        obtain ⟨f17, hc, hf⟩ := ob1_s hf
        obtain ⟨μ18, e9, hf⟩ := ob1_s hf
        have e9 := inj1 e9
        refine g_copy (rest := []) hx hb hml hown hts hc (va_cwS 2 hts gX4_stateAfter_X4_copy rfl rfl rfl (by decide +kernel) ⟨Nat.le_of_ble_eq_true rfl, Nat.le_of_ble_eq_true rfl⟩) hK rfl hB hA 2 4 rfl rfl (by decide) (w2 := (cM cyI cyO ad μ18)) (by rw [← e9]; rfl) hl.1 rfl (Nat.le_of_ble_eq_true rfl) dX4_stateAfter_47 ⟨Nat.zero_le _, Nat.zero_le _⟩ (fun H locs hB => ?_)
        refine lv_iconst (v := (0 : Int32)) hx hb dX4_stateAfter_50 (by decide) ?_
        refine lv_istore_n (lv' := [(3, .int (0 : Int32)), (0, .ref (ad 0)), (1, .int i1), (2, .int i2)]) hx hb dX4_stateAfter_51 rfl hl (by decide) rfl (fun ls hl => ?_)
        obtain ⟨μ30, hL33, hf⟩ := ob1_s hf
        have kE31 : ∀ (H : Heap) (locs : List Loc) (ls : Array Slot), Bd (dC, dI) [(cyI, .int), (cyO, .array .int)] (va_A (cM cyI cyO ad μ) s.heap.size) s (cM cyI cyO ad μ30) H locs → lv_has ls 4 [(0, .ref (ad 0)), (1, .int i1)] → W p l e (headSpec wsX4_stateAfter rmX4_stateAfter).room s m ([.ref (ad 0), .int i1, .int i2] : List Value).toArray below meth c H locs 0 0 (MQ below (QiF (dC, dI) [(cyI, .int), (cyO, .array .int)] (cM cyI cyO ad μ) (cM cyI cyO ad μ_) s.heap.size r) ([.ref (ad 0), .int i1, .int i2] : List Value).toArray s 0 0 (va_A (cM cyI cyO ad μ) s.heap.size)) (F0 m 75 ls []) := by
          intro H locs ls hB hl
          refine lv_aload_n hx hb dX4_stateAfter_75 rfl (lv_at hl 0 rfl) ?_
          refine lv_iload_n hx hb dX4_stateAfter_76 rfl (lv_at hl 1 rfl) ?_
          refine lv_iconst (v := (0 : Int32)) hx hb dX4_stateAfter_77 (by decide) ?_
          obtain ⟨r35, hc, hf⟩ := ob1_s hf
          refine g_callVi (As := [.int i1, .int (0 : Int32)]) (rest := []) ⟨hx, hb, hml, hown, hts⟩ (kX4_ofJourney l dC dI cyI cyO ad H.size hc) (cwV 2 hts gX4_stateAfter_X4_ofJourney rfl rfl rfl (by decide +kernel) ⟨Nat.le_of_ble_eq_true rfl, Nat.le_of_ble_eq_true rfl⟩) hK hB hA (g_recv (ci := 4) hK hB 0 rfl rfl rfl) rfl hl.1 rfl (Nat.le_of_ble_eq_true rfl) dX4_stateAfter_78 ⟨Nat.zero_le _, Nat.zero_le _⟩ (fun H locs hB => ?_)
          refine lv_istore_n (lv' := [(3, .int r35), (0, .ref (ad 0)), (1, .int i1)]) hx hb dX4_stateAfter_81 rfl hl (by decide) rfl (fun ls hl => ?_)
          refine lv_aload_n hx hb dX4_stateAfter_82 rfl (lv_at hl 1 rfl) ?_
          refine g_get (C := RX4) (T := TX4) (N := 15) hx hb hts hinX4 hown hK hB 0 rfl rfl 10 rfl hq3 rfl rfl dX4_stateAfter_83 ?_
          refine lv_aload_n hx hb dX4_stateAfter_86 rfl (lv_at hl 1 rfl) ?_
          refine g_get (C := RX4) (T := TX4) (N := 15) hx hb hts hinX4 hown hK hB 0 rfl rfl 8 rfl hq2 rfl rfl dX4_stateAfter_87 ?_
          obtain ⟨f36, hc, hf⟩ := ob1_s hf
          obtain ⟨μ37, e9, hf⟩ := ob1_s hf
          have e9 := inj1 e9
          refine g_copy (rest := []) hx hb hml hown hts hc (va_cwS 2 hts gX4_stateAfter_X4_copy rfl rfl rfl (by decide +kernel) ⟨Nat.le_of_ble_eq_true rfl, Nat.le_of_ble_eq_true rfl⟩) hK rfl hB hA 4 2 rfl rfl (by decide) (w2 := (cM cyI cyO ad μ37)) (by rw [← e9]; rfl) hl.1 rfl (Nat.le_of_ble_eq_true rfl) dX4_stateAfter_90 ⟨Nat.zero_le _, Nat.zero_le _⟩ (fun H locs hB => ?_)
          refine lv_iload_n hx hb dX4_stateAfter_93 rfl (lv_at hl 0 rfl) ?_
          obtain ⟨e0, e1⟩ := inj2 hf
          subst e0
          subst e1
          exact g_iret hx hb hr hlocks hK hB dX4_stateAfter_94
        have key32 : ∀ (n9 : Nat) (v39 : Int32) (μ40 : MS) (H : Heap) (locs : List Loc) (ls : Array Slot), loopM (fun st => mX4_stateAfter_L52 fu i1 i2 st.1 st.2) n9 (v39, μ40) = some μ30 → Bd (dC, dI) [(cyI, .int), (cyO, .array .int)] (va_A (cM cyI cyO ad μ) s.heap.size) s (cM cyI cyO ad μ40) H locs → lv_has ls 4 [(3, .int v39), (0, .ref (ad 0)), (1, .int i1), (2, .int i2)] → W p l e (headSpec wsX4_stateAfter rmX4_stateAfter).room s m ([.ref (ad 0), .int i1, .int i2] : List Value).toArray below meth c H locs 0 0 (MQ below (QiF (dC, dI) [(cyI, .int), (cyO, .array .int)] (cM cyI cyO ad μ) (cM cyI cyO ad μ_) s.heap.size r) ([.ref (ad 0), .int i1, .int i2] : List Value).toArray s 0 0 (va_A (cM cyI cyO ad μ) s.heap.size)) (F0 m 52 ls []) := by
          intro n9
          induction n9 with
          | zero => intro v39 μ40 H locs ls hL33; exact (loopM_z hL33).elim
          | succ n9 ih9 =>
            intro v39 μ40 H locs ls hL33 hB hl
            obtain ⟨o41, hg34, hL33⟩ := loopM_s hL33
            have hg34 : mX4_stateAfter_L52 fu i1 i2 v39 μ40 = some o41 := hg34
            unfold mX4_stateAfter_L52 at hg34
            refine lv_iload_n hx hb dX4_stateAfter_52 rfl (lv_at hl 0 rfl) ?_
            refine lv_iload_n hx hb dX4_stateAfter_53 rfl (lv_at hl 3 rfl) ?_
            obtain ⟨t42, hD43, hg34⟩ := ob1_s hg34
            have kTt42 : t42 = true → ∀ (H : Heap) (locs : List Loc), Bd (dC, dI) [(cyI, .int), (cyO, .array .int)] (va_A (cM cyI cyO ad μ) s.heap.size) s (cM cyI cyO ad μ40) H locs → W p l e (headSpec wsX4_stateAfter rmX4_stateAfter).room s m ([.ref (ad 0), .int i1, .int i2] : List Value).toArray below meth c H locs 0 0 (MQ below (QiF (dC, dI) [(cyI, .int), (cyO, .array .int)] (cM cyI cyO ad μ) (cM cyI cyO ad μ_) s.heap.size r) ([.ref (ad 0), .int i1, .int i2] : List Value).toArray s 0 0 (va_A (cM cyI cyO ad μ) s.heap.size)) (F0 m 65 ls []) := by
              intro ht H locs hB
              have hg34 := cnd_t ht hg34
              refine lv_aload_n hx hb dX4_stateAfter_65 rfl (lv_at hl 1 rfl) ?_
              obtain ⟨μ48, hc, hg34⟩ := ob1_s hg34
              refine g_callVv (As := []) (rest := []) ⟨hx, hb, hml, hown, hts⟩ (kX4_tick l dC dI cyI cyO ad H.size hc) (cwV 0 hts gX4_stateAfter_X4_tick rfl rfl rfl (by decide +kernel) ⟨Nat.le_of_ble_eq_true rfl, Nat.le_of_ble_eq_true rfl⟩) hK hB hA (g_recv (ci := 4) hK hB 0 rfl rfl rfl) rfl hl.1 rfl (Nat.le_of_ble_eq_true rfl) dX4_stateAfter_66 ⟨Nat.zero_le _, Nat.zero_le _⟩ (fun H locs hB => ?_)
              refine lv_iinc (v := (v39 + (1 : Int32))) (lv' := [(3, .int (v39 + (1 : Int32))), (0, .ref (ad 0)), (1, .int i1), (2, .int i2)]) hx hb dX4_stateAfter_69 hl (k := 0) rfl rfl (by decide) rfl (fun ls hl => ?_)
              refine lv_goto (tgt := 52) hx hb dX4_stateAfter_72 (by decide) ?_
              have hL33 := el1_r (inj1 hg34) hL33
              exact ih9 _ _ _ _ _ hL33 hB (lv_sub hl [0, 1, 2, 3] rfl)
            have kFt42 : t42 = false → ∀ (H : Heap) (locs : List Loc), Bd (dC, dI) [(cyI, .int), (cyO, .array .int)] (va_A (cM cyI cyO ad μ) s.heap.size) s (cM cyI cyO ad μ40) H locs → W p l e (headSpec wsX4_stateAfter rmX4_stateAfter).room s m ([.ref (ad 0), .int i1, .int i2] : List Value).toArray below meth c H locs 0 0 (MQ below (QiF (dC, dI) [(cyI, .int), (cyO, .array .int)] (cM cyI cyO ad μ) (cM cyI cyO ad μ_) s.heap.size r) ([.ref (ad 0), .int i1, .int i2] : List Value).toArray s 0 0 (va_A (cM cyI cyO ad μ) s.heap.size)) (F0 m 75 ls []) := by
              intro ht H locs hB
              have hg34 := cnd_f ht hg34
              have hL33 := el1_l (inj1 hg34) hL33
              have e0 := inj1 hL33
              subst e0
              exact kE31 _ _ _ hB (lv_sub hl [1, 2] rfl)
            refine lv_icmp_ge (tgt := 75) hx hb dX4_stateAfter_54 (by decide) (fun c44 => ?_) (fun c44 => ?_)
            · have hD43 := ite_t c44 hD43
              have e0 := inj1 hD43
              exact kFt42 e0.symm _ _ hB
            · have hD43 := ite_f c44 hD43
              refine lv_aload_n hx hb dX4_stateAfter_57 rfl (lv_at hl 1 rfl) ?_
              refine lv_iload_n hx hb dX4_stateAfter_58 rfl (lv_at hl 2 rfl) ?_
              obtain ⟨r45, hc, hD43⟩ := ob1_s hD43
              refine g_callVz (As := [.int i1]) (rest := []) ⟨hx, hb, hml, hown, hts⟩ (kX4_rests l dC dI cyI cyO ad H.size hc) (cwV 1 hts gX4_stateAfter_X4_rests rfl rfl rfl (by decide +kernel) ⟨Nat.le_of_ble_eq_true rfl, Nat.le_of_ble_eq_true rfl⟩) hK hB hA (g_recv (ci := 4) hK hB 0 rfl rfl rfl) rfl hl.1 rfl (Nat.le_of_ble_eq_true rfl) dX4_stateAfter_59 ⟨Nat.zero_le _, Nat.zero_le _⟩ (fun z46 H locs hB => ?_)
              refine lv_if_ne (tgt := 75) hx hb dX4_stateAfter_62 (by decide) (fun c47 => ?_) (fun c47 => ?_)
              · have hD43 := ite_f c47 hD43
                have e0 := inj1 hD43
                exact kFt42 e0.symm _ _ hB
              · have hD43 := ite_t c47 hD43
                have e0 := inj1 hD43
                exact kTt42 e0.symm _ _ hB
        exact key32 fu _ _ _ _ _ hL33 hB (lv_sub hl [0, 1, 2, 3] rfl)
      · have hf := ite_f c16 hf
        refine lv_iconst (v := (0 : Int32)) hx hb dX4_stateAfter_37 (by decide) ?_
        obtain ⟨e0, e1⟩ := inj2 hf
        subst e0
        subst e1
        exact g_iret hx hb hr hlocks hK hB dX4_stateAfter_38
    refine lv_if_ne (tgt := 29) hx hb dX4_stateAfter_22 (by decide) (fun c12 => ?_) (fun c12 => ?_)
    · have hJ10 := ite_f c12 hJ10
      refine lv_iconst (v := (0 : Int32)) hx hb dX4_stateAfter_29 (by decide) ?_
      have e0 := inj1 hJ10
      subst e0
      exact kJ11 (Or.inl rfl) _ _ _ hB (lv_sub hl [0, 1, 2] rfl)
    · have hJ10 := ite_t c12 hJ10
      refine lv_iconst (v := (1 : Int32)) hx hb dX4_stateAfter_25 (by decide) ?_
      refine lv_goto (tgt := 30) hx hb dX4_stateAfter_26 (by decide) ?_
      have e0 := inj1 hJ10
      subst e0
      exact kJ11 (Or.inr rfl) _ _ _ hB (lv_sub hl [0, 1, 2] rfl)

abbrev rmX4_help : Room := { frames := 10, cells := 0, slots := 0, locals := 222 }

set_option maxHeartbeats 4000000 in
set_option maxRecDepth 100000 in
theorem kX4_help (l : Launch) (dC : Nat → ClassId) (dI : Nat → Nat → Nat) (cyI cyO : ClassId) (ad : Nat → Nat) (sz : Nat) {fu : Nat} {μ : MS} {i1 : Int32} {i2 : Int32} {r : Int32} {μ_ : MS} (hf : mX4_help fu μ i1 i2 = some (r, μ_)) : Met l yX4_help wsX4_help rmX4_help (PcF (dC, dI) [(cyI, .int), (cyO, .array .int)] (cM cyI cyO ad μ) sz [.ref (ad 0), .int i1, .int i2]) (QiF (dC, dI) [(cyI, .int), (cyO, .array .int)] (cM cyI cyO ad μ) (cM cyI cyO ad μ_) sz r) 0 0 (va_A (cM cyI cyO ad μ) sz) := by
  refine Met.ofW (cc := cX4_help) (maxL := 6) (ret := (some .int)) (by decide) rfl ?_
  intro p e s m args below meth c s₁ B hml hv
  obtain ⟨rfl, hsz, hP, hK, hD0⟩ := hv
  have hx := B.exec
  have hb := B.bytes
  have hr := B.returns
  have hts := atoms_spec (ws := wsX4_help) B.pre
  have hown : s.vm.findClass RX4 = some m.cls := findClass_of_methodNamed B.named
  have hlocks := B.notSynchronized
  subst hsz
  have hA : ∀ q : Nat, s.heap.size ≤ q → va_A (cM cyI cyO ad μ) s.heap.size q := fun q h => Or.inr h
  have hB : Bd (dC, dI) [(cyI, .int), (cyO, .array .int)] (va_A (cM cyI cyO ad μ) s.heap.size) s (cM cyI cyO ad μ) s.heap [] := ⟨hP, hD0.self, va_S.rf⟩
  have hq1 : (Cond.fieldLink RX4 35 "UndoJourneysModel" "thrown" "I").before _ s = true := hts _ (List.mem_of_getElem? (i := 1) rfl)
  have hq2 : (Cond.fieldLink RX4 17 "UndoJourneysModel" "data" "[I").before _ s = true := hts _ (List.mem_of_getElem? (i := 2) rfl)
  have hq3 : (Cond.fieldLink RX4 23 "UndoJourneysModel" "tried" "[I").before _ s = true := hts _ (List.mem_of_getElem? (i := 3) rfl)
  have hinX4 : ∀ w ∈ wsX40, w ∈ wsX4_help := fun w h => List.mem_cons_of_mem _ (List.mem_append_right _ h)
  have hl := lv_entry [.ref (ad 0), .int i1, .int i2] (n := 6) (Nat.le_of_ble_eq_true rfl)
  rw [lg_entry_eq]
  generalize (lg_sl [.ref (ad 0), .int i1, .int i2] ++ List.replicate (6 - (lg_sl [.ref (ad 0), .int i1, .int i2]).length) Slot.unset).toArray = ls at hl ⊢
  have hl : lv_has ls 6 [(0, .ref (ad 0)), (1, .int i1), (2, .int i2)] := hl
  clear hP hD0
  suffices main : ∀ (H : Heap) (locs : List Loc), Bd (dC, dI) [(cyI, .int), (cyO, .array .int)] (va_A (cM cyI cyO ad μ) s.heap.size) s (cM cyI cyO ad μ) H locs → W p l e (headSpec wsX4_help rmX4_help).room s m ([.ref (ad 0), .int i1, .int i2] : List Value).toArray below meth c H locs 0 0 (MQ below (QiF (dC, dI) [(cyI, .int), (cyO, .array .int)] (cM cyI cyO ad μ) (cM cyI cyO ad μ_) s.heap.size r) ([.ref (ad 0), .int i1, .int i2] : List Value).toArray s 0 0 (va_A (cM cyI cyO ad μ) s.heap.size)) (F0 m 0 ls []) from main _ _ hB
  clear hB
  intro H locs hB
  unfold mX4_help at hf
  refine lv_aload_n hx hb dX4_help_0 rfl (lv_at hl 0 rfl) ?_
  refine lv_iconst (v := (0 : Int32)) hx hb dX4_help_1 (by decide) ?_
  obtain ⟨μ1, e9, hf⟩ := ob1_s hf
  have e9 := inj1 e9
  refine g_put (C := RX4) (T := TX4) (N := 15) hx hb hts hinX4 tyX4 tyX4_ok nmX4 hown hK hB 0 rfl rfl 0 rfl hq1 rfl rfl rfl rfl rfl rfl dX4_help_2 (w2 := (cM cyI cyO ad μ1)) (by rw [← e9]; rfl) (fun H locs hB => ?_)
  refine lv_aload_n hx hb dX4_help_5 rfl (lv_at hl 0 rfl) ?_
  refine lv_iload_n hx hb dX4_help_6 rfl (lv_at hl 1 rfl) ?_
  obtain ⟨r2, μ3, hc, hf⟩ := ob2_s hf
  refine g_callVz (As := [.int i1]) (rest := []) ⟨hx, hb, hml, hown, hts⟩ (kX4_noJourney l dC dI cyI cyO ad H.size hc) (cwV 1 hts gX4_help_X4_noJourney rfl rfl rfl (by decide +kernel) ⟨Nat.le_of_ble_eq_true rfl, Nat.le_of_ble_eq_true rfl⟩) hK hB hA (g_recv (ci := 4) hK hB 0 rfl rfl rfl) rfl hl.1 rfl (Nat.le_of_ble_eq_true rfl) dX4_help_7 ⟨Nat.zero_le _, Nat.zero_le _⟩ (fun z4 H locs hB => ?_)
  obtain ⟨t5, μ6, hD7, hf⟩ := ob2_s hf
  have kTt5 : t5 = true → ∀ (H : Heap) (locs : List Loc), Bd (dC, dI) [(cyI, .int), (cyO, .array .int)] (va_A (cM cyI cyO ad μ) s.heap.size) s (cM cyI cyO ad μ6) H locs → W p l e (headSpec wsX4_help rmX4_help).room s m ([.ref (ad 0), .int i1, .int i2] : List Value).toArray below meth c H locs 0 0 (MQ below (QiF (dC, dI) [(cyI, .int), (cyO, .array .int)] (cM cyI cyO ad μ) (cM cyI cyO ad μ_) s.heap.size r) ([.ref (ad 0), .int i1, .int i2] : List Value).toArray s 0 0 (va_A (cM cyI cyO ad μ) s.heap.size)) (F0 m 21 ls []) := by
    intro ht H locs hB
    have hf := cnd_t ht hf
    refine lv_iconst (v := (0 : Int32)) hx hb dX4_help_21 (by decide) ?_
    obtain ⟨e0, e1⟩ := inj2 hf
    subst e0
    subst e1
    exact g_iret hx hb hr hlocks hK hB dX4_help_22
  have kFt5 : t5 = false → ∀ (H : Heap) (locs : List Loc), Bd (dC, dI) [(cyI, .int), (cyO, .array .int)] (va_A (cM cyI cyO ad μ) s.heap.size) s (cM cyI cyO ad μ6) H locs → W p l e (headSpec wsX4_help rmX4_help).room s m ([.ref (ad 0), .int i1, .int i2] : List Value).toArray below meth c H locs 0 0 (MQ below (QiF (dC, dI) [(cyI, .int), (cyO, .array .int)] (cM cyI cyO ad μ) (cM cyI cyO ad μ_) s.heap.size r) ([.ref (ad 0), .int i1, .int i2] : List Value).toArray s 0 0 (va_A (cM cyI cyO ad μ) s.heap.size)) (F0 m 23 ls []) := by
    intro ht H locs hB
    have hf := cnd_f ht hf
    refine lv_aload_n hx hb dX4_help_23 rfl (lv_at hl 0 rfl) ?_
    refine g_get (C := RX4) (T := TX4) (N := 15) hx hb hts hinX4 hown hK hB 0 rfl rfl 8 rfl hq2 rfl rfl dX4_help_24 ?_
    refine lv_aload_n hx hb dX4_help_27 rfl (lv_at hl 0 rfl) ?_
    refine g_get (C := RX4) (T := TX4) (N := 15) hx hb hts hinX4 hown hK hB 0 rfl rfl 10 rfl hq3 rfl rfl dX4_help_28 ?_
    obtain ⟨f13, hc, hf⟩ := ob1_s hf
    obtain ⟨μ14, e9, hf⟩ := ob1_s hf
    have e9 := inj1 e9
    refine g_copy (rest := []) hx hb hml hown hts hc (va_cwS 2 hts gX4_help_X4_copy rfl rfl rfl (by decide +kernel) ⟨Nat.le_of_ble_eq_true rfl, Nat.le_of_ble_eq_true rfl⟩) hK rfl hB hA 2 4 rfl rfl (by decide) (w2 := (cM cyI cyO ad μ14)) (by rw [← e9]; rfl) hl.1 rfl (Nat.le_of_ble_eq_true rfl) dX4_help_31 ⟨Nat.zero_le _, Nat.zero_le _⟩ (fun H locs hB => ?_)
    refine lv_iconst (v := (-1 : Int32)) hx hb dX4_help_34 (by decide) ?_
    refine lv_istore_n (lv' := [(3, .int (-1 : Int32)), (0, .ref (ad 0)), (1, .int i1), (2, .int i2)]) hx hb dX4_help_35 rfl hl (by decide) rfl (fun ls hl => ?_)
    refine lv_iconst (v := (0 : Int32)) hx hb dX4_help_36 (by decide) ?_
    refine lv_istore (lv' := [(4, .int (0 : Int32)), (3, .int (-1 : Int32)), (0, .ref (ad 0)), (1, .int i1), (2, .int i2)]) hx hb dX4_help_37 hl (by decide) rfl (fun ls hl => ?_)
    obtain ⟨v62, μ63, hL66, hf⟩ := ob2_s hf
    have kE64 : ∀ (H : Heap) (locs : List Loc) (ls : Array Slot), Bd (dC, dI) [(cyI, .int), (cyO, .array .int)] (va_A (cM cyI cyO ad μ) s.heap.size) s (cM cyI cyO ad μ63) H locs → lv_has ls 6 [(3, .int v62)] → W p l e (headSpec wsX4_help rmX4_help).room s m ([.ref (ad 0), .int i1, .int i2] : List Value).toArray below meth c H locs 0 0 (MQ below (QiF (dC, dI) [(cyI, .int), (cyO, .array .int)] (cM cyI cyO ad μ) (cM cyI cyO ad μ_) s.heap.size r) ([.ref (ad 0), .int i1, .int i2] : List Value).toArray s 0 0 (va_A (cM cyI cyO ad μ) s.heap.size)) (F0 m 129 ls []) := by
      intro H locs ls hB hl
      refine lv_iload_n hx hb dX4_help_129 rfl (lv_at hl 0 rfl) ?_
      obtain ⟨e0, e1⟩ := inj2 hf
      subst e0
      subst e1
      exact g_iret hx hb hr hlocks hK hB dX4_help_130
    have key65 : ∀ (n9 : Nat) (v69 : Int32) (v70 : Int32) (μ71 : MS) (H : Heap) (locs : List Loc) (ls : Array Slot), loopM (fun st => mX4_help_L39 fu i1 i2 st.1 st.2.1 st.2.2) n9 (v69, v70, μ71) = some (v62, μ63) → Bd (dC, dI) [(cyI, .int), (cyO, .array .int)] (va_A (cM cyI cyO ad μ) s.heap.size) s (cM cyI cyO ad μ71) H locs → lv_has ls 6 [(4, .int v69), (3, .int v70), (0, .ref (ad 0)), (1, .int i1), (2, .int i2)] → W p l e (headSpec wsX4_help rmX4_help).room s m ([.ref (ad 0), .int i1, .int i2] : List Value).toArray below meth c H locs 0 0 (MQ below (QiF (dC, dI) [(cyI, .int), (cyO, .array .int)] (cM cyI cyO ad μ) (cM cyI cyO ad μ_) s.heap.size r) ([.ref (ad 0), .int i1, .int i2] : List Value).toArray s 0 0 (va_A (cM cyI cyO ad μ) s.heap.size)) (F0 m 39 ls []) := by
      intro n9
      induction n9 with
      | zero => intro v69 v70 μ71 H locs ls hL66; exact (loopM_z hL66).elim
      | succ n9 ih9 =>
        intro v69 v70 μ71 H locs ls hL66 hB hl
        obtain ⟨o72, hg67, hL66⟩ := loopM_s hL66
        have hg67 : mX4_help_L39 fu i1 i2 v69 v70 μ71 = some o72 := hg67
        unfold mX4_help_L39 at hg67
        refine lv_iload hx hb dX4_help_39 (lv_at hl 0 rfl) ?_
        refine lv_sipush (v := (999 : Int32)) hx hb dX4_help_41 (by decide) ?_
        obtain ⟨t73, hD74, hg67⟩ := ob1_s hg67
        have kTt73 : t73 = true → ∀ (H : Heap) (locs : List Loc), Bd (dC, dI) [(cyI, .int), (cyO, .array .int)] (va_A (cM cyI cyO ad μ) s.heap.size) s (cM cyI cyO ad μ71) H locs → W p l e (headSpec wsX4_help rmX4_help).room s m ([.ref (ad 0), .int i1, .int i2] : List Value).toArray below meth c H locs 0 0 (MQ below (QiF (dC, dI) [(cyI, .int), (cyO, .array .int)] (cM cyI cyO ad μ) (cM cyI cyO ad μ_) s.heap.size r) ([.ref (ad 0), .int i1, .int i2] : List Value).toArray s 0 0 (va_A (cM cyI cyO ad μ) s.heap.size)) (F0 m 52 ls []) := by
          intro ht H locs hB
          have hg67 := cnd_t ht hg67
          refine lv_aload_n hx hb dX4_help_52 rfl (lv_at hl 2 rfl) ?_
          refine g_get (C := RX4) (T := TX4) (N := 15) hx hb hts hinX4 hown hK hB 0 rfl rfl 8 rfl hq2 rfl rfl dX4_help_53 ?_
          refine lv_bipush (v := (7 : Int32)) hx hb dX4_help_56 (by decide) ?_
          refine lv_iconst (v := (2 : Int32)) hx hb dX4_help_58 (by decide) ?_
          refine lv_iload_n hx hb dX4_help_59 rfl (lv_at hl 4 rfl) ?_
          refine lv_imul hx hb dX4_help_60 ?_
          refine lv_iadd hx hb dX4_help_61 ?_
          refine lv_iconst (v := (0 : Int32)) hx hb dX4_help_62 (by decide) ?_
          refine lv_iadd hx hb dX4_help_63 ?_
          refine lv_dup2_11 hx hb dX4_help_64 rfl rfl ?_
          obtain ⟨x77, e9, hg67⟩ := ob1_s hg67
          refine g_iald hx hb hK hB 2 0 rfl rfl (rd_s e9) dX4_help_65 ?_
          refine lv_iload hx hb dX4_help_66 (lv_at hl 0 rfl) ?_
          refine lv_iadd hx hb dX4_help_68 ?_
          obtain ⟨μ78, e9, hg67⟩ := ob1_s hg67
          obtain ⟨hi, e9⟩ := wra_s e9
          refine g_iast hx hb hK hB 2 0 rfl rfl hi rfl dX4_help_69 (w2 := (cM cyI cyO ad μ78)) (by rw [← e9]; rfl) (fun H locs hB => ?_)
          refine lv_iconst (v := (0 : Int32)) hx hb dX4_help_70 (by decide) ?_
          refine lv_istore (lv' := [(5, .int (0 : Int32)), (4, .int v69), (3, .int v70), (0, .ref (ad 0)), (1, .int i1), (2, .int i2)]) hx hb dX4_help_71 hl (by decide) rfl (fun ls hl => ?_)
          obtain ⟨μ85, hL88, hg67⟩ := ob1_s hg67
          have kE86 : ∀ (H : Heap) (locs : List Loc) (ls : Array Slot), Bd (dC, dI) [(cyI, .int), (cyO, .array .int)] (va_A (cM cyI cyO ad μ) s.heap.size) s (cM cyI cyO ad μ85) H locs → lv_has ls 6 [(4, .int v69), (3, .int v70), (0, .ref (ad 0)), (1, .int i1), (2, .int i2)] → W p l e (headSpec wsX4_help rmX4_help).room s m ([.ref (ad 0), .int i1, .int i2] : List Value).toArray below meth c H locs 0 0 (MQ below (QiF (dC, dI) [(cyI, .int), (cyO, .array .int)] (cM cyI cyO ad μ) (cM cyI cyO ad μ_) s.heap.size r) ([.ref (ad 0), .int i1, .int i2] : List Value).toArray s 0 0 (va_A (cM cyI cyO ad μ) s.heap.size)) (F0 m 99 ls []) := by
            intro H locs ls hB hl
            refine lv_aload_n hx hb dX4_help_99 rfl (lv_at hl 2 rfl) ?_
            refine lv_iload_n hx hb dX4_help_100 rfl (lv_at hl 3 rfl) ?_
            refine lv_iconst (v := (0 : Int32)) hx hb dX4_help_101 (by decide) ?_
            obtain ⟨r90, hc, hg67⟩ := ob1_s hg67
            refine g_callVi (As := [.int i1, .int (0 : Int32)]) (rest := []) ⟨hx, hb, hml, hown, hts⟩ (kX4_ofJourney l dC dI cyI cyO ad H.size hc) (cwV 2 hts gX4_help_X4_ofJourney rfl rfl rfl (by decide +kernel) ⟨Nat.le_of_ble_eq_true rfl, Nat.le_of_ble_eq_true rfl⟩) hK hB hA (g_recv (ci := 4) hK hB 0 rfl rfl rfl) rfl hl.1 rfl (Nat.le_of_ble_eq_true rfl) dX4_help_102 ⟨Nat.zero_le _, Nat.zero_le _⟩ (fun H locs hB => ?_)
            refine lv_iconst (v := (3 : Int32)) hx hb dX4_help_105 (by decide) ?_
            obtain ⟨v91, hJ92, hg67⟩ := ob1_s hg67
            have kJ93 : ∀ (H : Heap) (locs : List Loc) (ls : Array Slot), Bd (dC, dI) [(cyI, .int), (cyO, .array .int)] (va_A (cM cyI cyO ad μ) s.heap.size) s (cM cyI cyO ad μ85) H locs → lv_has ls 6 [(4, .int v69), (3, .int v91), (0, .ref (ad 0)), (1, .int i1), (2, .int i2)] → W p l e (headSpec wsX4_help rmX4_help).room s m ([.ref (ad 0), .int i1, .int i2] : List Value).toArray below meth c H locs 0 0 (MQ below (QiF (dC, dI) [(cyI, .int), (cyO, .array .int)] (cM cyI cyO ad μ) (cM cyI cyO ad μ_) s.heap.size r) ([.ref (ad 0), .int i1, .int i2] : List Value).toArray s 0 0 (va_A (cM cyI cyO ad μ) s.heap.size)) (F0 m 112 ls []) := by
              intro H locs ls hB hl
              refine lv_aload_n hx hb dX4_help_112 rfl (lv_at hl 2 rfl) ?_
              refine g_get (C := RX4) (T := TX4) (N := 15) hx hb hts hinX4 hown hK hB 0 rfl rfl 10 rfl hq3 rfl rfl dX4_help_113 ?_
              refine lv_aload_n hx hb dX4_help_116 rfl (lv_at hl 2 rfl) ?_
              refine g_get (C := RX4) (T := TX4) (N := 15) hx hb hts hinX4 hown hK hB 0 rfl rfl 8 rfl hq2 rfl rfl dX4_help_117 ?_
              obtain ⟨f95, hc, hg67⟩ := ob1_s hg67
              obtain ⟨μ96, e9, hg67⟩ := ob1_s hg67
              have e9 := inj1 e9
              refine g_copy (rest := []) hx hb hml hown hts hc (va_cwS 2 hts gX4_help_X4_copy rfl rfl rfl (by decide +kernel) ⟨Nat.le_of_ble_eq_true rfl, Nat.le_of_ble_eq_true rfl⟩) hK rfl hB hA 4 2 rfl rfl (by decide) (w2 := (cM cyI cyO ad μ96)) (by rw [← e9]; rfl) hl.1 rfl (Nat.le_of_ble_eq_true rfl) dX4_help_120 ⟨Nat.zero_le _, Nat.zero_le _⟩ (fun H locs hB => ?_)
              refine lv_iinc (v := (v69 + (1 : Int32))) (lv' := [(4, .int (v69 + (1 : Int32))), (3, .int v91), (0, .ref (ad 0)), (1, .int i1), (2, .int i2)]) hx hb dX4_help_123 hl (k := 0) rfl rfl (by decide) rfl (fun ls hl => ?_)
              refine lv_goto (tgt := 39) hx hb dX4_help_126 (by decide) ?_
              have hL66 := el1_r (inj1 hg67) hL66
              exact ih9 _ _ _ _ _ _ hL66 hB (lv_sub hl [0, 1, 2, 3, 4] rfl)
            refine lv_icmp_ne (tgt := 112) hx hb dX4_help_106 (by decide) (fun c94 => ?_) (fun c94 => ?_)
            · have hJ92 := ite_f c94 hJ92
              have e0 := inj1 hJ92
              subst e0
              exact kJ93 _ _ _ hB (lv_sub hl [0, 1, 2, 3, 4] rfl)
            · have hJ92 := ite_t c94 hJ92
              refine lv_iload hx hb dX4_help_109 (lv_at hl 0 rfl) ?_
              refine lv_istore_n (lv' := [(3, .int v69), (4, .int v69), (0, .ref (ad 0)), (1, .int i1), (2, .int i2)]) hx hb dX4_help_111 rfl hl (by decide) rfl (fun ls hl => ?_)
              have e0 := inj1 hJ92
              subst e0
              exact kJ93 _ _ _ hB (lv_sub hl [1, 0, 2, 3, 4] rfl)
          have key87 : ∀ (n9 : Nat) (v98 : Int32) (μ99 : MS) (H : Heap) (locs : List Loc) (ls : Array Slot), loopM (fun st => mX4_help_L73 fu v69 v70 i1 i2 st.1 st.2) n9 (v98, μ99) = some μ85 → Bd (dC, dI) [(cyI, .int), (cyO, .array .int)] (va_A (cM cyI cyO ad μ) s.heap.size) s (cM cyI cyO ad μ99) H locs → lv_has ls 6 [(5, .int v98), (4, .int v69), (3, .int v70), (0, .ref (ad 0)), (1, .int i1), (2, .int i2)] → W p l e (headSpec wsX4_help rmX4_help).room s m ([.ref (ad 0), .int i1, .int i2] : List Value).toArray below meth c H locs 0 0 (MQ below (QiF (dC, dI) [(cyI, .int), (cyO, .array .int)] (cM cyI cyO ad μ) (cM cyI cyO ad μ_) s.heap.size r) ([.ref (ad 0), .int i1, .int i2] : List Value).toArray s 0 0 (va_A (cM cyI cyO ad μ) s.heap.size)) (F0 m 73 ls []) := by
            intro n9
            induction n9 with
            | zero => intro v98 μ99 H locs ls hL88; exact (loopM_z hL88).elim
            | succ n9 ih9 =>
              intro v98 μ99 H locs ls hL88 hB hl
              obtain ⟨o100, hg89, hL88⟩ := loopM_s hL88
              have hg89 : mX4_help_L73 fu v69 v70 i1 i2 v98 μ99 = some o100 := hg89
              unfold mX4_help_L73 at hg89
              refine lv_iload hx hb dX4_help_73 (lv_at hl 0 rfl) ?_
              refine lv_sipush (v := (1100 : Int32)) hx hb dX4_help_75 (by decide) ?_
              obtain ⟨t101, hD102, hg89⟩ := ob1_s hg89
              have kTt101 : t101 = true → ∀ (H : Heap) (locs : List Loc), Bd (dC, dI) [(cyI, .int), (cyO, .array .int)] (va_A (cM cyI cyO ad μ) s.heap.size) s (cM cyI cyO ad μ99) H locs → W p l e (headSpec wsX4_help rmX4_help).room s m ([.ref (ad 0), .int i1, .int i2] : List Value).toArray below meth c H locs 0 0 (MQ below (QiF (dC, dI) [(cyI, .int), (cyO, .array .int)] (cM cyI cyO ad μ) (cM cyI cyO ad μ_) s.heap.size r) ([.ref (ad 0), .int i1, .int i2] : List Value).toArray s 0 0 (va_A (cM cyI cyO ad μ) s.heap.size)) (F0 m 89 ls []) := by
                intro ht H locs hB
                have hg89 := cnd_t ht hg89
                refine lv_aload_n hx hb dX4_help_89 rfl (lv_at hl 3 rfl) ?_
                obtain ⟨μ107, hc, hg89⟩ := ob1_s hg89
                refine g_callVv (As := []) (rest := []) ⟨hx, hb, hml, hown, hts⟩ (kX4_tick l dC dI cyI cyO ad H.size hc) (cwV 0 hts gX4_help_X4_tick rfl rfl rfl (by decide +kernel) ⟨Nat.le_of_ble_eq_true rfl, Nat.le_of_ble_eq_true rfl⟩) hK hB hA (g_recv (ci := 4) hK hB 0 rfl rfl rfl) rfl hl.1 rfl (Nat.le_of_ble_eq_true rfl) dX4_help_90 ⟨Nat.zero_le _, Nat.zero_le _⟩ (fun H locs hB => ?_)
                refine lv_iinc (v := (v98 + (1 : Int32))) (lv' := [(5, .int (v98 + (1 : Int32))), (4, .int v69), (3, .int v70), (0, .ref (ad 0)), (1, .int i1), (2, .int i2)]) hx hb dX4_help_93 hl (k := 0) rfl rfl (by decide) rfl (fun ls hl => ?_)
                refine lv_goto (tgt := 73) hx hb dX4_help_96 (by decide) ?_
                have hL88 := el1_r (inj1 hg89) hL88
                exact ih9 _ _ _ _ _ hL88 hB (lv_sub hl [0, 1, 2, 3, 4, 5] rfl)
              have kFt101 : t101 = false → ∀ (H : Heap) (locs : List Loc), Bd (dC, dI) [(cyI, .int), (cyO, .array .int)] (va_A (cM cyI cyO ad μ) s.heap.size) s (cM cyI cyO ad μ99) H locs → W p l e (headSpec wsX4_help rmX4_help).room s m ([.ref (ad 0), .int i1, .int i2] : List Value).toArray below meth c H locs 0 0 (MQ below (QiF (dC, dI) [(cyI, .int), (cyO, .array .int)] (cM cyI cyO ad μ) (cM cyI cyO ad μ_) s.heap.size r) ([.ref (ad 0), .int i1, .int i2] : List Value).toArray s 0 0 (va_A (cM cyI cyO ad μ) s.heap.size)) (F0 m 99 ls []) := by
                intro ht H locs hB
                have hg89 := cnd_f ht hg89
                have hL88 := el1_l (inj1 hg89) hL88
                have e0 := inj1 hL88
                subst e0
                exact kE86 _ _ _ hB (lv_sub hl [1, 2, 3, 4, 5] rfl)
              refine lv_icmp_ge (tgt := 99) hx hb dX4_help_78 (by decide) (fun c103 => ?_) (fun c103 => ?_)
              · have hD102 := ite_t c103 hD102
                have e0 := inj1 hD102
                exact kFt101 e0.symm _ _ hB
              · have hD102 := ite_f c103 hD102
                refine lv_aload_n hx hb dX4_help_81 rfl (lv_at hl 3 rfl) ?_
                refine lv_iload_n hx hb dX4_help_82 rfl (lv_at hl 4 rfl) ?_
                obtain ⟨r104, hc, hD102⟩ := ob1_s hD102
                refine g_callVz (As := [.int i1]) (rest := []) ⟨hx, hb, hml, hown, hts⟩ (kX4_rests l dC dI cyI cyO ad H.size hc) (cwV 1 hts gX4_help_X4_rests rfl rfl rfl (by decide +kernel) ⟨Nat.le_of_ble_eq_true rfl, Nat.le_of_ble_eq_true rfl⟩) hK hB hA (g_recv (ci := 4) hK hB 0 rfl rfl rfl) rfl hl.1 rfl (Nat.le_of_ble_eq_true rfl) dX4_help_83 ⟨Nat.zero_le _, Nat.zero_le _⟩ (fun z105 H locs hB => ?_)
                refine lv_if_ne (tgt := 99) hx hb dX4_help_86 (by decide) (fun c106 => ?_) (fun c106 => ?_)
                · have hD102 := ite_f c106 hD102
                  have e0 := inj1 hD102
                  exact kFt101 e0.symm _ _ hB
                · have hD102 := ite_t c106 hD102
                  have e0 := inj1 hD102
                  exact kTt101 e0.symm _ _ hB
          exact key87 fu _ _ _ _ _ hL88 hB (lv_sub hl [0, 1, 2, 3, 4, 5] rfl)
        have kFt73 : t73 = false → ∀ (H : Heap) (locs : List Loc), Bd (dC, dI) [(cyI, .int), (cyO, .array .int)] (va_A (cM cyI cyO ad μ) s.heap.size) s (cM cyI cyO ad μ71) H locs → W p l e (headSpec wsX4_help rmX4_help).room s m ([.ref (ad 0), .int i1, .int i2] : List Value).toArray below meth c H locs 0 0 (MQ below (QiF (dC, dI) [(cyI, .int), (cyO, .array .int)] (cM cyI cyO ad μ) (cM cyI cyO ad μ_) s.heap.size r) ([.ref (ad 0), .int i1, .int i2] : List Value).toArray s 0 0 (va_A (cM cyI cyO ad μ) s.heap.size)) (F0 m 129 ls []) := by
          intro ht H locs hB
          have hg67 := cnd_f ht hg67
          have hL66 := el1_l (inj1 hg67) hL66
          obtain ⟨e0, e1⟩ := inj2 hL66
          subst e0
          subst e1
          exact kE64 _ _ _ hB (lv_sub hl [1] rfl)
        refine lv_icmp_gt (tgt := 129) hx hb dX4_help_44 (by decide) (fun c75 => ?_) (fun c75 => ?_)
        · have hD74 := ite_t c75 hD74
          have e0 := inj1 hD74
          exact kFt73 e0.symm _ _ hB
        · have hD74 := ite_f c75 hD74
          refine lv_iload_n hx hb dX4_help_47 rfl (lv_at hl 1 rfl) ?_
          refine lv_iconst (v := (-1 : Int32)) hx hb dX4_help_48 (by decide) ?_
          refine lv_icmp_ne (tgt := 129) hx hb dX4_help_49 (by decide) (fun c76 => ?_) (fun c76 => ?_)
          · have hD74 := ite_f c76 hD74
            have e0 := inj1 hD74
            exact kFt73 e0.symm _ _ hB
          · have hD74 := ite_t c76 hD74
            have e0 := inj1 hD74
            exact kTt73 e0.symm _ _ hB
    exact key65 fu _ _ _ _ _ _ hL66 hB (lv_sub hl [0, 1, 2, 3, 4] rfl)
  refine lv_if_ne (tgt := 21) hx hb dX4_help_10 (by decide) (fun c8 => ?_) (fun c8 => ?_)
  · have hD7 := ite_f c8 hD7
    obtain ⟨e0, e1⟩ := inj2 hD7
    subst e1
    exact kTt5 e0.symm _ _ hB
  · have hD7 := ite_t c8 hD7
    refine lv_aload_n hx hb dX4_help_13 rfl (lv_at hl 0 rfl) ?_
    refine lv_iload_n hx hb dX4_help_14 rfl (lv_at hl 2 rfl) ?_
    obtain ⟨r9, μ10, hc, hD7⟩ := ob2_s hD7
    refine g_callVz (As := [.int i2]) (rest := []) ⟨hx, hb, hml, hown, hts⟩ (kX4_noStock l dC dI cyI cyO ad H.size hc) (cwV 1 hts gX4_help_X4_noStock rfl rfl rfl (by decide +kernel) ⟨Nat.le_of_ble_eq_true rfl, Nat.le_of_ble_eq_true rfl⟩) hK hB hA (g_recv (ci := 4) hK hB 0 rfl rfl rfl) rfl hl.1 rfl (Nat.le_of_ble_eq_true rfl) dX4_help_15 ⟨Nat.zero_le _, Nat.zero_le _⟩ (fun z11 H locs hB => ?_)
    refine lv_if_eq (tgt := 23) hx hb dX4_help_18 (by decide) (fun c12 => ?_) (fun c12 => ?_)
    · have hD7 := ite_t c12 hD7
      obtain ⟨e0, e1⟩ := inj2 hD7
      subst e1
      exact kFt5 e0.symm _ _ hB
    · have hD7 := ite_f c12 hD7
      obtain ⟨e0, e1⟩ := inj2 hD7
      subst e1
      exact kTt5 e0.symm _ _ hB

abbrev rmX4_pass : Room := { frames := 10, cells := 0, slots := 0, locals := 222 }

set_option maxHeartbeats 4000000 in
set_option maxRecDepth 100000 in
theorem kX4_pass (l : Launch) (dC : Nat → ClassId) (dI : Nat → Nat → Nat) (cyI cyO : ClassId) (ad : Nat → Nat) (sz : Nat) {fu : Nat} {μ : MS} {i1 : Int32} {r : Int32} {μ_ : MS} (hf : mX4_pass fu μ i1 = some (r, μ_)) : Met l yX4_pass wsX4_pass rmX4_pass (PcF (dC, dI) [(cyI, .int), (cyO, .array .int)] (cM cyI cyO ad μ) sz [.ref (ad 0), .int i1]) (QiF (dC, dI) [(cyI, .int), (cyO, .array .int)] (cM cyI cyO ad μ) (cM cyI cyO ad μ_) sz r) 0 0 (va_A (cM cyI cyO ad μ) sz) := by
  refine Met.ofW (cc := cX4_pass) (maxL := 4) (ret := (some .int)) (by decide) rfl ?_
  intro p e s m args below meth c s₁ B hml hv
  obtain ⟨rfl, hsz, hP, hK, hD0⟩ := hv
  have hx := B.exec
  have hb := B.bytes
  have hr := B.returns
  have hts := atoms_spec (ws := wsX4_pass) B.pre
  have hown : s.vm.findClass RX4 = some m.cls := findClass_of_methodNamed B.named
  have hlocks := B.notSynchronized
  subst hsz
  have hA : ∀ q : Nat, s.heap.size ≤ q → va_A (cM cyI cyO ad μ) s.heap.size q := fun q h => Or.inr h
  have hB : Bd (dC, dI) [(cyI, .int), (cyO, .array .int)] (va_A (cM cyI cyO ad μ) s.heap.size) s (cM cyI cyO ad μ) s.heap [] := ⟨hP, hD0.self, va_S.rf⟩
  have hq1 : (Cond.fieldLink RX4 35 "UndoJourneysModel" "thrown" "I").before _ s = true := hts _ (List.mem_of_getElem? (i := 1) rfl)
  have hq2 : (Cond.fieldLink RX4 17 "UndoJourneysModel" "data" "[I").before _ s = true := hts _ (List.mem_of_getElem? (i := 2) rfl)
  have hinX4 : ∀ w ∈ wsX40, w ∈ wsX4_pass := fun w h => List.mem_cons_of_mem _ (List.mem_append_right _ h)
  have hl := lv_entry [.ref (ad 0), .int i1] (n := 4) (Nat.le_of_ble_eq_true rfl)
  rw [lg_entry_eq]
  generalize (lg_sl [.ref (ad 0), .int i1] ++ List.replicate (4 - (lg_sl [.ref (ad 0), .int i1]).length) Slot.unset).toArray = ls at hl ⊢
  have hl : lv_has ls 4 [(0, .ref (ad 0)), (1, .int i1)] := hl
  clear hP hD0
  suffices main : ∀ (H : Heap) (locs : List Loc), Bd (dC, dI) [(cyI, .int), (cyO, .array .int)] (va_A (cM cyI cyO ad μ) s.heap.size) s (cM cyI cyO ad μ) H locs → W p l e (headSpec wsX4_pass rmX4_pass).room s m ([.ref (ad 0), .int i1] : List Value).toArray below meth c H locs 0 0 (MQ below (QiF (dC, dI) [(cyI, .int), (cyO, .array .int)] (cM cyI cyO ad μ) (cM cyI cyO ad μ_) s.heap.size r) ([.ref (ad 0), .int i1] : List Value).toArray s 0 0 (va_A (cM cyI cyO ad μ) s.heap.size)) (F0 m 0 ls []) from main _ _ hB
  clear hB
  intro H locs hB
  unfold mX4_pass at hf
  refine lv_aload_n hx hb dX4_pass_0 rfl (lv_at hl 0 rfl) ?_
  refine lv_iconst (v := (0 : Int32)) hx hb dX4_pass_1 (by decide) ?_
  obtain ⟨μ1, e9, hf⟩ := ob1_s hf
  have e9 := inj1 e9
  refine g_put (C := RX4) (T := TX4) (N := 15) hx hb hts hinX4 tyX4 tyX4_ok nmX4 hown hK hB 0 rfl rfl 0 rfl hq1 rfl rfl rfl rfl rfl rfl dX4_pass_2 (w2 := (cM cyI cyO ad μ1)) (by rw [← e9]; rfl) (fun H locs hB => ?_)
  refine lv_aload_n hx hb dX4_pass_5 rfl (lv_at hl 0 rfl) ?_
  refine lv_iload_n hx hb dX4_pass_6 rfl (lv_at hl 1 rfl) ?_
  refine lv_iconst (v := (1 : Int32)) hx hb dX4_pass_7 (by decide) ?_
  refine lv_sipush (v := (200 : Int32)) hx hb dX4_pass_8 (by decide) ?_
  obtain ⟨r2, hc, hf⟩ := ob1_s hf
  refine g_pcutSz (As := [.int i1, .int (1 : Int32), .int (200 : Int32)]) (rest := [.ref (ad 0)]) (w2 := (cM cyI cyO ad μ1)) ⟨hx, hb, hml, hown, hts⟩ (kX4_in l dC dI [(cyI, .int), (cyO, .array .int)] H.size hc) (va_cwS 3 hts gX4_pass_X4_in rfl rfl rfl (by decide +kernel) ⟨Nat.le_of_ble_eq_true rfl, Nat.le_of_ble_eq_true rfl⟩) hK hB hA (List.Perm.refl _) (List.Perm.refl _) rfl hl.1 rfl (Nat.le_of_ble_eq_true rfl) dX4_pass_11 ⟨Nat.zero_le _, Nat.zero_le _⟩ (fun z3 H locs hB => ?_)
  obtain ⟨v4, hJ6, hf⟩ := ob1_s hf
  have kJ7 : (v4 = 0 ∨ v4 = 1) → ∀ (H : Heap) (locs : List Loc) (ls : Array Slot), Bd (dC, dI) [(cyI, .int), (cyO, .array .int)] (va_A (cM cyI cyO ad μ) s.heap.size) s (cM cyI cyO ad μ1) H locs → lv_has ls 4 [(0, .ref (ad 0)), (1, .int i1)] → W p l e (headSpec wsX4_pass rmX4_pass).room s m ([.ref (ad 0), .int i1] : List Value).toArray below meth c H locs 0 0 (MQ below (QiF (dC, dI) [(cyI, .int), (cyO, .array .int)] (cM cyI cyO ad μ) (cM cyI cyO ad μ_) s.heap.size r) ([.ref (ad 0), .int i1] : List Value).toArray s 0 0 (va_A (cM cyI cyO ad μ) s.heap.size)) (F0 m 36 ls [.int v4, .ref (ad 0)]) := by
    intro z5 H locs ls hB hl
    refine lv_iconst (v := (1 : Int32)) hx hb dX4_pass_36 (by decide) ?_
    obtain ⟨r13, μ14, hc, hf⟩ := ob2_s hf
    refine g_callVz (As := [.int v4, .int (1 : Int32)]) (rest := []) ⟨hx, hb, hml, hown, hts⟩ (kX4_fails l dC dI cyI cyO ad H.size hc) (cwV 2 hts gX4_pass_X4_fails rfl rfl rfl (by decide +kernel) ⟨Nat.le_of_ble_eq_true rfl, Nat.le_of_ble_eq_true rfl⟩) hK hB hA (g_recv (ci := 4) hK hB 0 rfl rfl rfl) rfl hl.1 rfl (Nat.le_of_ble_eq_true rfl) dX4_pass_37 ⟨Nat.zero_le _, Nat.zero_le _⟩ (fun z15 H locs hB => ?_)
    refine lv_if_eq (tgt := 45) hx hb dX4_pass_40 (by decide) (fun c16 => ?_) (fun c16 => ?_)
    · have hf := ite_t c16 hf
      refine lv_aload_n hx hb dX4_pass_45 rfl (lv_at hl 0 rfl) ?_
      obtain ⟨μ17, hc, hf⟩ := ob1_s hf
      refine g_callVv (As := []) (rest := []) ⟨hx, hb, hml, hown, hts⟩ (kX4_remember l dC dI cyI cyO ad H.size hc) (cwV 0 hts gX4_pass_X4_remember rfl rfl rfl (by decide +kernel) ⟨Nat.le_of_ble_eq_true rfl, Nat.le_of_ble_eq_true rfl⟩) hK hB hA (g_recv (ci := 4) hK hB 0 rfl rfl rfl) rfl hl.1 rfl (Nat.le_of_ble_eq_true rfl) dX4_pass_46 ⟨Nat.zero_le _, Nat.zero_le _⟩ (fun H locs hB => ?_)
      refine lv_aload_n hx hb dX4_pass_49 rfl (lv_at hl 0 rfl) ?_
      refine lv_iconst (v := (3 : Int32)) hx hb dX4_pass_50 (by decide) ?_
      obtain ⟨r18, hc, hf⟩ := ob1_s hf
      refine g_callVi (As := [.int (3 : Int32)]) (rest := []) ⟨hx, hb, hml, hown, hts⟩ (kX4_countOf l dC dI cyI cyO ad H.size hc) (cwV 1 hts gX4_pass_X4_countOf rfl rfl rfl (by decide +kernel) ⟨Nat.le_of_ble_eq_true rfl, Nat.le_of_ble_eq_true rfl⟩) hK hB hA (g_recv (ci := 4) hK hB 0 rfl rfl rfl) rfl hl.1 rfl (Nat.le_of_ble_eq_true rfl) dX4_pass_51 ⟨Nat.zero_le _, Nat.zero_le _⟩ (fun H locs hB => ?_)
      refine lv_aload_n hx hb dX4_pass_54 rfl (lv_at hl 0 rfl) ?_
      refine lv_iconst (v := (4 : Int32)) hx hb dX4_pass_55 (by decide) ?_
      obtain ⟨r19, hc, hf⟩ := ob1_s hf
      refine g_callVi (As := [.int (4 : Int32)]) (rest := [.int r18]) ⟨hx, hb, hml, hown, hts⟩ (kX4_countOf l dC dI cyI cyO ad H.size hc) (cwV 1 hts gX4_pass_X4_countOf rfl rfl rfl (by decide +kernel) ⟨Nat.le_of_ble_eq_true rfl, Nat.le_of_ble_eq_true rfl⟩) hK hB hA (g_recv (ci := 4) hK hB 0 rfl rfl rfl) rfl hl.1 rfl (Nat.le_of_ble_eq_true rfl) dX4_pass_56 ⟨Nat.zero_le _, Nat.zero_le _⟩ (fun H locs hB => ?_)
      refine lv_iadd hx hb dX4_pass_59 ?_
      refine lv_istore_n (lv' := [(2, .int (r18 + r19)), (0, .ref (ad 0)), (1, .int i1)]) hx hb dX4_pass_60 rfl hl (by decide) rfl (fun ls hl => ?_)
      refine lv_iconst (v := (0 : Int32)) hx hb dX4_pass_61 (by decide) ?_
      refine lv_istore_n (lv' := [(3, .int (0 : Int32)), (2, .int (r18 + r19)), (0, .ref (ad 0)), (1, .int i1)]) hx hb dX4_pass_62 rfl hl (by decide) rfl (fun ls hl => ?_)
      obtain ⟨μ26, hL29, hf⟩ := ob1_s hf
      have kE27 : ∀ (H : Heap) (locs : List Loc) (ls : Array Slot), Bd (dC, dI) [(cyI, .int), (cyO, .array .int)] (va_A (cM cyI cyO ad μ) s.heap.size) s (cM cyI cyO ad μ26) H locs → lv_has ls 4 [(2, .int (r18 + r19)), (0, .ref (ad 0))] → W p l e (headSpec wsX4_pass rmX4_pass).room s m ([.ref (ad 0), .int i1] : List Value).toArray below meth c H locs 0 0 (MQ below (QiF (dC, dI) [(cyI, .int), (cyO, .array .int)] (cM cyI cyO ad μ) (cM cyI cyO ad μ_) s.heap.size r) ([.ref (ad 0), .int i1] : List Value).toArray s 0 0 (va_A (cM cyI cyO ad μ) s.heap.size)) (F0 m 78 ls []) := by
        intro H locs ls hB hl
        refine lv_aload_n hx hb dX4_pass_78 rfl (lv_at hl 1 rfl) ?_
        refine lv_iconst (v := (3 : Int32)) hx hb dX4_pass_79 (by decide) ?_
        obtain ⟨r31, hc, hf⟩ := ob1_s hf
        refine g_callVi (As := [.int (3 : Int32)]) (rest := []) ⟨hx, hb, hml, hown, hts⟩ (kX4_countOf l dC dI cyI cyO ad H.size hc) (cwV 1 hts gX4_pass_X4_countOf rfl rfl rfl (by decide +kernel) ⟨Nat.le_of_ble_eq_true rfl, Nat.le_of_ble_eq_true rfl⟩) hK hB hA (g_recv (ci := 4) hK hB 0 rfl rfl rfl) rfl hl.1 rfl (Nat.le_of_ble_eq_true rfl) dX4_pass_80 ⟨Nat.zero_le _, Nat.zero_le _⟩ (fun H locs hB => ?_)
        refine lv_aload_n hx hb dX4_pass_83 rfl (lv_at hl 1 rfl) ?_
        refine lv_iconst (v := (4 : Int32)) hx hb dX4_pass_84 (by decide) ?_
        obtain ⟨r32, hc, hf⟩ := ob1_s hf
        refine g_callVi (As := [.int (4 : Int32)]) (rest := [.int r31]) ⟨hx, hb, hml, hown, hts⟩ (kX4_countOf l dC dI cyI cyO ad H.size hc) (cwV 1 hts gX4_pass_X4_countOf rfl rfl rfl (by decide +kernel) ⟨Nat.le_of_ble_eq_true rfl, Nat.le_of_ble_eq_true rfl⟩) hK hB hA (g_recv (ci := 4) hK hB 0 rfl rfl rfl) rfl hl.1 rfl (Nat.le_of_ble_eq_true rfl) dX4_pass_85 ⟨Nat.zero_le _, Nat.zero_le _⟩ (fun H locs hB => ?_)
        refine lv_iadd hx hb dX4_pass_88 ?_
        refine lv_iload_n hx hb dX4_pass_89 rfl (lv_at hl 0 rfl) ?_
        refine lv_isub hx hb dX4_pass_90 ?_
        obtain ⟨e0, e1⟩ := inj2 hf
        subst e0
        subst e1
        exact g_iret hx hb hr hlocks hK hB dX4_pass_91
      have key28 : ∀ (n9 : Nat) (v34 : Int32) (μ35 : MS) (H : Heap) (locs : List Loc) (ls : Array Slot), loopM (fun st => mX4_pass_L63 fu (r18 + r19) i1 st.1 st.2) n9 (v34, μ35) = some μ26 → Bd (dC, dI) [(cyI, .int), (cyO, .array .int)] (va_A (cM cyI cyO ad μ) s.heap.size) s (cM cyI cyO ad μ35) H locs → lv_has ls 4 [(3, .int v34), (2, .int (r18 + r19)), (0, .ref (ad 0)), (1, .int i1)] → W p l e (headSpec wsX4_pass rmX4_pass).room s m ([.ref (ad 0), .int i1] : List Value).toArray below meth c H locs 0 0 (MQ below (QiF (dC, dI) [(cyI, .int), (cyO, .array .int)] (cM cyI cyO ad μ) (cM cyI cyO ad μ_) s.heap.size r) ([.ref (ad 0), .int i1] : List Value).toArray s 0 0 (va_A (cM cyI cyO ad μ) s.heap.size)) (F0 m 63 ls []) := by
        intro n9
        induction n9 with
        | zero => intro v34 μ35 H locs ls hL29; exact (loopM_z hL29).elim
        | succ n9 ih9 =>
          intro v34 μ35 H locs ls hL29 hB hl
          obtain ⟨o36, hg30, hL29⟩ := loopM_s hL29
          have hg30 : mX4_pass_L63 fu (r18 + r19) i1 v34 μ35 = some o36 := hg30
          unfold mX4_pass_L63 at hg30
          refine lv_iload_n hx hb dX4_pass_63 rfl (lv_at hl 0 rfl) ?_
          refine lv_iload_n hx hb dX4_pass_64 rfl (lv_at hl 3 rfl) ?_
          refine lv_icmp_ge (tgt := 78) hx hb dX4_pass_65 (by decide) (fun c37 => ?_) (fun c37 => ?_)
          · have hg30 := ite_t c37 hg30
            have hL29 := el1_l (inj1 hg30) hL29
            have e0 := inj1 hL29
            subst e0
            exact kE27 _ _ _ hB (lv_sub hl [1, 2] rfl)
          · have hg30 := ite_f c37 hg30
            refine lv_aload_n hx hb dX4_pass_68 rfl (lv_at hl 2 rfl) ?_
            obtain ⟨μ38, hc, hg30⟩ := ob1_s hg30
            refine g_callVv (As := []) (rest := []) ⟨hx, hb, hml, hown, hts⟩ (kX4_tick l dC dI cyI cyO ad H.size hc) (cwV 0 hts gX4_pass_X4_tick rfl rfl rfl (by decide +kernel) ⟨Nat.le_of_ble_eq_true rfl, Nat.le_of_ble_eq_true rfl⟩) hK hB hA (g_recv (ci := 4) hK hB 0 rfl rfl rfl) rfl hl.1 rfl (Nat.le_of_ble_eq_true rfl) dX4_pass_69 ⟨Nat.zero_le _, Nat.zero_le _⟩ (fun H locs hB => ?_)
            refine lv_iinc (v := (v34 + (1 : Int32))) (lv' := [(3, .int (v34 + (1 : Int32))), (2, .int (r18 + r19)), (0, .ref (ad 0)), (1, .int i1)]) hx hb dX4_pass_72 hl (k := 0) rfl rfl (by decide) rfl (fun ls hl => ?_)
            refine lv_goto (tgt := 63) hx hb dX4_pass_75 (by decide) ?_
            have hL29 := el1_r (inj1 hg30) hL29
            exact ih9 _ _ _ _ _ hL29 hB (lv_sub hl [0, 1, 2, 3] rfl)
      exact key28 fu _ _ _ _ _ hL29 hB (lv_sub hl [0, 1, 2, 3] rfl)
    · have hf := ite_f c16 hf
      refine lv_iconst (v := (0 : Int32)) hx hb dX4_pass_43 (by decide) ?_
      obtain ⟨e0, e1⟩ := inj2 hf
      subst e0
      subst e1
      exact g_iret hx hb hr hlocks hK hB dX4_pass_44
  obtain ⟨t8, hD9, hJ6⟩ := ob1_s hJ6
  have kTt8 : t8 = true → ∀ (H : Heap) (locs : List Loc), Bd (dC, dI) [(cyI, .int), (cyO, .array .int)] (va_A (cM cyI cyO ad μ) s.heap.size) s (cM cyI cyO ad μ1) H locs → W p l e (headSpec wsX4_pass rmX4_pass).room s m ([.ref (ad 0), .int i1] : List Value).toArray below meth c H locs 0 0 (MQ below (QiF (dC, dI) [(cyI, .int), (cyO, .array .int)] (cM cyI cyO ad μ) (cM cyI cyO ad μ_) s.heap.size r) ([.ref (ad 0), .int i1] : List Value).toArray s 0 0 (va_A (cM cyI cyO ad μ) s.heap.size)) (F0 m 31 ls [.ref (ad 0)]) := by
    intro ht H locs hB
    have hJ6 := cnd_t ht hJ6
    refine lv_iconst (v := (1 : Int32)) hx hb dX4_pass_31 (by decide) ?_
    refine lv_goto (tgt := 36) hx hb dX4_pass_32 (by decide) ?_
    have e0 := inj1 hJ6
    subst e0
    exact kJ7 (Or.inr rfl) _ _ _ hB (lv_sub hl [0, 1] rfl)
  have kFt8 : t8 = false → ∀ (H : Heap) (locs : List Loc), Bd (dC, dI) [(cyI, .int), (cyO, .array .int)] (va_A (cM cyI cyO ad μ) s.heap.size) s (cM cyI cyO ad μ1) H locs → W p l e (headSpec wsX4_pass rmX4_pass).room s m ([.ref (ad 0), .int i1] : List Value).toArray below meth c H locs 0 0 (MQ below (QiF (dC, dI) [(cyI, .int), (cyO, .array .int)] (cM cyI cyO ad μ) (cM cyI cyO ad μ_) s.heap.size r) ([.ref (ad 0), .int i1] : List Value).toArray s 0 0 (va_A (cM cyI cyO ad μ) s.heap.size)) (F0 m 35 ls [.ref (ad 0)]) := by
    intro ht H locs hB
    have hJ6 := cnd_f ht hJ6
    refine lv_iconst (v := (0 : Int32)) hx hb dX4_pass_35 (by decide) ?_
    have e0 := inj1 hJ6
    subst e0
    exact kJ7 (Or.inl rfl) _ _ _ hB (lv_sub hl [0, 1] rfl)
  refine lv_if_eq (tgt := 31) hx hb dX4_pass_14 (by decide) (fun c10 => ?_) (fun c10 => ?_)
  · have hD9 := ite_t c10 hD9
    have e0 := inj1 hD9
    exact kTt8 e0.symm _ _ hB
  · have hD9 := ite_f c10 hD9
    refine lv_aload_n hx hb dX4_pass_17 rfl (lv_at hl 0 rfl) ?_
    refine g_get (C := RX4) (T := TX4) (N := 15) hx hb hts hinX4 hown hK hB 0 rfl rfl 8 rfl hq2 rfl rfl dX4_pass_18 ?_
    refine lv_iconst (v := (0 : Int32)) hx hb dX4_pass_21 (by decide) ?_
    obtain ⟨x11, e9, hD9⟩ := ob1_s hD9
    refine g_iald hx hb hK hB 2 0 rfl rfl (rd_s e9) dX4_pass_22 ?_
    refine lv_iload_n hx hb dX4_pass_23 rfl (lv_at hl 1 rfl) ?_
    refine lv_iadd hx hb dX4_pass_24 ?_
    refine lv_sipush (v := (9999 : Int32)) hx hb dX4_pass_25 (by decide) ?_
    refine lv_icmp_le (tgt := 35) hx hb dX4_pass_28 (by decide) (fun c12 => ?_) (fun c12 => ?_)
    · have hD9 := ite_t c12 hD9
      have e0 := inj1 hD9
      exact kFt8 e0.symm _ _ hB
    · have hD9 := ite_f c12 hD9
      have e0 := inj1 hD9
      exact kTt8 e0.symm _ _ hB

abbrev rmX4_notParked : Room := { frames := 2, cells := 0, slots := 0, locals := 43 }

set_option maxHeartbeats 4000000 in
set_option maxRecDepth 100000 in
theorem kX4_notParked (l : Launch) (dC : Nat → ClassId) (dI : Nat → Nat → Nat) (cyI cyO : ClassId) (ad : Nat → Nat) (sz : Nat) {fu : Nat} {μ : MS} {i1 : Int32} {r : Int32} {μ_ : MS} (hf : mX4_notParked fu μ i1 = some (r, μ_)) : Met l yX4_notParked wsX4_notParked rmX4_notParked (PcF (dC, dI) [(cyI, .int), (cyO, .array .int)] (cM cyI cyO ad μ) sz [.ref (ad 0), .int i1]) (QzF (dC, dI) [(cyI, .int), (cyO, .array .int)] (cM cyI cyO ad μ) (cM cyI cyO ad μ_) sz r) 0 0 (va_A (cM cyI cyO ad μ) sz) := by
  refine Met.ofW (cc := cX4_notParked) (maxL := 2) (ret := (some .boolean)) (by decide) rfl ?_
  intro p e s m args below meth c s₁ B hml hv
  obtain ⟨rfl, hsz, hP, hK, hD0⟩ := hv
  have hx := B.exec
  have hb := B.bytes
  have hr := B.returns
  have hts := atoms_spec (ws := wsX4_notParked) B.pre
  have hown : s.vm.findClass RX4 = some m.cls := findClass_of_methodNamed B.named
  have hlocks := B.notSynchronized
  subst hsz
  have hA : ∀ q : Nat, s.heap.size ≤ q → va_A (cM cyI cyO ad μ) s.heap.size q := fun q h => Or.inr h
  have hB : Bd (dC, dI) [(cyI, .int), (cyO, .array .int)] (va_A (cM cyI cyO ad μ) s.heap.size) s (cM cyI cyO ad μ) s.heap [] := ⟨hP, hD0.self, va_S.rf⟩
  have hinX4 : ∀ w ∈ wsX40, w ∈ wsX4_notParked := fun w h => List.mem_cons_of_mem _ (List.mem_append_right _ h)
  have hl := lv_entry [.ref (ad 0), .int i1] (n := 2) (Nat.le_of_ble_eq_true rfl)
  rw [lg_entry_eq]
  generalize (lg_sl [.ref (ad 0), .int i1] ++ List.replicate (2 - (lg_sl [.ref (ad 0), .int i1]).length) Slot.unset).toArray = ls at hl ⊢
  have hl : lv_has ls 2 [(0, .ref (ad 0)), (1, .int i1)] := hl
  clear hP hD0
  suffices main : ∀ (H : Heap) (locs : List Loc), Bd (dC, dI) [(cyI, .int), (cyO, .array .int)] (va_A (cM cyI cyO ad μ) s.heap.size) s (cM cyI cyO ad μ) H locs → W p l e (headSpec wsX4_notParked rmX4_notParked).room s m ([.ref (ad 0), .int i1] : List Value).toArray below meth c H locs 0 0 (MQ below (QzF (dC, dI) [(cyI, .int), (cyO, .array .int)] (cM cyI cyO ad μ) (cM cyI cyO ad μ_) s.heap.size r) ([.ref (ad 0), .int i1] : List Value).toArray s 0 0 (va_A (cM cyI cyO ad μ) s.heap.size)) (F0 m 0 ls []) from main _ _ hB
  clear hB
  intro H locs hB
  unfold mX4_notParked at hf
  refine lv_aload_n hx hb dX4_notParked_0 rfl (lv_at hl 0 rfl) ?_
  refine lv_iload_n hx hb dX4_notParked_1 rfl (lv_at hl 1 rfl) ?_
  obtain ⟨r1, μ2, hc, hf⟩ := ob2_s hf
  refine g_callVz (As := [.int i1]) (rest := []) ⟨hx, hb, hml, hown, hts⟩ (kX4_noJourney l dC dI cyI cyO ad H.size hc) (cwV 1 hts gX4_notParked_X4_noJourney rfl rfl rfl (by decide +kernel) ⟨Nat.le_of_ble_eq_true rfl, Nat.le_of_ble_eq_true rfl⟩) hK hB hA (g_recv (ci := 4) hK hB 0 rfl rfl rfl) rfl hl.1 rfl (Nat.le_of_ble_eq_true rfl) dX4_notParked_2 ⟨Nat.zero_le _, Nat.zero_le _⟩ (fun z3 H locs hB => ?_)
  obtain ⟨v4, μ6, hJ7, hf⟩ := ob2_s hf
  have kJ8 : (v4 = 0 ∨ v4 = 1) → ∀ (H : Heap) (locs : List Loc) (ls : Array Slot), Bd (dC, dI) [(cyI, .int), (cyO, .array .int)] (va_A (cM cyI cyO ad μ) s.heap.size) s (cM cyI cyO ad μ6) H locs → lv_has ls 2 [] → W p l e (headSpec wsX4_notParked rmX4_notParked).room s m ([.ref (ad 0), .int i1] : List Value).toArray below meth c H locs 0 0 (MQ below (QzF (dC, dI) [(cyI, .int), (cyO, .array .int)] (cM cyI cyO ad μ) (cM cyI cyO ad μ_) s.heap.size r) ([.ref (ad 0), .int i1] : List Value).toArray s 0 0 (va_A (cM cyI cyO ad μ) s.heap.size)) (F0 m 36 ls [.int v4]) := by
    intro z5 H locs ls hB hl
    obtain ⟨e0, e1⟩ := inj2 hf
    subst e0
    subst e1
    exact g_zret hx hb hr hlocks hK hB z5 dX4_notParked_36
  refine lv_if_ne (tgt := 31) hx hb dX4_notParked_5 (by decide) (fun c9 => ?_) (fun c9 => ?_)
  · have hJ7 := ite_f c9 hJ7
    refine lv_iconst (v := (1 : Int32)) hx hb dX4_notParked_31 (by decide) ?_
    refine lv_goto (tgt := 36) hx hb dX4_notParked_32 (by decide) ?_
    obtain ⟨e0, e1⟩ := inj2 hJ7
    subst e0
    subst e1
    exact kJ8 (Or.inr rfl) _ _ _ hB (lv_sub hl [] rfl)
  · have hJ7 := ite_t c9 hJ7
    refine lv_aload_n hx hb dX4_notParked_8 rfl (lv_at hl 0 rfl) ?_
    refine lv_aload_n hx hb dX4_notParked_9 rfl (lv_at hl 0 rfl) ?_
    refine lv_iload_n hx hb dX4_notParked_10 rfl (lv_at hl 1 rfl) ?_
    refine lv_iconst (v := (0 : Int32)) hx hb dX4_notParked_11 (by decide) ?_
    obtain ⟨r10, hc, hJ7⟩ := ob1_s hJ7
    refine g_callVi (As := [.int i1, .int (0 : Int32)]) (rest := [.ref (ad 0)]) ⟨hx, hb, hml, hown, hts⟩ (kX4_ofJourney l dC dI cyI cyO ad H.size hc) (cwV 2 hts gX4_notParked_X4_ofJourney rfl rfl rfl (by decide +kernel) ⟨Nat.le_of_ble_eq_true rfl, Nat.le_of_ble_eq_true rfl⟩) hK hB hA (g_recv (ci := 4) hK hB 0 rfl rfl rfl) rfl hl.1 rfl (Nat.le_of_ble_eq_true rfl) dX4_notParked_12 ⟨Nat.zero_le _, Nat.zero_le _⟩ (fun H locs hB => ?_)
    refine lv_iconst (v := (5 : Int32)) hx hb dX4_notParked_15 (by decide) ?_
    obtain ⟨v11, hJ13, hJ7⟩ := ob1_s hJ7
    have kJ14 : (v11 = 0 ∨ v11 = 1) → ∀ (H : Heap) (locs : List Loc) (ls : Array Slot), Bd (dC, dI) [(cyI, .int), (cyO, .array .int)] (va_A (cM cyI cyO ad μ) s.heap.size) s (cM cyI cyO ad μ2) H locs → lv_has ls 2 [] → W p l e (headSpec wsX4_notParked rmX4_notParked).room s m ([.ref (ad 0), .int i1] : List Value).toArray below meth c H locs 0 0 (MQ below (QzF (dC, dI) [(cyI, .int), (cyO, .array .int)] (cM cyI cyO ad μ) (cM cyI cyO ad μ_) s.heap.size r) ([.ref (ad 0), .int i1] : List Value).toArray s 0 0 (va_A (cM cyI cyO ad μ) s.heap.size)) (F0 m 24 ls [.int v11, .ref (ad 0)]) := by
      intro z12 H locs ls hB hl
      refine lv_iconst (v := (2 : Int32)) hx hb dX4_notParked_24 (by decide) ?_
      obtain ⟨r16, μ17, hc, hJ7⟩ := ob2_s hJ7
      refine g_callVz (As := [.int v11, .int (2 : Int32)]) (rest := []) ⟨hx, hb, hml, hown, hts⟩ (kX4_fails l dC dI cyI cyO ad H.size hc) (cwV 2 hts gX4_notParked_X4_fails rfl rfl rfl (by decide +kernel) ⟨Nat.le_of_ble_eq_true rfl, Nat.le_of_ble_eq_true rfl⟩) hK hB hA (g_recv (ci := 4) hK hB 0 rfl rfl rfl) rfl hl.1 rfl (Nat.le_of_ble_eq_true rfl) dX4_notParked_25 ⟨Nat.zero_le _, Nat.zero_le _⟩ (fun z18 H locs hB => ?_)
      refine lv_if_eq (tgt := 35) hx hb dX4_notParked_28 (by decide) (fun c19 => ?_) (fun c19 => ?_)
      · have hJ7 := ite_t c19 hJ7
        refine lv_iconst (v := (0 : Int32)) hx hb dX4_notParked_35 (by decide) ?_
        obtain ⟨e0, e1⟩ := inj2 hJ7
        subst e0
        subst e1
        exact kJ8 (Or.inl rfl) _ _ _ hB (lv_sub hl [] rfl)
      · have hJ7 := ite_f c19 hJ7
        refine lv_iconst (v := (1 : Int32)) hx hb dX4_notParked_31 (by decide) ?_
        refine lv_goto (tgt := 36) hx hb dX4_notParked_32 (by decide) ?_
        obtain ⟨e0, e1⟩ := inj2 hJ7
        subst e0
        subst e1
        exact kJ8 (Or.inr rfl) _ _ _ hB (lv_sub hl [] rfl)
    refine lv_icmp_eq (tgt := 23) hx hb dX4_notParked_16 (by decide) (fun c15 => ?_) (fun c15 => ?_)
    · have hJ13 := ite_t c15 hJ13
      refine lv_iconst (v := (0 : Int32)) hx hb dX4_notParked_23 (by decide) ?_
      have e0 := inj1 hJ13
      subst e0
      exact kJ14 (Or.inl rfl) _ _ _ hB (lv_sub hl [] rfl)
    · have hJ13 := ite_f c15 hJ13
      refine lv_iconst (v := (1 : Int32)) hx hb dX4_notParked_19 (by decide) ?_
      refine lv_goto (tgt := 24) hx hb dX4_notParked_20 (by decide) ?_
      have e0 := inj1 hJ13
      subst e0
      exact kJ14 (Or.inr rfl) _ _ _ hB (lv_sub hl [] rfl)

abbrev rmX4_settle : Room := { frames := 5, cells := 0, slots := 0, locals := 108 }

set_option maxHeartbeats 4000000 in
set_option maxRecDepth 100000 in
theorem kX4_settle (l : Launch) (dC : Nat → ClassId) (dI : Nat → Nat → Nat) (cyI cyO : ClassId) (ad : Nat → Nat) (sz : Nat) {fu : Nat} {μ : MS} {i1 : Int32} {r : Int32} {μ_ : MS} (hf : mX4_settle fu μ i1 = some (r, μ_)) : Met l yX4_settle wsX4_settle rmX4_settle (PcF (dC, dI) [(cyI, .int), (cyO, .array .int)] (cM cyI cyO ad μ) sz [.ref (ad 0), .int i1]) (QiF (dC, dI) [(cyI, .int), (cyO, .array .int)] (cM cyI cyO ad μ) (cM cyI cyO ad μ_) sz r) 0 0 (va_A (cM cyI cyO ad μ) sz) := by
  refine Met.ofW (cc := cX4_settle) (maxL := 3) (ret := (some .int)) (by decide) rfl ?_
  intro p e s m args below meth c s₁ B hml hv
  obtain ⟨rfl, hsz, hP, hK, hD0⟩ := hv
  have hx := B.exec
  have hb := B.bytes
  have hr := B.returns
  have hts := atoms_spec (ws := wsX4_settle) B.pre
  have hown : s.vm.findClass RX4 = some m.cls := findClass_of_methodNamed B.named
  have hlocks := B.notSynchronized
  subst hsz
  have hA : ∀ q : Nat, s.heap.size ≤ q → va_A (cM cyI cyO ad μ) s.heap.size q := fun q h => Or.inr h
  have hB : Bd (dC, dI) [(cyI, .int), (cyO, .array .int)] (va_A (cM cyI cyO ad μ) s.heap.size) s (cM cyI cyO ad μ) s.heap [] := ⟨hP, hD0.self, va_S.rf⟩
  have hq1 : (Cond.fieldLink RX4 35 "UndoJourneysModel" "thrown" "I").before _ s = true := hts _ (List.mem_of_getElem? (i := 1) rfl)
  have hinX4 : ∀ w ∈ wsX40, w ∈ wsX4_settle := fun w h => List.mem_cons_of_mem _ (List.mem_append_right _ h)
  have hl := lv_entry [.ref (ad 0), .int i1] (n := 3) (Nat.le_of_ble_eq_true rfl)
  rw [lg_entry_eq]
  generalize (lg_sl [.ref (ad 0), .int i1] ++ List.replicate (3 - (lg_sl [.ref (ad 0), .int i1]).length) Slot.unset).toArray = ls at hl ⊢
  have hl : lv_has ls 3 [(0, .ref (ad 0)), (1, .int i1)] := hl
  clear hP hD0
  suffices main : ∀ (H : Heap) (locs : List Loc), Bd (dC, dI) [(cyI, .int), (cyO, .array .int)] (va_A (cM cyI cyO ad μ) s.heap.size) s (cM cyI cyO ad μ) H locs → W p l e (headSpec wsX4_settle rmX4_settle).room s m ([.ref (ad 0), .int i1] : List Value).toArray below meth c H locs 0 0 (MQ below (QiF (dC, dI) [(cyI, .int), (cyO, .array .int)] (cM cyI cyO ad μ) (cM cyI cyO ad μ_) s.heap.size r) ([.ref (ad 0), .int i1] : List Value).toArray s 0 0 (va_A (cM cyI cyO ad μ) s.heap.size)) (F0 m 0 ls []) from main _ _ hB
  clear hB
  intro H locs hB
  unfold mX4_settle at hf
  refine lv_aload_n hx hb dX4_settle_0 rfl (lv_at hl 0 rfl) ?_
  refine lv_iconst (v := (0 : Int32)) hx hb dX4_settle_1 (by decide) ?_
  obtain ⟨μ1, e9, hf⟩ := ob1_s hf
  have e9 := inj1 e9
  refine g_put (C := RX4) (T := TX4) (N := 15) hx hb hts hinX4 tyX4 tyX4_ok nmX4 hown hK hB 0 rfl rfl 0 rfl hq1 rfl rfl rfl rfl rfl rfl dX4_settle_2 (w2 := (cM cyI cyO ad μ1)) (by rw [← e9]; rfl) (fun H locs hB => ?_)
  refine lv_aload_n hx hb dX4_settle_5 rfl (lv_at hl 0 rfl) ?_
  refine lv_iload_n hx hb dX4_settle_6 rfl (lv_at hl 1 rfl) ?_
  obtain ⟨r2, μ3, hc, hf⟩ := ob2_s hf
  refine g_callVz (As := [.int i1]) (rest := []) ⟨hx, hb, hml, hown, hts⟩ (kX4_notParked l dC dI cyI cyO ad H.size hc) (cwV 1 hts gX4_settle_X4_notParked rfl rfl rfl (by decide +kernel) ⟨Nat.le_of_ble_eq_true rfl, Nat.le_of_ble_eq_true rfl⟩) hK hB hA (g_recv (ci := 4) hK hB 0 rfl rfl rfl) rfl hl.1 rfl (Nat.le_of_ble_eq_true rfl) dX4_settle_7 ⟨Nat.zero_le _, Nat.zero_le _⟩ (fun z4 H locs hB => ?_)
  refine lv_if_eq (tgt := 15) hx hb dX4_settle_10 (by decide) (fun c5 => ?_) (fun c5 => ?_)
  · have hf := ite_t c5 hf
    refine lv_aload_n hx hb dX4_settle_15 rfl (lv_at hl 0 rfl) ?_
    obtain ⟨μ6, hc, hf⟩ := ob1_s hf
    refine g_callVv (As := []) (rest := []) ⟨hx, hb, hml, hown, hts⟩ (kX4_remember l dC dI cyI cyO ad H.size hc) (cwV 0 hts gX4_settle_X4_remember rfl rfl rfl (by decide +kernel) ⟨Nat.le_of_ble_eq_true rfl, Nat.le_of_ble_eq_true rfl⟩) hK hB hA (g_recv (ci := 4) hK hB 0 rfl rfl rfl) rfl hl.1 rfl (Nat.le_of_ble_eq_true rfl) dX4_settle_16 ⟨Nat.zero_le _, Nat.zero_le _⟩ (fun H locs hB => ?_)
    refine lv_aload_n hx hb dX4_settle_19 rfl (lv_at hl 0 rfl) ?_
    refine lv_iload_n hx hb dX4_settle_20 rfl (lv_at hl 1 rfl) ?_
    obtain ⟨r7, hc, hf⟩ := ob1_s hf
    refine g_callVi (As := [.int i1]) (rest := []) ⟨hx, hb, hml, hown, hts⟩ (kX4_lastDone l dC dI cyI cyO ad H.size hc) (cwV 1 hts gX4_settle_X4_lastDone rfl rfl rfl (by decide +kernel) ⟨Nat.le_of_ble_eq_true rfl, Nat.le_of_ble_eq_true rfl⟩) hK hB hA (g_recv (ci := 4) hK hB 0 rfl rfl rfl) rfl hl.1 rfl (Nat.le_of_ble_eq_true rfl) dX4_settle_21 ⟨Nat.zero_le _, Nat.zero_le _⟩ (fun H locs hB => ?_)
    refine lv_istore_n (lv' := [(2, .int r7), (0, .ref (ad 0)), (1, .int i1)]) hx hb dX4_settle_24 rfl hl (by decide) rfl (fun ls hl => ?_)
    refine lv_aload_n hx hb dX4_settle_25 rfl (lv_at hl 1 rfl) ?_
    refine lv_aload_n hx hb dX4_settle_26 rfl (lv_at hl 1 rfl) ?_
    refine lv_iload_n hx hb dX4_settle_27 rfl (lv_at hl 2 rfl) ?_
    refine lv_iload_n hx hb dX4_settle_28 rfl (lv_at hl 0 rfl) ?_
    obtain ⟨r8, hc, hf⟩ := ob1_s hf
    refine g_callVi (As := [.int i1, .int r7]) (rest := [.ref (ad 0)]) ⟨hx, hb, hml, hown, hts⟩ (kX4_stepAt l dC dI cyI cyO ad H.size hc) (cwV 2 hts gX4_settle_X4_stepAt rfl rfl rfl (by decide +kernel) ⟨Nat.le_of_ble_eq_true rfl, Nat.le_of_ble_eq_true rfl⟩) hK hB hA (g_recv (ci := 4) hK hB 0 rfl rfl rfl) rfl hl.1 rfl (Nat.le_of_ble_eq_true rfl) dX4_settle_29 ⟨Nat.zero_le _, Nat.zero_le _⟩ (fun H locs hB => ?_)
    obtain ⟨μ9, hc, hf⟩ := ob1_s hf
    refine g_callVv (As := [.int r8]) (rest := []) ⟨hx, hb, hml, hown, hts⟩ (kX4_putBack l dC dI cyI cyO ad H.size hc) (cwV 1 hts gX4_settle_X4_putBack rfl rfl rfl (by decide +kernel) ⟨Nat.le_of_ble_eq_true rfl, Nat.le_of_ble_eq_true rfl⟩) hK hB hA (g_recv (ci := 4) hK hB 0 rfl rfl rfl) rfl hl.1 rfl (Nat.le_of_ble_eq_true rfl) dX4_settle_32 ⟨Nat.zero_le _, Nat.zero_le _⟩ (fun H locs hB => ?_)
    refine lv_aload_n hx hb dX4_settle_35 rfl (lv_at hl 1 rfl) ?_
    refine lv_iload_n hx hb dX4_settle_36 rfl (lv_at hl 2 rfl) ?_
    obtain ⟨μ10, hc, hf⟩ := ob1_s hf
    refine g_callVv (As := [.int i1]) (rest := []) ⟨hx, hb, hml, hown, hts⟩ (kX4_beUndoing l dC dI cyI cyO ad H.size hc) (cwV 1 hts gX4_settle_X4_beUndoing rfl rfl rfl (by decide +kernel) ⟨Nat.le_of_ble_eq_true rfl, Nat.le_of_ble_eq_true rfl⟩) hK hB hA (g_recv (ci := 4) hK hB 0 rfl rfl rfl) rfl hl.1 rfl (Nat.le_of_ble_eq_true rfl) dX4_settle_37 ⟨Nat.zero_le _, Nat.zero_le _⟩ (fun H locs hB => ?_)
    refine lv_iload_n hx hb dX4_settle_40 rfl (lv_at hl 0 rfl) ?_
    obtain ⟨e0, e1⟩ := inj2 hf
    subst e0
    subst e1
    exact g_iret hx hb hr hlocks hK hB dX4_settle_41
  · have hf := ite_f c5 hf
    refine lv_iconst (v := (0 : Int32)) hx hb dX4_settle_13 (by decide) ?_
    obtain ⟨e0, e1⟩ := inj2 hf
    subst e0
    subst e1
    exact g_iret hx hb hr hlocks hK hB dX4_settle_14

