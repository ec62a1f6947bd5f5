abbrev rmX4_beUndoing : Room := { frames := 1, cells := 0, slots := 0, locals := 20 }

set_option maxHeartbeats 4000000 in
set_option maxRecDepth 100000 in
theorem kX4_beUndoing (l : Launch) (dC : Nat → ClassId) (dI : Nat → Nat → Nat) (cyI cyO : ClassId) (ad : Nat → Nat) (sz : Nat) {fu : Nat} {μ : MS} {i1 : Int32} {μ_ : MS} (hf : mX4_beUndoing fu μ i1 = some μ_) : Met l yX4_beUndoing wsX4_beUndoing rmX4_beUndoing (PcF (dC, dI) [(cyI, .int), (cyO, .array .int)] (cM cyI cyO ad μ) sz [.ref (ad 0), .int i1]) (QvF (dC, dI) [(cyI, .int), (cyO, .array .int)] (cM cyI cyO ad μ) (cM cyI cyO ad μ_) sz) 0 0 (va_A (cM cyI cyO ad μ) sz) := by
  refine Met.ofW (cc := cX4_beUndoing) (maxL := 3) (ret := none) (by decide) rfl ?_
  intro p e s m args below meth c s₁ B hml hv
  obtain ⟨rfl, hsz, hP, hK, hD0⟩ := hv
  have hx := B.exec
  have hb := B.bytes
  have hr := B.returns
  have hts := atoms_spec (ws := wsX4_beUndoing) B.pre
  have hown : s.vm.findClass RX4 = some m.cls := findClass_of_methodNamed B.named
  have hlocks := B.notSynchronized
  subst hsz
  have hA : ∀ q : Nat, s.heap.size ≤ q → va_A (cM cyI cyO ad μ) s.heap.size q := fun q h => Or.inr h
  have hB : Bd (dC, dI) [(cyI, .int), (cyO, .array .int)] (va_A (cM cyI cyO ad μ) s.heap.size) s (cM cyI cyO ad μ) s.heap [] := ⟨hP, hD0.self, va_S.rf⟩
  have hq1 : (Cond.fieldLink RX4 17 "UndoJourneysModel" "data" "[I").before _ s = true := hts _ (List.mem_of_getElem? (i := 1) rfl)
  have hinX4 : ∀ w ∈ wsX40, w ∈ wsX4_beUndoing := fun w h => List.mem_cons_of_mem _ (List.mem_append_right _ h)
  have hl := lv_entry [.ref (ad 0), .int i1] (n := 3) (Nat.le_of_ble_eq_true rfl)
  rw [lg_entry_eq]
  generalize (lg_sl [.ref (ad 0), .int i1] ++ List.replicate (3 - (lg_sl [.ref (ad 0), .int i1]).length) Slot.unset).toArray = ls at hl ⊢
  have hl : lv_has ls 3 [(0, .ref (ad 0)), (1, .int i1)] := hl
  clear hP hD0
  suffices main : ∀ (H : Heap) (locs : List Loc), Bd (dC, dI) [(cyI, .int), (cyO, .array .int)] (va_A (cM cyI cyO ad μ) s.heap.size) s (cM cyI cyO ad μ) H locs → W p l e (headSpec wsX4_beUndoing rmX4_beUndoing).room s m ([.ref (ad 0), .int i1] : List Value).toArray below meth c H locs 0 0 (MQ below (QvF (dC, dI) [(cyI, .int), (cyO, .array .int)] (cM cyI cyO ad μ) (cM cyI cyO ad μ_) s.heap.size) ([.ref (ad 0), .int i1] : List Value).toArray s 0 0 (va_A (cM cyI cyO ad μ) s.heap.size)) (F0 m 0 ls []) from main _ _ hB
  clear hB
  intro H locs hB
  unfold mX4_beUndoing at hf
  refine lv_iload_n hx hb dX4_beUndoing_0 rfl (lv_at hl 1 rfl) ?_
  obtain ⟨r1, hc, hf⟩ := ob1_s hf
  refine g_pcutSi (As := [.int i1]) (rest := []) (w2 := (cM cyI cyO ad μ)) ⟨hx, hb, hml, hown, hts⟩ (kX4_journeyAt l dC dI [(cyI, .int), (cyO, .array .int)] H.size hc) (va_cwS 1 hts gX4_beUndoing_X4_journeyAt rfl rfl rfl (by decide +kernel) ⟨Nat.le_of_ble_eq_true rfl, Nat.le_of_ble_eq_true rfl⟩) hK hB hA (List.Perm.refl _) (List.Perm.refl _) rfl hl.1 rfl (Nat.le_of_ble_eq_true rfl) dX4_beUndoing_1 ⟨Nat.zero_le _, Nat.zero_le _⟩ (fun H locs hB => ?_)
  refine lv_istore_n (lv' := [(2, .int r1), (0, .ref (ad 0)), (1, .int i1)]) hx hb dX4_beUndoing_4 rfl hl (by decide) rfl (fun ls hl => ?_)
  refine lv_aload_n hx hb dX4_beUndoing_5 rfl (lv_at hl 1 rfl) ?_
  refine g_get (C := RX4) (T := TX4) (N := 15) hx hb hts hinX4 hown hK hB 0 rfl rfl 8 rfl hq1 rfl rfl dX4_beUndoing_6 ?_
  refine lv_iload_n hx hb dX4_beUndoing_9 rfl (lv_at hl 0 rfl) ?_
  refine lv_iconst (v := (0 : Int32)) hx hb dX4_beUndoing_10 (by decide) ?_
  refine lv_iadd hx hb dX4_beUndoing_11 ?_
  refine lv_iconst (v := (2 : Int32)) hx hb dX4_beUndoing_12 (by decide) ?_
  obtain ⟨μ2, e9, hf⟩ := ob1_s hf
  obtain ⟨hi, e9⟩ := wra_s e9
  refine g_iast hx hb hK hB 2 0 rfl rfl hi rfl dX4_beUndoing_13 (w2 := (cM cyI cyO ad μ2)) (by rw [← e9]; rfl) (fun H locs hB => ?_)
  refine lv_aload_n hx hb dX4_beUndoing_14 rfl (lv_at hl 1 rfl) ?_
  refine g_get (C := RX4) (T := TX4) (N := 15) hx hb hts hinX4 hown hK hB 0 rfl rfl 8 rfl hq1 rfl rfl dX4_beUndoing_15 ?_
  refine lv_iload_n hx hb dX4_beUndoing_18 rfl (lv_at hl 0 rfl) ?_
  refine lv_iconst (v := (4 : Int32)) hx hb dX4_beUndoing_19 (by decide) ?_
  refine lv_iadd hx hb dX4_beUndoing_20 ?_
  refine lv_iconst (v := (-1 : Int32)) hx hb dX4_beUndoing_21 (by decide) ?_
  obtain ⟨μ3, e9, hf⟩ := ob1_s hf
  obtain ⟨hi, e9⟩ := wra_s e9
  refine g_iast hx hb hK hB 2 0 rfl rfl hi rfl dX4_beUndoing_22 (w2 := (cM cyI cyO ad μ3)) (by rw [← e9]; rfl) (fun H locs hB => ?_)
  refine lv_aload_n hx hb dX4_beUndoing_23 rfl (lv_at hl 1 rfl) ?_
  refine g_get (C := RX4) (T := TX4) (N := 15) hx hb hts hinX4 hown hK hB 0 rfl rfl 8 rfl hq1 rfl rfl dX4_beUndoing_24 ?_
  refine lv_iload_n hx hb dX4_beUndoing_27 rfl (lv_at hl 0 rfl) ?_
  refine lv_iconst (v := (5 : Int32)) hx hb dX4_beUndoing_28 (by decide) ?_
  refine lv_iadd hx hb dX4_beUndoing_29 ?_
  refine lv_iconst (v := (-1 : Int32)) hx hb dX4_beUndoing_30 (by decide) ?_
  obtain ⟨μ4, e9, hf⟩ := ob1_s hf
  obtain ⟨hi, e9⟩ := wra_s e9
  refine g_iast hx hb hK hB 2 0 rfl rfl hi rfl dX4_beUndoing_31 (w2 := (cM cyI cyO ad μ4)) (by rw [← e9]; rfl) (fun H locs hB => ?_)
  refine lv_aload_n hx hb dX4_beUndoing_32 rfl (lv_at hl 1 rfl) ?_
  refine g_get (C := RX4) (T := TX4) (N := 15) hx hb hts hinX4 hown hK hB 0 rfl rfl 8 rfl hq1 rfl rfl dX4_beUndoing_33 ?_
  refine lv_iload_n hx hb dX4_beUndoing_36 rfl (lv_at hl 0 rfl) ?_
  refine lv_bipush (v := (7 : Int32)) hx hb dX4_beUndoing_37 (by decide) ?_
  refine lv_iadd hx hb dX4_beUndoing_39 ?_
  refine lv_iconst (v := (0 : Int32)) hx hb dX4_beUndoing_40 (by decide) ?_
  obtain ⟨μ5, e9, hf⟩ := ob1_s hf
  obtain ⟨hi, e9⟩ := wra_s e9
  refine g_iast hx hb hK hB 2 0 rfl rfl hi rfl dX4_beUndoing_41 (w2 := (cM cyI cyO ad μ5)) (by rw [← e9]; rfl) (fun H locs hB => ?_)
  have e0 := inj1 hf
  subst e0
  exact g_vret hx hb hr hlocks hK hB dX4_beUndoing_42

abbrev rmX4_goOn : Room := { frames := 8, cells := 0, slots := 0, locals := 178 }

set_option maxHeartbeats 4000000 in
set_option maxRecDepth 100000 in
theorem kX4_goOn (l : Launch) (dC : Nat → ClassId) (dI : Nat → Nat → Nat) (cyI cyO : ClassId) (ad : Nat → Nat) (sz : Nat) {fu : Nat} {μ : MS} {i1 : Int32} {μ_ : MS} (hf : mX4_goOn fu μ i1 = some μ_) : Met l yX4_goOn wsX4_goOn rmX4_goOn (PcF (dC, dI) [(cyI, .int), (cyO, .array .int)] (cM cyI cyO ad μ) sz [.ref (ad 0), .int i1]) (QvF (dC, dI) [(cyI, .int), (cyO, .array .int)] (cM cyI cyO ad μ) (cM cyI cyO ad μ_) sz) 0 0 (va_A (cM cyI cyO ad μ) sz) := by
  refine Met.ofW (cc := cX4_goOn) (maxL := 4) (ret := none) (by decide) rfl ?_
  intro p e s m args below meth c s₁ B hml hv
  obtain ⟨rfl, hsz, hP, hK, hD0⟩ := hv
  have hx := B.exec
  have hb := B.bytes
  have hr := B.returns
  have hts := atoms_spec (ws := wsX4_goOn) B.pre
  have hown : s.vm.findClass RX4 = some m.cls := findClass_of_methodNamed B.named
  have hlocks := B.notSynchronized
  subst hsz
  have hA : ∀ q : Nat, s.heap.size ≤ q → va_A (cM cyI cyO ad μ) s.heap.size q := fun q h => Or.inr h
  have hB : Bd (dC, dI) [(cyI, .int), (cyO, .array .int)] (va_A (cM cyI cyO ad μ) s.heap.size) s (cM cyI cyO ad μ) s.heap [] := ⟨hP, hD0.self, va_S.rf⟩
  have hq1 : (Cond.fieldLink RX4 17 "UndoJourneysModel" "data" "[I").before _ s = true := hts _ (List.mem_of_getElem? (i := 1) rfl)
  have hinX4 : ∀ w ∈ wsX40, w ∈ wsX4_goOn := fun w h => List.mem_cons_of_mem _ (List.mem_append_right _ h)
  have hl := lv_entry [.ref (ad 0), .int i1] (n := 4) (Nat.le_of_ble_eq_true rfl)
  rw [lg_entry_eq]
  generalize (lg_sl [.ref (ad 0), .int i1] ++ List.replicate (4 - (lg_sl [.ref (ad 0), .int i1]).length) Slot.unset).toArray = ls at hl ⊢
  have hl : lv_has ls 4 [(0, .ref (ad 0)), (1, .int i1)] := hl
  clear hP hD0
  suffices main : ∀ (H : Heap) (locs : List Loc), Bd (dC, dI) [(cyI, .int), (cyO, .array .int)] (va_A (cM cyI cyO ad μ) s.heap.size) s (cM cyI cyO ad μ) H locs → W p l e (headSpec wsX4_goOn rmX4_goOn).room s m ([.ref (ad 0), .int i1] : List Value).toArray below meth c H locs 0 0 (MQ below (QvF (dC, dI) [(cyI, .int), (cyO, .array .int)] (cM cyI cyO ad μ) (cM cyI cyO ad μ_) s.heap.size) ([.ref (ad 0), .int i1] : List Value).toArray s 0 0 (va_A (cM cyI cyO ad μ) s.heap.size)) (F0 m 0 ls []) from main _ _ hB
  clear hB
  intro H locs hB
  unfold mX4_goOn at hf
  refine lv_aload_n hx hb dX4_goOn_0 rfl (lv_at hl 0 rfl) ?_
  refine lv_iload_n hx hb dX4_goOn_1 rfl (lv_at hl 1 rfl) ?_
  refine lv_iconst (v := (4 : Int32)) hx hb dX4_goOn_2 (by decide) ?_
  obtain ⟨r1, hc, hf⟩ := ob1_s hf
  refine g_callVi (As := [.int i1, .int (4 : Int32)]) (rest := []) ⟨hx, hb, hml, hown, hts⟩ (kX4_ofJourney l dC dI cyI cyO ad H.size hc) (cwV 2 hts gX4_goOn_X4_ofJourney rfl rfl rfl (by decide +kernel) ⟨Nat.le_of_ble_eq_true rfl, Nat.le_of_ble_eq_true rfl⟩) hK hB hA (g_recv (ci := 4) hK hB 0 rfl rfl rfl) rfl hl.1 rfl (Nat.le_of_ble_eq_true rfl) dX4_goOn_3 ⟨Nat.zero_le _, Nat.zero_le _⟩ (fun H locs hB => ?_)
  refine lv_istore_n (lv' := [(2, .int r1), (0, .ref (ad 0)), (1, .int i1)]) hx hb dX4_goOn_6 rfl hl (by decide) rfl (fun ls hl => ?_)
  refine lv_iconst (v := (0 : Int32)) hx hb dX4_goOn_7 (by decide) ?_
  refine lv_istore_n (lv' := [(3, .int (0 : Int32)), (2, .int r1), (0, .ref (ad 0)), (1, .int i1)]) hx hb dX4_goOn_8 rfl hl (by decide) rfl (fun ls hl => ?_)
  obtain ⟨μ15, hL18, hf⟩ := ob1_s hf
  have kE16 : ∀ (H : Heap) (locs : List Loc) (ls : Array Slot), Bd (dC, dI) [(cyI, .int), (cyO, .array .int)] (va_A (cM cyI cyO ad μ) s.heap.size) s (cM cyI cyO ad μ15) H locs → lv_has ls 4 [(2, .int r1), (0, .ref (ad 0)), (1, .int i1)] → W p l e (headSpec wsX4_goOn rmX4_goOn).room s m ([.ref (ad 0), .int i1] : List Value).toArray below meth c H locs 0 0 (MQ below (QvF (dC, dI) [(cyI, .int), (cyO, .array .int)] (cM cyI cyO ad μ) (cM cyI cyO ad μ_) s.heap.size) ([.ref (ad 0), .int i1] : List Value).toArray s 0 0 (va_A (cM cyI cyO ad μ) s.heap.size)) (F0 m 41 ls []) := by
    intro H locs ls hB hl
    refine lv_aload_n hx hb dX4_goOn_41 rfl (lv_at hl 1 rfl) ?_
    refine lv_iload_n hx hb dX4_goOn_42 rfl (lv_at hl 2 rfl) ?_
    refine lv_iload_n hx hb dX4_goOn_43 rfl (lv_at hl 0 rfl) ?_
    obtain ⟨r20, hc, hf⟩ := ob1_s hf
    refine g_callVz (As := [.int i1, .int r1]) (rest := []) ⟨hx, hb, hml, hown, hts⟩ (kX4_isOver l dC dI cyI cyO ad H.size hc) (cwV 2 hts gX4_goOn_X4_isOver rfl rfl rfl (by decide +kernel) ⟨Nat.le_of_ble_eq_true rfl, Nat.le_of_ble_eq_true rfl⟩) hK hB hA (g_recv (ci := 4) hK hB 0 rfl rfl rfl) rfl hl.1 rfl (Nat.le_of_ble_eq_true rfl) dX4_goOn_44 ⟨Nat.zero_le _, Nat.zero_le _⟩ (fun z21 H locs hB => ?_)
    refine lv_if_eq (tgt := 80) hx hb dX4_goOn_47 (by decide) (fun c22 => ?_) (fun c22 => ?_)
    · have hf := ite_t c22 hf
      refine lv_aload_n hx hb dX4_goOn_80 rfl (lv_at hl 1 rfl) ?_
      refine lv_iload_n hx hb dX4_goOn_81 rfl (lv_at hl 2 rfl) ?_
      refine lv_iload_n hx hb dX4_goOn_82 rfl (lv_at hl 0 rfl) ?_
      refine lv_iconst (v := (4 : Int32)) hx hb dX4_goOn_83 (by decide) ?_
      obtain ⟨r23, hc, hf⟩ := ob1_s hf
      refine g_callVi (As := [.int i1, .int r1, .int (4 : Int32)]) (rest := []) ⟨hx, hb, hml, hown, hts⟩ (kX4_countAt l dC dI cyI cyO ad H.size hc) (cwV 3 hts gX4_goOn_X4_countAt rfl rfl rfl (by decide +kernel) ⟨Nat.le_of_ble_eq_true rfl, Nat.le_of_ble_eq_true rfl⟩) hK hB hA (g_recv (ci := 4) hK hB 0 rfl rfl rfl) rfl hl.1 rfl (Nat.le_of_ble_eq_true rfl) dX4_goOn_84 ⟨Nat.zero_le _, Nat.zero_le _⟩ (fun H locs hB => ?_)
      refine lv_if_ne (tgt := 91) hx hb dX4_goOn_87 (by decide) (fun c24 => ?_) (fun c24 => ?_)
      · have hf := ite_f c24 hf
        refine lv_iconst (v := (0 : Int32)) hx hb dX4_goOn_91 (by decide) ?_
        refine lv_istore_n (lv' := [(3, .int (0 : Int32)), (2, .int r1), (0, .ref (ad 0)), (1, .int i1)]) hx hb dX4_goOn_92 rfl hl (by decide) rfl (fun ls hl => ?_)
        obtain ⟨μ43, hL46, hf⟩ := ob1_s hf
        have kE44 : ∀ (H : Heap) (locs : List Loc) (ls : Array Slot), Bd (dC, dI) [(cyI, .int), (cyO, .array .int)] (va_A (cM cyI cyO ad μ) s.heap.size) s (cM cyI cyO ad μ43) H locs → lv_has ls 4 [(2, .int r1), (0, .ref (ad 0)), (1, .int i1)] → W p l e (headSpec wsX4_goOn rmX4_goOn).room s m ([.ref (ad 0), .int i1] : List Value).toArray below meth c H locs 0 0 (MQ below (QvF (dC, dI) [(cyI, .int), (cyO, .array .int)] (cM cyI cyO ad μ) (cM cyI cyO ad μ_) s.heap.size) ([.ref (ad 0), .int i1] : List Value).toArray s 0 0 (va_A (cM cyI cyO ad μ) s.heap.size)) (F0 m 143 ls []) := by
          intro H locs ls hB hl
          refine lv_aload_n hx hb dX4_goOn_143 rfl (lv_at hl 1 rfl) ?_
          refine lv_iload_n hx hb dX4_goOn_144 rfl (lv_at hl 2 rfl) ?_
          refine lv_iload_n hx hb dX4_goOn_145 rfl (lv_at hl 0 rfl) ?_
          refine lv_iconst (v := (2 : Int32)) hx hb dX4_goOn_146 (by decide) ?_
          obtain ⟨r48, hc, hf⟩ := ob1_s hf
          refine g_callVi (As := [.int i1, .int r1, .int (2 : Int32)]) (rest := []) ⟨hx, hb, hml, hown, hts⟩ (kX4_countAt l dC dI cyI cyO ad H.size hc) (cwV 3 hts gX4_goOn_X4_countAt rfl rfl rfl (by decide +kernel) ⟨Nat.le_of_ble_eq_true rfl, Nat.le_of_ble_eq_true rfl⟩) hK hB hA (g_recv (ci := 4) hK hB 0 rfl rfl rfl) rfl hl.1 rfl (Nat.le_of_ble_eq_true rfl) dX4_goOn_147 ⟨Nat.zero_le _, Nat.zero_le _⟩ (fun H locs hB => ?_)
          obtain ⟨μ49, hJ50, hf⟩ := ob1_s hf
          have kJ51 : ∀ (H : Heap) (locs : List Loc) (ls : Array Slot), Bd (dC, dI) [(cyI, .int), (cyO, .array .int)] (va_A (cM cyI cyO ad μ) s.heap.size) s (cM cyI cyO ad μ49) H locs → lv_has ls 4 [] → W p l e (headSpec wsX4_goOn rmX4_goOn).room s m ([.ref (ad 0), .int i1] : List Value).toArray below meth c H locs 0 0 (MQ below (QvF (dC, dI) [(cyI, .int), (cyO, .array .int)] (cM cyI cyO ad μ) (cM cyI cyO ad μ_) s.heap.size) ([.ref (ad 0), .int i1] : List Value).toArray s 0 0 (va_A (cM cyI cyO ad μ) s.heap.size)) (F0 m 158 ls []) := by
            intro H locs ls hB hl
            have e0 := inj1 hf
            subst e0
            exact g_vret hx hb hr hlocks hK hB dX4_goOn_158
          refine lv_if_ne (tgt := 158) hx hb dX4_goOn_150 (by decide) (fun c52 => ?_) (fun c52 => ?_)
          · have hJ50 := ite_f c52 hJ50
            have e0 := inj1 hJ50
            subst e0
            exact kJ51 _ _ _ hB (lv_sub hl [] rfl)
          · have hJ50 := ite_t c52 hJ50
            refine lv_aload_n hx hb dX4_goOn_153 rfl (lv_at hl 1 rfl) ?_
            refine lv_iload_n hx hb dX4_goOn_154 rfl (lv_at hl 2 rfl) ?_
            obtain ⟨μ53, hc, hJ50⟩ := ob1_s hJ50
            refine g_callVv (As := [.int i1]) (rest := []) ⟨hx, hb, hml, hown, hts⟩ (kX4_beUndoing l dC dI cyI cyO ad H.size hc) (cwV 1 hts gX4_goOn_X4_beUndoing rfl rfl rfl (by decide +kernel) ⟨Nat.le_of_ble_eq_true rfl, Nat.le_of_ble_eq_true rfl⟩) hK hB hA (g_recv (ci := 4) hK hB 0 rfl rfl rfl) rfl hl.1 rfl (Nat.le_of_ble_eq_true rfl) dX4_goOn_155 ⟨Nat.zero_le _, Nat.zero_le _⟩ (fun H locs hB => ?_)
            have e0 := inj1 hJ50
            subst e0
            exact kJ51 _ _ _ hB (lv_sub hl [] rfl)
        have key45 : ∀ (n9 : Nat) (v55 : Int32) (μ56 : MS) (H : Heap) (locs : List Loc) (ls : Array Slot), loopM (fun st => mX4_goOn_L93 fu r1 i1 st.1 st.2) n9 (v55, μ56) = some μ43 → Bd (dC, dI) [(cyI, .int), (cyO, .array .int)] (va_A (cM cyI cyO ad μ) s.heap.size) s (cM cyI cyO ad μ56) H locs → lv_has ls 4 [(3, .int v55), (2, .int r1), (0, .ref (ad 0)), (1, .int i1)] → W p l e (headSpec wsX4_goOn rmX4_goOn).room s m ([.ref (ad 0), .int i1] : List Value).toArray below meth c H locs 0 0 (MQ below (QvF (dC, dI) [(cyI, .int), (cyO, .array .int)] (cM cyI cyO ad μ) (cM cyI cyO ad μ_) s.heap.size) ([.ref (ad 0), .int i1] : List Value).toArray s 0 0 (va_A (cM cyI cyO ad μ) s.heap.size)) (F0 m 93 ls []) := by
          intro n9
          induction n9 with
          | zero => intro v55 μ56 H locs ls hL46; exact (loopM_z hL46).elim
          | succ n9 ih9 =>
            intro v55 μ56 H locs ls hL46 hB hl
            obtain ⟨o57, hg47, hL46⟩ := loopM_s hL46
            have hg47 : mX4_goOn_L93 fu r1 i1 v55 μ56 = some o57 := hg47
            unfold mX4_goOn_L93 at hg47
            refine lv_iload_n hx hb dX4_goOn_93 rfl (lv_at hl 0 rfl) ?_
            refine lv_aload_n hx hb dX4_goOn_94 rfl (lv_at hl 2 rfl) ?_
            refine lv_iload_n hx hb dX4_goOn_95 rfl (lv_at hl 3 rfl) ?_
            refine lv_iconst (v := (3 : Int32)) hx hb dX4_goOn_96 (by decide) ?_
            obtain ⟨r58, hc, hg47⟩ := ob1_s hg47
            refine g_callVi (As := [.int i1, .int (3 : Int32)]) (rest := [.int v55]) ⟨hx, hb, hml, hown, hts⟩ (kX4_ofJourney l dC dI cyI cyO ad H.size hc) (cwV 2 hts gX4_goOn_X4_ofJourney rfl rfl rfl (by decide +kernel) ⟨Nat.le_of_ble_eq_true rfl, Nat.le_of_ble_eq_true rfl⟩) hK hB hA (g_recv (ci := 4) hK hB 0 rfl rfl rfl) rfl hl.1 rfl (Nat.le_of_ble_eq_true rfl) dX4_goOn_97 ⟨Nat.zero_le _, Nat.zero_le _⟩ (fun H locs hB => ?_)
            refine lv_icmp_ge (tgt := 143) hx hb dX4_goOn_100 (by decide) (fun c59 => ?_) (fun c59 => ?_)
            · have hg47 := ite_t c59 hg47
              have hL46 := el1_l (inj1 hg47) hL46
              have e0 := inj1 hL46
              subst e0
              exact kE44 _ _ _ hB (lv_sub hl [1, 2, 3] rfl)
            · have hg47 := ite_f c59 hg47
              refine lv_aload_n hx hb dX4_goOn_103 rfl (lv_at hl 2 rfl) ?_
              refine lv_iload_n hx hb dX4_goOn_104 rfl (lv_at hl 3 rfl) ?_
              refine lv_iload_n hx hb dX4_goOn_105 rfl (lv_at hl 0 rfl) ?_
              refine lv_iload_n hx hb dX4_goOn_106 rfl (lv_at hl 1 rfl) ?_
              obtain ⟨r60, hc, hg47⟩ := ob1_s hg47
              refine g_callVz (As := [.int i1, .int v55, .int r1]) (rest := []) ⟨hx, hb, hml, hown, hts⟩ (kX4_isAt l dC dI cyI cyO ad H.size hc) (cwV 3 hts gX4_goOn_X4_isAt rfl rfl rfl (by decide +kernel) ⟨Nat.le_of_ble_eq_true rfl, Nat.le_of_ble_eq_true rfl⟩) hK hB hA (g_recv (ci := 4) hK hB 0 rfl rfl rfl) rfl hl.1 rfl (Nat.le_of_ble_eq_true rfl) dX4_goOn_107 ⟨Nat.zero_le _, Nat.zero_le _⟩ (fun z61 H locs hB => ?_)
              obtain ⟨μ62, hJ63, hg47⟩ := ob1_s hg47
              have kJ64 : ∀ (H : Heap) (locs : List Loc) (ls : Array Slot), Bd (dC, dI) [(cyI, .int), (cyO, .array .int)] (va_A (cM cyI cyO ad μ) s.heap.size) s (cM cyI cyO ad μ62) H locs → lv_has ls 4 [(3, .int v55), (2, .int r1), (0, .ref (ad 0)), (1, .int i1)] → W p l e (headSpec wsX4_goOn rmX4_goOn).room s m ([.ref (ad 0), .int i1] : List Value).toArray below meth c H locs 0 0 (MQ below (QvF (dC, dI) [(cyI, .int), (cyO, .array .int)] (cM cyI cyO ad μ) (cM cyI cyO ad μ_) s.heap.size) ([.ref (ad 0), .int i1] : List Value).toArray s 0 0 (va_A (cM cyI cyO ad μ) s.heap.size)) (F0 m 137 ls []) := by
                intro H locs ls hB hl
                refine lv_iinc (v := (v55 + (1 : Int32))) (lv' := [(3, .int (v55 + (1 : Int32))), (2, .int r1), (0, .ref (ad 0)), (1, .int i1)]) hx hb dX4_goOn_137 hl (k := 0) rfl rfl (by decide) rfl (fun ls hl => ?_)
                refine lv_goto (tgt := 93) hx hb dX4_goOn_140 (by decide) ?_
                have hL46 := el1_r (inj1 hg47) hL46
                exact ih9 _ _ _ _ _ hL46 hB (lv_sub hl [0, 1, 2, 3] rfl)
              obtain ⟨t65, hD66, hJ63⟩ := ob1_s hJ63
              have kTt65 : t65 = true → ∀ (H : Heap) (locs : List Loc), Bd (dC, dI) [(cyI, .int), (cyO, .array .int)] (va_A (cM cyI cyO ad μ) s.heap.size) s (cM cyI cyO ad μ56) H locs → W p l e (headSpec wsX4_goOn rmX4_goOn).room s m ([.ref (ad 0), .int i1] : List Value).toArray below meth c H locs 0 0 (MQ below (QvF (dC, dI) [(cyI, .int), (cyO, .array .int)] (cM cyI cyO ad μ) (cM cyI cyO ad μ_) s.heap.size) ([.ref (ad 0), .int i1] : List Value).toArray s 0 0 (va_A (cM cyI cyO ad μ) s.heap.size)) (F0 m 123 ls []) := by
                intro ht H locs hB
                have hJ63 := cnd_t ht hJ63
                refine lv_aload_n hx hb dX4_goOn_123 rfl (lv_at hl 2 rfl) ?_
                refine g_get (C := RX4) (T := TX4) (N := 15) hx hb hts hinX4 hown hK hB 0 rfl rfl 8 rfl hq1 rfl rfl dX4_goOn_124 ?_
                refine lv_aload_n hx hb dX4_goOn_127 rfl (lv_at hl 2 rfl) ?_
                refine lv_iload_n hx hb dX4_goOn_128 rfl (lv_at hl 3 rfl) ?_
                refine lv_iload_n hx hb dX4_goOn_129 rfl (lv_at hl 0 rfl) ?_
                obtain ⟨r70, hc, hJ63⟩ := ob1_s hJ63
                refine g_callVi (As := [.int i1, .int v55]) (rest := [.ref (ad 8)]) ⟨hx, hb, hml, hown, hts⟩ (kX4_stepAt l dC dI cyI cyO ad H.size hc) (cwV 2 hts gX4_goOn_X4_stepAt rfl rfl rfl (by decide +kernel) ⟨Nat.le_of_ble_eq_true rfl, Nat.le_of_ble_eq_true rfl⟩) hK hB hA (g_recv (ci := 4) hK hB 0 rfl rfl rfl) rfl hl.1 rfl (Nat.le_of_ble_eq_true rfl) dX4_goOn_130 ⟨Nat.zero_le _, Nat.zero_le _⟩ (fun H locs hB => ?_)
                refine lv_iconst (v := (4 : Int32)) hx hb dX4_goOn_133 (by decide) ?_
                refine lv_iadd hx hb dX4_goOn_134 ?_
                refine lv_iconst (v := (0 : Int32)) hx hb dX4_goOn_135 (by decide) ?_
                obtain ⟨μ71, e9, hJ63⟩ := ob1_s hJ63
                obtain ⟨hi, e9⟩ := wra_s e9
                refine g_iast hx hb hK hB 2 0 rfl rfl hi rfl dX4_goOn_136 (w2 := (cM cyI cyO ad μ71)) (by rw [← e9]; rfl) (fun H locs hB => ?_)
                have e0 := inj1 hJ63
                subst e0
                exact kJ64 _ _ _ hB (lv_sub hl [0, 1, 2, 3] rfl)
              have kFt65 : t65 = false → ∀ (H : Heap) (locs : List Loc), Bd (dC, dI) [(cyI, .int), (cyO, .array .int)] (va_A (cM cyI cyO ad μ) s.heap.size) s (cM cyI cyO ad μ56) H locs → W p l e (headSpec wsX4_goOn rmX4_goOn).room s m ([.ref (ad 0), .int i1] : List Value).toArray below meth c H locs 0 0 (MQ below (QvF (dC, dI) [(cyI, .int), (cyO, .array .int)] (cM cyI cyO ad μ) (cM cyI cyO ad μ_) s.heap.size) ([.ref (ad 0), .int i1] : List Value).toArray s 0 0 (va_A (cM cyI cyO ad μ) s.heap.size)) (F0 m 137 ls []) := by
                intro ht H locs hB
                have hJ63 := cnd_f ht hJ63
                have e0 := inj1 hJ63
                subst e0
                exact kJ64 _ _ _ hB (lv_sub hl [0, 1, 2, 3] rfl)
              refine lv_if_eq (tgt := 137) hx hb dX4_goOn_110 (by decide) (fun c67 => ?_) (fun c67 => ?_)
              · have hD66 := ite_t c67 hD66
                have e0 := inj1 hD66
                exact kFt65 e0.symm _ _ hB
              · have hD66 := ite_f c67 hD66
                refine lv_aload_n hx hb dX4_goOn_113 rfl (lv_at hl 2 rfl) ?_
                refine lv_iload_n hx hb dX4_goOn_114 rfl (lv_at hl 3 rfl) ?_
                refine lv_iload_n hx hb dX4_goOn_115 rfl (lv_at hl 0 rfl) ?_
                obtain ⟨r68, hc, hD66⟩ := ob1_s hD66
                refine g_callVi (As := [.int i1, .int v55]) (rest := []) ⟨hx, hb, hml, hown, hts⟩ (kX4_stateOf l dC dI cyI cyO ad H.size hc) (cwV 2 hts gX4_goOn_X4_stateOf rfl rfl rfl (by decide +kernel) ⟨Nat.le_of_ble_eq_true rfl, Nat.le_of_ble_eq_true rfl⟩) hK hB hA (g_recv (ci := 4) hK hB 0 rfl rfl rfl) rfl hl.1 rfl (Nat.le_of_ble_eq_true rfl) dX4_goOn_116 ⟨Nat.zero_le _, Nat.zero_le _⟩ (fun H locs hB => ?_)
                refine lv_iconst (v := (1 : Int32)) hx hb dX4_goOn_119 (by decide) ?_
                refine lv_icmp_ne (tgt := 137) hx hb dX4_goOn_120 (by decide) (fun c69 => ?_) (fun c69 => ?_)
                · have hD66 := ite_f c69 hD66
                  have e0 := inj1 hD66
                  exact kFt65 e0.symm _ _ hB
                · have hD66 := ite_t c69 hD66
                  have e0 := inj1 hD66
                  exact kTt65 e0.symm _ _ hB
        exact key45 fu _ _ _ _ _ hL46 hB (lv_sub hl [0, 1, 2, 3] rfl)
      · have hf := ite_t c24 hf
        have e0 := inj1 hf
        subst e0
        exact g_vret hx hb hr hlocks hK hB dX4_goOn_90
    · have hf := ite_f c22 hf
      refine lv_iload_n hx hb dX4_goOn_50 rfl (lv_at hl 0 rfl) ?_
      refine lv_iconst (v := (1 : Int32)) hx hb dX4_goOn_51 (by decide) ?_
      refine lv_iadd hx hb dX4_goOn_52 ?_
      refine lv_aload_n hx hb dX4_goOn_53 rfl (lv_at hl 1 rfl) ?_
      refine lv_iload_n hx hb dX4_goOn_54 rfl (lv_at hl 2 rfl) ?_
      refine lv_iconst (v := (2 : Int32)) hx hb dX4_goOn_55 (by decide) ?_
      obtain ⟨r72, hc, hf⟩ := ob1_s hf
      refine g_callVi (As := [.int i1, .int (2 : Int32)]) (rest := [.int (r1 + (1 : Int32))]) ⟨hx, hb, hml, hown, hts⟩ (kX4_ofJourney l dC dI cyI cyO ad H.size hc) (cwV 2 hts gX4_goOn_X4_ofJourney rfl rfl rfl (by decide +kernel) ⟨Nat.le_of_ble_eq_true rfl, Nat.le_of_ble_eq_true rfl⟩) hK hB hA (g_recv (ci := 4) hK hB 0 rfl rfl rfl) rfl hl.1 rfl (Nat.le_of_ble_eq_true rfl) dX4_goOn_56 ⟨Nat.zero_le _, Nat.zero_le _⟩ (fun H locs hB => ?_)
      obtain ⟨μ73, hJ74, hf⟩ := ob1_s hf
      have kJ75 : ∀ (H : Heap) (locs : List Loc) (ls : Array Slot), Bd (dC, dI) [(cyI, .int), (cyO, .array .int)] (va_A (cM cyI cyO ad μ) s.heap.size) s (cM cyI cyO ad μ73) H locs → lv_has ls 4 [] → W p l e (headSpec wsX4_goOn rmX4_goOn).room s m ([.ref (ad 0), .int i1] : List Value).toArray below meth c H locs 0 0 (MQ below (QvF (dC, dI) [(cyI, .int), (cyO, .array .int)] (cM cyI cyO ad μ) (cM cyI cyO ad μ_) s.heap.size) ([.ref (ad 0), .int i1] : List Value).toArray s 0 0 (va_A (cM cyI cyO ad μ) s.heap.size)) (F0 m 79 ls []) := by
        intro H locs ls hB hl
        have e0 := inj1 hf
        subst e0
        exact g_vret hx hb hr hlocks hK hB dX4_goOn_79
      refine lv_icmp_ne (tgt := 71) hx hb dX4_goOn_59 (by decide) (fun c76 => ?_) (fun c76 => ?_)
      · have hJ74 := ite_f c76 hJ74
        refine lv_aload_n hx hb dX4_goOn_71 rfl (lv_at hl 1 rfl) ?_
        refine lv_iload_n hx hb dX4_goOn_72 rfl (lv_at hl 2 rfl) ?_
        refine lv_iload_n hx hb dX4_goOn_73 rfl (lv_at hl 0 rfl) ?_
        refine lv_iconst (v := (1 : Int32)) hx hb dX4_goOn_74 (by decide) ?_
        refine lv_iadd hx hb dX4_goOn_75 ?_
        obtain ⟨μ77, hc, hJ74⟩ := ob1_s hJ74
        refine g_callVv (As := [.int i1, .int (r1 + (1 : Int32))]) (rest := []) ⟨hx, hb, hml, hown, hts⟩ (kX4_present l dC dI cyI cyO ad H.size hc) (cwV 2 hts gX4_goOn_X4_present rfl rfl rfl (by decide +kernel) ⟨Nat.le_of_ble_eq_true rfl, Nat.le_of_ble_eq_true rfl⟩) hK hB hA (g_recv (ci := 4) hK hB 0 rfl rfl rfl) rfl hl.1 rfl (Nat.le_of_ble_eq_true rfl) dX4_goOn_76 ⟨Nat.zero_le _, Nat.zero_le _⟩ (fun H locs hB => ?_)
        have e0 := inj1 hJ74
        subst e0
        exact kJ75 _ _ _ hB (lv_sub hl [] rfl)
      · have hJ74 := ite_t c76 hJ74
        refine lv_aload_n hx hb dX4_goOn_62 rfl (lv_at hl 1 rfl) ?_
        refine lv_iload_n hx hb dX4_goOn_63 rfl (lv_at hl 2 rfl) ?_
        refine lv_iconst (v := (3 : Int32)) hx hb dX4_goOn_64 (by decide) ?_
        obtain ⟨μ78, hc, hJ74⟩ := ob1_s hJ74
        refine g_callVv (As := [.int i1, .int (3 : Int32)]) (rest := []) ⟨hx, hb, hml, hown, hts⟩ (kX4_rest l dC dI cyI cyO ad H.size hc) (cwV 2 hts gX4_goOn_X4_rest rfl rfl rfl (by decide +kernel) ⟨Nat.le_of_ble_eq_true rfl, Nat.le_of_ble_eq_true rfl⟩) hK hB hA (g_recv (ci := 4) hK hB 0 rfl rfl rfl) rfl hl.1 rfl (Nat.le_of_ble_eq_true rfl) dX4_goOn_65 ⟨Nat.zero_le _, Nat.zero_le _⟩ (fun H locs hB => ?_)
        refine lv_goto (tgt := 79) hx hb dX4_goOn_68 (by decide) ?_
        have e0 := inj1 hJ74
        subst e0
        exact kJ75 _ _ _ hB (lv_sub hl [] rfl)
  have key17 : ∀ (n9 : Nat) (v80 : Int32) (μ81 : MS) (H : Heap) (locs : List Loc) (ls : Array Slot), loopM (fun st => mX4_goOn_L9 fu r1 i1 st.1 st.2) n9 (v80, μ81) = some μ15 → Bd (dC, dI) [(cyI, .int), (cyO, .array .int)] (va_A (cM cyI cyO ad μ) s.heap.size) s (cM cyI cyO ad μ81) H locs → lv_has ls 4 [(3, .int v80), (2, .int r1), (0, .ref (ad 0)), (1, .int i1)] → W p l e (headSpec wsX4_goOn rmX4_goOn).room s m ([.ref (ad 0), .int i1] : List Value).toArray below meth c H locs 0 0 (MQ below (QvF (dC, dI) [(cyI, .int), (cyO, .array .int)] (cM cyI cyO ad μ) (cM cyI cyO ad μ_) s.heap.size) ([.ref (ad 0), .int i1] : List Value).toArray s 0 0 (va_A (cM cyI cyO ad μ) s.heap.size)) (F0 m 9 ls []) := by
    intro n9
    induction n9 with
    | zero => intro v80 μ81 H locs ls hL18; exact (loopM_z hL18).elim
    | succ n9 ih9 =>
      intro v80 μ81 H locs ls hL18 hB hl
      obtain ⟨o82, hg19, hL18⟩ := loopM_s hL18
      have hg19 : mX4_goOn_L9 fu r1 i1 v80 μ81 = some o82 := hg19
      unfold mX4_goOn_L9 at hg19
      refine lv_iload_n hx hb dX4_goOn_9 rfl (lv_at hl 0 rfl) ?_
      refine lv_aload_n hx hb dX4_goOn_10 rfl (lv_at hl 2 rfl) ?_
      refine lv_iload_n hx hb dX4_goOn_11 rfl (lv_at hl 3 rfl) ?_
      refine lv_iconst (v := (3 : Int32)) hx hb dX4_goOn_12 (by decide) ?_
      obtain ⟨r83, hc, hg19⟩ := ob1_s hg19
      refine g_callVi (As := [.int i1, .int (3 : Int32)]) (rest := [.int v80]) ⟨hx, hb, hml, hown, hts⟩ (kX4_ofJourney l dC dI cyI cyO ad H.size hc) (cwV 2 hts gX4_goOn_X4_ofJourney rfl rfl rfl (by decide +kernel) ⟨Nat.le_of_ble_eq_true rfl, Nat.le_of_ble_eq_true rfl⟩) hK hB hA (g_recv (ci := 4) hK hB 0 rfl rfl rfl) rfl hl.1 rfl (Nat.le_of_ble_eq_true rfl) dX4_goOn_13 ⟨Nat.zero_le _, Nat.zero_le _⟩ (fun H locs hB => ?_)
      refine lv_icmp_ge (tgt := 41) hx hb dX4_goOn_16 (by decide) (fun c84 => ?_) (fun c84 => ?_)
      · have hg19 := ite_t c84 hg19
        have hL18 := el1_l (inj1 hg19) hL18
        have e0 := inj1 hL18
        subst e0
        exact kE16 _ _ _ hB (lv_sub hl [1, 2, 3] rfl)
      · have hg19 := ite_f c84 hg19
        refine lv_aload_n hx hb dX4_goOn_19 rfl (lv_at hl 2 rfl) ?_
        refine lv_iload_n hx hb dX4_goOn_20 rfl (lv_at hl 3 rfl) ?_
        refine lv_iload_n hx hb dX4_goOn_21 rfl (lv_at hl 0 rfl) ?_
        refine lv_iload_n hx hb dX4_goOn_22 rfl (lv_at hl 1 rfl) ?_
        obtain ⟨r85, hc, hg19⟩ := ob1_s hg19
        refine g_callVz (As := [.int i1, .int v80, .int r1]) (rest := []) ⟨hx, hb, hml, hown, hts⟩ (kX4_isAt l dC dI cyI cyO ad H.size hc) (cwV 3 hts gX4_goOn_X4_isAt rfl rfl rfl (by decide +kernel) ⟨Nat.le_of_ble_eq_true rfl, Nat.le_of_ble_eq_true rfl⟩) hK hB hA (g_recv (ci := 4) hK hB 0 rfl rfl rfl) rfl hl.1 rfl (Nat.le_of_ble_eq_true rfl) dX4_goOn_23 ⟨Nat.zero_le _, Nat.zero_le _⟩ (fun z86 H locs hB => ?_)
        obtain ⟨μ87, hJ88, hg19⟩ := ob1_s hg19
        have kJ89 : ∀ (H : Heap) (locs : List Loc) (ls : Array Slot), Bd (dC, dI) [(cyI, .int), (cyO, .array .int)] (va_A (cM cyI cyO ad μ) s.heap.size) s (cM cyI cyO ad μ87) H locs → lv_has ls 4 [(3, .int v80), (2, .int r1), (0, .ref (ad 0)), (1, .int i1)] → W p l e (headSpec wsX4_goOn rmX4_goOn).room s m ([.ref (ad 0), .int i1] : List Value).toArray below meth c H locs 0 0 (MQ below (QvF (dC, dI) [(cyI, .int), (cyO, .array .int)] (cM cyI cyO ad μ) (cM cyI cyO ad μ_) s.heap.size) ([.ref (ad 0), .int i1] : List Value).toArray s 0 0 (va_A (cM cyI cyO ad μ) s.heap.size)) (F0 m 35 ls []) := by
          intro H locs ls hB hl
          refine lv_iinc (v := (v80 + (1 : Int32))) (lv' := [(3, .int (v80 + (1 : Int32))), (2, .int r1), (0, .ref (ad 0)), (1, .int i1)]) hx hb dX4_goOn_35 hl (k := 0) rfl rfl (by decide) rfl (fun ls hl => ?_)
          refine lv_goto (tgt := 9) hx hb dX4_goOn_38 (by decide) ?_
          have hL18 := el1_r (inj1 hg19) hL18
          exact ih9 _ _ _ _ _ hL18 hB (lv_sub hl [0, 1, 2, 3] rfl)
        refine lv_if_eq (tgt := 35) hx hb dX4_goOn_26 (by decide) (fun c90 => ?_) (fun c90 => ?_)
        · have hJ88 := ite_t c90 hJ88
          have e0 := inj1 hJ88
          subst e0
          exact kJ89 _ _ _ hB (lv_sub hl [0, 1, 2, 3] rfl)
        · have hJ88 := ite_f c90 hJ88
          refine lv_aload_n hx hb dX4_goOn_29 rfl (lv_at hl 2 rfl) ?_
          refine lv_iload_n hx hb dX4_goOn_30 rfl (lv_at hl 3 rfl) ?_
          refine lv_iload_n hx hb dX4_goOn_31 rfl (lv_at hl 0 rfl) ?_
          obtain ⟨μ91, hc, hJ88⟩ := ob1_s hJ88
          refine g_callVv (As := [.int i1, .int v80]) (rest := []) ⟨hx, hb, hml, hown, hts⟩ (kX4_go l dC dI cyI cyO ad H.size hc) (cwV 2 hts gX4_goOn_X4_go rfl rfl rfl (by decide +kernel) ⟨Nat.le_of_ble_eq_true rfl, Nat.le_of_ble_eq_true rfl⟩) hK hB hA (g_recv (ci := 4) hK hB 0 rfl rfl rfl) rfl hl.1 rfl (Nat.le_of_ble_eq_true rfl) dX4_goOn_32 ⟨Nat.zero_le _, Nat.zero_le _⟩ (fun H locs hB => ?_)
          have e0 := inj1 hJ88
          subst e0
          exact kJ89 _ _ _ hB (lv_sub hl [0, 1, 2, 3] rfl)
  exact key17 fu _ _ _ _ _ hL18 hB (lv_sub hl [0, 1, 2, 3] rfl)

abbrev rmX4_putBack : Room := { frames := 1, cells := 0, slots := 0, locals := 21 }

set_option maxHeartbeats 4000000 in
set_option maxRecDepth 100000 in
theorem kX4_putBack (l : Launch) (dC : Nat → ClassId) (dI : Nat → Nat → Nat) (cyI cyO : ClassId) (ad : Nat → Nat) (sz : Nat) {fu : Nat} {μ : MS} {i1 : Int32} {μ_ : MS} (hf : mX4_putBack fu μ i1 = some μ_) : Met l yX4_putBack wsX4_putBack rmX4_putBack (PcF (dC, dI) [(cyI, .int), (cyO, .array .int)] (cM cyI cyO ad μ) sz [.ref (ad 0), .int i1]) (QvF (dC, dI) [(cyI, .int), (cyO, .array .int)] (cM cyI cyO ad μ) (cM cyI cyO ad μ_) sz) 0 0 (va_A (cM cyI cyO ad μ) sz) := by
  refine Met.ofW (cc := cX4_putBack) (maxL := 2) (ret := none) (by decide) rfl ?_
  intro p e s m args below meth c s₁ B hml hv
  obtain ⟨rfl, hsz, hP, hK, hD0⟩ := hv
  have hx := B.exec
  have hb := B.bytes
  have hr := B.returns
  have hts := atoms_spec (ws := wsX4_putBack) B.pre
  have hown : s.vm.findClass RX4 = some m.cls := findClass_of_methodNamed B.named
  have hlocks := B.notSynchronized
  subst hsz
  have hA : ∀ q : Nat, s.heap.size ≤ q → va_A (cM cyI cyO ad μ) s.heap.size q := fun q h => Or.inr h
  have hB : Bd (dC, dI) [(cyI, .int), (cyO, .array .int)] (va_A (cM cyI cyO ad μ) s.heap.size) s (cM cyI cyO ad μ) s.heap [] := ⟨hP, hD0.self, va_S.rf⟩
  have hq1 : (Cond.fieldLink RX4 17 "UndoJourneysModel" "data" "[I").before _ s = true := hts _ (List.mem_of_getElem? (i := 1) rfl)
  have hinX4 : ∀ w ∈ wsX40, w ∈ wsX4_putBack := fun w h => List.mem_cons_of_mem _ (List.mem_append_right _ h)
  have hl := lv_entry [.ref (ad 0), .int i1] (n := 2) (Nat.le_of_ble_eq_true rfl)
  rw [lg_entry_eq]
  generalize (lg_sl [.ref (ad 0), .int i1] ++ List.replicate (2 - (lg_sl [.ref (ad 0), .int i1]).length) Slot.unset).toArray = ls at hl ⊢
  have hl : lv_has ls 2 [(0, .ref (ad 0)), (1, .int i1)] := hl
  clear hP hD0
  suffices main : ∀ (H : Heap) (locs : List Loc), Bd (dC, dI) [(cyI, .int), (cyO, .array .int)] (va_A (cM cyI cyO ad μ) s.heap.size) s (cM cyI cyO ad μ) H locs → W p l e (headSpec wsX4_putBack rmX4_putBack).room s m ([.ref (ad 0), .int i1] : List Value).toArray below meth c H locs 0 0 (MQ below (QvF (dC, dI) [(cyI, .int), (cyO, .array .int)] (cM cyI cyO ad μ) (cM cyI cyO ad μ_) s.heap.size) ([.ref (ad 0), .int i1] : List Value).toArray s 0 0 (va_A (cM cyI cyO ad μ) s.heap.size)) (F0 m 0 ls []) from main _ _ hB
  clear hB
  intro H locs hB
  unfold mX4_putBack at hf
  refine lv_aload_n hx hb dX4_putBack_0 rfl (lv_at hl 0 rfl) ?_
  refine g_get (C := RX4) (T := TX4) (N := 15) hx hb hts hinX4 hown hK hB 0 rfl rfl 8 rfl hq1 rfl rfl dX4_putBack_1 ?_
  refine lv_aload_n hx hb dX4_putBack_4 rfl (lv_at hl 0 rfl) ?_
  refine lv_iload_n hx hb dX4_putBack_5 rfl (lv_at hl 1 rfl) ?_
  obtain ⟨r1, hc, hf⟩ := ob1_s hf
  refine g_callVi (As := [.int i1]) (rest := [.ref (ad 8)]) ⟨hx, hb, hml, hown, hts⟩ (kX4_levelAt l dC dI cyI cyO ad H.size hc) (cwV 1 hts gX4_putBack_X4_levelAt rfl rfl rfl (by decide +kernel) ⟨Nat.le_of_ble_eq_true rfl, Nat.le_of_ble_eq_true rfl⟩) hK hB hA (g_recv (ci := 4) hK hB 0 rfl rfl rfl) rfl hl.1 rfl (Nat.le_of_ble_eq_true rfl) dX4_putBack_6 ⟨Nat.zero_le _, Nat.zero_le _⟩ (fun H locs hB => ?_)
  refine lv_dup2_11 hx hb dX4_putBack_9 rfl rfl ?_
  obtain ⟨x2, e9, hf⟩ := ob1_s hf
  refine g_iald hx hb hK hB 2 0 rfl rfl (rd_s e9) dX4_putBack_10 ?_
  refine lv_aload_n hx hb dX4_putBack_11 rfl (lv_at hl 0 rfl) ?_
  refine g_get (C := RX4) (T := TX4) (N := 15) hx hb hts hinX4 hown hK hB 0 rfl rfl 8 rfl hq1 rfl rfl dX4_putBack_12 ?_
  refine lv_iload_n hx hb dX4_putBack_15 rfl (lv_at hl 1 rfl) ?_
  refine lv_iconst (v := (2 : Int32)) hx hb dX4_putBack_16 (by decide) ?_
  refine lv_iadd hx hb dX4_putBack_17 ?_
  obtain ⟨x3, e9, hf⟩ := ob1_s hf
  refine g_iald hx hb hK hB 2 0 rfl rfl (rd_s e9) dX4_putBack_18 ?_
  refine lv_iadd hx hb dX4_putBack_19 ?_
  obtain ⟨μ4, e9, hf⟩ := ob1_s hf
  obtain ⟨hi, e9⟩ := wra_s e9
  refine g_iast hx hb hK hB 2 0 rfl rfl hi rfl dX4_putBack_20 (w2 := (cM cyI cyO ad μ4)) (by rw [← e9]; rfl) (fun H locs hB => ?_)
  refine lv_aload_n hx hb dX4_putBack_21 rfl (lv_at hl 0 rfl) ?_
  refine g_get (C := RX4) (T := TX4) (N := 15) hx hb hts hinX4 hown hK hB 0 rfl rfl 8 rfl hq1 rfl rfl dX4_putBack_22 ?_
  refine lv_iload_n hx hb dX4_putBack_25 rfl (lv_at hl 1 rfl) ?_
  refine lv_iconst (v := (4 : Int32)) hx hb dX4_putBack_26 (by decide) ?_
  refine lv_iadd hx hb dX4_putBack_27 ?_
  refine lv_iconst (v := (5 : Int32)) hx hb dX4_putBack_28 (by decide) ?_
  obtain ⟨μ5, e9, hf⟩ := ob1_s hf
  obtain ⟨hi, e9⟩ := wra_s e9
  refine g_iast hx hb hK hB 2 0 rfl rfl hi rfl dX4_putBack_29 (w2 := (cM cyI cyO ad μ5)) (by rw [← e9]; rfl) (fun H locs hB => ?_)
  have e0 := inj1 hf
  subst e0
  exact g_vret hx hb hr hlocks hK hB dX4_putBack_30

abbrev rmX4_undoOne : Room := { frames := 5, cells := 0, slots := 0, locals := 108 }

set_option maxHeartbeats 4000000 in
set_option maxRecDepth 100000 in
theorem kX4_undoOne (l : Launch) (dC : Nat → ClassId) (dI : Nat → Nat → Nat) (cyI cyO : ClassId) (ad : Nat → Nat) (sz : Nat) {fu : Nat} {μ : MS} {i1 : Int32} {μ_ : MS} (hf : mX4_undoOne fu μ i1 = some μ_) : Met l yX4_undoOne wsX4_undoOne rmX4_undoOne (PcF (dC, dI) [(cyI, .int), (cyO, .array .int)] (cM cyI cyO ad μ) sz [.ref (ad 0), .int i1]) (QvF (dC, dI) [(cyI, .int), (cyO, .array .int)] (cM cyI cyO ad μ) (cM cyI cyO ad μ_) sz) 0 0 (va_A (cM cyI cyO ad μ) sz) := by
  refine Met.ofW (cc := cX4_undoOne) (maxL := 5) (ret := none) (by decide) rfl ?_
  intro p e s m args below meth c s₁ B hml hv
  obtain ⟨rfl, hsz, hP, hK, hD0⟩ := hv
  have hx := B.exec
  have hb := B.bytes
  have hr := B.returns
  have hts := atoms_spec (ws := wsX4_undoOne) B.pre
  have hown : s.vm.findClass RX4 = some m.cls := findClass_of_methodNamed B.named
  have hlocks := B.notSynchronized
  subst hsz
  have hA : ∀ q : Nat, s.heap.size ≤ q → va_A (cM cyI cyO ad μ) s.heap.size q := fun q h => Or.inr h
  have hB : Bd (dC, dI) [(cyI, .int), (cyO, .array .int)] (va_A (cM cyI cyO ad μ) s.heap.size) s (cM cyI cyO ad μ) s.heap [] := ⟨hP, hD0.self, va_S.rf⟩
  have hq1 : (Cond.fieldLink RX4 17 "UndoJourneysModel" "data" "[I").before _ s = true := hts _ (List.mem_of_getElem? (i := 1) rfl)
  have hinX4 : ∀ w ∈ wsX40, w ∈ wsX4_undoOne := fun w h => List.mem_cons_of_mem _ (List.mem_append_right _ h)
  have hl := lv_entry [.ref (ad 0), .int i1] (n := 5) (Nat.le_of_ble_eq_true rfl)
  rw [lg_entry_eq]
  generalize (lg_sl [.ref (ad 0), .int i1] ++ List.replicate (5 - (lg_sl [.ref (ad 0), .int i1]).length) Slot.unset).toArray = ls at hl ⊢
  have hl : lv_has ls 5 [(0, .ref (ad 0)), (1, .int i1)] := hl
  clear hP hD0
  suffices main : ∀ (H : Heap) (locs : List Loc), Bd (dC, dI) [(cyI, .int), (cyO, .array .int)] (va_A (cM cyI cyO ad μ) s.heap.size) s (cM cyI cyO ad μ) H locs → W p l e (headSpec wsX4_undoOne rmX4_undoOne).room s m ([.ref (ad 0), .int i1] : List Value).toArray below meth c H locs 0 0 (MQ below (QvF (dC, dI) [(cyI, .int), (cyO, .array .int)] (cM cyI cyO ad μ) (cM cyI cyO ad μ_) s.heap.size) ([.ref (ad 0), .int i1] : List Value).toArray s 0 0 (va_A (cM cyI cyO ad μ) s.heap.size)) (F0 m 0 ls []) from main _ _ hB
  clear hB
  intro H locs hB
  unfold mX4_undoOne at hf
  refine lv_aload_n hx hb dX4_undoOne_0 rfl (lv_at hl 0 rfl) ?_
  refine lv_iload_n hx hb dX4_undoOne_1 rfl (lv_at hl 1 rfl) ?_
  obtain ⟨r1, hc, hf⟩ := ob1_s hf
  refine g_callVi (As := [.int i1]) (rest := []) ⟨hx, hb, hml, hown, hts⟩ (kX4_lastDone l dC dI cyI cyO ad H.size hc) (cwV 1 hts gX4_undoOne_X4_lastDone rfl rfl rfl (by decide +kernel) ⟨Nat.le_of_ble_eq_true rfl, Nat.le_of_ble_eq_true rfl⟩) hK hB hA (g_recv (ci := 4) hK hB 0 rfl rfl rfl) rfl hl.1 rfl (Nat.le_of_ble_eq_true rfl) dX4_undoOne_2 ⟨Nat.zero_le _, Nat.zero_le _⟩ (fun H locs hB => ?_)
  refine lv_istore_n (lv' := [(2, .int r1), (0, .ref (ad 0)), (1, .int i1)]) hx hb dX4_undoOne_5 rfl hl (by decide) rfl (fun ls hl => ?_)
  refine lv_iload_n hx hb dX4_undoOne_6 rfl (lv_at hl 2 rfl) ?_
  obtain ⟨r2, hc, hf⟩ := ob1_s hf
  refine g_pcutSi (As := [.int i1]) (rest := []) (w2 := (cM cyI cyO ad μ)) ⟨hx, hb, hml, hown, hts⟩ (kX4_journeyAt l dC dI [(cyI, .int), (cyO, .array .int)] H.size hc) (va_cwS 1 hts gX4_undoOne_X4_journeyAt rfl rfl rfl (by decide +kernel) ⟨Nat.le_of_ble_eq_true rfl, Nat.le_of_ble_eq_true rfl⟩) hK hB hA (List.Perm.refl _) (List.Perm.refl _) rfl hl.1 rfl (Nat.le_of_ble_eq_true rfl) dX4_undoOne_7 ⟨Nat.zero_le _, Nat.zero_le _⟩ (fun H locs hB => ?_)
  refine lv_istore_n (lv' := [(3, .int r2), (2, .int r1), (0, .ref (ad 0)), (1, .int i1)]) hx hb dX4_undoOne_10 rfl hl (by decide) rfl (fun ls hl => ?_)
  refine lv_iload_n hx hb dX4_undoOne_11 rfl (lv_at hl 1 rfl) ?_
  refine lv_if_ge (tgt := 22) hx hb dX4_undoOne_12 (by decide) (fun c3 => ?_) (fun c3 => ?_)
  · have hf := ite_t c3 hf
    refine lv_aload_n hx hb dX4_undoOne_22 rfl (lv_at hl 2 rfl) ?_
    refine lv_iload_n hx hb dX4_undoOne_23 rfl (lv_at hl 3 rfl) ?_
    refine lv_iload_n hx hb dX4_undoOne_24 rfl (lv_at hl 1 rfl) ?_
    obtain ⟨r4, hc, hf⟩ := ob1_s hf
    refine g_callVi (As := [.int i1, .int r1]) (rest := []) ⟨hx, hb, hml, hown, hts⟩ (kX4_stepAt l dC dI cyI cyO ad H.size hc) (cwV 2 hts gX4_undoOne_X4_stepAt rfl rfl rfl (by decide +kernel) ⟨Nat.le_of_ble_eq_true rfl, Nat.le_of_ble_eq_true rfl⟩) hK hB hA (g_recv (ci := 4) hK hB 0 rfl rfl rfl) rfl hl.1 rfl (Nat.le_of_ble_eq_true rfl) dX4_undoOne_25 ⟨Nat.zero_le _, Nat.zero_le _⟩ (fun H locs hB => ?_)
    refine lv_istore (lv' := [(4, .int r4), (3, .int r2), (2, .int r1), (0, .ref (ad 0)), (1, .int i1)]) hx hb dX4_undoOne_28 hl (by decide) rfl (fun ls hl => ?_)
    refine lv_aload_n hx hb dX4_undoOne_30 rfl (lv_at hl 3 rfl) ?_
    refine g_get (C := RX4) (T := TX4) (N := 15) hx hb hts hinX4 hown hK hB 0 rfl rfl 8 rfl hq1 rfl rfl dX4_undoOne_31 ?_
    refine lv_iload hx hb dX4_undoOne_34 (lv_at hl 0 rfl) ?_
    refine lv_iconst (v := (5 : Int32)) hx hb dX4_undoOne_36 (by decide) ?_
    refine lv_iadd hx hb dX4_undoOne_37 ?_
    obtain ⟨x5, e9, hf⟩ := ob1_s hf
    refine g_iald hx hb hK hB 2 0 rfl rfl (rd_s e9) dX4_undoOne_38 ?_
    refine lv_if_ne (tgt := 59) hx hb dX4_undoOne_39 (by decide) (fun c6 => ?_) (fun c6 => ?_)
    · have hf := ite_f c6 hf
      refine lv_aload_n hx hb dX4_undoOne_59 rfl (lv_at hl 3 rfl) ?_
      refine g_get (C := RX4) (T := TX4) (N := 15) hx hb hts hinX4 hown hK hB 0 rfl rfl 8 rfl hq1 rfl rfl dX4_undoOne_60 ?_
      refine lv_iload hx hb dX4_undoOne_63 (lv_at hl 0 rfl) ?_
      refine lv_iconst (v := (5 : Int32)) hx hb dX4_undoOne_65 (by decide) ?_
      refine lv_iadd hx hb dX4_undoOne_66 ?_
      refine lv_dup2_11 hx hb dX4_undoOne_67 rfl rfl ?_
      obtain ⟨x7, e9, hf⟩ := ob1_s hf
      refine g_iald hx hb hK hB 2 0 rfl rfl (rd_s e9) dX4_undoOne_68 ?_
      refine lv_iconst (v := (1 : Int32)) hx hb dX4_undoOne_69 (by decide) ?_
      refine lv_isub hx hb dX4_undoOne_70 ?_
      obtain ⟨μ8, e9, hf⟩ := ob1_s hf
      obtain ⟨hi, e9⟩ := wra_s e9
      refine g_iast hx hb hK hB 2 0 rfl rfl hi rfl dX4_undoOne_71 (w2 := (cM cyI cyO ad μ8)) (by rw [← e9]; rfl) (fun H locs hB => ?_)
      refine lv_aload_n hx hb dX4_undoOne_72 rfl (lv_at hl 3 rfl) ?_
      refine g_get (C := RX4) (T := TX4) (N := 15) hx hb hts hinX4 hown hK hB 0 rfl rfl 8 rfl hq1 rfl rfl dX4_undoOne_73 ?_
      refine lv_bipush (v := (6 : Int32)) hx hb dX4_undoOne_76 (by decide) ?_
      refine lv_dup2_11 hx hb dX4_undoOne_78 rfl rfl ?_
      obtain ⟨x9, e9, hf⟩ := ob1_s hf
      refine g_iald hx hb hK hB 2 0 rfl rfl (rd_s e9) dX4_undoOne_79 ?_
      refine lv_iconst (v := (1 : Int32)) hx hb dX4_undoOne_80 (by decide) ?_
      refine lv_iadd hx hb dX4_undoOne_81 ?_
      obtain ⟨μ10, e9, hf⟩ := ob1_s hf
      obtain ⟨hi, e9⟩ := wra_s e9
      refine g_iast hx hb hK hB 2 0 rfl rfl hi rfl dX4_undoOne_82 (w2 := (cM cyI cyO ad μ10)) (by rw [← e9]; rfl) (fun H locs hB => ?_)
      refine lv_aload_n hx hb dX4_undoOne_83 rfl (lv_at hl 3 rfl) ?_
      refine g_get (C := RX4) (T := TX4) (N := 15) hx hb hts hinX4 hown hK hB 0 rfl rfl 8 rfl hq1 rfl rfl dX4_undoOne_84 ?_
      refine lv_iload_n hx hb dX4_undoOne_87 rfl (lv_at hl 1 rfl) ?_
      refine lv_bipush (v := (7 : Int32)) hx hb dX4_undoOne_88 (by decide) ?_
      refine lv_iadd hx hb dX4_undoOne_90 ?_
      refine lv_dup2_11 hx hb dX4_undoOne_91 rfl rfl ?_
      obtain ⟨x11, e9, hf⟩ := ob1_s hf
      refine g_iald hx hb hK hB 2 0 rfl rfl (rd_s e9) dX4_undoOne_92 ?_
      refine lv_iconst (v := (1 : Int32)) hx hb dX4_undoOne_93 (by decide) ?_
      refine lv_iadd hx hb dX4_undoOne_94 ?_
      obtain ⟨μ12, e9, hf⟩ := ob1_s hf
      obtain ⟨hi, e9⟩ := wra_s e9
      refine g_iast hx hb hK hB 2 0 rfl rfl hi rfl dX4_undoOne_95 (w2 := (cM cyI cyO ad μ12)) (by rw [← e9]; rfl) (fun H locs hB => ?_)
      refine lv_aload_n hx hb dX4_undoOne_96 rfl (lv_at hl 3 rfl) ?_
      refine g_get (C := RX4) (T := TX4) (N := 15) hx hb hts hinX4 hown hK hB 0 rfl rfl 8 rfl hq1 rfl rfl dX4_undoOne_97 ?_
      refine lv_iload_n hx hb dX4_undoOne_100 rfl (lv_at hl 1 rfl) ?_
      refine lv_bipush (v := (7 : Int32)) hx hb dX4_undoOne_101 (by decide) ?_
      refine lv_iadd hx hb dX4_undoOne_103 ?_
      obtain ⟨x13, e9, hf⟩ := ob1_s hf
      refine g_iald hx hb hK hB 2 0 rfl rfl (rd_s e9) dX4_undoOne_104 ?_
      refine lv_aload_n hx hb dX4_undoOne_105 rfl (lv_at hl 3 rfl) ?_
      refine g_get (C := RX4) (T := TX4) (N := 15) hx hb hts hinX4 hown hK hB 0 rfl rfl 8 rfl hq1 rfl rfl dX4_undoOne_106 ?_
      refine lv_iconst (v := (5 : Int32)) hx hb dX4_undoOne_109 (by decide) ?_
      obtain ⟨x14, e9, hf⟩ := ob1_s hf
      refine g_iald hx hb hK hB 2 0 rfl rfl (rd_s e9) dX4_undoOne_110 ?_
      obtain ⟨μ15, hJ16, hf⟩ := ob1_s hf
      have kJ17 : ∀ (H : Heap) (locs : List Loc) (ls : Array Slot), Bd (dC, dI) [(cyI, .int), (cyO, .array .int)] (va_A (cM cyI cyO ad μ) s.heap.size) s (cM cyI cyO ad μ15) H locs → lv_has ls 5 [] → W p l e (headSpec wsX4_undoOne rmX4_undoOne).room s m ([.ref (ad 0), .int i1] : List Value).toArray below meth c H locs 0 0 (MQ below (QvF (dC, dI) [(cyI, .int), (cyO, .array .int)] (cM cyI cyO ad μ) (cM cyI cyO ad μ_) s.heap.size) ([.ref (ad 0), .int i1] : List Value).toArray s 0 0 (va_A (cM cyI cyO ad μ) s.heap.size)) (F0 m 120 ls []) := by
        intro H locs ls hB hl
        have e0 := inj1 hf
        subst e0
        exact g_vret hx hb hr hlocks hK hB dX4_undoOne_120
      refine lv_icmp_ne (tgt := 120) hx hb dX4_undoOne_111 (by decide) (fun c18 => ?_) (fun c18 => ?_)
      · have hJ16 := ite_f c18 hJ16
        have e0 := inj1 hJ16
        subst e0
        exact kJ17 _ _ _ hB (lv_sub hl [] rfl)
      · have hJ16 := ite_t c18 hJ16
        refine lv_aload_n hx hb dX4_undoOne_114 rfl (lv_at hl 3 rfl) ?_
        refine lv_iload_n hx hb dX4_undoOne_115 rfl (lv_at hl 4 rfl) ?_
        refine lv_iconst (v := (5 : Int32)) hx hb dX4_undoOne_116 (by decide) ?_
        obtain ⟨μ19, hc, hJ16⟩ := ob1_s hJ16
        refine g_callVv (As := [.int i1, .int (5 : Int32)]) (rest := []) ⟨hx, hb, hml, hown, hts⟩ (kX4_rest l dC dI cyI cyO ad H.size hc) (cwV 2 hts gX4_undoOne_X4_rest rfl rfl rfl (by decide +kernel) ⟨Nat.le_of_ble_eq_true rfl, Nat.le_of_ble_eq_true rfl⟩) hK hB hA (g_recv (ci := 4) hK hB 0 rfl rfl rfl) rfl hl.1 rfl (Nat.le_of_ble_eq_true rfl) dX4_undoOne_117 ⟨Nat.zero_le _, Nat.zero_le _⟩ (fun H locs hB => ?_)
        have e0 := inj1 hJ16
        subst e0
        exact kJ17 _ _ _ hB (lv_sub hl [] rfl)
    · have hf := ite_t c6 hf
      refine lv_aload_n hx hb dX4_undoOne_42 rfl (lv_at hl 3 rfl) ?_
      refine lv_iload hx hb dX4_undoOne_43 (lv_at hl 0 rfl) ?_
      obtain ⟨μ20, hc, hf⟩ := ob1_s hf
      refine g_callVv (As := [.int r4]) (rest := []) ⟨hx, hb, hml, hown, hts⟩ (kX4_putBack l dC dI cyI cyO ad H.size hc) (cwV 1 hts gX4_undoOne_X4_putBack rfl rfl rfl (by decide +kernel) ⟨Nat.le_of_ble_eq_true rfl, Nat.le_of_ble_eq_true rfl⟩) hK hB hA (g_recv (ci := 4) hK hB 0 rfl rfl rfl) rfl hl.1 rfl (Nat.le_of_ble_eq_true rfl) dX4_undoOne_45 ⟨Nat.zero_le _, Nat.zero_le _⟩ (fun H locs hB => ?_)
      refine lv_aload_n hx hb dX4_undoOne_48 rfl (lv_at hl 3 rfl) ?_
      refine g_get (C := RX4) (T := TX4) (N := 15) hx hb hts hinX4 hown hK hB 0 rfl rfl 8 rfl hq1 rfl rfl dX4_undoOne_49 ?_
      refine lv_iload_n hx hb dX4_undoOne_52 rfl (lv_at hl 1 rfl) ?_
      refine lv_bipush (v := (7 : Int32)) hx hb dX4_undoOne_53 (by decide) ?_
      refine lv_iadd hx hb dX4_undoOne_55 ?_
      refine lv_iconst (v := (0 : Int32)) hx hb dX4_undoOne_56 (by decide) ?_
      obtain ⟨μ21, e9, hf⟩ := ob1_s hf
      obtain ⟨hi, e9⟩ := wra_s e9
      refine g_iast hx hb hK hB 2 0 rfl rfl hi rfl dX4_undoOne_57 (w2 := (cM cyI cyO ad μ21)) (by rw [← e9]; rfl) (fun H locs hB => ?_)
      have e0 := inj1 hf
      subst e0
      exact g_vret hx hb hr hlocks hK hB dX4_undoOne_58
  · have hf := ite_f c3 hf
    refine lv_aload_n hx hb dX4_undoOne_15 rfl (lv_at hl 2 rfl) ?_
    refine lv_iload_n hx hb dX4_undoOne_16 rfl (lv_at hl 3 rfl) ?_
    refine lv_iconst (v := (4 : Int32)) hx hb dX4_undoOne_17 (by decide) ?_
    obtain ⟨μ22, hc, hf⟩ := ob1_s hf
    refine g_callVv (As := [.int i1, .int (4 : Int32)]) (rest := []) ⟨hx, hb, hml, hown, hts⟩ (kX4_rest l dC dI cyI cyO ad H.size hc) (cwV 2 hts gX4_undoOne_X4_rest rfl rfl rfl (by decide +kernel) ⟨Nat.le_of_ble_eq_true rfl, Nat.le_of_ble_eq_true rfl⟩) hK hB hA (g_recv (ci := 4) hK hB 0 rfl rfl rfl) rfl hl.1 rfl (Nat.le_of_ble_eq_true rfl) dX4_undoOne_18 ⟨Nat.zero_le _, Nat.zero_le _⟩ (fun H locs hB => ?_)
    have e0 := inj1 hf
    subst e0
    exact g_vret hx hb hr hlocks hK hB dX4_undoOne_21

abbrev rmX4_tick : Room := { frames := 9, cells := 0, slots := 0, locals := 201 }

set_option maxHeartbeats 4000000 in
set_option maxRecDepth 100000 in
theorem kX4_tick (l : Launch) (dC : Nat → ClassId) (dI : Nat → Nat → Nat) (cyI cyO : ClassId) (ad : Nat → Nat) (sz : Nat) {fu : Nat} {μ : MS} {μ_ : MS} (hf : mX4_tick fu μ = some μ_) : Met l yX4_tick wsX4_tick rmX4_tick (PcF (dC, dI) [(cyI, .int), (cyO, .array .int)] (cM cyI cyO ad μ) sz [.ref (ad 0)]) (QvF (dC, dI) [(cyI, .int), (cyO, .array .int)] (cM cyI cyO ad μ) (cM cyI cyO ad μ_) sz) 0 0 (va_A (cM cyI cyO ad μ) sz) := by
  refine Met.ofW (cc := cX4_tick) (maxL := 2) (ret := none) (by decide) rfl ?_
  intro p e s m args below meth c s₁ B hml hv
  obtain ⟨rfl, hsz, hP, hK, hD0⟩ := hv
  have hx := B.exec
  have hb := B.bytes
  have hr := B.returns
  have hts := atoms_spec (ws := wsX4_tick) B.pre
  have hown : s.vm.findClass RX4 = some m.cls := findClass_of_methodNamed B.named
  have hlocks := B.notSynchronized
  subst hsz
  have hA : ∀ q : Nat, s.heap.size ≤ q → va_A (cM cyI cyO ad μ) s.heap.size q := fun q h => Or.inr h
  have hB : Bd (dC, dI) [(cyI, .int), (cyO, .array .int)] (va_A (cM cyI cyO ad μ) s.heap.size) s (cM cyI cyO ad μ) s.heap [] := ⟨hP, hD0.self, va_S.rf⟩
  have hq1 : (Cond.fieldLink RX4 17 "UndoJourneysModel" "data" "[I").before _ s = true := hts _ (List.mem_of_getElem? (i := 1) rfl)
  have hinX4 : ∀ w ∈ wsX40, w ∈ wsX4_tick := fun w h => List.mem_cons_of_mem _ (List.mem_append_right _ h)
  have hl := lv_entry [.ref (ad 0)] (n := 2) (Nat.le_of_ble_eq_true rfl)
  rw [lg_entry_eq]
  generalize (lg_sl [.ref (ad 0)] ++ List.replicate (2 - (lg_sl [.ref (ad 0)]).length) Slot.unset).toArray = ls at hl ⊢
  have hl : lv_has ls 2 [(0, .ref (ad 0))] := hl
  clear hP hD0
  suffices main : ∀ (H : Heap) (locs : List Loc), Bd (dC, dI) [(cyI, .int), (cyO, .array .int)] (va_A (cM cyI cyO ad μ) s.heap.size) s (cM cyI cyO ad μ) H locs → W p l e (headSpec wsX4_tick rmX4_tick).room s m ([.ref (ad 0)] : List Value).toArray below meth c H locs 0 0 (MQ below (QvF (dC, dI) [(cyI, .int), (cyO, .array .int)] (cM cyI cyO ad μ) (cM cyI cyO ad μ_) s.heap.size) ([.ref (ad 0)] : List Value).toArray s 0 0 (va_A (cM cyI cyO ad μ) s.heap.size)) (F0 m 0 ls []) from main _ _ hB
  clear hB
  intro H locs hB
  unfold mX4_tick at hf
  refine lv_iconst (v := (0 : Int32)) hx hb dX4_tick_0 (by decide) ?_
  refine lv_istore_n (lv' := [(1, .int (0 : Int32)), (0, .ref (ad 0))]) hx hb dX4_tick_1 rfl hl (by decide) rfl (fun ls hl => ?_)
  obtain ⟨μ19, hL22, hf⟩ := ob1_s hf
  have kE20 : ∀ (H : Heap) (locs : List Loc) (ls : Array Slot), Bd (dC, dI) [(cyI, .int), (cyO, .array .int)] (va_A (cM cyI cyO ad μ) s.heap.size) s (cM cyI cyO ad μ19) H locs → lv_has ls 2 [(0, .ref (ad 0))] → W p l e (headSpec wsX4_tick rmX4_tick).room s m ([.ref (ad 0)] : List Value).toArray below meth c H locs 0 0 (MQ below (QvF (dC, dI) [(cyI, .int), (cyO, .array .int)] (cM cyI cyO ad μ) (cM cyI cyO ad μ_) s.heap.size) ([.ref (ad 0)] : List Value).toArray s 0 0 (va_A (cM cyI cyO ad μ) s.heap.size)) (F0 m 81 ls []) := by
    intro H locs ls hB hl
    refine lv_iconst (v := (0 : Int32)) hx hb dX4_tick_81 (by decide) ?_
    refine lv_istore_n (lv' := [(1, .int (0 : Int32)), (0, .ref (ad 0))]) hx hb dX4_tick_82 rfl hl (by decide) rfl (fun ls hl => ?_)
    obtain ⟨μ34, hL37, hf⟩ := ob1_s hf
    have kE35 : ∀ (H : Heap) (locs : List Loc) (ls : Array Slot), Bd (dC, dI) [(cyI, .int), (cyO, .array .int)] (va_A (cM cyI cyO ad μ) s.heap.size) s (cM cyI cyO ad μ34) H locs → lv_has ls 2 [(0, .ref (ad 0))] → W p l e (headSpec wsX4_tick rmX4_tick).room s m ([.ref (ad 0)] : List Value).toArray below meth c H locs 0 0 (MQ below (QvF (dC, dI) [(cyI, .int), (cyO, .array .int)] (cM cyI cyO ad μ) (cM cyI cyO ad μ_) s.heap.size) ([.ref (ad 0)] : List Value).toArray s 0 0 (va_A (cM cyI cyO ad μ) s.heap.size)) (F0 m 114 ls []) := by
      intro H locs ls hB hl
      refine lv_iconst (v := (0 : Int32)) hx hb dX4_tick_114 (by decide) ?_
      refine lv_istore_n (lv' := [(1, .int (0 : Int32)), (0, .ref (ad 0))]) hx hb dX4_tick_115 rfl hl (by decide) rfl (fun ls hl => ?_)
      obtain ⟨μ49, hL52, hf⟩ := ob1_s hf
      have kE50 : ∀ (H : Heap) (locs : List Loc) (ls : Array Slot), Bd (dC, dI) [(cyI, .int), (cyO, .array .int)] (va_A (cM cyI cyO ad μ) s.heap.size) s (cM cyI cyO ad μ49) H locs → lv_has ls 2 [(0, .ref (ad 0))] → W p l e (headSpec wsX4_tick rmX4_tick).room s m ([.ref (ad 0)] : List Value).toArray below meth c H locs 0 0 (MQ below (QvF (dC, dI) [(cyI, .int), (cyO, .array .int)] (cM cyI cyO ad μ) (cM cyI cyO ad μ_) s.heap.size) ([.ref (ad 0)] : List Value).toArray s 0 0 (va_A (cM cyI cyO ad μ) s.heap.size)) (F0 m 148 ls []) := by
        intro H locs ls hB hl
        refine lv_aload_n hx hb dX4_tick_148 rfl (lv_at hl 0 rfl) ?_
        refine g_get (C := RX4) (T := TX4) (N := 15) hx hb hts hinX4 hown hK hB 0 rfl rfl 8 rfl hq1 rfl rfl dX4_tick_149 ?_
        refine lv_iconst (v := (0 : Int32)) hx hb dX4_tick_152 (by decide) ?_
        refine lv_dup2_11 hx hb dX4_tick_153 rfl rfl ?_
        obtain ⟨x54, e9, hf⟩ := ob1_s hf
        refine g_iald hx hb hK hB 2 0 rfl rfl (rd_s e9) dX4_tick_154 ?_
        refine lv_iconst (v := (1 : Int32)) hx hb dX4_tick_155 (by decide) ?_
        refine lv_iadd hx hb dX4_tick_156 ?_
        obtain ⟨μ55, e9, hf⟩ := ob1_s hf
        obtain ⟨hi, e9⟩ := wra_s e9
        refine g_iast hx hb hK hB 2 0 rfl rfl hi rfl dX4_tick_157 (w2 := (cM cyI cyO ad μ55)) (by rw [← e9]; rfl) (fun H locs hB => ?_)
        have e0 := inj1 hf
        subst e0
        exact g_vret hx hb hr hlocks hK hB dX4_tick_158
      have key51 : ∀ (n9 : Nat) (v57 : Int32) (μ58 : MS) (H : Heap) (locs : List Loc) (ls : Array Slot), loopM (fun st => mX4_tick_L116 fu st.1 st.2) n9 (v57, μ58) = some μ49 → Bd (dC, dI) [(cyI, .int), (cyO, .array .int)] (va_A (cM cyI cyO ad μ) s.heap.size) s (cM cyI cyO ad μ58) H locs → lv_has ls 2 [(1, .int v57), (0, .ref (ad 0))] → W p l e (headSpec wsX4_tick rmX4_tick).room s m ([.ref (ad 0)] : List Value).toArray below meth c H locs 0 0 (MQ below (QvF (dC, dI) [(cyI, .int), (cyO, .array .int)] (cM cyI cyO ad μ) (cM cyI cyO ad μ_) s.heap.size) ([.ref (ad 0)] : List Value).toArray s 0 0 (va_A (cM cyI cyO ad μ) s.heap.size)) (F0 m 116 ls []) := by
        intro n9
        induction n9 with
        | zero => intro v57 μ58 H locs ls hL52; exact (loopM_z hL52).elim
        | succ n9 ih9 =>
          intro v57 μ58 H locs ls hL52 hB hl
          obtain ⟨o59, hg53, hL52⟩ := loopM_s hL52
          have hg53 : mX4_tick_L116 fu v57 μ58 = some o59 := hg53
          unfold mX4_tick_L116 at hg53
          refine lv_iload_n hx hb dX4_tick_116 rfl (lv_at hl 0 rfl) ?_
          refine lv_aload_n hx hb dX4_tick_117 rfl (lv_at hl 1 rfl) ?_
          refine g_get (C := RX4) (T := TX4) (N := 15) hx hb hts hinX4 hown hK hB 0 rfl rfl 8 rfl hq1 rfl rfl dX4_tick_118 ?_
          refine lv_iconst (v := (2 : Int32)) hx hb dX4_tick_121 (by decide) ?_
          obtain ⟨x60, e9, hg53⟩ := ob1_s hg53
          refine g_iald hx hb hK hB 2 0 rfl rfl (rd_s e9) dX4_tick_122 ?_
          refine lv_icmp_ge (tgt := 148) hx hb dX4_tick_123 (by decide) (fun c61 => ?_) (fun c61 => ?_)
          · have hg53 := ite_t c61 hg53
            have hL52 := el1_l (inj1 hg53) hL52
            have e0 := inj1 hL52
            subst e0
            exact kE50 _ _ _ hB (lv_sub hl [1] rfl)
          · have hg53 := ite_f c61 hg53
            refine lv_aload_n hx hb dX4_tick_126 rfl (lv_at hl 1 rfl) ?_
            refine lv_iload_n hx hb dX4_tick_127 rfl (lv_at hl 0 rfl) ?_
            refine lv_bipush (v := (8 : Int32)) hx hb dX4_tick_128 (by decide) ?_
            obtain ⟨r62, hc, hg53⟩ := ob1_s hg53
            refine g_callVi (As := [.int v57, .int (8 : Int32)]) (rest := []) ⟨hx, hb, hml, hown, hts⟩ (kX4_ofJourney l dC dI cyI cyO ad H.size hc) (cwV 2 hts gX4_tick_X4_ofJourney rfl rfl rfl (by decide +kernel) ⟨Nat.le_of_ble_eq_true rfl, Nat.le_of_ble_eq_true rfl⟩) hK hB hA (g_recv (ci := 4) hK hB 0 rfl rfl rfl) rfl hl.1 rfl (Nat.le_of_ble_eq_true rfl) dX4_tick_130 ⟨Nat.zero_le _, Nat.zero_le _⟩ (fun H locs hB => ?_)
            refine lv_iconst (v := (2 : Int32)) hx hb dX4_tick_133 (by decide) ?_
            obtain ⟨μ63, hJ64, hg53⟩ := ob1_s hg53
            have kJ65 : ∀ (H : Heap) (locs : List Loc) (ls : Array Slot), Bd (dC, dI) [(cyI, .int), (cyO, .array .int)] (va_A (cM cyI cyO ad μ) s.heap.size) s (cM cyI cyO ad μ63) H locs → lv_has ls 2 [(1, .int v57), (0, .ref (ad 0))] → W p l e (headSpec wsX4_tick rmX4_tick).room s m ([.ref (ad 0)] : List Value).toArray below meth c H locs 0 0 (MQ below (QvF (dC, dI) [(cyI, .int), (cyO, .array .int)] (cM cyI cyO ad μ) (cM cyI cyO ad μ_) s.heap.size) ([.ref (ad 0)] : List Value).toArray s 0 0 (va_A (cM cyI cyO ad μ) s.heap.size)) (F0 m 142 ls []) := by
              intro H locs ls hB hl
              refine lv_iinc (v := (v57 + (1 : Int32))) (lv' := [(1, .int (v57 + (1 : Int32))), (0, .ref (ad 0))]) hx hb dX4_tick_142 hl (k := 0) rfl rfl (by decide) rfl (fun ls hl => ?_)
              refine lv_goto (tgt := 116) hx hb dX4_tick_145 (by decide) ?_
              have hL52 := el1_r (inj1 hg53) hL52
              exact ih9 _ _ _ _ _ hL52 hB (lv_sub hl [0, 1] rfl)
            refine lv_icmp_ne (tgt := 142) hx hb dX4_tick_134 (by decide) (fun c66 => ?_) (fun c66 => ?_)
            · have hJ64 := ite_f c66 hJ64
              have e0 := inj1 hJ64
              subst e0
              exact kJ65 _ _ _ hB (lv_sub hl [0, 1] rfl)
            · have hJ64 := ite_t c66 hJ64
              refine lv_aload_n hx hb dX4_tick_137 rfl (lv_at hl 1 rfl) ?_
              refine lv_iload_n hx hb dX4_tick_138 rfl (lv_at hl 0 rfl) ?_
              obtain ⟨μ67, hc, hJ64⟩ := ob1_s hJ64
              refine g_callVv (As := [.int v57]) (rest := []) ⟨hx, hb, hml, hown, hts⟩ (kX4_undoOne l dC dI cyI cyO ad H.size hc) (cwV 1 hts gX4_tick_X4_undoOne rfl rfl rfl (by decide +kernel) ⟨Nat.le_of_ble_eq_true rfl, Nat.le_of_ble_eq_true rfl⟩) hK hB hA (g_recv (ci := 4) hK hB 0 rfl rfl rfl) rfl hl.1 rfl (Nat.le_of_ble_eq_true rfl) dX4_tick_139 ⟨Nat.zero_le _, Nat.zero_le _⟩ (fun H locs hB => ?_)
              have e0 := inj1 hJ64
              subst e0
              exact kJ65 _ _ _ hB (lv_sub hl [0, 1] rfl)
      exact key51 fu _ _ _ _ _ hL52 hB (lv_sub hl [0, 1] rfl)
    have key36 : ∀ (n9 : Nat) (v69 : Int32) (μ70 : MS) (H : Heap) (locs : List Loc) (ls : Array Slot), loopM (fun st => mX4_tick_L83 fu st.1 st.2) n9 (v69, μ70) = some μ34 → Bd (dC, dI) [(cyI, .int), (cyO, .array .int)] (va_A (cM cyI cyO ad μ) s.heap.size) s (cM cyI cyO ad μ70) H locs → lv_has ls 2 [(1, .int v69), (0, .ref (ad 0))] → W p l e (headSpec wsX4_tick rmX4_tick).room s m ([.ref (ad 0)] : List Value).toArray below meth c H locs 0 0 (MQ below (QvF (dC, dI) [(cyI, .int), (cyO, .array .int)] (cM cyI cyO ad μ) (cM cyI cyO ad μ_) s.heap.size) ([.ref (ad 0)] : List Value).toArray s 0 0 (va_A (cM cyI cyO ad μ) s.heap.size)) (F0 m 83 ls []) := by
      intro n9
      induction n9 with
      | zero => intro v69 μ70 H locs ls hL37; exact (loopM_z hL37).elim
      | succ n9 ih9 =>
        intro v69 μ70 H locs ls hL37 hB hl
        obtain ⟨o71, hg38, hL37⟩ := loopM_s hL37
        have hg38 : mX4_tick_L83 fu v69 μ70 = some o71 := hg38
        unfold mX4_tick_L83 at hg38
        refine lv_iload_n hx hb dX4_tick_83 rfl (lv_at hl 0 rfl) ?_
        refine lv_aload_n hx hb dX4_tick_84 rfl (lv_at hl 1 rfl) ?_
        refine g_get (C := RX4) (T := TX4) (N := 15) hx hb hts hinX4 hown hK hB 0 rfl rfl 8 rfl hq1 rfl rfl dX4_tick_85 ?_
        refine lv_iconst (v := (2 : Int32)) hx hb dX4_tick_88 (by decide) ?_
        obtain ⟨x72, e9, hg38⟩ := ob1_s hg38
        refine g_iald hx hb hK hB 2 0 rfl rfl (rd_s e9) dX4_tick_89 ?_
        refine lv_icmp_ge (tgt := 114) hx hb dX4_tick_90 (by decide) (fun c73 => ?_) (fun c73 => ?_)
        · have hg38 := ite_t c73 hg38
          have hL37 := el1_l (inj1 hg38) hL37
          have e0 := inj1 hL37
          subst e0
          exact kE35 _ _ _ hB (lv_sub hl [1] rfl)
        · have hg38 := ite_f c73 hg38
          refine lv_aload_n hx hb dX4_tick_93 rfl (lv_at hl 1 rfl) ?_
          refine lv_iload_n hx hb dX4_tick_94 rfl (lv_at hl 0 rfl) ?_
          refine lv_iconst (v := (0 : Int32)) hx hb dX4_tick_95 (by decide) ?_
          obtain ⟨r74, hc, hg38⟩ := ob1_s hg38
          refine g_callVi (As := [.int v69, .int (0 : Int32)]) (rest := []) ⟨hx, hb, hml, hown, hts⟩ (kX4_ofJourney l dC dI cyI cyO ad H.size hc) (cwV 2 hts gX4_tick_X4_ofJourney rfl rfl rfl (by decide +kernel) ⟨Nat.le_of_ble_eq_true rfl, Nat.le_of_ble_eq_true rfl⟩) hK hB hA (g_recv (ci := 4) hK hB 0 rfl rfl rfl) rfl hl.1 rfl (Nat.le_of_ble_eq_true rfl) dX4_tick_96 ⟨Nat.zero_le _, Nat.zero_le _⟩ (fun H locs hB => ?_)
          refine lv_iconst (v := (1 : Int32)) hx hb dX4_tick_99 (by decide) ?_
          obtain ⟨μ75, hJ76, hg38⟩ := ob1_s hg38
          have kJ77 : ∀ (H : Heap) (locs : List Loc) (ls : Array Slot), Bd (dC, dI) [(cyI, .int), (cyO, .array .int)] (va_A (cM cyI cyO ad μ) s.heap.size) s (cM cyI cyO ad μ75) H locs → lv_has ls 2 [(1, .int v69), (0, .ref (ad 0))] → W p l e (headSpec wsX4_tick rmX4_tick).room s m ([.ref (ad 0)] : List Value).toArray below meth c H locs 0 0 (MQ below (QvF (dC, dI) [(cyI, .int), (cyO, .array .int)] (cM cyI cyO ad μ) (cM cyI cyO ad μ_) s.heap.size) ([.ref (ad 0)] : List Value).toArray s 0 0 (va_A (cM cyI cyO ad μ) s.heap.size)) (F0 m 108 ls []) := by
            intro H locs ls hB hl
            refine lv_iinc (v := (v69 + (1 : Int32))) (lv' := [(1, .int (v69 + (1 : Int32))), (0, .ref (ad 0))]) hx hb dX4_tick_108 hl (k := 0) rfl rfl (by decide) rfl (fun ls hl => ?_)
            refine lv_goto (tgt := 83) hx hb dX4_tick_111 (by decide) ?_
            have hL37 := el1_r (inj1 hg38) hL37
            exact ih9 _ _ _ _ _ hL37 hB (lv_sub hl [0, 1] rfl)
          refine lv_icmp_ne (tgt := 108) hx hb dX4_tick_100 (by decide) (fun c78 => ?_) (fun c78 => ?_)
          · have hJ76 := ite_f c78 hJ76
            have e0 := inj1 hJ76
            subst e0
            exact kJ77 _ _ _ hB (lv_sub hl [0, 1] rfl)
          · have hJ76 := ite_t c78 hJ76
            refine lv_aload_n hx hb dX4_tick_103 rfl (lv_at hl 1 rfl) ?_
            refine lv_iload_n hx hb dX4_tick_104 rfl (lv_at hl 0 rfl) ?_
            obtain ⟨μ79, hc, hJ76⟩ := ob1_s hJ76
            refine g_callVv (As := [.int v69]) (rest := []) ⟨hx, hb, hml, hown, hts⟩ (kX4_goOn l dC dI cyI cyO ad H.size hc) (cwV 1 hts gX4_tick_X4_goOn rfl rfl rfl (by decide +kernel) ⟨Nat.le_of_ble_eq_true rfl, Nat.le_of_ble_eq_true rfl⟩) hK hB hA (g_recv (ci := 4) hK hB 0 rfl rfl rfl) rfl hl.1 rfl (Nat.le_of_ble_eq_true rfl) dX4_tick_105 ⟨Nat.zero_le _, Nat.zero_le _⟩ (fun H locs hB => ?_)
            have e0 := inj1 hJ76
            subst e0
            exact kJ77 _ _ _ hB (lv_sub hl [0, 1] rfl)
    exact key36 fu _ _ _ _ _ hL37 hB (lv_sub hl [0, 1] rfl)
  have key21 : ∀ (n9 : Nat) (v81 : Int32) (μ82 : MS) (H : Heap) (locs : List Loc) (ls : Array Slot), loopM (fun st => mX4_tick_L2 fu st.1 st.2) n9 (v81, μ82) = some μ19 → Bd (dC, dI) [(cyI, .int), (cyO, .array .int)] (va_A (cM cyI cyO ad μ) s.heap.size) s (cM cyI cyO ad μ82) H locs → lv_has ls 2 [(1, .int v81), (0, .ref (ad 0))] → W p l e (headSpec wsX4_tick rmX4_tick).room s m ([.ref (ad 0)] : List Value).toArray below meth c H locs 0 0 (MQ below (QvF (dC, dI) [(cyI, .int), (cyO, .array .int)] (cM cyI cyO ad μ) (cM cyI cyO ad μ_) s.heap.size) ([.ref (ad 0)] : List Value).toArray s 0 0 (va_A (cM cyI cyO ad μ) s.heap.size)) (F0 m 2 ls []) := by
    intro n9
    induction n9 with
    | zero => intro v81 μ82 H locs ls hL22; exact (loopM_z hL22).elim
    | succ n9 ih9 =>
      intro v81 μ82 H locs ls hL22 hB hl
      obtain ⟨o83, hg23, hL22⟩ := loopM_s hL22
      have hg23 : mX4_tick_L2 fu v81 μ82 = some o83 := hg23
      unfold mX4_tick_L2 at hg23
      refine lv_iload_n hx hb dX4_tick_2 rfl (lv_at hl 0 rfl) ?_
      refine lv_aload_n hx hb dX4_tick_3 rfl (lv_at hl 1 rfl) ?_
      refine g_get (C := RX4) (T := TX4) (N := 15) hx hb hts hinX4 hown hK hB 0 rfl rfl 8 rfl hq1 rfl rfl dX4_tick_4 ?_
      refine lv_iconst (v := (2 : Int32)) hx hb dX4_tick_7 (by decide) ?_
      obtain ⟨x84, e9, hg23⟩ := ob1_s hg23
      refine g_iald hx hb hK hB 2 0 rfl rfl (rd_s e9) dX4_tick_8 ?_
      refine lv_icmp_ge (tgt := 81) hx hb dX4_tick_9 (by decide) (fun c85 => ?_) (fun c85 => ?_)
      · have hg23 := ite_t c85 hg23
        have hL22 := el1_l (inj1 hg23) hL22
        have e0 := inj1 hL22
        subst e0
        exact kE20 _ _ _ hB (lv_sub hl [1] rfl)
      · have hg23 := ite_f c85 hg23
        refine lv_aload_n hx hb dX4_tick_12 rfl (lv_at hl 1 rfl) ?_
        refine g_get (C := RX4) (T := TX4) (N := 15) hx hb hts hinX4 hown hK hB 0 rfl rfl 8 rfl hq1 rfl rfl dX4_tick_13 ?_
        refine lv_iload_n hx hb dX4_tick_16 rfl (lv_at hl 0 rfl) ?_
        obtain ⟨r86, hc, hg23⟩ := ob1_s hg23
        refine g_pcutSi (As := [.int v81]) (rest := [.ref (ad 8)]) (w2 := (cM cyI cyO ad μ82)) ⟨hx, hb, hml, hown, hts⟩ (kX4_journeyAt l dC dI [(cyI, .int), (cyO, .array .int)] H.size hc) (va_cwS 1 hts gX4_tick_X4_journeyAt rfl rfl rfl (by decide +kernel) ⟨Nat.le_of_ble_eq_true rfl, Nat.le_of_ble_eq_true rfl⟩) hK hB hA (List.Perm.refl _) (List.Perm.refl _) rfl hl.1 rfl (Nat.le_of_ble_eq_true rfl) dX4_tick_17 ⟨Nat.zero_le _, Nat.zero_le _⟩ (fun H locs hB => ?_)
        refine lv_bipush (v := (8 : Int32)) hx hb dX4_tick_20 (by decide) ?_
        refine lv_iadd hx hb dX4_tick_22 ?_
        refine lv_aload_n hx hb dX4_tick_23 rfl (lv_at hl 1 rfl) ?_
        refine lv_iload_n hx hb dX4_tick_24 rfl (lv_at hl 0 rfl) ?_
        refine lv_iconst (v := (0 : Int32)) hx hb dX4_tick_25 (by decide) ?_
        obtain ⟨r87, hc, hg23⟩ := ob1_s hg23
        refine g_callVi (As := [.int v81, .int (0 : Int32)]) (rest := [.int (r86 + (8 : Int32)), .ref (ad 8)]) ⟨hx, hb, hml, hown, hts⟩ (kX4_ofJourney l dC dI cyI cyO ad H.size hc) (cwV 2 hts gX4_tick_X4_ofJourney rfl rfl rfl (by decide +kernel) ⟨Nat.le_of_ble_eq_true rfl, Nat.le_of_ble_eq_true rfl⟩) hK hB hA (g_recv (ci := 4) hK hB 0 rfl rfl rfl) rfl hl.1 rfl (Nat.le_of_ble_eq_true rfl) dX4_tick_26 ⟨Nat.zero_le _, Nat.zero_le _⟩ (fun H locs hB => ?_)
        obtain ⟨μ88, e9, hg23⟩ := ob1_s hg23
        obtain ⟨hi, e9⟩ := wra_s e9
        refine g_iast hx hb hK hB 2 0 rfl rfl hi rfl dX4_tick_29 (w2 := (cM cyI cyO ad μ88)) (by rw [← e9]; rfl) (fun H locs hB => ?_)
        refine lv_aload_n hx hb dX4_tick_30 rfl (lv_at hl 1 rfl) ?_
        refine lv_iload_n hx hb dX4_tick_31 rfl (lv_at hl 0 rfl) ?_
        refine lv_iconst (v := (0 : Int32)) hx hb dX4_tick_32 (by decide) ?_
        obtain ⟨r89, hc, hg23⟩ := ob1_s hg23
        refine g_callVi (As := [.int v81, .int (0 : Int32)]) (rest := []) ⟨hx, hb, hml, hown, hts⟩ (kX4_ofJourney l dC dI cyI cyO ad H.size hc) (cwV 2 hts gX4_tick_X4_ofJourney rfl rfl rfl (by decide +kernel) ⟨Nat.le_of_ble_eq_true rfl, Nat.le_of_ble_eq_true rfl⟩) hK hB hA (g_recv (ci := 4) hK hB 0 rfl rfl rfl) rfl hl.1 rfl (Nat.le_of_ble_eq_true rfl) dX4_tick_33 ⟨Nat.zero_le _, Nat.zero_le _⟩ (fun H locs hB => ?_)
        obtain ⟨μ90, hJ91, hg23⟩ := ob1_s hg23
        have kJ92 : ∀ (H : Heap) (locs : List Loc) (ls : Array Slot), Bd (dC, dI) [(cyI, .int), (cyO, .array .int)] (va_A (cM cyI cyO ad μ) s.heap.size) s (cM cyI cyO ad μ90) H locs → lv_has ls 2 [(1, .int v81), (0, .ref (ad 0))] → W p l e (headSpec wsX4_tick rmX4_tick).room s m ([.ref (ad 0)] : List Value).toArray below meth c H locs 0 0 (MQ below (QvF (dC, dI) [(cyI, .int), (cyO, .array .int)] (cM cyI cyO ad μ) (cM cyI cyO ad μ_) s.heap.size) ([.ref (ad 0)] : List Value).toArray s 0 0 (va_A (cM cyI cyO ad μ) s.heap.size)) (F0 m 75 ls []) := by
          intro H locs ls hB hl
          refine lv_iinc (v := (v81 + (1 : Int32))) (lv' := [(1, .int (v81 + (1 : Int32))), (0, .ref (ad 0))]) hx hb dX4_tick_75 hl (k := 0) rfl rfl (by decide) rfl (fun ls hl => ?_)
          refine lv_goto (tgt := 2) hx hb dX4_tick_78 (by decide) ?_
          have hL22 := el1_r (inj1 hg23) hL22
          exact ih9 _ _ _ _ _ hL22 hB (lv_sub hl [0, 1] rfl)
        refine lv_if_ne (tgt := 75) hx hb dX4_tick_36 (by decide) (fun c93 => ?_) (fun c93 => ?_)
        · have hJ91 := ite_f c93 hJ91
          have e0 := inj1 hJ91
          subst e0
          exact kJ92 _ _ _ hB (lv_sub hl [0, 1] rfl)
        · have hJ91 := ite_t c93 hJ91
          refine lv_aload_n hx hb dX4_tick_39 rfl (lv_at hl 1 rfl) ?_
          refine lv_iload_n hx hb dX4_tick_40 rfl (lv_at hl 0 rfl) ?_
          refine lv_iconst (v := (1 : Int32)) hx hb dX4_tick_41 (by decide) ?_
          obtain ⟨r94, hc, hJ91⟩ := ob1_s hJ91
          refine g_callVi (As := [.int v81, .int (1 : Int32)]) (rest := []) ⟨hx, hb, hml, hown, hts⟩ (kX4_ofJourney l dC dI cyI cyO ad H.size hc) (cwV 2 hts gX4_tick_X4_ofJourney rfl rfl rfl (by decide +kernel) ⟨Nat.le_of_ble_eq_true rfl, Nat.le_of_ble_eq_true rfl⟩) hK hB hA (g_recv (ci := 4) hK hB 0 rfl rfl rfl) rfl hl.1 rfl (Nat.le_of_ble_eq_true rfl) dX4_tick_42 ⟨Nat.zero_le _, Nat.zero_le _⟩ (fun H locs hB => ?_)
          refine lv_aload_n hx hb dX4_tick_45 rfl (lv_at hl 1 rfl) ?_
          refine g_get (C := RX4) (T := TX4) (N := 15) hx hb hts hinX4 hown hK hB 0 rfl rfl 8 rfl hq1 rfl rfl dX4_tick_46 ?_
          refine lv_iconst (v := (0 : Int32)) hx hb dX4_tick_49 (by decide) ?_
          obtain ⟨x95, e9, hJ91⟩ := ob1_s hJ91
          refine g_iald hx hb hK hB 2 0 rfl rfl (rd_s e9) dX4_tick_50 ?_
          refine lv_icmp_eq (tgt := 57) hx hb dX4_tick_51 (by decide) (fun c96 => ?_) (fun c96 => ?_)
          · have hJ91 := ite_t c96 hJ91
            refine lv_aload_n hx hb dX4_tick_57 rfl (lv_at hl 1 rfl) ?_
            refine g_get (C := RX4) (T := TX4) (N := 15) hx hb hts hinX4 hown hK hB 0 rfl rfl 8 rfl hq1 rfl rfl dX4_tick_58 ?_
            refine lv_iload_n hx hb dX4_tick_61 rfl (lv_at hl 0 rfl) ?_
            obtain ⟨r97, hc, hJ91⟩ := ob1_s hJ91
            refine g_pcutSi (As := [.int v81]) (rest := [.ref (ad 8)]) (w2 := (cM cyI cyO ad μ88)) ⟨hx, hb, hml, hown, hts⟩ (kX4_journeyAt l dC dI [(cyI, .int), (cyO, .array .int)] H.size hc) (va_cwS 1 hts gX4_tick_X4_journeyAt rfl rfl rfl (by decide +kernel) ⟨Nat.le_of_ble_eq_true rfl, Nat.le_of_ble_eq_true rfl⟩) hK hB hA (List.Perm.refl _) (List.Perm.refl _) rfl hl.1 rfl (Nat.le_of_ble_eq_true rfl) dX4_tick_62 ⟨Nat.zero_le _, Nat.zero_le _⟩ (fun H locs hB => ?_)
            refine lv_iconst (v := (0 : Int32)) hx hb dX4_tick_65 (by decide) ?_
            refine lv_iadd hx hb dX4_tick_66 ?_
            refine lv_iconst (v := (1 : Int32)) hx hb dX4_tick_67 (by decide) ?_
            obtain ⟨μ98, e9, hJ91⟩ := ob1_s hJ91
            obtain ⟨hi, e9⟩ := wra_s e9
            refine g_iast hx hb hK hB 2 0 rfl rfl hi rfl dX4_tick_68 (w2 := (cM cyI cyO ad μ98)) (by rw [← e9]; rfl) (fun H locs hB => ?_)
            refine lv_aload_n hx hb dX4_tick_69 rfl (lv_at hl 1 rfl) ?_
            refine lv_iload_n hx hb dX4_tick_70 rfl (lv_at hl 0 rfl) ?_
            refine lv_iconst (v := (0 : Int32)) hx hb dX4_tick_71 (by decide) ?_
            obtain ⟨μ99, hc, hJ91⟩ := ob1_s hJ91
            refine g_callVv (As := [.int v81, .int (0 : Int32)]) (rest := []) ⟨hx, hb, hml, hown, hts⟩ (kX4_present l dC dI cyI cyO ad H.size hc) (cwV 2 hts gX4_tick_X4_present rfl rfl rfl (by decide +kernel) ⟨Nat.le_of_ble_eq_true rfl, Nat.le_of_ble_eq_true rfl⟩) hK hB hA (g_recv (ci := 4) hK hB 0 rfl rfl rfl) rfl hl.1 rfl (Nat.le_of_ble_eq_true rfl) dX4_tick_72 ⟨Nat.zero_le _, Nat.zero_le _⟩ (fun H locs hB => ?_)
            have e0 := inj1 hJ91
            subst e0
            exact kJ92 _ _ _ hB (lv_sub hl [0, 1] rfl)
          · have hJ91 := ite_f c96 hJ91
            refine lv_goto (tgt := 75) hx hb dX4_tick_54 (by decide) ?_
            have e0 := inj1 hJ91
            subst e0
            exact kJ92 _ _ _ hB (lv_sub hl [0, 1] rfl)
  exact key21 fu _ _ _ _ _ hL22 hB (lv_sub hl [0, 1] rfl)

abbrev rmX4_rests : Room := { frames := 2, cells := 0, slots := 0, locals := 42 }

set_option maxHeartbeats 4000000 in
set_option maxRecDepth 100000 in
theorem kX4_rests (l : Launch) (dC : Nat → ClassId) (dI : Nat → Nat → Nat) (cyI cyO : ClassId) (ad : Nat → Nat) (sz : Nat) {fu : Nat} {μ : MS} {i1 : Int32} {r : Int32} (hf : mX4_rests fu μ i1 = some r) : Met l yX4_rests wsX4_rests rmX4_rests (PcF (dC, dI) [(cyI, .int), (cyO, .array .int)] (cM cyI cyO ad μ) sz [.ref (ad 0), .int i1]) (QzF (dC, dI) [(cyI, .int), (cyO, .array .int)] (cM cyI cyO ad μ) (cM cyI cyO ad μ) sz r) 0 0 (va_A (cM cyI cyO ad μ) sz) := by
  refine Met.ofW (cc := cX4_rests) (maxL := 2) (ret := (some .boolean)) (by decide) rfl ?_
  intro p e s m args below meth c s₁ B hml hv
  obtain ⟨rfl, hsz, hP, hK, hD0⟩ := hv
  have hx := B.exec
  have hb := B.bytes
  have hr := B.returns
  have hts := atoms_spec (ws := wsX4_rests) B.pre
  have hown : s.vm.findClass RX4 = some m.cls := findClass_of_methodNamed B.named
  have hlocks := B.notSynchronized
  subst hsz
  have hA : ∀ q : Nat, s.heap.size ≤ q → va_A (cM cyI cyO ad μ) s.heap.size q := fun q h => Or.inr h
  have hB : Bd (dC, dI) [(cyI, .int), (cyO, .array .int)] (va_A (cM cyI cyO ad μ) s.heap.size) s (cM cyI cyO ad μ) s.heap [] := ⟨hP, hD0.self, va_S.rf⟩
  have hinX4 : ∀ w ∈ wsX40, w ∈ wsX4_rests := fun w h => List.mem_cons_of_mem _ (List.mem_append_right _ h)
  have hl := lv_entry [.ref (ad 0), .int i1] (n := 2) (Nat.le_of_ble_eq_true rfl)
  rw [lg_entry_eq]
  generalize (lg_sl [.ref (ad 0), .int i1] ++ List.replicate (2 - (lg_sl [.ref (ad 0), .int i1]).length) Slot.unset).toArray = ls at hl ⊢
  have hl : lv_has ls 2 [(0, .ref (ad 0)), (1, .int i1)] := hl
  clear hP hD0
  suffices main : ∀ (H : Heap) (locs : List Loc), Bd (dC, dI) [(cyI, .int), (cyO, .array .int)] (va_A (cM cyI cyO ad μ) s.heap.size) s (cM cyI cyO ad μ) H locs → W p l e (headSpec wsX4_rests rmX4_rests).room s m ([.ref (ad 0), .int i1] : List Value).toArray below meth c H locs 0 0 (MQ below (QzF (dC, dI) [(cyI, .int), (cyO, .array .int)] (cM cyI cyO ad μ) (cM cyI cyO ad μ) s.heap.size r) ([.ref (ad 0), .int i1] : List Value).toArray s 0 0 (va_A (cM cyI cyO ad μ) s.heap.size)) (F0 m 0 ls []) from main _ _ hB
  clear hB
  intro H locs hB
  unfold mX4_rests at hf
  refine lv_aload_n hx hb dX4_rests_0 rfl (lv_at hl 0 rfl) ?_
  refine lv_iload_n hx hb dX4_rests_1 rfl (lv_at hl 1 rfl) ?_
  refine lv_iconst (v := (0 : Int32)) hx hb dX4_rests_2 (by decide) ?_
  obtain ⟨r1, hc, hf⟩ := ob1_s hf
  refine g_callVi (As := [.int i1, .int (0 : Int32)]) (rest := []) ⟨hx, hb, hml, hown, hts⟩ (kX4_ofJourney l dC dI cyI cyO ad H.size hc) (cwV 2 hts gX4_rests_X4_ofJourney rfl rfl rfl (by decide +kernel) ⟨Nat.le_of_ble_eq_true rfl, Nat.le_of_ble_eq_true rfl⟩) hK hB hA (g_recv (ci := 4) hK hB 0 rfl rfl rfl) rfl hl.1 rfl (Nat.le_of_ble_eq_true rfl) dX4_rests_3 ⟨Nat.zero_le _, Nat.zero_le _⟩ (fun H locs hB => ?_)
  refine lv_iconst (v := (3 : Int32)) hx hb dX4_rests_6 (by decide) ?_
  obtain ⟨v2, hJ4, hf⟩ := ob1_s hf
  have kJ5 : (v2 = 0 ∨ v2 = 1) → ∀ (H : Heap) (locs : List Loc) (ls : Array Slot), Bd (dC, dI) [(cyI, .int), (cyO, .array .int)] (va_A (cM cyI cyO ad μ) s.heap.size) s (cM cyI cyO ad μ) H locs → lv_has ls 2 [] → W p l e (headSpec wsX4_rests rmX4_rests).room s m ([.ref (ad 0), .int i1] : List Value).toArray below meth c H locs 0 0 (MQ below (QzF (dC, dI) [(cyI, .int), (cyO, .array .int)] (cM cyI cyO ad μ) (cM cyI cyO ad μ) s.heap.size r) ([.ref (ad 0), .int i1] : List Value).toArray s 0 0 (va_A (cM cyI cyO ad μ) s.heap.size)) (F0 m 15 ls [.int v2]) := by
    intro z3 H locs ls hB hl
    have e0 := inj1 hf
    subst e0
    exact g_zret hx hb hr hlocks hK hB z3 dX4_rests_15
  refine lv_icmp_lt (tgt := 14) hx hb dX4_rests_7 (by decide) (fun c6 => ?_) (fun c6 => ?_)
  · have hJ4 := ite_t c6 hJ4
    refine lv_iconst (v := (0 : Int32)) hx hb dX4_rests_14 (by decide) ?_
    have e0 := inj1 hJ4
    subst e0
    exact kJ5 (Or.inl rfl) _ _ _ hB (lv_sub hl [] rfl)
  · have hJ4 := ite_f c6 hJ4
    refine lv_iconst (v := (1 : Int32)) hx hb dX4_rests_10 (by decide) ?_
    refine lv_goto (tgt := 15) hx hb dX4_rests_11 (by decide) ?_
    have e0 := inj1 hJ4
    subst e0
    exact kJ5 (Or.inr rfl) _ _ _ hB (lv_sub hl [] rfl)

abbrev rmX4_noStock : Room := { frames := 1, cells := 0, slots := 0, locals := 22 }

set_option maxHeartbeats 4000000 in
set_option maxRecDepth 100000 in
theorem kX4_noStock (l : Launch) (dC : Nat → ClassId) (dI : Nat → Nat → Nat) (cyI cyO : ClassId) (ad : Nat → Nat) (sz : Nat) {fu : Nat} {μ : MS} {i1 : Int32} {r : Int32} {μ_ : MS} (hf : mX4_noStock fu μ i1 = some (r, μ_)) : Met l yX4_noStock wsX4_noStock rmX4_noStock (PcF (dC, dI) [(cyI, .int), (cyO, .array .int)] (cM cyI cyO ad μ) sz [.ref (ad 0), .int i1]) (QzF (dC, dI) [(cyI, .int), (cyO, .array .int)] (cM cyI cyO ad μ) (cM cyI cyO ad μ_) sz r) 0 0 (va_A (cM cyI cyO ad μ) sz) := by
  refine Met.ofW (cc := cX4_noStock) (maxL := 2) (ret := (some .boolean)) (by decide) rfl ?_
  intro p e s m args below meth c s₁ B hml hv
  obtain ⟨rfl, hsz, hP, hK, hD0⟩ := hv
  have hx := B.exec
  have hb := B.bytes
  have hr := B.returns
  have hts := atoms_spec (ws := wsX4_noStock) B.pre
  have hown : s.vm.findClass RX4 = some m.cls := findClass_of_methodNamed B.named
  have hlocks := B.notSynchronized
  subst hsz
  have hA : ∀ q : Nat, s.heap.size ≤ q → va_A (cM cyI cyO ad μ) s.heap.size q := fun q h => Or.inr h
  have hB : Bd (dC, dI) [(cyI, .int), (cyO, .array .int)] (va_A (cM cyI cyO ad μ) s.heap.size) s (cM cyI cyO ad μ) s.heap [] := ⟨hP, hD0.self, va_S.rf⟩
  have hq1 : (Cond.fieldLink RX4 17 "UndoJourneysModel" "data" "[I").before _ s = true := hts _ (List.mem_of_getElem? (i := 1) rfl)
  have hinX4 : ∀ w ∈ wsX40, w ∈ wsX4_noStock := fun w h => List.mem_cons_of_mem _ (List.mem_append_right _ h)
  have hl := lv_entry [.ref (ad 0), .int i1] (n := 2) (Nat.le_of_ble_eq_true rfl)
  rw [lg_entry_eq]
  generalize (lg_sl [.ref (ad 0), .int i1] ++ List.replicate (2 - (lg_sl [.ref (ad 0), .int i1]).length) Slot.unset).toArray = ls at hl ⊢
  have hl : lv_has ls 2 [(0, .ref (ad 0)), (1, .int i1)] := hl
  clear hP hD0
  suffices main : ∀ (H : Heap) (locs : List Loc), Bd (dC, dI) [(cyI, .int), (cyO, .array .int)] (va_A (cM cyI cyO ad μ) s.heap.size) s (cM cyI cyO ad μ) H locs → W p l e (headSpec wsX4_noStock rmX4_noStock).room s m ([.ref (ad 0), .int i1] : List Value).toArray below meth c H locs 0 0 (MQ below (QzF (dC, dI) [(cyI, .int), (cyO, .array .int)] (cM cyI cyO ad μ) (cM cyI cyO ad μ_) s.heap.size r) ([.ref (ad 0), .int i1] : List Value).toArray s 0 0 (va_A (cM cyI cyO ad μ) s.heap.size)) (F0 m 0 ls []) from main _ _ hB
  clear hB
  intro H locs hB
  unfold mX4_noStock at hf
  refine lv_aload_n hx hb dX4_noStock_0 rfl (lv_at hl 0 rfl) ?_
  refine lv_iload_n hx hb dX4_noStock_1 rfl (lv_at hl 1 rfl) ?_
  refine lv_iconst (v := (0 : Int32)) hx hb dX4_noStock_2 (by decide) ?_
  refine lv_aload_n hx hb dX4_noStock_3 rfl (lv_at hl 0 rfl) ?_
  refine g_get (C := RX4) (T := TX4) (N := 15) hx hb hts hinX4 hown hK hB 0 rfl rfl 8 rfl hq1 rfl rfl dX4_noStock_4 ?_
  refine lv_iconst (v := (1 : Int32)) hx hb dX4_noStock_7 (by decide) ?_
  obtain ⟨x1, e9, hf⟩ := ob1_s hf
  refine g_iald hx hb hK hB 2 0 rfl rfl (rd_s e9) dX4_noStock_8 ?_
  refine lv_iconst (v := (1 : Int32)) hx hb dX4_noStock_9 (by decide) ?_
  refine lv_isub hx hb dX4_noStock_10 ?_
  obtain ⟨r2, hc, hf⟩ := ob1_s hf
  refine g_pcutSz (As := [.int i1, .int (0 : Int32), .int (x1 - (1 : Int32))]) (rest := [.ref (ad 0)]) (w2 := (cM cyI cyO ad μ)) ⟨hx, hb, hml, hown, hts⟩ (kX4_in l dC dI [(cyI, .int), (cyO, .array .int)] H.size hc) (va_cwS 3 hts gX4_noStock_X4_in rfl rfl rfl (by decide +kernel) ⟨Nat.le_of_ble_eq_true rfl, Nat.le_of_ble_eq_true rfl⟩) hK hB hA (List.Perm.refl _) (List.Perm.refl _) rfl hl.1 rfl (Nat.le_of_ble_eq_true rfl) dX4_noStock_11 ⟨Nat.zero_le _, Nat.zero_le _⟩ (fun z3 H locs hB => ?_)
  obtain ⟨v4, hJ6, hf⟩ := ob1_s hf
  have kJ7 : (v4 = 0 ∨ v4 = 1) → ∀ (H : Heap) (locs : List Loc) (ls : Array Slot), Bd (dC, dI) [(cyI, .int), (cyO, .array .int)] (va_A (cM cyI cyO ad μ) s.heap.size) s (cM cyI cyO ad μ) H locs → lv_has ls 2 [] → W p l e (headSpec wsX4_noStock rmX4_noStock).room s m ([.ref (ad 0), .int i1] : List Value).toArray below meth c H locs 0 0 (MQ below (QzF (dC, dI) [(cyI, .int), (cyO, .array .int)] (cM cyI cyO ad μ) (cM cyI cyO ad μ_) s.heap.size r) ([.ref (ad 0), .int i1] : List Value).toArray s 0 0 (va_A (cM cyI cyO ad μ) s.heap.size)) (F0 m 22 ls [.int v4, .ref (ad 0)]) := by
    intro z5 H locs ls hB hl
    refine lv_iconst (v := (1 : Int32)) hx hb dX4_noStock_22 (by decide) ?_
    obtain ⟨r9, μ10, hc, hf⟩ := ob2_s hf
    refine g_callVz (As := [.int v4, .int (1 : Int32)]) (rest := []) ⟨hx, hb, hml, hown, hts⟩ (kX4_fails l dC dI cyI cyO ad H.size hc) (cwV 2 hts gX4_noStock_X4_fails rfl rfl rfl (by decide +kernel) ⟨Nat.le_of_ble_eq_true rfl, Nat.le_of_ble_eq_true rfl⟩) hK hB hA (g_recv (ci := 4) hK hB 0 rfl rfl rfl) rfl hl.1 rfl (Nat.le_of_ble_eq_true rfl) dX4_noStock_23 ⟨Nat.zero_le _, Nat.zero_le _⟩ (fun z11 H locs hB => ?_)
    obtain ⟨e0, e1⟩ := inj2 hf
    subst e0
    subst e1
    exact g_zret hx hb hr hlocks hK hB z11 dX4_noStock_26
  refine lv_if_ne (tgt := 21) hx hb dX4_noStock_14 (by decide) (fun c8 => ?_) (fun c8 => ?_)
  · have hJ6 := ite_f c8 hJ6
    refine lv_iconst (v := (0 : Int32)) hx hb dX4_noStock_21 (by decide) ?_
    have e0 := inj1 hJ6
    subst e0
    exact kJ7 (Or.inl rfl) _ _ _ hB (lv_sub hl [] rfl)
  · have hJ6 := ite_t c8 hJ6
    refine lv_iconst (v := (1 : Int32)) hx hb dX4_noStock_17 (by decide) ?_
    refine lv_goto (tgt := 22) hx hb dX4_noStock_18 (by decide) ?_
    have e0 := inj1 hJ6
    subst e0
    exact kJ7 (Or.inr rfl) _ _ _ hB (lv_sub hl [] rfl)

abbrev rmX4_noJourney : Room := { frames := 1, cells := 0, slots := 0, locals := 22 }

set_option maxHeartbeats 4000000 in
set_option maxRecDepth 100000 in
theorem kX4_noJourney (l : Launch) (dC : Nat → ClassId) (dI : Nat → Nat → Nat) (cyI cyO : ClassId) (ad : Nat → Nat) (sz : Nat) {fu : Nat} {μ : MS} {i1 : Int32} {r : Int32} {μ_ : MS} (hf : mX4_noJourney fu μ i1 = some (r, μ_)) : Met l yX4_noJourney wsX4_noJourney rmX4_noJourney (PcF (dC, dI) [(cyI, .int), (cyO, .array .int)] (cM cyI cyO ad μ) sz [.ref (ad 0), .int i1]) (QzF (dC, dI) [(cyI, .int), (cyO, .array .int)] (cM cyI cyO ad μ) (cM cyI cyO ad μ_) sz r) 0 0 (va_A (cM cyI cyO ad μ) sz) := by
  refine Met.ofW (cc := cX4_noJourney) (maxL := 2) (ret := (some .boolean)) (by decide) rfl ?_
  intro p e s m args below meth c s₁ B hml hv
  obtain ⟨rfl, hsz, hP, hK, hD0⟩ := hv
  have hx := B.exec
  have hb := B.bytes
  have hr := B.returns
  have hts := atoms_spec (ws := wsX4_noJourney) B.pre
  have hown : s.vm.findClass RX4 = some m.cls := findClass_of_methodNamed B.named
  have hlocks := B.notSynchronized
  subst hsz
  have hA : ∀ q : Nat, s.heap.size ≤ q → va_A (cM cyI cyO ad μ) s.heap.size q := fun q h => Or.inr h
  have hB : Bd (dC, dI) [(cyI, .int), (cyO, .array .int)] (va_A (cM cyI cyO ad μ) s.heap.size) s (cM cyI cyO ad μ) s.heap [] := ⟨hP, hD0.self, va_S.rf⟩
  have hq1 : (Cond.fieldLink RX4 17 "UndoJourneysModel" "data" "[I").before _ s = true := hts _ (List.mem_of_getElem? (i := 1) rfl)
  have hinX4 : ∀ w ∈ wsX40, w ∈ wsX4_noJourney := fun w h => List.mem_cons_of_mem _ (List.mem_append_right _ h)
  have hl := lv_entry [.ref (ad 0), .int i1] (n := 2) (Nat.le_of_ble_eq_true rfl)
  rw [lg_entry_eq]
  generalize (lg_sl [.ref (ad 0), .int i1] ++ List.replicate (2 - (lg_sl [.ref (ad 0), .int i1]).length) Slot.unset).toArray = ls at hl ⊢
  have hl : lv_has ls 2 [(0, .ref (ad 0)), (1, .int i1)] := hl
  clear hP hD0
  suffices main : ∀ (H : Heap) (locs : List Loc), Bd (dC, dI) [(cyI, .int), (cyO, .array .int)] (va_A (cM cyI cyO ad μ) s.heap.size) s (cM cyI cyO ad μ) H locs → W p l e (headSpec wsX4_noJourney rmX4_noJourney).room s m ([.ref (ad 0), .int i1] : List Value).toArray below meth c H locs 0 0 (MQ below (QzF (dC, dI) [(cyI, .int), (cyO, .array .int)] (cM cyI cyO ad μ) (cM cyI cyO ad μ_) s.heap.size r) ([.ref (ad 0), .int i1] : List Value).toArray s 0 0 (va_A (cM cyI cyO ad μ) s.heap.size)) (F0 m 0 ls []) from main _ _ hB
  clear hB
  intro H locs hB
  unfold mX4_noJourney at hf
  refine lv_aload_n hx hb dX4_noJourney_0 rfl (lv_at hl 0 rfl) ?_
  refine lv_iload_n hx hb dX4_noJourney_1 rfl (lv_at hl 1 rfl) ?_
  refine lv_iconst (v := (0 : Int32)) hx hb dX4_noJourney_2 (by decide) ?_
  refine lv_aload_n hx hb dX4_noJourney_3 rfl (lv_at hl 0 rfl) ?_
  refine g_get (C := RX4) (T := TX4) (N := 15) hx hb hts hinX4 hown hK hB 0 rfl rfl 8 rfl hq1 rfl rfl dX4_noJourney_4 ?_
  refine lv_iconst (v := (2 : Int32)) hx hb dX4_noJourney_7 (by decide) ?_
  obtain ⟨x1, e9, hf⟩ := ob1_s hf
  refine g_iald hx hb hK hB 2 0 rfl rfl (rd_s e9) dX4_noJourney_8 ?_
  refine lv_iconst (v := (1 : Int32)) hx hb dX4_noJourney_9 (by decide) ?_
  refine lv_isub hx hb dX4_noJourney_10 ?_
  obtain ⟨r2, hc, hf⟩ := ob1_s hf
  refine g_pcutSz (As := [.int i1, .int (0 : Int32), .int (x1 - (1 : Int32))]) (rest := [.ref (ad 0)]) (w2 := (cM cyI cyO ad μ)) ⟨hx, hb, hml, hown, hts⟩ (kX4_in l dC dI [(cyI, .int), (cyO, .array .int)] H.size hc) (va_cwS 3 hts gX4_noJourney_X4_in rfl rfl rfl (by decide +kernel) ⟨Nat.le_of_ble_eq_true rfl, Nat.le_of_ble_eq_true rfl⟩) hK hB hA (List.Perm.refl _) (List.Perm.refl _) rfl hl.1 rfl (Nat.le_of_ble_eq_true rfl) dX4_noJourney_11 ⟨Nat.zero_le _, Nat.zero_le _⟩ (fun z3 H locs hB => ?_)
  obtain ⟨v4, hJ6, hf⟩ := ob1_s hf
  have kJ7 : (v4 = 0 ∨ v4 = 1) → ∀ (H : Heap) (locs : List Loc) (ls : Array Slot), Bd (dC, dI) [(cyI, .int), (cyO, .array .int)] (va_A (cM cyI cyO ad μ) s.heap.size) s (cM cyI cyO ad μ) H locs → lv_has ls 2 [] → W p l e (headSpec wsX4_noJourney rmX4_noJourney).room s m ([.ref (ad 0), .int i1] : List Value).toArray below meth c H locs 0 0 (MQ below (QzF (dC, dI) [(cyI, .int), (cyO, .array .int)] (cM cyI cyO ad μ) (cM cyI cyO ad μ_) s.heap.size r) ([.ref (ad 0), .int i1] : List Value).toArray s 0 0 (va_A (cM cyI cyO ad μ) s.heap.size)) (F0 m 22 ls [.int v4, .ref (ad 0)]) := by
    intro z5 H locs ls hB hl
    refine lv_iconst (v := (1 : Int32)) hx hb dX4_noJourney_22 (by decide) ?_
    obtain ⟨r9, μ10, hc, hf⟩ := ob2_s hf
    refine g_callVz (As := [.int v4, .int (1 : Int32)]) (rest := []) ⟨hx, hb, hml, hown, hts⟩ (kX4_fails l dC dI cyI cyO ad H.size hc) (cwV 2 hts gX4_noJourney_X4_fails rfl rfl rfl (by decide +kernel) ⟨Nat.le_of_ble_eq_true rfl, Nat.le_of_ble_eq_true rfl⟩) hK hB hA (g_recv (ci := 4) hK hB 0 rfl rfl rfl) rfl hl.1 rfl (Nat.le_of_ble_eq_true rfl) dX4_noJourney_23 ⟨Nat.zero_le _, Nat.zero_le _⟩ (fun z11 H locs hB => ?_)
    obtain ⟨e0, e1⟩ := inj2 hf
    subst e0
    subst e1
    exact g_zret hx hb hr hlocks hK hB z11 dX4_noJourney_26
  refine lv_if_ne (tgt := 21) hx hb dX4_noJourney_14 (by decide) (fun c8 => ?_) (fun c8 => ?_)
  · have hJ6 := ite_f c8 hJ6
    refine lv_iconst (v := (0 : Int32)) hx hb dX4_noJourney_21 (by decide) ?_
    have e0 := inj1 hJ6
    subst e0
    exact kJ7 (Or.inl rfl) _ _ _ hB (lv_sub hl [] rfl)
  · have hJ6 := ite_t c8 hJ6
    refine lv_iconst (v := (1 : Int32)) hx hb dX4_noJourney_17 (by decide) ?_
    refine lv_goto (tgt := 22) hx hb dX4_noJourney_18 (by decide) ?_
    have e0 := inj1 hJ6
    subst e0
    exact kJ7 (Or.inr rfl) _ _ _ hB (lv_sub hl [] rfl)

abbrev rmX4_countOf : Room := { frames := 2, cells := 0, slots := 0, locals := 42 }

set_option maxHeartbeats 4000000 in
set_option maxRecDepth 100000 in
theorem kX4_countOf (l : Launch) (dC : Nat → ClassId) (dI : Nat → Nat → Nat) (cyI cyO : ClassId) (ad : Nat → Nat) (sz : Nat) {fu : Nat} {μ : MS} {i1 : Int32} {r : Int32} (hf : mX4_countOf fu μ i1 = some r) : Met l yX4_countOf wsX4_countOf rmX4_countOf (PcF (dC, dI) [(cyI, .int), (cyO, .array .int)] (cM cyI cyO ad μ) sz [.ref (ad 0), .int i1]) (QiF (dC, dI) [(cyI, .int), (cyO, .array .int)] (cM cyI cyO ad μ) (cM cyI cyO ad μ) sz r) 0 0 (va_A (cM cyI cyO ad μ) sz) := by
  refine Met.ofW (cc := cX4_countOf) (maxL := 4) (ret := (some .int)) (by decide) rfl ?_
  intro p e s m args below meth c s₁ B hml hv
  obtain ⟨rfl, hsz, hP, hK, hD0⟩ := hv
  have hx := B.exec
  have hb := B.bytes
  have hr := B.returns
  have hts := atoms_spec (ws := wsX4_countOf) B.pre
  have hown : s.vm.findClass RX4 = some m.cls := findClass_of_methodNamed B.named
  have hlocks := B.notSynchronized
  subst hsz
  have hA : ∀ q : Nat, s.heap.size ≤ q → va_A (cM cyI cyO ad μ) s.heap.size q := fun q h => Or.inr h
  have hB : Bd (dC, dI) [(cyI, .int), (cyO, .array .int)] (va_A (cM cyI cyO ad μ) s.heap.size) s (cM cyI cyO ad μ) s.heap [] := ⟨hP, hD0.self, va_S.rf⟩
  have hq1 : (Cond.fieldLink RX4 17 "UndoJourneysModel" "data" "[I").before _ s = true := hts _ (List.mem_of_getElem? (i := 1) rfl)
  have hinX4 : ∀ w ∈ wsX40, w ∈ wsX4_countOf := fun w h => List.mem_cons_of_mem _ (List.mem_append_right _ h)
  have hl := lv_entry [.ref (ad 0), .int i1] (n := 4) (Nat.le_of_ble_eq_true rfl)
  rw [lg_entry_eq]
  generalize (lg_sl [.ref (ad 0), .int i1] ++ List.replicate (4 - (lg_sl [.ref (ad 0), .int i1]).length) Slot.unset).toArray = ls at hl ⊢
  have hl : lv_has ls 4 [(0, .ref (ad 0)), (1, .int i1)] := hl
  clear hP hD0
  suffices main : ∀ (H : Heap) (locs : List Loc), Bd (dC, dI) [(cyI, .int), (cyO, .array .int)] (va_A (cM cyI cyO ad μ) s.heap.size) s (cM cyI cyO ad μ) H locs → W p l e (headSpec wsX4_countOf rmX4_countOf).room s m ([.ref (ad 0), .int i1] : List Value).toArray below meth c H locs 0 0 (MQ below (QiF (dC, dI) [(cyI, .int), (cyO, .array .int)] (cM cyI cyO ad μ) (cM cyI cyO ad μ) s.heap.size r) ([.ref (ad 0), .int i1] : List Value).toArray s 0 0 (va_A (cM cyI cyO ad μ) s.heap.size)) (F0 m 0 ls []) from main _ _ hB
  clear hB
  intro H locs hB
  unfold mX4_countOf at hf
  refine lv_iconst (v := (0 : Int32)) hx hb dX4_countOf_0 (by decide) ?_
  refine lv_istore_n (lv' := [(2, .int (0 : Int32)), (0, .ref (ad 0)), (1, .int i1)]) hx hb dX4_countOf_1 rfl hl (by decide) rfl (fun ls hl => ?_)
  refine lv_iconst (v := (0 : Int32)) hx hb dX4_countOf_2 (by decide) ?_
  refine lv_istore_n (lv' := [(3, .int (0 : Int32)), (2, .int (0 : Int32)), (0, .ref (ad 0)), (1, .int i1)]) hx hb dX4_countOf_3 rfl hl (by decide) rfl (fun ls hl => ?_)
  obtain ⟨v13, hL16, hf⟩ := ob1_s hf
  have kE14 : ∀ (H : Heap) (locs : List Loc) (ls : Array Slot), Bd (dC, dI) [(cyI, .int), (cyO, .array .int)] (va_A (cM cyI cyO ad μ) s.heap.size) s (cM cyI cyO ad μ) H locs → lv_has ls 4 [(2, .int v13)] → W p l e (headSpec wsX4_countOf rmX4_countOf).room s m ([.ref (ad 0), .int i1] : List Value).toArray below meth c H locs 0 0 (MQ below (QiF (dC, dI) [(cyI, .int), (cyO, .array .int)] (cM cyI cyO ad μ) (cM cyI cyO ad μ) s.heap.size r) ([.ref (ad 0), .int i1] : List Value).toArray s 0 0 (va_A (cM cyI cyO ad μ) s.heap.size)) (F0 m 38 ls []) := by
    intro H locs ls hB hl
    refine lv_iload_n hx hb dX4_countOf_38 rfl (lv_at hl 0 rfl) ?_
    have e0 := inj1 hf
    subst e0
    exact g_iret hx hb hr hlocks hK hB dX4_countOf_39
  have key15 : ∀ (n9 : Nat) (v19 : Int32) (v20 : Int32) (H : Heap) (locs : List Loc) (ls : Array Slot), loopM (fun st => mX4_countOf_L4 fu i1 μ st.1 st.2) n9 (v19, v20) = some v13 → Bd (dC, dI) [(cyI, .int), (cyO, .array .int)] (va_A (cM cyI cyO ad μ) s.heap.size) s (cM cyI cyO ad μ) H locs → lv_has ls 4 [(3, .int v19), (2, .int v20), (0, .ref (ad 0)), (1, .int i1)] → W p l e (headSpec wsX4_countOf rmX4_countOf).room s m ([.ref (ad 0), .int i1] : List Value).toArray below meth c H locs 0 0 (MQ below (QiF (dC, dI) [(cyI, .int), (cyO, .array .int)] (cM cyI cyO ad μ) (cM cyI cyO ad μ) s.heap.size r) ([.ref (ad 0), .int i1] : List Value).toArray s 0 0 (va_A (cM cyI cyO ad μ) s.heap.size)) (F0 m 4 ls []) := by
    intro n9
    induction n9 with
    | zero => intro v19 v20 H locs ls hL16; exact (loopM_z hL16).elim
    | succ n9 ih9 =>
      intro v19 v20 H locs ls hL16 hB hl
      obtain ⟨o21, hg17, hL16⟩ := loopM_s hL16
      have hg17 : mX4_countOf_L4 fu i1 μ v19 v20 = some o21 := hg17
      unfold mX4_countOf_L4 at hg17
      refine lv_iload_n hx hb dX4_countOf_4 rfl (lv_at hl 0 rfl) ?_
      refine lv_aload_n hx hb dX4_countOf_5 rfl (lv_at hl 2 rfl) ?_
      refine g_get (C := RX4) (T := TX4) (N := 15) hx hb hts hinX4 hown hK hB 0 rfl rfl 8 rfl hq1 rfl rfl dX4_countOf_6 ?_
      refine lv_iconst (v := (2 : Int32)) hx hb dX4_countOf_9 (by decide) ?_
      obtain ⟨x22, e9, hg17⟩ := ob1_s hg17
      refine g_iald hx hb hK hB 2 0 rfl rfl (rd_s e9) dX4_countOf_10 ?_
      refine lv_icmp_ge (tgt := 38) hx hb dX4_countOf_11 (by decide) (fun c23 => ?_) (fun c23 => ?_)
      · have hg17 := ite_t c23 hg17
        have hL16 := el1_l (inj1 hg17) hL16
        have e0 := inj1 hL16
        subst e0
        exact kE14 _ _ _ hB (lv_sub hl [1] rfl)
      · have hg17 := ite_f c23 hg17
        refine lv_iload_n hx hb dX4_countOf_14 rfl (lv_at hl 1 rfl) ?_
        refine lv_aload_n hx hb dX4_countOf_15 rfl (lv_at hl 2 rfl) ?_
        refine lv_iload_n hx hb dX4_countOf_16 rfl (lv_at hl 0 rfl) ?_
        refine lv_iconst (v := (0 : Int32)) hx hb dX4_countOf_17 (by decide) ?_
        obtain ⟨r24, hc, hg17⟩ := ob1_s hg17
        refine g_callVi (As := [.int v19, .int (0 : Int32)]) (rest := [.int v20]) ⟨hx, hb, hml, hown, hts⟩ (kX4_ofJourney l dC dI cyI cyO ad H.size hc) (cwV 2 hts gX4_countOf_X4_ofJourney rfl rfl rfl (by decide +kernel) ⟨Nat.le_of_ble_eq_true rfl, Nat.le_of_ble_eq_true rfl⟩) hK hB hA (g_recv (ci := 4) hK hB 0 rfl rfl rfl) rfl hl.1 rfl (Nat.le_of_ble_eq_true rfl) dX4_countOf_18 ⟨Nat.zero_le _, Nat.zero_le _⟩ (fun H locs hB => ?_)
        refine lv_iload_n hx hb dX4_countOf_21 rfl (lv_at hl 3 rfl) ?_
        obtain ⟨v25, hJ27, hg17⟩ := ob1_s hg17
        have kJ28 : (v25 = 0 ∨ v25 = 1) → ∀ (H : Heap) (locs : List Loc) (ls : Array Slot), Bd (dC, dI) [(cyI, .int), (cyO, .array .int)] (va_A (cM cyI cyO ad μ) s.heap.size) s (cM cyI cyO ad μ) H locs → lv_has ls 4 [(3, .int v19), (0, .ref (ad 0)), (1, .int i1)] → W p l e (headSpec wsX4_countOf rmX4_countOf).room s m ([.ref (ad 0), .int i1] : List Value).toArray below meth c H locs 0 0 (MQ below (QiF (dC, dI) [(cyI, .int), (cyO, .array .int)] (cM cyI cyO ad μ) (cM cyI cyO ad μ) s.heap.size r) ([.ref (ad 0), .int i1] : List Value).toArray s 0 0 (va_A (cM cyI cyO ad μ) s.heap.size)) (F0 m 30 ls [.int v25, .int v20]) := by
          intro z26 H locs ls hB hl
          refine lv_iadd hx hb dX4_countOf_30 ?_
          refine lv_istore_n (lv' := [(2, .int (v20 + v25)), (3, .int v19), (0, .ref (ad 0)), (1, .int i1)]) hx hb dX4_countOf_31 rfl hl (by decide) rfl (fun ls hl => ?_)
          refine lv_iinc (v := (v19 + (1 : Int32))) (lv' := [(3, .int (v19 + (1 : Int32))), (2, .int (v20 + v25)), (0, .ref (ad 0)), (1, .int i1)]) hx hb dX4_countOf_32 hl (k := 1) rfl rfl (by decide) rfl (fun ls hl => ?_)
          refine lv_goto (tgt := 4) hx hb dX4_countOf_35 (by decide) ?_
          have hL16 := el1_r (inj1 hg17) hL16
          exact ih9 _ _ _ _ _ hL16 hB (lv_sub hl [0, 1, 2, 3] rfl)
        refine lv_icmp_ne (tgt := 29) hx hb dX4_countOf_22 (by decide) (fun c29 => ?_) (fun c29 => ?_)
        · have hJ27 := ite_f c29 hJ27
          refine lv_iconst (v := (0 : Int32)) hx hb dX4_countOf_29 (by decide) ?_
          have e0 := inj1 hJ27
          subst e0
          exact kJ28 (Or.inl rfl) _ _ _ hB (lv_sub hl [0, 2, 3] rfl)
        · have hJ27 := ite_t c29 hJ27
          refine lv_iconst (v := (1 : Int32)) hx hb dX4_countOf_25 (by decide) ?_
          refine lv_goto (tgt := 30) hx hb dX4_countOf_26 (by decide) ?_
          have e0 := inj1 hJ27
          subst e0
          exact kJ28 (Or.inr rfl) _ _ _ hB (lv_sub hl [0, 2, 3] rfl)
  exact key15 fu _ _ _ _ _ hL16 hB (lv_sub hl [0, 1, 2, 3] rfl)

abbrev rmX4_told : Room := { frames := 3, cells := 0, slots := 0, locals := 65 }

set_option maxHeartbeats 4000000 in
set_option maxRecDepth 100000 in
theorem kX4_told (l : Launch) (dC : Nat → ClassId) (dI : Nat → Nat → Nat) (cyI cyO : ClassId) (ad : Nat → Nat) (sz : Nat) {fu : Nat} {μ : MS} {i1 : Int32} {r : Int32} (hf : mX4_told fu μ i1 = some r) : Met l yX4_told wsX4_told rmX4_told (PcF (dC, dI) [(cyI, .int), (cyO, .array .int)] (cM cyI cyO ad μ) sz [.ref (ad 0), .int i1]) (QiF (dC, dI) [(cyI, .int), (cyO, .array .int)] (cM cyI cyO ad μ) (cM cyI cyO ad μ) sz r) 0 0 (va_A (cM cyI cyO ad μ) sz) := by
  refine Met.ofW (cc := cX4_told) (maxL := 2) (ret := (some .int)) (by decide) rfl ?_
  intro p e s m args below meth c s₁ B hml hv
  obtain ⟨rfl, hsz, hP, hK, hD0⟩ := hv
  have hx := B.exec
  have hb := B.bytes
  have hr := B.returns
  have hts := atoms_spec (ws := wsX4_told) B.pre
  have hown : s.vm.findClass RX4 = some m.cls := findClass_of_methodNamed B.named
  have hlocks := B.notSynchronized
  subst hsz
  have hA : ∀ q : Nat, s.heap.size ≤ q → va_A (cM cyI cyO ad μ) s.heap.size q := fun q h => Or.inr h
  have hB : Bd (dC, dI) [(cyI, .int), (cyO, .array .int)] (va_A (cM cyI cyO ad μ) s.heap.size) s (cM cyI cyO ad μ) s.heap [] := ⟨hP, hD0.self, va_S.rf⟩
  have hq1 : (Cond.fieldLink RX4 17 "UndoJourneysModel" "data" "[I").before _ s = true := hts _ (List.mem_of_getElem? (i := 1) rfl)
  have hinX4 : ∀ w ∈ wsX40, w ∈ wsX4_told := fun w h => List.mem_cons_of_mem _ (List.mem_append_right _ h)
  have hl := lv_entry [.ref (ad 0), .int i1] (n := 2) (Nat.le_of_ble_eq_true rfl)
  rw [lg_entry_eq]
  generalize (lg_sl [.ref (ad 0), .int i1] ++ List.replicate (2 - (lg_sl [.ref (ad 0), .int i1]).length) Slot.unset).toArray = ls at hl ⊢
  have hl : lv_has ls 2 [(0, .ref (ad 0)), (1, .int i1)] := hl
  clear hP hD0
  suffices main : ∀ (H : Heap) (locs : List Loc), Bd (dC, dI) [(cyI, .int), (cyO, .array .int)] (va_A (cM cyI cyO ad μ) s.heap.size) s (cM cyI cyO ad μ) H locs → W p l e (headSpec wsX4_told rmX4_told).room s m ([.ref (ad 0), .int i1] : List Value).toArray below meth c H locs 0 0 (MQ below (QiF (dC, dI) [(cyI, .int), (cyO, .array .int)] (cM cyI cyO ad μ) (cM cyI cyO ad μ) s.heap.size r) ([.ref (ad 0), .int i1] : List Value).toArray s 0 0 (va_A (cM cyI cyO ad μ) s.heap.size)) (F0 m 0 ls []) from main _ _ hB
  clear hB
  intro H locs hB
  unfold mX4_told at hf
  refine lv_iload_n hx hb dX4_told_0 rfl (lv_at hl 1 rfl) ?_
  refine lv_bipush (v := (6 : Int32)) hx hb dX4_told_1 (by decide) ?_
  obtain ⟨v1, hJ2, hf⟩ := ob1_s hf
  have kJ3 : ∀ (H : Heap) (locs : List Loc) (ls : Array Slot), Bd (dC, dI) [(cyI, .int), (cyO, .array .int)] (va_A (cM cyI cyO ad μ) s.heap.size) s (cM cyI cyO ad μ) H locs → lv_has ls 2 [] → W p l e (headSpec wsX4_told rmX4_told).room s m ([.ref (ad 0), .int i1] : List Value).toArray below meth c H locs 0 0 (MQ below (QiF (dC, dI) [(cyI, .int), (cyO, .array .int)] (cM cyI cyO ad μ) (cM cyI cyO ad μ) s.heap.size r) ([.ref (ad 0), .int i1] : List Value).toArray s 0 0 (va_A (cM cyI cyO ad μ) s.heap.size)) (F0 m 38 ls [.int v1]) := by
    intro H locs ls hB hl
    have e0 := inj1 hf
    subst e0
    exact g_iret hx hb hr hlocks hK hB dX4_told_38
  refine lv_icmp_ge (tgt := 15) hx hb dX4_told_3 (by decide) (fun c4 => ?_) (fun c4 => ?_)
  · have hJ2 := ite_t c4 hJ2
    refine lv_iload_n hx hb dX4_told_15 rfl (lv_at hl 1 rfl) ?_
    refine lv_bipush (v := (9 : Int32)) hx hb dX4_told_16 (by decide) ?_
    refine lv_icmp_ge (tgt := 31) hx hb dX4_told_18 (by decide) (fun c5 => ?_) (fun c5 => ?_)
    · have hJ2 := ite_t c5 hJ2
      refine lv_aload_n hx hb dX4_told_31 rfl (lv_at hl 0 rfl) ?_
      refine g_get (C := RX4) (T := TX4) (N := 15) hx hb hts hinX4 hown hK hB 0 rfl rfl 8 rfl hq1 rfl rfl dX4_told_32 ?_
      refine lv_bipush (v := (6 : Int32)) hx hb dX4_told_35 (by decide) ?_
      obtain ⟨x6, e9, hJ2⟩ := ob1_s hJ2
      refine g_iald hx hb hK hB 2 0 rfl rfl (rd_s e9) dX4_told_37 ?_
      have e0 := inj1 hJ2
      subst e0
      exact kJ3 _ _ _ hB (lv_sub hl [] rfl)
    · have hJ2 := ite_f c5 hJ2
      refine lv_aload_n hx hb dX4_told_21 rfl (lv_at hl 0 rfl) ?_
      refine lv_iload_n hx hb dX4_told_22 rfl (lv_at hl 1 rfl) ?_
      refine lv_iconst (v := (3 : Int32)) hx hb dX4_told_23 (by decide) ?_
      refine lv_isub hx hb dX4_told_24 ?_
      obtain ⟨r7, hc, hJ2⟩ := ob1_s hJ2
      refine g_callVi (As := [.int (i1 - (3 : Int32))]) (rest := []) ⟨hx, hb, hml, hown, hts⟩ (kX4_countOf l dC dI cyI cyO ad H.size hc) (cwV 1 hts gX4_told_X4_countOf rfl rfl rfl (by decide +kernel) ⟨Nat.le_of_ble_eq_true rfl, Nat.le_of_ble_eq_true rfl⟩) hK hB hA (g_recv (ci := 4) hK hB 0 rfl rfl rfl) rfl hl.1 rfl (Nat.le_of_ble_eq_true rfl) dX4_told_25 ⟨Nat.zero_le _, Nat.zero_le _⟩ (fun H locs hB => ?_)
      refine lv_goto (tgt := 38) hx hb dX4_told_28 (by decide) ?_
      have e0 := inj1 hJ2
      subst e0
      exact kJ3 _ _ _ hB (lv_sub hl [] rfl)
  · have hJ2 := ite_f c4 hJ2
    refine lv_aload_n hx hb dX4_told_6 rfl (lv_at hl 0 rfl) ?_
    refine g_get (C := RX4) (T := TX4) (N := 15) hx hb hts hinX4 hown hK hB 0 rfl rfl 8 rfl hq1 rfl rfl dX4_told_7 ?_
    refine lv_iload_n hx hb dX4_told_10 rfl (lv_at hl 1 rfl) ?_
    obtain ⟨x8, e9, hJ2⟩ := ob1_s hJ2
    refine g_iald hx hb hK hB 2 0 rfl rfl (rd_s e9) dX4_told_11 ?_
    refine lv_goto (tgt := 38) hx hb dX4_told_12 (by decide) ?_
    have e0 := inj1 hJ2
    subst e0
    exact kJ3 _ _ _ hB (lv_sub hl [] rfl)

abbrev rmX4_state : Room := { frames := 4, cells := 0, slots := 0, locals := 86 }

set_option maxHeartbeats 4000000 in
set_option maxRecDepth 100000 in
theorem kX4_state (l : Launch) (dC : Nat → ClassId) (dI : Nat → Nat → Nat) (cyI cyO : ClassId) (ad : Nat → Nat) (sz : Nat) {fu : Nat} {μ : MS} {i1 : Int32} {r : Int32} {μ_ : MS} (hf : mX4_state fu μ i1 = some (r, μ_)) : Met l yX4_state wsX4_state rmX4_state (PcF (dC, dI) [(cyI, .int), (cyO, .array .int)] (cM cyI cyO ad μ) sz [.ref (ad 0), .int i1]) (QiF (dC, dI) [(cyI, .int), (cyO, .array .int)] (cM cyI cyO ad μ) (cM cyI cyO ad μ_) sz r) 0 0 (va_A (cM cyI cyO ad μ) sz) := by
  refine Met.ofW (cc := cX4_state) (maxL := 2) (ret := (some .int)) (by decide) rfl ?_
  intro p e s m args below meth c s₁ B hml hv
  obtain ⟨rfl, hsz, hP, hK, hD0⟩ := hv
  have hx := B.exec
  have hb := B.bytes
  have hr := B.returns
  have hts := atoms_spec (ws := wsX4_state) B.pre
  have hown : s.vm.findClass RX4 = some m.cls := findClass_of_methodNamed B.named
  have hlocks := B.notSynchronized
  subst hsz
  have hA : ∀ q : Nat, s.heap.size ≤ q → va_A (cM cyI cyO ad μ) s.heap.size q := fun q h => Or.inr h
  have hB : Bd (dC, dI) [(cyI, .int), (cyO, .array .int)] (va_A (cM cyI cyO ad μ) s.heap.size) s (cM cyI cyO ad μ) s.heap [] := ⟨hP, hD0.self, va_S.rf⟩
  have hq1 : (Cond.fieldLink RX4 35 "UndoJourneysModel" "thrown" "I").before _ s = true := hts _ (List.mem_of_getElem? (i := 1) rfl)
  have hinX4 : ∀ w ∈ wsX40, w ∈ wsX4_state := fun w h => List.mem_cons_of_mem _ (List.mem_append_right _ h)
  have hl := lv_entry [.ref (ad 0), .int i1] (n := 2) (Nat.le_of_ble_eq_true rfl)
  rw [lg_entry_eq]
  generalize (lg_sl [.ref (ad 0), .int i1] ++ List.replicate (2 - (lg_sl [.ref (ad 0), .int i1]).length) Slot.unset).toArray = ls at hl ⊢
  have hl : lv_has ls 2 [(0, .ref (ad 0)), (1, .int i1)] := hl
  clear hP hD0
  suffices main : ∀ (H : Heap) (locs : List Loc), Bd (dC, dI) [(cyI, .int), (cyO, .array .int)] (va_A (cM cyI cyO ad μ) s.heap.size) s (cM cyI cyO ad μ) H locs → W p l e (headSpec wsX4_state rmX4_state).room s m ([.ref (ad 0), .int i1] : List Value).toArray below meth c H locs 0 0 (MQ below (QiF (dC, dI) [(cyI, .int), (cyO, .array .int)] (cM cyI cyO ad μ) (cM cyI cyO ad μ_) s.heap.size r) ([.ref (ad 0), .int i1] : List Value).toArray s 0 0 (va_A (cM cyI cyO ad μ) s.heap.size)) (F0 m 0 ls []) from main _ _ hB
  clear hB
  intro H locs hB
  unfold mX4_state at hf
  refine lv_aload_n hx hb dX4_state_0 rfl (lv_at hl 0 rfl) ?_
  refine lv_iconst (v := (0 : Int32)) hx hb dX4_state_1 (by decide) ?_
  obtain ⟨μ1, e9, hf⟩ := ob1_s hf
  have e9 := inj1 e9
  refine g_put (C := RX4) (T := TX4) (N := 15) hx hb hts hinX4 tyX4 tyX4_ok nmX4 hown hK hB 0 rfl rfl 0 rfl hq1 rfl rfl rfl rfl rfl rfl dX4_state_2 (w2 := (cM cyI cyO ad μ1)) (by rw [← e9]; rfl) (fun H locs hB => ?_)
  refine lv_aload_n hx hb dX4_state_5 rfl (lv_at hl 0 rfl) ?_
  refine lv_iload_n hx hb dX4_state_6 rfl (lv_at hl 1 rfl) ?_
  refine lv_iconst (v := (0 : Int32)) hx hb dX4_state_7 (by decide) ?_
  refine lv_bipush (v := (9 : Int32)) hx hb dX4_state_8 (by decide) ?_
  obtain ⟨r2, hc, hf⟩ := ob1_s hf
  refine g_pcutSz (As := [.int i1, .int (0 : Int32), .int (9 : Int32)]) (rest := [.ref (ad 0)]) (w2 := (cM cyI cyO ad μ1)) ⟨hx, hb, hml, hown, hts⟩ (kX4_in l dC dI [(cyI, .int), (cyO, .array .int)] H.size hc) (va_cwS 3 hts gX4_state_X4_in rfl rfl rfl (by decide +kernel) ⟨Nat.le_of_ble_eq_true rfl, Nat.le_of_ble_eq_true rfl⟩) hK hB hA (List.Perm.refl _) (List.Perm.refl _) rfl hl.1 rfl (Nat.le_of_ble_eq_true rfl) dX4_state_10 ⟨Nat.zero_le _, Nat.zero_le _⟩ (fun z3 H locs hB => ?_)
  obtain ⟨v4, hJ6, hf⟩ := ob1_s hf
  have kJ7 : (v4 = 0 ∨ v4 = 1) → ∀ (H : Heap) (locs : List Loc) (ls : Array Slot), Bd (dC, dI) [(cyI, .int), (cyO, .array .int)] (va_A (cM cyI cyO ad μ) s.heap.size) s (cM cyI cyO ad μ1) H locs → lv_has ls 2 [(0, .ref (ad 0)), (1, .int i1)] → W p l e (headSpec wsX4_state rmX4_state).room s m ([.ref (ad 0), .int i1] : List Value).toArray below meth c H locs 0 0 (MQ below (QiF (dC, dI) [(cyI, .int), (cyO, .array .int)] (cM cyI cyO ad μ) (cM cyI cyO ad μ_) s.heap.size r) ([.ref (ad 0), .int i1] : List Value).toArray s 0 0 (va_A (cM cyI cyO ad μ) s.heap.size)) (F0 m 21 ls [.int v4, .ref (ad 0)]) := by
    intro z5 H locs ls hB hl
    refine lv_iconst (v := (1 : Int32)) hx hb dX4_state_21 (by decide) ?_
    obtain ⟨r9, μ10, hc, hf⟩ := ob2_s hf
    refine g_callVz (As := [.int v4, .int (1 : Int32)]) (rest := []) ⟨hx, hb, hml, hown, hts⟩ (kX4_fails l dC dI cyI cyO ad H.size hc) (cwV 2 hts gX4_state_X4_fails rfl rfl rfl (by decide +kernel) ⟨Nat.le_of_ble_eq_true rfl, Nat.le_of_ble_eq_true rfl⟩) hK hB hA (g_recv (ci := 4) hK hB 0 rfl rfl rfl) rfl hl.1 rfl (Nat.le_of_ble_eq_true rfl) dX4_state_22 ⟨Nat.zero_le _, Nat.zero_le _⟩ (fun z11 H locs hB => ?_)
    obtain ⟨v12, hJ13, hf⟩ := ob1_s hf
    have kJ14 : ∀ (H : Heap) (locs : List Loc) (ls : Array Slot), Bd (dC, dI) [(cyI, .int), (cyO, .array .int)] (va_A (cM cyI cyO ad μ) s.heap.size) s (cM cyI cyO ad μ10) H locs → lv_has ls 2 [] → W p l e (headSpec wsX4_state rmX4_state).room s m ([.ref (ad 0), .int i1] : List Value).toArray below meth c H locs 0 0 (MQ below (QiF (dC, dI) [(cyI, .int), (cyO, .array .int)] (cM cyI cyO ad μ) (cM cyI cyO ad μ_) s.heap.size r) ([.ref (ad 0), .int i1] : List Value).toArray s 0 0 (va_A (cM cyI cyO ad μ) s.heap.size)) (F0 m 37 ls [.int v12]) := by
      intro H locs ls hB hl
      obtain ⟨e0, e1⟩ := inj2 hf
      subst e0
      subst e1
      exact g_iret hx hb hr hlocks hK hB dX4_state_37
    refine lv_if_eq (tgt := 32) hx hb dX4_state_25 (by decide) (fun c15 => ?_) (fun c15 => ?_)
    · have hJ13 := ite_t c15 hJ13
      refine lv_aload_n hx hb dX4_state_32 rfl (lv_at hl 0 rfl) ?_
      refine lv_iload_n hx hb dX4_state_33 rfl (lv_at hl 1 rfl) ?_
      obtain ⟨r16, hc, hJ13⟩ := ob1_s hJ13
      refine g_callVi (As := [.int i1]) (rest := []) ⟨hx, hb, hml, hown, hts⟩ (kX4_told l dC dI cyI cyO ad H.size hc) (cwV 1 hts gX4_state_X4_told rfl rfl rfl (by decide +kernel) ⟨Nat.le_of_ble_eq_true rfl, Nat.le_of_ble_eq_true rfl⟩) hK hB hA (g_recv (ci := 4) hK hB 0 rfl rfl rfl) rfl hl.1 rfl (Nat.le_of_ble_eq_true rfl) dX4_state_34 ⟨Nat.zero_le _, Nat.zero_le _⟩ (fun H locs hB => ?_)
      have e0 := inj1 hJ13
      subst e0
      exact kJ14 _ _ _ hB (lv_sub hl [] rfl)
    · have hJ13 := ite_f c15 hJ13
      refine lv_iconst (v := (0 : Int32)) hx hb dX4_state_28 (by decide) ?_
      refine lv_goto (tgt := 37) hx hb dX4_state_29 (by decide) ?_
      have e0 := inj1 hJ13
      subst e0
      exact kJ14 _ _ _ hB (lv_sub hl [] rfl)
  refine lv_if_ne (tgt := 20) hx hb dX4_state_13 (by decide) (fun c8 => ?_) (fun c8 => ?_)
  · have hJ6 := ite_f c8 hJ6
    refine lv_iconst (v := (0 : Int32)) hx hb dX4_state_20 (by decide) ?_
    have e0 := inj1 hJ6
    subst e0
    exact kJ7 (Or.inl rfl) _ _ _ hB (lv_sub hl [0, 1] rfl)
  · have hJ6 := ite_t c8 hJ6
    refine lv_iconst (v := (1 : Int32)) hx hb dX4_state_16 (by decide) ?_
    refine lv_goto (tgt := 21) hx hb dX4_state_17 (by decide) ?_
    have e0 := inj1 hJ6
    subst e0
    exact kJ7 (Or.inr rfl) _ _ _ hB (lv_sub hl [0, 1] rfl)

abbrev rmX4_sumOf : Room := { frames := 5, cells := 0, slots := 0, locals := 108 }

set_option maxHeartbeats 4000000 in
set_option maxRecDepth 100000 in
theorem kX4_sumOf (l : Launch) (dC : Nat → ClassId) (dI : Nat → Nat → Nat) (cyI cyO : ClassId) (ad : Nat → Nat) (sz : Nat) {fu : Nat} {μ : MS} {i1 : Int32} {i2 : Int32} {r : Int32} (hf : mX4_sumOf fu μ i1 i2 = some r) : Met l yX4_sumOf wsX4_sumOf rmX4_sumOf (PcF (dC, dI) [(cyI, .int), (cyO, .array .int)] (cM cyI cyO ad μ) sz [.ref (ad 0), .int i1, .int i2]) (QiF (dC, dI) [(cyI, .int), (cyO, .array .int)] (cM cyI cyO ad μ) (cM cyI cyO ad μ) sz r) 0 0 (va_A (cM cyI cyO ad μ) sz) := by
  refine Met.ofW (cc := cX4_sumOf) (maxL := 7) (ret := (some .int)) (by decide) rfl ?_
  intro p e s m args below meth c s₁ B hml hv
  obtain ⟨rfl, hsz, hP, hK, hD0⟩ := hv
  have hx := B.exec
  have hb := B.bytes
  have hr := B.returns
  have hts := atoms_spec (ws := wsX4_sumOf) B.pre
  have hown : s.vm.findClass RX4 = some m.cls := findClass_of_methodNamed B.named
  have hlocks := B.notSynchronized
  subst hsz
  have hA : ∀ q : Nat, s.heap.size ≤ q → va_A (cM cyI cyO ad μ) s.heap.size q := fun q h => Or.inr h
  have hB : Bd (dC, dI) [(cyI, .int), (cyO, .array .int)] (va_A (cM cyI cyO ad μ) s.heap.size) s (cM cyI cyO ad μ) s.heap [] := ⟨hP, hD0.self, va_S.rf⟩
  have hq1 : (Cond.fieldLink RX4 17 "UndoJourneysModel" "data" "[I").before _ s = true := hts _ (List.mem_of_getElem? (i := 1) rfl)
  have hinX4 : ∀ w ∈ wsX40, w ∈ wsX4_sumOf := fun w h => List.mem_cons_of_mem _ (List.mem_append_right _ h)
  have hl := lv_entry [.ref (ad 0), .int i1, .int i2] (n := 7) (Nat.le_of_ble_eq_true rfl)
  rw [lg_entry_eq]
  generalize (lg_sl [.ref (ad 0), .int i1, .int i2] ++ List.replicate (7 - (lg_sl [.ref (ad 0), .int i1, .int i2]).length) Slot.unset).toArray = ls at hl ⊢
  have hl : lv_has ls 7 [(0, .ref (ad 0)), (1, .int i1), (2, .int i2)] := hl
  clear hP hD0
  suffices main : ∀ (H : Heap) (locs : List Loc), Bd (dC, dI) [(cyI, .int), (cyO, .array .int)] (va_A (cM cyI cyO ad μ) s.heap.size) s (cM cyI cyO ad μ) H locs → W p l e (headSpec wsX4_sumOf rmX4_sumOf).room s m ([.ref (ad 0), .int i1, .int i2] : List Value).toArray below meth c H locs 0 0 (MQ below (QiF (dC, dI) [(cyI, .int), (cyO, .array .int)] (cM cyI cyO ad μ) (cM cyI cyO ad μ) s.heap.size r) ([.ref (ad 0), .int i1, .int i2] : List Value).toArray s 0 0 (va_A (cM cyI cyO ad μ) s.heap.size)) (F0 m 0 ls []) from main _ _ hB
  clear hB
  intro H locs hB
  unfold mX4_sumOf at hf
  refine lv_iconst (v := (0 : Int32)) hx hb dX4_sumOf_0 (by decide) ?_
  refine lv_istore_n (lv' := [(3, .int (0 : Int32)), (0, .ref (ad 0)), (1, .int i1), (2, .int i2)]) hx hb dX4_sumOf_1 rfl hl (by decide) rfl (fun ls hl => ?_)
  refine lv_iconst (v := (0 : Int32)) hx hb dX4_sumOf_2 (by decide) ?_
  refine lv_istore (lv' := [(4, .int (0 : Int32)), (3, .int (0 : Int32)), (0, .ref (ad 0)), (1, .int i1), (2, .int i2)]) hx hb dX4_sumOf_3 hl (by decide) rfl (fun ls hl => ?_)
  obtain ⟨v83, hL86, hf⟩ := ob1_s hf
  have kE84 : ∀ (H : Heap) (locs : List Loc) (ls : Array Slot), Bd (dC, dI) [(cyI, .int), (cyO, .array .int)] (va_A (cM cyI cyO ad μ) s.heap.size) s (cM cyI cyO ad μ) H locs → lv_has ls 7 [(3, .int v83)] → W p l e (headSpec wsX4_sumOf rmX4_sumOf).room s m ([.ref (ad 0), .int i1, .int i2] : List Value).toArray below meth c H locs 0 0 (MQ below (QiF (dC, dI) [(cyI, .int), (cyO, .array .int)] (cM cyI cyO ad μ) (cM cyI cyO ad μ) s.heap.size r) ([.ref (ad 0), .int i1, .int i2] : List Value).toArray s 0 0 (va_A (cM cyI cyO ad μ) s.heap.size)) (F0 m 164 ls []) := by
    intro H locs ls hB hl
    refine lv_iload_n hx hb dX4_sumOf_164 rfl (lv_at hl 0 rfl) ?_
    have e0 := inj1 hf
    subst e0
    exact g_iret hx hb hr hlocks hK hB dX4_sumOf_165
  have key85 : ∀ (n9 : Nat) (v89 : Int32) (v90 : Int32) (H : Heap) (locs : List Loc) (ls : Array Slot), loopM (fun st => mX4_sumOf_L5 fu i1 i2 μ st.1 st.2) n9 (v89, v90) = some v83 → Bd (dC, dI) [(cyI, .int), (cyO, .array .int)] (va_A (cM cyI cyO ad μ) s.heap.size) s (cM cyI cyO ad μ) H locs → lv_has ls 7 [(4, .int v89), (3, .int v90), (0, .ref (ad 0)), (1, .int i1), (2, .int i2)] → W p l e (headSpec wsX4_sumOf rmX4_sumOf).room s m ([.ref (ad 0), .int i1, .int i2] : List Value).toArray below meth c H locs 0 0 (MQ below (QiF (dC, dI) [(cyI, .int), (cyO, .array .int)] (cM cyI cyO ad μ) (cM cyI cyO ad μ) s.heap.size r) ([.ref (ad 0), .int i1, .int i2] : List Value).toArray s 0 0 (va_A (cM cyI cyO ad μ) s.heap.size)) (F0 m 5 ls []) := by
    intro n9
    induction n9 with
    | zero => intro v89 v90 H locs ls hL86; exact (loopM_z hL86).elim
    | succ n9 ih9 =>
      intro v89 v90 H locs ls hL86 hB hl
      obtain ⟨o91, hg87, hL86⟩ := loopM_s hL86
      have hg87 : mX4_sumOf_L5 fu i1 i2 μ v89 v90 = some o91 := hg87
      unfold mX4_sumOf_L5 at hg87
      refine lv_iload hx hb dX4_sumOf_5 (lv_at hl 0 rfl) ?_
      refine lv_aload_n hx hb dX4_sumOf_7 rfl (lv_at hl 2 rfl) ?_
      refine g_get (C := RX4) (T := TX4) (N := 15) hx hb hts hinX4 hown hK hB 0 rfl rfl 8 rfl hq1 rfl rfl dX4_sumOf_8 ?_
      refine lv_iconst (v := (2 : Int32)) hx hb dX4_sumOf_11 (by decide) ?_
      obtain ⟨x92, e9, hg87⟩ := ob1_s hg87
      refine g_iald hx hb hK hB 2 0 rfl rfl (rd_s e9) dX4_sumOf_12 ?_
      refine lv_icmp_ge (tgt := 164) hx hb dX4_sumOf_13 (by decide) (fun c93 => ?_) (fun c93 => ?_)
      · have hg87 := ite_t c93 hg87
        have hL86 := el1_l (inj1 hg87) hL86
        have e0 := inj1 hL86
        subst e0
        exact kE84 _ _ _ hB (lv_sub hl [1] rfl)
      · have hg87 := ite_f c93 hg87
        refine lv_iconst (v := (0 : Int32)) hx hb dX4_sumOf_16 (by decide) ?_
        refine lv_istore (lv' := [(5, .int (0 : Int32)), (4, .int v89), (3, .int v90), (0, .ref (ad 0)), (1, .int i1), (2, .int i2)]) hx hb dX4_sumOf_17 hl (by decide) rfl (fun ls hl => ?_)
        obtain ⟨v100, hL103, hg87⟩ := ob1_s hg87
        have kE101 : ∀ (H : Heap) (locs : List Loc) (ls : Array Slot), Bd (dC, dI) [(cyI, .int), (cyO, .array .int)] (va_A (cM cyI cyO ad μ) s.heap.size) s (cM cyI cyO ad μ) H locs → lv_has ls 7 [(4, .int v89), (3, .int v100), (0, .ref (ad 0)), (1, .int i1), (2, .int i2)] → W p l e (headSpec wsX4_sumOf rmX4_sumOf).room s m ([.ref (ad 0), .int i1, .int i2] : List Value).toArray below meth c H locs 0 0 (MQ below (QiF (dC, dI) [(cyI, .int), (cyO, .array .int)] (cM cyI cyO ad μ) (cM cyI cyO ad μ) s.heap.size r) ([.ref (ad 0), .int i1, .int i2] : List Value).toArray s 0 0 (va_A (cM cyI cyO ad μ) s.heap.size)) (F0 m 158 ls []) := by
          intro H locs ls hB hl
          refine lv_iinc (v := (v89 + (1 : Int32))) (lv' := [(4, .int (v89 + (1 : Int32))), (3, .int v100), (0, .ref (ad 0)), (1, .int i1), (2, .int i2)]) hx hb dX4_sumOf_158 hl (k := 0) rfl rfl (by decide) rfl (fun ls hl => ?_)
          refine lv_goto (tgt := 5) hx hb dX4_sumOf_161 (by decide) ?_
          have hL86 := el1_r (inj1 hg87) hL86
          exact ih9 _ _ _ _ _ hL86 hB (lv_sub hl [0, 1, 2, 3, 4] rfl)
        have key102 : ∀ (n9 : Nat) (v106 : Int32) (v107 : Int32) (H : Heap) (locs : List Loc) (ls : Array Slot), loopM (fun st => mX4_sumOf_L19 fu v89 i1 i2 μ st.1 st.2) n9 (v106, v107) = some v100 → Bd (dC, dI) [(cyI, .int), (cyO, .array .int)] (va_A (cM cyI cyO ad μ) s.heap.size) s (cM cyI cyO ad μ) H locs → lv_has ls 7 [(5, .int v106), (4, .int v89), (3, .int v107), (0, .ref (ad 0)), (1, .int i1), (2, .int i2)] → W p l e (headSpec wsX4_sumOf rmX4_sumOf).room s m ([.ref (ad 0), .int i1, .int i2] : List Value).toArray below meth c H locs 0 0 (MQ below (QiF (dC, dI) [(cyI, .int), (cyO, .array .int)] (cM cyI cyO ad μ) (cM cyI cyO ad μ) s.heap.size r) ([.ref (ad 0), .int i1, .int i2] : List Value).toArray s 0 0 (va_A (cM cyI cyO ad μ) s.heap.size)) (F0 m 19 ls []) := by
          intro n9
          induction n9 with
          | zero => intro v106 v107 H locs ls hL103; exact (loopM_z hL103).elim
          | succ n9 ih9 =>
            intro v106 v107 H locs ls hL103 hB hl
            obtain ⟨o108, hg104, hL103⟩ := loopM_s hL103
            have hg104 : mX4_sumOf_L19 fu v89 i1 i2 μ v106 v107 = some o108 := hg104
            unfold mX4_sumOf_L19 at hg104
            refine lv_iload hx hb dX4_sumOf_19 (lv_at hl 0 rfl) ?_
            refine lv_aload_n hx hb dX4_sumOf_21 rfl (lv_at hl 3 rfl) ?_
            refine lv_iload hx hb dX4_sumOf_22 (lv_at hl 1 rfl) ?_
            refine lv_iconst (v := (3 : Int32)) hx hb dX4_sumOf_24 (by decide) ?_
            obtain ⟨r109, hc, hg104⟩ := ob1_s hg104
            refine g_callVi (As := [.int v89, .int (3 : Int32)]) (rest := [.int v106]) ⟨hx, hb, hml, hown, hts⟩ (kX4_ofJourney l dC dI cyI cyO ad H.size hc) (cwV 2 hts gX4_sumOf_X4_ofJourney rfl rfl rfl (by decide +kernel) ⟨Nat.le_of_ble_eq_true rfl, Nat.le_of_ble_eq_true rfl⟩) hK hB hA (g_recv (ci := 4) hK hB 0 rfl rfl rfl) rfl hl.1 rfl (Nat.le_of_ble_eq_true rfl) dX4_sumOf_25 ⟨Nat.zero_le _, Nat.zero_le _⟩ (fun H locs hB => ?_)
            refine lv_icmp_ge (tgt := 158) hx hb dX4_sumOf_28 (by decide) (fun c110 => ?_) (fun c110 => ?_)
            · have hg104 := ite_t c110 hg104
              have hL103 := el1_l (inj1 hg104) hL103
              have e0 := inj1 hL103
              subst e0
              exact kE101 _ _ _ hB (lv_sub hl [1, 2, 3, 4, 5] rfl)
            · have hg104 := ite_f c110 hg104
              refine lv_aload_n hx hb dX4_sumOf_31 rfl (lv_at hl 3 rfl) ?_
              refine g_get (C := RX4) (T := TX4) (N := 15) hx hb hts hinX4 hown hK hB 0 rfl rfl 8 rfl hq1 rfl rfl dX4_sumOf_32 ?_
              refine lv_aload_n hx hb dX4_sumOf_35 rfl (lv_at hl 3 rfl) ?_
              refine lv_iload hx hb dX4_sumOf_36 (lv_at hl 1 rfl) ?_
              refine lv_iload hx hb dX4_sumOf_38 (lv_at hl 0 rfl) ?_
              obtain ⟨r111, hc, hg104⟩ := ob1_s hg104
              refine g_callVi (As := [.int v89, .int v106]) (rest := [.ref (ad 8)]) ⟨hx, hb, hml, hown, hts⟩ (kX4_stepAt l dC dI cyI cyO ad H.size hc) (cwV 2 hts gX4_sumOf_X4_stepAt rfl rfl rfl (by decide +kernel) ⟨Nat.le_of_ble_eq_true rfl, Nat.le_of_ble_eq_true rfl⟩) hK hB hA (g_recv (ci := 4) hK hB 0 rfl rfl rfl) rfl hl.1 rfl (Nat.le_of_ble_eq_true rfl) dX4_sumOf_40 ⟨Nat.zero_le _, Nat.zero_le _⟩ (fun H locs hB => ?_)
              refine lv_iconst (v := (1 : Int32)) hx hb dX4_sumOf_43 (by decide) ?_
              refine lv_iadd hx hb dX4_sumOf_44 ?_
              obtain ⟨x112, e9, hg104⟩ := ob1_s hg104
              refine g_iald hx hb hK hB 2 0 rfl rfl (rd_s e9) dX4_sumOf_45 ?_
              refine lv_iload_n hx hb dX4_sumOf_46 rfl (lv_at hl 4 rfl) ?_
              obtain ⟨v113, hJ114, hg104⟩ := ob1_s hg104
              have kJ115 : ∀ (H : Heap) (locs : List Loc) (ls : Array Slot), Bd (dC, dI) [(cyI, .int), (cyO, .array .int)] (va_A (cM cyI cyO ad μ) s.heap.size) s (cM cyI cyO ad μ) H locs → lv_has ls 7 [(3, .int v113), (5, .int v106), (4, .int v89), (0, .ref (ad 0)), (1, .int i1), (2, .int i2)] → W p l e (headSpec wsX4_sumOf rmX4_sumOf).room s m ([.ref (ad 0), .int i1, .int i2] : List Value).toArray below meth c H locs 0 0 (MQ below (QiF (dC, dI) [(cyI, .int), (cyO, .array .int)] (cM cyI cyO ad μ) (cM cyI cyO ad μ) s.heap.size r) ([.ref (ad 0), .int i1, .int i2] : List Value).toArray s 0 0 (va_A (cM cyI cyO ad μ) s.heap.size)) (F0 m 152 ls []) := by
                intro H locs ls hB hl
                refine lv_iinc (v := (v106 + (1 : Int32))) (lv' := [(5, .int (v106 + (1 : Int32))), (3, .int v113), (4, .int v89), (0, .ref (ad 0)), (1, .int i1), (2, .int i2)]) hx hb dX4_sumOf_152 hl (k := 1) rfl rfl (by decide) rfl (fun ls hl => ?_)
                refine lv_goto (tgt := 19) hx hb dX4_sumOf_155 (by decide) ?_
                have hL103 := el1_r (inj1 hg104) hL103
                exact ih9 _ _ _ _ _ hL103 hB (lv_sub hl [0, 2, 1, 3, 4, 5] rfl)
              refine lv_icmp_eq (tgt := 53) hx hb dX4_sumOf_47 (by decide) (fun c116 => ?_) (fun c116 => ?_)
              · have hJ114 := ite_t c116 hJ114
                refine lv_iload_n hx hb dX4_sumOf_53 rfl (lv_at hl 5 rfl) ?_
                refine lv_iconst (v := (5 : Int32)) hx hb dX4_sumOf_54 (by decide) ?_
                obtain ⟨v117, hJ119, hJ114⟩ := ob1_s hJ114
                have kJ120 : (v117 = 0 ∨ v117 = 1) → ∀ (H : Heap) (locs : List Loc) (ls : Array Slot), Bd (dC, dI) [(cyI, .int), (cyO, .array .int)] (va_A (cM cyI cyO ad μ) s.heap.size) s (cM cyI cyO ad μ) H locs → lv_has ls 7 [(5, .int v106), (4, .int v89), (3, .int v107), (0, .ref (ad 0)), (1, .int i1), (2, .int i2)] → W p l e (headSpec wsX4_sumOf rmX4_sumOf).room s m ([.ref (ad 0), .int i1, .int i2] : List Value).toArray below meth c H locs 0 0 (MQ below (QiF (dC, dI) [(cyI, .int), (cyO, .array .int)] (cM cyI cyO ad μ) (cM cyI cyO ad μ) s.heap.size r) ([.ref (ad 0), .int i1, .int i2] : List Value).toArray s 0 0 (va_A (cM cyI cyO ad μ) s.heap.size)) (F0 m 123 ls [.int v117]) := by
                  intro z118 H locs ls hB hl
                  refine lv_istore (lv' := [(6, .int v117), (5, .int v106), (4, .int v89), (3, .int v107), (0, .ref (ad 0)), (1, .int i1), (2, .int i2)]) hx hb dX4_sumOf_123 hl (by decide) rfl (fun ls hl => ?_)
                  refine lv_iload_n hx hb dX4_sumOf_125 rfl (lv_at hl 3 rfl) ?_
                  refine lv_iload hx hb dX4_sumOf_126 (lv_at hl 0 rfl) ?_
                  obtain ⟨v133, hJ134, hJ114⟩ := ob1_s hJ114
                  have kJ135 : ∀ (H : Heap) (locs : List Loc) (ls : Array Slot), Bd (dC, dI) [(cyI, .int), (cyO, .array .int)] (va_A (cM cyI cyO ad μ) s.heap.size) s (cM cyI cyO ad μ) H locs → lv_has ls 7 [(5, .int v106), (4, .int v89), (0, .ref (ad 0)), (1, .int i1), (2, .int i2)] → W p l e (headSpec wsX4_sumOf rmX4_sumOf).room s m ([.ref (ad 0), .int i1, .int i2] : List Value).toArray below meth c H locs 0 0 (MQ below (QiF (dC, dI) [(cyI, .int), (cyO, .array .int)] (cM cyI cyO ad μ) (cM cyI cyO ad μ) s.heap.size r) ([.ref (ad 0), .int i1, .int i2] : List Value).toArray s 0 0 (va_A (cM cyI cyO ad μ) s.heap.size)) (F0 m 150 ls [.int v133, .int v107]) := by
                    intro H locs ls hB hl
                    refine lv_iadd hx hb dX4_sumOf_150 ?_
                    refine lv_istore_n (lv' := [(3, .int (v107 + v133)), (5, .int v106), (4, .int v89), (0, .ref (ad 0)), (1, .int i1), (2, .int i2)]) hx hb dX4_sumOf_151 rfl hl (by decide) rfl (fun ls hl => ?_)
                    have e0 := inj1 hJ114
                    subst e0
                    exact kJ115 _ _ _ hB (lv_sub hl [0, 1, 2, 3, 4, 5] rfl)
                  refine lv_if_eq (tgt := 149) hx hb dX4_sumOf_128 (by decide) (fun c136 => ?_) (fun c136 => ?_)
                  · have hJ134 := ite_t c136 hJ134
                    refine lv_iconst (v := (0 : Int32)) hx hb dX4_sumOf_149 (by decide) ?_
                    have e0 := inj1 hJ134
                    subst e0
                    exact kJ135 _ _ _ hB (lv_sub hl [1, 2, 4, 5, 6] rfl)
                  · have hJ134 := ite_f c136 hJ134
                    refine lv_aload_n hx hb dX4_sumOf_131 rfl (lv_at hl 4 rfl) ?_
                    refine g_get (C := RX4) (T := TX4) (N := 15) hx hb hts hinX4 hown hK hB 0 rfl rfl 8 rfl hq1 rfl rfl dX4_sumOf_132 ?_
                    refine lv_aload_n hx hb dX4_sumOf_135 rfl (lv_at hl 4 rfl) ?_
                    refine lv_iload hx hb dX4_sumOf_136 (lv_at hl 2 rfl) ?_
                    refine lv_iload hx hb dX4_sumOf_138 (lv_at hl 1 rfl) ?_
                    obtain ⟨r137, hc, hJ134⟩ := ob1_s hJ134
                    refine g_callVi (As := [.int v89, .int v106]) (rest := [.ref (ad 8), .int v107]) ⟨hx, hb, hml, hown, hts⟩ (kX4_stepAt l dC dI cyI cyO ad H.size hc) (cwV 2 hts gX4_sumOf_X4_stepAt rfl rfl rfl (by decide +kernel) ⟨Nat.le_of_ble_eq_true rfl, Nat.le_of_ble_eq_true rfl⟩) hK hB hA (g_recv (ci := 4) hK hB 0 rfl rfl rfl) rfl hl.1 rfl (Nat.le_of_ble_eq_true rfl) dX4_sumOf_140 ⟨Nat.zero_le _, Nat.zero_le _⟩ (fun H locs hB => ?_)
                    refine lv_iconst (v := (2 : Int32)) hx hb dX4_sumOf_143 (by decide) ?_
                    refine lv_iadd hx hb dX4_sumOf_144 ?_
                    obtain ⟨x138, e9, hJ134⟩ := ob1_s hJ134
                    refine g_iald hx hb hK hB 2 0 rfl rfl (rd_s e9) dX4_sumOf_145 ?_
                    refine lv_goto (tgt := 150) hx hb dX4_sumOf_146 (by decide) ?_
                    have e0 := inj1 hJ134
                    subst e0
                    exact kJ135 _ _ _ hB (lv_sub hl [1, 2, 4, 5, 6] rfl)
                refine lv_icmp_ne (tgt := 79) hx hb dX4_sumOf_55 (by decide) (fun c121 => ?_) (fun c121 => ?_)
                · have hJ119 := ite_f c121 hJ119
                  refine lv_aload_n hx hb dX4_sumOf_79 rfl (lv_at hl 3 rfl) ?_
                  refine lv_iload hx hb dX4_sumOf_80 (lv_at hl 1 rfl) ?_
                  refine lv_iload hx hb dX4_sumOf_82 (lv_at hl 0 rfl) ?_
                  obtain ⟨r122, hc, hJ119⟩ := ob1_s hJ119
                  refine g_callVz (As := [.int v89, .int v106]) (rest := []) ⟨hx, hb, hml, hown, hts⟩ (kX4_isTaken l dC dI cyI cyO ad H.size hc) (cwV 2 hts gX4_sumOf_X4_isTaken rfl rfl rfl (by decide +kernel) ⟨Nat.le_of_ble_eq_true rfl, Nat.le_of_ble_eq_true rfl⟩) hK hB hA (g_recv (ci := 4) hK hB 0 rfl rfl rfl) rfl hl.1 rfl (Nat.le_of_ble_eq_true rfl) dX4_sumOf_84 ⟨Nat.zero_le _, Nat.zero_le _⟩ (fun z123 H locs hB => ?_)
                  refine lv_if_eq (tgt := 122) hx hb dX4_sumOf_87 (by decide) (fun c124 => ?_) (fun c124 => ?_)
                  · have hJ119 := ite_t c124 hJ119
                    refine lv_iconst (v := (0 : Int32)) hx hb dX4_sumOf_122 (by decide) ?_
                    have e0 := inj1 hJ119
                    subst e0
                    exact kJ120 (Or.inl rfl) _ _ _ hB (lv_sub hl [0, 1, 2, 3, 4, 5] rfl)
                  · have hJ119 := ite_f c124 hJ119
                    refine lv_iload_n hx hb dX4_sumOf_90 rfl (lv_at hl 5 rfl) ?_
                    refine lv_iconst (v := (3 : Int32)) hx hb dX4_sumOf_91 (by decide) ?_
                    refine lv_icmp_ne (tgt := 107) hx hb dX4_sumOf_92 (by decide) (fun c125 => ?_) (fun c125 => ?_)
                    · have hJ119 := ite_f c125 hJ119
                      refine lv_aload_n hx hb dX4_sumOf_107 rfl (lv_at hl 3 rfl) ?_
                      refine lv_iload hx hb dX4_sumOf_108 (lv_at hl 1 rfl) ?_
                      refine lv_iconst (v := (0 : Int32)) hx hb dX4_sumOf_110 (by decide) ?_
                      obtain ⟨r126, hc, hJ119⟩ := ob1_s hJ119
                      refine g_callVi (As := [.int v89, .int (0 : Int32)]) (rest := []) ⟨hx, hb, hml, hown, hts⟩ (kX4_ofJourney l dC dI cyI cyO ad H.size hc) (cwV 2 hts gX4_sumOf_X4_ofJourney rfl rfl rfl (by decide +kernel) ⟨Nat.le_of_ble_eq_true rfl, Nat.le_of_ble_eq_true rfl⟩) hK hB hA (g_recv (ci := 4) hK hB 0 rfl rfl rfl) rfl hl.1 rfl (Nat.le_of_ble_eq_true rfl) dX4_sumOf_111 ⟨Nat.zero_le _, Nat.zero_le _⟩ (fun H locs hB => ?_)
                      refine lv_iconst (v := (3 : Int32)) hx hb dX4_sumOf_114 (by decide) ?_
                      refine lv_icmp_ne (tgt := 122) hx hb dX4_sumOf_115 (by decide) (fun c127 => ?_) (fun c127 => ?_)
                      · have hJ119 := ite_f c127 hJ119
                        refine lv_iconst (v := (0 : Int32)) hx hb dX4_sumOf_122 (by decide) ?_
                        have e0 := inj1 hJ119
                        subst e0
                        exact kJ120 (Or.inl rfl) _ _ _ hB (lv_sub hl [0, 1, 2, 3, 4, 5] rfl)
                      · have hJ119 := ite_t c127 hJ119
                        refine lv_iconst (v := (1 : Int32)) hx hb dX4_sumOf_118 (by decide) ?_
                        refine lv_goto (tgt := 123) hx hb dX4_sumOf_119 (by decide) ?_
                        have e0 := inj1 hJ119
                        subst e0
                        exact kJ120 (Or.inr rfl) _ _ _ hB (lv_sub hl [0, 1, 2, 3, 4, 5] rfl)
                    · have hJ119 := ite_t c125 hJ119
                      refine lv_aload_n hx hb dX4_sumOf_95 rfl (lv_at hl 3 rfl) ?_
                      refine lv_iload hx hb dX4_sumOf_96 (lv_at hl 1 rfl) ?_
                      obtain ⟨r128, hc, hJ119⟩ := ob1_s hJ119
                      refine g_callVz (As := [.int v89]) (rest := []) ⟨hx, hb, hml, hown, hts⟩ (kX4_hasEnded l dC dI cyI cyO ad H.size hc) (cwV 1 hts gX4_sumOf_X4_hasEnded rfl rfl rfl (by decide +kernel) ⟨Nat.le_of_ble_eq_true rfl, Nat.le_of_ble_eq_true rfl⟩) hK hB hA (g_recv (ci := 4) hK hB 0 rfl rfl rfl) rfl hl.1 rfl (Nat.le_of_ble_eq_true rfl) dX4_sumOf_98 ⟨Nat.zero_le _, Nat.zero_le _⟩ (fun z129 H locs hB => ?_)
                      refine lv_if_ne (tgt := 122) hx hb dX4_sumOf_101 (by decide) (fun c130 => ?_) (fun c130 => ?_)
                      · have hJ119 := ite_f c130 hJ119
                        refine lv_iconst (v := (0 : Int32)) hx hb dX4_sumOf_122 (by decide) ?_
                        have e0 := inj1 hJ119
                        subst e0
                        exact kJ120 (Or.inl rfl) _ _ _ hB (lv_sub hl [0, 1, 2, 3, 4, 5] rfl)
                      · have hJ119 := ite_t c130 hJ119
                        refine lv_goto (tgt := 118) hx hb dX4_sumOf_104 (by decide) ?_
                        refine lv_iconst (v := (1 : Int32)) hx hb dX4_sumOf_118 (by decide) ?_
                        refine lv_goto (tgt := 123) hx hb dX4_sumOf_119 (by decide) ?_
                        have e0 := inj1 hJ119
                        subst e0
                        exact kJ120 (Or.inr rfl) _ _ _ hB (lv_sub hl [0, 1, 2, 3, 4, 5] rfl)
                · have hJ119 := ite_t c121 hJ119
                  refine lv_aload_n hx hb dX4_sumOf_58 rfl (lv_at hl 3 rfl) ?_
                  refine lv_iload hx hb dX4_sumOf_59 (lv_at hl 1 rfl) ?_
                  refine lv_iload hx hb dX4_sumOf_61 (lv_at hl 0 rfl) ?_
                  obtain ⟨r131, hc, hJ119⟩ := ob1_s hJ119
                  refine g_callVi (As := [.int v89, .int v106]) (rest := []) ⟨hx, hb, hml, hown, hts⟩ (kX4_stateOf l dC dI cyI cyO ad H.size hc) (cwV 2 hts gX4_sumOf_X4_stateOf rfl rfl rfl (by decide +kernel) ⟨Nat.le_of_ble_eq_true rfl, Nat.le_of_ble_eq_true rfl⟩) hK hB hA (g_recv (ci := 4) hK hB 0 rfl rfl rfl) rfl hl.1 rfl (Nat.le_of_ble_eq_true rfl) dX4_sumOf_63 ⟨Nat.zero_le _, Nat.zero_le _⟩ (fun H locs hB => ?_)
                  refine lv_bipush (v := (6 : Int32)) hx hb dX4_sumOf_66 (by decide) ?_
                  refine lv_icmp_ne (tgt := 75) hx hb dX4_sumOf_68 (by decide) (fun c132 => ?_) (fun c132 => ?_)
                  · have hJ119 := ite_f c132 hJ119
                    refine lv_iconst (v := (0 : Int32)) hx hb dX4_sumOf_75 (by decide) ?_
                    refine lv_goto (tgt := 123) hx hb dX4_sumOf_76 (by decide) ?_
                    have e0 := inj1 hJ119
                    subst e0
                    exact kJ120 (Or.inl rfl) _ _ _ hB (lv_sub hl [0, 1, 2, 3, 4, 5] rfl)
                  · have hJ119 := ite_t c132 hJ119
                    refine lv_iconst (v := (1 : Int32)) hx hb dX4_sumOf_71 (by decide) ?_
                    refine lv_goto (tgt := 123) hx hb dX4_sumOf_72 (by decide) ?_
                    have e0 := inj1 hJ119
                    subst e0
                    exact kJ120 (Or.inr rfl) _ _ _ hB (lv_sub hl [0, 1, 2, 3, 4, 5] rfl)
              · have hJ114 := ite_f c116 hJ114
                refine lv_goto (tgt := 152) hx hb dX4_sumOf_50 (by decide) ?_
                have e0 := inj1 hJ114
                subst e0
                exact kJ115 _ _ _ hB (lv_sub hl [2, 0, 1, 3, 4, 5] rfl)
        exact key102 fu _ _ _ _ _ hL103 hB (lv_sub hl [0, 1, 2, 3, 4, 5] rfl)
  exact key85 fu _ _ _ _ _ hL86 hB (lv_sub hl [0, 1, 2, 3, 4] rfl)

