abbrev rmX1_kindAt : Room := { frames := 0, cells := 0, slots := 0, locals := 0 }

set_option maxHeartbeats 4000000 in
set_option maxRecDepth 100000 in
theorem kX1_kindAt (l : Launch) (dC : Nat → ClassId) (dI : Nat → Nat → Nat) (cyI cyB : ClassId) (rd0 tx : Nat) (bd : Nat → Nat) (sz : Nat) {fu : Nat} {β : FS} {τ : MS} {ρ : MS} {i1 : Int32} {r : Int32} (hf : mX1_kindAt fu β τ ρ i1 = some r) : Met l yX1_kindAt wsX1_kindAt rmX1_kindAt (PcF (dC, dI) [(cyI, .int), (cyB, .byte)] (cR cyI cyB rd0 tx bd β τ ρ) sz [.ref rd0, .int i1]) (QiF (dC, dI) [(cyI, .int), (cyB, .byte)] (cR cyI cyB rd0 tx bd β τ ρ) (cR cyI cyB rd0 tx bd β τ ρ) sz r) 0 0 (va_A (cR cyI cyB rd0 tx bd β τ ρ) sz) := by
  refine Met.ofW (cc := cX1_kindAt) (maxL := 3) (ret := (some .int)) (by decide) rfl ?_
  intro p e s m args below meth c s₁ B hml hv
  obtain ⟨rfl, hsz, hP, hK, hD0⟩ := hv
  have hx := B.exec
  have hb := B.bytes
  have hr := B.returns
  have hts := atoms_spec (ws := wsX1_kindAt) B.pre
  have hown : s.vm.findClass RX1 = some m.cls := findClass_of_methodNamed B.named
  have hlocks := B.notSynchronized
  subst hsz
  have hA : ∀ q : Nat, s.heap.size ≤ q → va_A (cR cyI cyB rd0 tx bd β τ ρ) s.heap.size q := fun q h => Or.inr h
  have hB : Bd (dC, dI) [(cyI, .int), (cyB, .byte)] (va_A (cR cyI cyB rd0 tx bd β τ ρ) s.heap.size) s (cR cyI cyB rd0 tx bd β τ ρ) s.heap [] := ⟨hP, hD0.self, va_S.rf⟩
  have hq1 : (Cond.fieldLink RX1 57 "UndoJourneys$SetupReader" "length" "I").before _ s = true := hts _ (List.mem_of_getElem? (i := 1) rfl)
  have hq2 : (Cond.fieldLink RX1 44 "UndoJourneys$SetupReader" "text" "[B").before _ s = true := hts _ (List.mem_of_getElem? (i := 2) rfl)
  have hinX1 : ∀ w ∈ wsX10, w ∈ wsX1_kindAt := fun w h => List.mem_cons_of_mem _ (List.mem_append_right _ h)
  have hl := lv_entry [.ref rd0, .int i1] (n := 3) (Nat.le_of_ble_eq_true rfl)
  rw [lg_entry_eq]
  generalize (lg_sl [.ref rd0, .int i1] ++ List.replicate (3 - (lg_sl [.ref rd0, .int i1]).length) Slot.unset).toArray = ls at hl ⊢
  have hl : lv_has ls 3 [(0, .ref rd0), (1, .int i1)] := hl
  clear hP hD0
  suffices main : ∀ (H : Heap) (locs : List Loc), Bd (dC, dI) [(cyI, .int), (cyB, .byte)] (va_A (cR cyI cyB rd0 tx bd β τ ρ) s.heap.size) s (cR cyI cyB rd0 tx bd β τ ρ) H locs → W p l e (headSpec wsX1_kindAt rmX1_kindAt).room s m ([.ref rd0, .int i1] : List Value).toArray below meth c H locs 0 0 (MQ below (QiF (dC, dI) [(cyI, .int), (cyB, .byte)] (cR cyI cyB rd0 tx bd β τ ρ) (cR cyI cyB rd0 tx bd β τ ρ) s.heap.size r) ([.ref rd0, .int i1] : List Value).toArray s 0 0 (va_A (cR cyI cyB rd0 tx bd β τ ρ) s.heap.size)) (F0 m 0 ls []) from main _ _ hB
  clear hB
  intro H locs hB
  unfold mX1_kindAt at hf
  refine lv_iload_n hx hb dX1_kindAt_0 rfl (lv_at hl 1 rfl) ?_
  obtain ⟨t1, hD2, hf⟩ := ob1_s hf
  have kTt1 : t1 = true → ∀ (H : Heap) (locs : List Loc), Bd (dC, dI) [(cyI, .int), (cyB, .byte)] (va_A (cR cyI cyB rd0 tx bd β τ ρ) s.heap.size) s (cR cyI cyB rd0 tx bd β τ ρ) H locs → W p l e (headSpec wsX1_kindAt rmX1_kindAt).room s m ([.ref rd0, .int i1] : List Value).toArray below meth c H locs 0 0 (MQ below (QiF (dC, dI) [(cyI, .int), (cyB, .byte)] (cR cyI cyB rd0 tx bd β τ ρ) (cR cyI cyB rd0 tx bd β τ ρ) s.heap.size r) ([.ref rd0, .int i1] : List Value).toArray s 0 0 (va_A (cR cyI cyB rd0 tx bd β τ ρ) s.heap.size)) (F0 m 12 ls []) := by
    intro ht H locs hB
    have hf := cnd_t ht hf
    refine lv_iconst (v := (0 : Int32)) hx hb dX1_kindAt_12 (by decide) ?_
    have e0 := inj1 hf
    subst e0
    exact g_iret hx hb hr hlocks hK hB dX1_kindAt_13
  have kFt1 : t1 = false → ∀ (H : Heap) (locs : List Loc), Bd (dC, dI) [(cyI, .int), (cyB, .byte)] (va_A (cR cyI cyB rd0 tx bd β τ ρ) s.heap.size) s (cR cyI cyB rd0 tx bd β τ ρ) H locs → W p l e (headSpec wsX1_kindAt rmX1_kindAt).room s m ([.ref rd0, .int i1] : List Value).toArray below meth c H locs 0 0 (MQ below (QiF (dC, dI) [(cyI, .int), (cyB, .byte)] (cR cyI cyB rd0 tx bd β τ ρ) (cR cyI cyB rd0 tx bd β τ ρ) s.heap.size r) ([.ref rd0, .int i1] : List Value).toArray s 0 0 (va_A (cR cyI cyB rd0 tx bd β τ ρ) s.heap.size)) (F0 m 14 ls []) := by
    intro ht H locs hB
    have hf := cnd_f ht hf
    refine lv_aload_n hx hb dX1_kindAt_14 rfl (lv_at hl 0 rfl) ?_
    refine g_get (C := RX1) (T := TX1) (N := 11) hx hb hts hinX1 hown hK hB 0 rfl rfl 3 rfl hq2 rfl rfl dX1_kindAt_15 ?_
    refine lv_iload_n hx hb dX1_kindAt_18 rfl (lv_at hl 1 rfl) ?_
    obtain ⟨x5, e9, hf⟩ := ob1_s hf
    refine g_bald hx hb hK hB 1 1 rfl rfl (rd_s e9) dX1_kindAt_19 ?_
    refine lv_istore_n (lv' := [(2, .int x5), (0, .ref rd0), (1, .int i1)]) hx hb dX1_kindAt_20 rfl hl (by decide) rfl (fun ls hl => ?_)
    refine lv_iload_n hx hb dX1_kindAt_21 rfl (lv_at hl 0 rfl) ?_
    refine lv_bipush (v := (48 : Int32)) hx hb dX1_kindAt_22 (by decide) ?_
    obtain ⟨t6, hD7, hf⟩ := ob1_s hf
    have kTt6 : t6 = true → ∀ (H : Heap) (locs : List Loc), Bd (dC, dI) [(cyI, .int), (cyB, .byte)] (va_A (cR cyI cyB rd0 tx bd β τ ρ) s.heap.size) s (cR cyI cyB rd0 tx bd β τ ρ) H locs → W p l e (headSpec wsX1_kindAt rmX1_kindAt).room s m ([.ref rd0, .int i1] : List Value).toArray below meth c H locs 0 0 (MQ below (QiF (dC, dI) [(cyI, .int), (cyB, .byte)] (cR cyI cyB rd0 tx bd β τ ρ) (cR cyI cyB rd0 tx bd β τ ρ) s.heap.size r) ([.ref rd0, .int i1] : List Value).toArray s 0 0 (va_A (cR cyI cyB rd0 tx bd β τ ρ) s.heap.size)) (F0 m 33 ls []) := by
      intro ht H locs hB
      have hf := cnd_t ht hf
      refine lv_iconst (v := (1 : Int32)) hx hb dX1_kindAt_33 (by decide) ?_
      have e0 := inj1 hf
      subst e0
      exact g_iret hx hb hr hlocks hK hB dX1_kindAt_34
    have kFt6 : t6 = false → ∀ (H : Heap) (locs : List Loc), Bd (dC, dI) [(cyI, .int), (cyB, .byte)] (va_A (cR cyI cyB rd0 tx bd β τ ρ) s.heap.size) s (cR cyI cyB rd0 tx bd β τ ρ) H locs → W p l e (headSpec wsX1_kindAt rmX1_kindAt).room s m ([.ref rd0, .int i1] : List Value).toArray below meth c H locs 0 0 (MQ below (QiF (dC, dI) [(cyI, .int), (cyB, .byte)] (cR cyI cyB rd0 tx bd β τ ρ) (cR cyI cyB rd0 tx bd β τ ρ) s.heap.size r) ([.ref rd0, .int i1] : List Value).toArray s 0 0 (va_A (cR cyI cyB rd0 tx bd β τ ρ) s.heap.size)) (F0 m 35 ls []) := by
      intro ht H locs hB
      have hf := cnd_f ht hf
      refine lv_iload_n hx hb dX1_kindAt_35 rfl (lv_at hl 0 rfl) ?_
      refine lv_bipush (v := (97 : Int32)) hx hb dX1_kindAt_36 (by decide) ?_
      obtain ⟨t10, hD11, hf⟩ := ob1_s hf
      have kTt10 : t10 = true → ∀ (H : Heap) (locs : List Loc), Bd (dC, dI) [(cyI, .int), (cyB, .byte)] (va_A (cR cyI cyB rd0 tx bd β τ ρ) s.heap.size) s (cR cyI cyB rd0 tx bd β τ ρ) H locs → W p l e (headSpec wsX1_kindAt rmX1_kindAt).room s m ([.ref rd0, .int i1] : List Value).toArray below meth c H locs 0 0 (MQ below (QiF (dC, dI) [(cyI, .int), (cyB, .byte)] (cR cyI cyB rd0 tx bd β τ ρ) (cR cyI cyB rd0 tx bd β τ ρ) s.heap.size r) ([.ref rd0, .int i1] : List Value).toArray s 0 0 (va_A (cR cyI cyB rd0 tx bd β τ ρ) s.heap.size)) (F0 m 47 ls []) := by
        intro ht H locs hB
        have hf := cnd_t ht hf
        refine lv_iconst (v := (2 : Int32)) hx hb dX1_kindAt_47 (by decide) ?_
        have e0 := inj1 hf
        subst e0
        exact g_iret hx hb hr hlocks hK hB dX1_kindAt_48
      have kFt10 : t10 = false → ∀ (H : Heap) (locs : List Loc), Bd (dC, dI) [(cyI, .int), (cyB, .byte)] (va_A (cR cyI cyB rd0 tx bd β τ ρ) s.heap.size) s (cR cyI cyB rd0 tx bd β τ ρ) H locs → W p l e (headSpec wsX1_kindAt rmX1_kindAt).room s m ([.ref rd0, .int i1] : List Value).toArray below meth c H locs 0 0 (MQ below (QiF (dC, dI) [(cyI, .int), (cyB, .byte)] (cR cyI cyB rd0 tx bd β τ ρ) (cR cyI cyB rd0 tx bd β τ ρ) s.heap.size r) ([.ref rd0, .int i1] : List Value).toArray s 0 0 (va_A (cR cyI cyB rd0 tx bd β τ ρ) s.heap.size)) (F0 m 49 ls []) := by
        intro ht H locs hB
        have hf := cnd_f ht hf
        refine lv_iload_n hx hb dX1_kindAt_49 rfl (lv_at hl 0 rfl) ?_
        refine lv_bipush (v := (59 : Int32)) hx hb dX1_kindAt_50 (by decide) ?_
        obtain ⟨t14, hD15, hf⟩ := ob1_s hf
        have kTt14 : t14 = true → ∀ (H : Heap) (locs : List Loc), Bd (dC, dI) [(cyI, .int), (cyB, .byte)] (va_A (cR cyI cyB rd0 tx bd β τ ρ) s.heap.size) s (cR cyI cyB rd0 tx bd β τ ρ) H locs → W p l e (headSpec wsX1_kindAt rmX1_kindAt).room s m ([.ref rd0, .int i1] : List Value).toArray below meth c H locs 0 0 (MQ below (QiF (dC, dI) [(cyI, .int), (cyB, .byte)] (cR cyI cyB rd0 tx bd β τ ρ) (cR cyI cyB rd0 tx bd β τ ρ) s.heap.size r) ([.ref rd0, .int i1] : List Value).toArray s 0 0 (va_A (cR cyI cyB rd0 tx bd β τ ρ) s.heap.size)) (F0 m 67 ls []) := by
          intro ht H locs hB
          have hf := cnd_t ht hf
          refine lv_iconst (v := (3 : Int32)) hx hb dX1_kindAt_67 (by decide) ?_
          have e0 := inj1 hf
          subst e0
          exact g_iret hx hb hr hlocks hK hB dX1_kindAt_68
        have kFt14 : t14 = false → ∀ (H : Heap) (locs : List Loc), Bd (dC, dI) [(cyI, .int), (cyB, .byte)] (va_A (cR cyI cyB rd0 tx bd β τ ρ) s.heap.size) s (cR cyI cyB rd0 tx bd β τ ρ) H locs → W p l e (headSpec wsX1_kindAt rmX1_kindAt).room s m ([.ref rd0, .int i1] : List Value).toArray below meth c H locs 0 0 (MQ below (QiF (dC, dI) [(cyI, .int), (cyB, .byte)] (cR cyI cyB rd0 tx bd β τ ρ) (cR cyI cyB rd0 tx bd β τ ρ) s.heap.size r) ([.ref rd0, .int i1] : List Value).toArray s 0 0 (va_A (cR cyI cyB rd0 tx bd β τ ρ) s.heap.size)) (F0 m 69 ls []) := by
          intro ht H locs hB
          have hf := cnd_f ht hf
          refine lv_iload_n hx hb dX1_kindAt_69 rfl (lv_at hl 0 rfl) ?_
          refine lv_bipush (v := (32 : Int32)) hx hb dX1_kindAt_70 (by decide) ?_
          obtain ⟨v19, hJ20, hf⟩ := ob1_s hf
          have kJ21 : ∀ (H : Heap) (locs : List Loc) (ls : Array Slot), Bd (dC, dI) [(cyI, .int), (cyB, .byte)] (va_A (cR cyI cyB rd0 tx bd β τ ρ) s.heap.size) s (cR cyI cyB rd0 tx bd β τ ρ) H locs → lv_has ls 3 [] → W p l e (headSpec wsX1_kindAt rmX1_kindAt).room s m ([.ref rd0, .int i1] : List Value).toArray below meth c H locs 0 0 (MQ below (QiF (dC, dI) [(cyI, .int), (cyB, .byte)] (cR cyI cyB rd0 tx bd β τ ρ) (cR cyI cyB rd0 tx bd β τ ρ) s.heap.size r) ([.ref rd0, .int i1] : List Value).toArray s 0 0 (va_A (cR cyI cyB rd0 tx bd β τ ρ) s.heap.size)) (F0 m 80 ls [.int v19]) := by
            intro H locs ls hB hl
            have e0 := inj1 hf
            subst e0
            exact g_iret hx hb hr hlocks hK hB dX1_kindAt_80
          refine lv_icmp_ne (tgt := 79) hx hb dX1_kindAt_72 (by decide) (fun c22 => ?_) (fun c22 => ?_)
          · have hJ20 := ite_f c22 hJ20
            refine lv_iconst (v := (5 : Int32)) hx hb dX1_kindAt_79 (by decide) ?_
            have e0 := inj1 hJ20
            subst e0
            exact kJ21 _ _ _ hB (lv_sub hl [] rfl)
          · have hJ20 := ite_t c22 hJ20
            refine lv_iconst (v := (4 : Int32)) hx hb dX1_kindAt_75 (by decide) ?_
            refine lv_goto (tgt := 80) hx hb dX1_kindAt_76 (by decide) ?_
            have e0 := inj1 hJ20
            subst e0
            exact kJ21 _ _ _ hB (lv_sub hl [] rfl)
        refine lv_icmp_eq (tgt := 67) hx hb dX1_kindAt_52 (by decide) (fun c16 => ?_) (fun c16 => ?_)
        · have hD15 := ite_t c16 hD15
          have e0 := inj1 hD15
          exact kTt14 e0.symm _ _ hB
        · have hD15 := ite_f c16 hD15
          refine lv_iload_n hx hb dX1_kindAt_55 rfl (lv_at hl 0 rfl) ?_
          refine lv_bipush (v := (42 : Int32)) hx hb dX1_kindAt_56 (by decide) ?_
          refine lv_icmp_eq (tgt := 67) hx hb dX1_kindAt_58 (by decide) (fun c17 => ?_) (fun c17 => ?_)
          · have hD15 := ite_t c17 hD15
            have e0 := inj1 hD15
            exact kTt14 e0.symm _ _ hB
          · have hD15 := ite_f c17 hD15
            refine lv_iload_n hx hb dX1_kindAt_61 rfl (lv_at hl 0 rfl) ?_
            refine lv_bipush (v := (58 : Int32)) hx hb dX1_kindAt_62 (by decide) ?_
            refine lv_icmp_ne (tgt := 69) hx hb dX1_kindAt_64 (by decide) (fun c18 => ?_) (fun c18 => ?_)
            · have hD15 := ite_f c18 hD15
              have e0 := inj1 hD15
              exact kFt14 e0.symm _ _ hB
            · have hD15 := ite_t c18 hD15
              have e0 := inj1 hD15
              exact kTt14 e0.symm _ _ hB
      refine lv_icmp_lt (tgt := 49) hx hb dX1_kindAt_38 (by decide) (fun c12 => ?_) (fun c12 => ?_)
      · have hD11 := ite_t c12 hD11
        have e0 := inj1 hD11
        exact kFt10 e0.symm _ _ hB
      · have hD11 := ite_f c12 hD11
        refine lv_iload_n hx hb dX1_kindAt_41 rfl (lv_at hl 0 rfl) ?_
        refine lv_bipush (v := (122 : Int32)) hx hb dX1_kindAt_42 (by decide) ?_
        refine lv_icmp_gt (tgt := 49) hx hb dX1_kindAt_44 (by decide) (fun c13 => ?_) (fun c13 => ?_)
        · have hD11 := ite_t c13 hD11
          have e0 := inj1 hD11
          exact kFt10 e0.symm _ _ hB
        · have hD11 := ite_f c13 hD11
          have e0 := inj1 hD11
          exact kTt10 e0.symm _ _ hB
    refine lv_icmp_lt (tgt := 35) hx hb dX1_kindAt_24 (by decide) (fun c8 => ?_) (fun c8 => ?_)
    · have hD7 := ite_t c8 hD7
      have e0 := inj1 hD7
      exact kFt6 e0.symm _ _ hB
    · have hD7 := ite_f c8 hD7
      refine lv_iload_n hx hb dX1_kindAt_27 rfl (lv_at hl 0 rfl) ?_
      refine lv_bipush (v := (57 : Int32)) hx hb dX1_kindAt_28 (by decide) ?_
      refine lv_icmp_gt (tgt := 35) hx hb dX1_kindAt_30 (by decide) (fun c9 => ?_) (fun c9 => ?_)
      · have hD7 := ite_t c9 hD7
        have e0 := inj1 hD7
        exact kFt6 e0.symm _ _ hB
      · have hD7 := ite_f c9 hD7
        have e0 := inj1 hD7
        exact kTt6 e0.symm _ _ hB
  refine lv_if_lt (tgt := 12) hx hb dX1_kindAt_1 (by decide) (fun c3 => ?_) (fun c3 => ?_)
  · have hD2 := ite_t c3 hD2
    have e0 := inj1 hD2
    exact kTt1 e0.symm _ _ hB
  · have hD2 := ite_f c3 hD2
    refine lv_iload_n hx hb dX1_kindAt_4 rfl (lv_at hl 1 rfl) ?_
    refine lv_aload_n hx hb dX1_kindAt_5 rfl (lv_at hl 0 rfl) ?_
    refine g_get (C := RX1) (T := TX1) (N := 11) hx hb hts hinX1 hown hK hB 0 rfl rfl 4 rfl hq1 rfl rfl dX1_kindAt_6 ?_
    refine lv_icmp_lt (tgt := 14) hx hb dX1_kindAt_9 (by decide) (fun c4 => ?_) (fun c4 => ?_)
    · have hD2 := ite_t c4 hD2
      have e0 := inj1 hD2
      exact kFt1 e0.symm _ _ hB
    · have hD2 := ite_f c4 hD2
      have e0 := inj1 hD2
      exact kTt1 e0.symm _ _ hB

abbrev rmX1_nextToken : Room := { frames := 1, cells := 0, slots := 0, locals := 22 }

set_option maxHeartbeats 4000000 in
set_option maxRecDepth 100000 in
theorem kX1_nextToken (l : Launch) (dC : Nat → ClassId) (dI : Nat → Nat → Nat) (cyI cyB : ClassId) (rd0 tx : Nat) (bd : Nat → Nat) (sz : Nat) {fu : Nat} {β : FS} {τ : MS} {ρ : MS} {ρ_ : MS} (hf : mX1_nextToken fu β τ ρ = some ρ_) : Met l yX1_nextToken wsX1_nextToken rmX1_nextToken (PcF (dC, dI) [(cyI, .int), (cyB, .byte)] (cR cyI cyB rd0 tx bd β τ ρ) sz [.ref rd0]) (QvF (dC, dI) [(cyI, .int), (cyB, .byte)] (cR cyI cyB rd0 tx bd β τ ρ) (cR cyI cyB rd0 tx bd β τ ρ_) sz) 0 0 (va_A (cR cyI cyB rd0 tx bd β τ ρ) sz) := by
  refine Met.ofW (cc := cX1_nextToken) (maxL := 1) (ret := none) (by decide) rfl ?_
  intro p e s m args below meth c s₁ B hml hv
  obtain ⟨rfl, hsz, hP, hK, hD0⟩ := hv
  have hx := B.exec
  have hb := B.bytes
  have hr := B.returns
  have hts := atoms_spec (ws := wsX1_nextToken) B.pre
  have hown : s.vm.findClass RX1 = some m.cls := findClass_of_methodNamed B.named
  have hlocks := B.notSynchronized
  subst hsz
  have hA : ∀ q : Nat, s.heap.size ≤ q → va_A (cR cyI cyB rd0 tx bd β τ ρ) s.heap.size q := fun q h => Or.inr h
  have hB : Bd (dC, dI) [(cyI, .int), (cyB, .byte)] (va_A (cR cyI cyB rd0 tx bd β τ ρ) s.heap.size) s (cR cyI cyB rd0 tx bd β τ ρ) s.heap [] := ⟨hP, hD0.self, va_S.rf⟩
  have hq1 : (Cond.fieldLink RX1 38 "UndoJourneys$SetupReader" "tokenEnd" "I").before _ s = true := hts _ (List.mem_of_getElem? (i := 1) rfl)
  have hq2 : (Cond.fieldLink RX1 35 "UndoJourneys$SetupReader" "tokenStart" "I").before _ s = true := hts _ (List.mem_of_getElem? (i := 2) rfl)
  have hq3 : (Cond.fieldLink RX1 57 "UndoJourneys$SetupReader" "length" "I").before _ s = true := hts _ (List.mem_of_getElem? (i := 3) rfl)
  have hq4 : (Cond.fieldLink RX1 32 "UndoJourneys$SetupReader" "kind" "I").before _ s = true := hts _ (List.mem_of_getElem? (i := 4) rfl)
  have hq5 : (Cond.fieldLink RX1 41 "UndoJourneys$SetupReader" "number" "I").before _ s = true := hts _ (List.mem_of_getElem? (i := 5) rfl)
  have hq6 : (Cond.constant RX1 153 (1000000)).before _ s = true := hts _ (List.mem_of_getElem? (i := 6) rfl)
  have hq7 : (Cond.fieldLink RX1 44 "UndoJourneys$SetupReader" "text" "[B").before _ s = true := hts _ (List.mem_of_getElem? (i := 7) rfl)
  have hq8 : (Cond.methodLink RX1 48 Lib.Math.min.name).before _ s = true := hts _ (List.mem_of_getElem? (i := 8) rfl)
  have hq9 : (Cond.static Lib.Math.min.name).before _ s = true := hts _ (List.mem_of_getElem? (i := 9) rfl)
  have hq10 : (Cond.initialized "java/lang/Math").before _ s = true := hts _ (List.mem_of_getElem? (i := 10) rfl)
  have hq11 : (Cond.code Lib.Math.min.name Lib.Math.min.code 2 (some .int)).before _ s = true := hts _ (List.mem_of_getElem? (i := 11) rfl)
  have hinX1 : ∀ w ∈ wsX10, w ∈ wsX1_nextToken := fun w h => List.mem_cons_of_mem _ (List.mem_append_right _ h)
  have hl := lv_entry [.ref rd0] (n := 1) (Nat.le_of_ble_eq_true rfl)
  rw [lg_entry_eq]
  generalize (lg_sl [.ref rd0] ++ List.replicate (1 - (lg_sl [.ref rd0]).length) Slot.unset).toArray = ls at hl ⊢
  have hl : lv_has ls 1 [(0, .ref rd0)] := hl
  clear hP hD0
  suffices main : ∀ (H : Heap) (locs : List Loc), Bd (dC, dI) [(cyI, .int), (cyB, .byte)] (va_A (cR cyI cyB rd0 tx bd β τ ρ) s.heap.size) s (cR cyI cyB rd0 tx bd β τ ρ) H locs → W p l e (headSpec wsX1_nextToken rmX1_nextToken).room s m ([.ref rd0] : List Value).toArray below meth c H locs 0 0 (MQ below (QvF (dC, dI) [(cyI, .int), (cyB, .byte)] (cR cyI cyB rd0 tx bd β τ ρ) (cR cyI cyB rd0 tx bd β τ ρ_) s.heap.size) ([.ref rd0] : List Value).toArray s 0 0 (va_A (cR cyI cyB rd0 tx bd β τ ρ) s.heap.size)) (F0 m 0 ls []) from main _ _ hB
  clear hB
  intro H locs hB
  unfold mX1_nextToken at hf
  refine lv_aload_n hx hb dX1_nextToken_0 rfl (lv_at hl 0 rfl) ?_
  refine lv_aload_n hx hb dX1_nextToken_1 rfl (lv_at hl 0 rfl) ?_
  refine g_get (C := RX1) (T := TX1) (N := 11) hx hb hts hinX1 hown hK hB 0 rfl rfl 9 rfl hq1 rfl rfl dX1_nextToken_2 ?_
  obtain ⟨ρ1, e9, hf⟩ := ob1_s hf
  have e9 := inj1 e9
  refine g_put (C := RX1) (T := TX1) (N := 11) hx hb hts hinX1 tyX1 tyX1_ok nmX1 hown hK hB 0 rfl rfl 8 rfl hq2 rfl rfl rfl rfl rfl rfl dX1_nextToken_5 (w2 := (cR cyI cyB rd0 tx bd β τ ρ1)) (by rw [← e9]; rfl) (fun H locs hB => ?_)
  obtain ⟨ρ11, hL14, hf⟩ := ob1_s hf
  have kE12 : ∀ (H : Heap) (locs : List Loc) (ls : Array Slot), Bd (dC, dI) [(cyI, .int), (cyB, .byte)] (va_A (cR cyI cyB rd0 tx bd β τ ρ) s.heap.size) s (cR cyI cyB rd0 tx bd β τ ρ11) H locs → lv_has ls 1 [(0, .ref rd0)] → W p l e (headSpec wsX1_nextToken rmX1_nextToken).room s m ([.ref rd0] : List Value).toArray below meth c H locs 0 0 (MQ below (QvF (dC, dI) [(cyI, .int), (cyB, .byte)] (cR cyI cyB rd0 tx bd β τ ρ) (cR cyI cyB rd0 tx bd β τ ρ_) s.heap.size) ([.ref rd0] : List Value).toArray s 0 0 (va_A (cR cyI cyB rd0 tx bd β τ ρ) s.heap.size)) (F0 m 44 ls []) := by
    intro H locs ls hB hl
    refine lv_aload_n hx hb dX1_nextToken_44 rfl (lv_at hl 0 rfl) ?_
    refine lv_aload_n hx hb dX1_nextToken_45 rfl (lv_at hl 0 rfl) ?_
    refine lv_aload_n hx hb dX1_nextToken_46 rfl (lv_at hl 0 rfl) ?_
    refine g_get (C := RX1) (T := TX1) (N := 11) hx hb hts hinX1 hown hK hB 0 rfl rfl 8 rfl hq2 rfl rfl dX1_nextToken_47 ?_
    obtain ⟨r16, hc, hf⟩ := ob1_s hf
    refine g_callVi (As := [.int (ρ11 8 0)]) (rest := [.ref rd0]) ⟨hx, hb, hml, hown, hts⟩ (kX1_kindAt l dC dI cyI cyB rd0 tx bd H.size hc) (cwV 1 hts gX1_nextToken_X1_kindAt rfl rfl rfl (by decide +kernel) ⟨Nat.le_of_ble_eq_true rfl, Nat.le_of_ble_eq_true rfl⟩) hK hB hA (g_recv (ci := 1) hK hB 0 rfl rfl rfl) rfl hl.1 rfl (Nat.le_of_ble_eq_true rfl) dX1_nextToken_50 ⟨Nat.zero_le _, Nat.zero_le _⟩ (fun H locs hB => ?_)
    obtain ⟨ρ17, e9, hf⟩ := ob1_s hf
    have e9 := inj1 e9
    refine g_put (C := RX1) (T := TX1) (N := 11) hx hb hts hinX1 tyX1 tyX1_ok nmX1 hown hK hB 0 rfl rfl 7 rfl hq4 rfl rfl rfl rfl rfl rfl dX1_nextToken_53 (w2 := (cR cyI cyB rd0 tx bd β τ ρ17)) (by rw [← e9]; rfl) (fun H locs hB => ?_)
    refine lv_aload_n hx hb dX1_nextToken_56 rfl (lv_at hl 0 rfl) ?_
    refine lv_iconst (v := (0 : Int32)) hx hb dX1_nextToken_57 (by decide) ?_
    obtain ⟨ρ18, e9, hf⟩ := ob1_s hf
    have e9 := inj1 e9
    refine g_put (C := RX1) (T := TX1) (N := 11) hx hb hts hinX1 tyX1 tyX1_ok nmX1 hown hK hB 0 rfl rfl 10 rfl hq5 rfl rfl rfl rfl rfl rfl dX1_nextToken_58 (w2 := (cR cyI cyB rd0 tx bd β τ ρ18)) (by rw [← e9]; rfl) (fun H locs hB => ?_)
    refine lv_aload_n hx hb dX1_nextToken_61 rfl (lv_at hl 0 rfl) ?_
    refine lv_aload_n hx hb dX1_nextToken_62 rfl (lv_at hl 0 rfl) ?_
    refine g_get (C := RX1) (T := TX1) (N := 11) hx hb hts hinX1 hown hK hB 0 rfl rfl 8 rfl hq2 rfl rfl dX1_nextToken_63 ?_
    obtain ⟨ρ19, e9, hf⟩ := ob1_s hf
    have e9 := inj1 e9
    refine g_put (C := RX1) (T := TX1) (N := 11) hx hb hts hinX1 tyX1 tyX1_ok nmX1 hown hK hB 0 rfl rfl 9 rfl hq1 rfl rfl rfl rfl rfl rfl dX1_nextToken_66 (w2 := (cR cyI cyB rd0 tx bd β τ ρ19)) (by rw [← e9]; rfl) (fun H locs hB => ?_)
    refine lv_aload_n hx hb dX1_nextToken_69 rfl (lv_at hl 0 rfl) ?_
    refine g_get (C := RX1) (T := TX1) (N := 11) hx hb hts hinX1 hown hK hB 0 rfl rfl 7 rfl hq4 rfl rfl dX1_nextToken_70 ?_
    refine lv_iconst (v := (3 : Int32)) hx hb dX1_nextToken_73 (by decide) ?_
    obtain ⟨t20, hD21, hf⟩ := ob1_s hf
    have kTt20 : t20 = true → ∀ (H : Heap) (locs : List Loc), Bd (dC, dI) [(cyI, .int), (cyB, .byte)] (va_A (cR cyI cyB rd0 tx bd β τ ρ) s.heap.size) s (cR cyI cyB rd0 tx bd β τ ρ19) H locs → W p l e (headSpec wsX1_nextToken rmX1_nextToken).room s m ([.ref rd0] : List Value).toArray below meth c H locs 0 0 (MQ below (QvF (dC, dI) [(cyI, .int), (cyB, .byte)] (cR cyI cyB rd0 tx bd β τ ρ) (cR cyI cyB rd0 tx bd β τ ρ_) s.heap.size) ([.ref rd0] : List Value).toArray s 0 0 (va_A (cR cyI cyB rd0 tx bd β τ ρ) s.heap.size)) (F0 m 85 ls []) := by
      intro ht H locs hB
      have hf := cnd_t ht hf
      refine lv_aload_n hx hb dX1_nextToken_85 rfl (lv_at hl 0 rfl) ?_
      refine lv_dup hx hb dX1_nextToken_86 rfl ?_
      refine g_get (C := RX1) (T := TX1) (N := 11) hx hb hts hinX1 hown hK hB 0 rfl rfl 9 rfl hq1 rfl rfl dX1_nextToken_87 ?_
      refine lv_iconst (v := (1 : Int32)) hx hb dX1_nextToken_90 (by decide) ?_
      refine lv_iadd hx hb dX1_nextToken_91 ?_
      obtain ⟨ρ24, e9, hf⟩ := ob1_s hf
      have e9 := inj1 e9
      refine g_put (C := RX1) (T := TX1) (N := 11) hx hb hts hinX1 tyX1 tyX1_ok nmX1 hown hK hB 0 rfl rfl 9 rfl hq1 rfl rfl rfl rfl rfl rfl dX1_nextToken_92 (w2 := (cR cyI cyB rd0 tx bd β τ ρ24)) (by rw [← e9]; rfl) (fun H locs hB => ?_)
      have e0 := inj1 hf
      subst e0
      exact g_vret hx hb hr hlocks hK hB dX1_nextToken_95
    have kFt20 : t20 = false → ∀ (H : Heap) (locs : List Loc), Bd (dC, dI) [(cyI, .int), (cyB, .byte)] (va_A (cR cyI cyB rd0 tx bd β τ ρ) s.heap.size) s (cR cyI cyB rd0 tx bd β τ ρ19) H locs → W p l e (headSpec wsX1_nextToken rmX1_nextToken).room s m ([.ref rd0] : List Value).toArray below meth c H locs 0 0 (MQ below (QvF (dC, dI) [(cyI, .int), (cyB, .byte)] (cR cyI cyB rd0 tx bd β τ ρ) (cR cyI cyB rd0 tx bd β τ ρ_) s.heap.size) ([.ref rd0] : List Value).toArray s 0 0 (va_A (cR cyI cyB rd0 tx bd β τ ρ) s.heap.size)) (F0 m 96 ls []) := by
      intro ht H locs hB
      have hf := cnd_f ht hf
      obtain ⟨ρ40, hL43, hf⟩ := ob1_s hf
      have kE41 : ∀ (H : Heap) (locs : List Loc) (ls : Array Slot), Bd (dC, dI) [(cyI, .int), (cyB, .byte)] (va_A (cR cyI cyB rd0 tx bd β τ ρ) s.heap.size) s (cR cyI cyB rd0 tx bd β τ ρ40) H locs → lv_has ls 1 [] → W p l e (headSpec wsX1_nextToken rmX1_nextToken).room s m ([.ref rd0] : List Value).toArray below meth c H locs 0 0 (MQ below (QvF (dC, dI) [(cyI, .int), (cyB, .byte)] (cR cyI cyB rd0 tx bd β τ ρ) (cR cyI cyB rd0 tx bd β τ ρ_) s.heap.size) ([.ref rd0] : List Value).toArray s 0 0 (va_A (cR cyI cyB rd0 tx bd β τ ρ) s.heap.size)) (F0 m 172 ls []) := by
        intro H locs ls hB hl
        have e0 := inj1 hf
        subst e0
        exact g_vret hx hb hr hlocks hK hB dX1_nextToken_172
      have key42 : ∀ (n9 : Nat) (ρ46 : MS) (H : Heap) (locs : List Loc) (ls : Array Slot), loopM (fun st => mX1_nextToken_L96 fu β τ st) n9 ρ46 = some ρ40 → Bd (dC, dI) [(cyI, .int), (cyB, .byte)] (va_A (cR cyI cyB rd0 tx bd β τ ρ) s.heap.size) s (cR cyI cyB rd0 tx bd β τ ρ46) H locs → lv_has ls 1 [(0, .ref rd0)] → W p l e (headSpec wsX1_nextToken rmX1_nextToken).room s m ([.ref rd0] : List Value).toArray below meth c H locs 0 0 (MQ below (QvF (dC, dI) [(cyI, .int), (cyB, .byte)] (cR cyI cyB rd0 tx bd β τ ρ) (cR cyI cyB rd0 tx bd β τ ρ_) s.heap.size) ([.ref rd0] : List Value).toArray s 0 0 (va_A (cR cyI cyB rd0 tx bd β τ ρ) s.heap.size)) (F0 m 96 ls []) := by
        intro n9
        induction n9 with
        | zero => intro ρ46 H locs ls hL43; exact (loopM_z hL43).elim
        | succ n9 ih9 =>
          intro ρ46 H locs ls hL43 hB hl
          obtain ⟨o47, hg44, hL43⟩ := loopM_s hL43
          have hg44 : mX1_nextToken_L96 fu β τ ρ46 = some o47 := hg44
          unfold mX1_nextToken_L96 at hg44
          refine lv_aload_n hx hb dX1_nextToken_96 rfl (lv_at hl 0 rfl) ?_
          refine g_get (C := RX1) (T := TX1) (N := 11) hx hb hts hinX1 hown hK hB 0 rfl rfl 9 rfl hq1 rfl rfl dX1_nextToken_97 ?_
          refine lv_aload_n hx hb dX1_nextToken_100 rfl (lv_at hl 0 rfl) ?_
          refine g_get (C := RX1) (T := TX1) (N := 11) hx hb hts hinX1 hown hK hB 0 rfl rfl 4 rfl hq3 rfl rfl dX1_nextToken_101 ?_
          obtain ⟨t48, hD49, hg44⟩ := ob1_s hg44
          have kTt48 : t48 = true → ∀ (H : Heap) (locs : List Loc), Bd (dC, dI) [(cyI, .int), (cyB, .byte)] (va_A (cR cyI cyB rd0 tx bd β τ ρ) s.heap.size) s (cR cyI cyB rd0 tx bd β τ ρ46) H locs → W p l e (headSpec wsX1_nextToken rmX1_nextToken).room s m ([.ref rd0] : List Value).toArray below meth c H locs 0 0 (MQ below (QvF (dC, dI) [(cyI, .int), (cyB, .byte)] (cR cyI cyB rd0 tx bd β τ ρ) (cR cyI cyB rd0 tx bd β τ ρ_) s.heap.size) ([.ref rd0] : List Value).toArray s 0 0 (va_A (cR cyI cyB rd0 tx bd β τ ρ) s.heap.size)) (F0 m 122 ls []) := by
            intro ht H locs hB
            have hg44 := cnd_t ht hg44
            refine lv_aload_n hx hb dX1_nextToken_122 rfl (lv_at hl 0 rfl) ?_
            refine g_get (C := RX1) (T := TX1) (N := 11) hx hb hts hinX1 hown hK hB 0 rfl rfl 7 rfl hq4 rfl rfl dX1_nextToken_123 ?_
            refine lv_iconst (v := (1 : Int32)) hx hb dX1_nextToken_126 (by decide) ?_
            obtain ⟨ρ53, hJ54, hg44⟩ := ob1_s hg44
            have kJ55 : ∀ (H : Heap) (locs : List Loc) (ls : Array Slot), Bd (dC, dI) [(cyI, .int), (cyB, .byte)] (va_A (cR cyI cyB rd0 tx bd β τ ρ) s.heap.size) s (cR cyI cyB rd0 tx bd β τ ρ53) H locs → lv_has ls 1 [(0, .ref rd0)] → W p l e (headSpec wsX1_nextToken rmX1_nextToken).room s m ([.ref rd0] : List Value).toArray below meth c H locs 0 0 (MQ below (QvF (dC, dI) [(cyI, .int), (cyB, .byte)] (cR cyI cyB rd0 tx bd β τ ρ) (cR cyI cyB rd0 tx bd β τ ρ_) s.heap.size) ([.ref rd0] : List Value).toArray s 0 0 (va_A (cR cyI cyB rd0 tx bd β τ ρ) s.heap.size)) (F0 m 159 ls []) := by
              intro H locs ls hB hl
              refine lv_aload_n hx hb dX1_nextToken_159 rfl (lv_at hl 0 rfl) ?_
              refine lv_dup hx hb dX1_nextToken_160 rfl ?_
              refine g_get (C := RX1) (T := TX1) (N := 11) hx hb hts hinX1 hown hK hB 0 rfl rfl 9 rfl hq1 rfl rfl dX1_nextToken_161 ?_
              refine lv_iconst (v := (1 : Int32)) hx hb dX1_nextToken_164 (by decide) ?_
              refine lv_iadd hx hb dX1_nextToken_165 ?_
              obtain ⟨ρ59, e9, hg44⟩ := ob1_s hg44
              have e9 := inj1 e9
              refine g_put (C := RX1) (T := TX1) (N := 11) hx hb hts hinX1 tyX1 tyX1_ok nmX1 hown hK hB 0 rfl rfl 9 rfl hq1 rfl rfl rfl rfl rfl rfl dX1_nextToken_166 (w2 := (cR cyI cyB rd0 tx bd β τ ρ59)) (by rw [← e9]; rfl) (fun H locs hB => ?_)
              refine lv_goto (tgt := 96) hx hb dX1_nextToken_169 (by decide) ?_
              have hL43 := el1_r (inj1 hg44) hL43
              exact ih9 _ _ _ _ hL43 hB (lv_sub hl [0] rfl)
            refine lv_icmp_ne (tgt := 159) hx hb dX1_nextToken_127 (by decide) (fun c56 => ?_) (fun c56 => ?_)
            · have hJ54 := ite_f c56 hJ54
              have e0 := inj1 hJ54
              subst e0
              exact kJ55 _ _ _ hB (lv_sub hl [0] rfl)
            · have hJ54 := ite_t c56 hJ54
              refine lv_aload_n hx hb dX1_nextToken_130 rfl (lv_at hl 0 rfl) ?_
              refine lv_ldc (v := (1000000 : Int32)) hx hb hown hq6 dX1_nextToken_131 ?_
              refine lv_bipush (v := (10 : Int32)) hx hb dX1_nextToken_133 (by decide) ?_
              refine lv_aload_n hx hb dX1_nextToken_135 rfl (lv_at hl 0 rfl) ?_
              refine g_get (C := RX1) (T := TX1) (N := 11) hx hb hts hinX1 hown hK hB 0 rfl rfl 10 rfl hq5 rfl rfl dX1_nextToken_136 ?_
              refine lv_imul hx hb dX1_nextToken_139 ?_
              refine lv_aload_n hx hb dX1_nextToken_140 rfl (lv_at hl 0 rfl) ?_
              refine g_get (C := RX1) (T := TX1) (N := 11) hx hb hts hinX1 hown hK hB 0 rfl rfl 3 rfl hq7 rfl rfl dX1_nextToken_141 ?_
              refine lv_aload_n hx hb dX1_nextToken_144 rfl (lv_at hl 0 rfl) ?_
              refine g_get (C := RX1) (T := TX1) (N := 11) hx hb hts hinX1 hown hK hB 0 rfl rfl 9 rfl hq1 rfl rfl dX1_nextToken_145 ?_
              obtain ⟨x57, e9, hJ54⟩ := ob1_s hJ54
              refine g_bald hx hb hK hB 1 1 rfl rfl (rd_s e9) dX1_nextToken_148 ?_
              refine lv_iadd hx hb dX1_nextToken_149 ?_
              refine lv_bipush (v := (48 : Int32)) hx hb dX1_nextToken_150 (by decide) ?_
              refine lv_isub hx hb dX1_nextToken_152 ?_
              refine va_mmin hx hb (hml.trans hl.1.symm) hown hq8 hq9 hq10 hq11 (Nat.le_of_ble_eq_true rfl) (Nat.le_of_ble_eq_true rfl) (Nat.le_of_ble_eq_true rfl) (Nat.le_of_ble_eq_true rfl) dX1_nextToken_153 ?_
              obtain ⟨ρ58, e9, hJ54⟩ := ob1_s hJ54
              have e9 := inj1 e9
              refine g_put (C := RX1) (T := TX1) (N := 11) hx hb hts hinX1 tyX1 tyX1_ok nmX1 hown hK hB 0 rfl rfl 10 rfl hq5 rfl rfl rfl rfl rfl rfl dX1_nextToken_156 (w2 := (cR cyI cyB rd0 tx bd β τ ρ58)) (by rw [← e9]; rfl) (fun H locs hB => ?_)
              have e0 := inj1 hJ54
              subst e0
              exact kJ55 _ _ _ hB (lv_sub hl [0] rfl)
          have kFt48 : t48 = false → ∀ (H : Heap) (locs : List Loc), Bd (dC, dI) [(cyI, .int), (cyB, .byte)] (va_A (cR cyI cyB rd0 tx bd β τ ρ) s.heap.size) s (cR cyI cyB rd0 tx bd β τ ρ46) H locs → W p l e (headSpec wsX1_nextToken rmX1_nextToken).room s m ([.ref rd0] : List Value).toArray below meth c H locs 0 0 (MQ below (QvF (dC, dI) [(cyI, .int), (cyB, .byte)] (cR cyI cyB rd0 tx bd β τ ρ) (cR cyI cyB rd0 tx bd β τ ρ_) s.heap.size) ([.ref rd0] : List Value).toArray s 0 0 (va_A (cR cyI cyB rd0 tx bd β τ ρ) s.heap.size)) (F0 m 172 ls []) := by
            intro ht H locs hB
            have hg44 := cnd_f ht hg44
            have hL43 := el1_l (inj1 hg44) hL43
            have e0 := inj1 hL43
            subst e0
            exact kE41 _ _ _ hB (lv_sub hl [] rfl)
          refine lv_icmp_ge (tgt := 172) hx hb dX1_nextToken_104 (by decide) (fun c50 => ?_) (fun c50 => ?_)
          · have hD49 := ite_t c50 hD49
            have e0 := inj1 hD49
            exact kFt48 e0.symm _ _ hB
          · have hD49 := ite_f c50 hD49
            refine lv_aload_n hx hb dX1_nextToken_107 rfl (lv_at hl 0 rfl) ?_
            refine lv_aload_n hx hb dX1_nextToken_108 rfl (lv_at hl 0 rfl) ?_
            refine g_get (C := RX1) (T := TX1) (N := 11) hx hb hts hinX1 hown hK hB 0 rfl rfl 9 rfl hq1 rfl rfl dX1_nextToken_109 ?_
            obtain ⟨r51, hc, hD49⟩ := ob1_s hD49
            refine g_callVi (As := [.int (ρ46 9 0)]) (rest := []) ⟨hx, hb, hml, hown, hts⟩ (kX1_kindAt l dC dI cyI cyB rd0 tx bd H.size hc) (cwV 1 hts gX1_nextToken_X1_kindAt rfl rfl rfl (by decide +kernel) ⟨Nat.le_of_ble_eq_true rfl, Nat.le_of_ble_eq_true rfl⟩) hK hB hA (g_recv (ci := 1) hK hB 0 rfl rfl rfl) rfl hl.1 rfl (Nat.le_of_ble_eq_true rfl) dX1_nextToken_112 ⟨Nat.zero_le _, Nat.zero_le _⟩ (fun H locs hB => ?_)
            refine lv_aload_n hx hb dX1_nextToken_115 rfl (lv_at hl 0 rfl) ?_
            refine g_get (C := RX1) (T := TX1) (N := 11) hx hb hts hinX1 hown hK hB 0 rfl rfl 7 rfl hq4 rfl rfl dX1_nextToken_116 ?_
            refine lv_icmp_ne (tgt := 172) hx hb dX1_nextToken_119 (by decide) (fun c52 => ?_) (fun c52 => ?_)
            · have hD49 := ite_f c52 hD49
              have e0 := inj1 hD49
              exact kFt48 e0.symm _ _ hB
            · have hD49 := ite_t c52 hD49
              have e0 := inj1 hD49
              exact kTt48 e0.symm _ _ hB
      exact key42 fu _ _ _ _ hL43 hB (lv_sub hl [0] rfl)
    refine lv_icmp_eq (tgt := 85) hx hb dX1_nextToken_74 (by decide) (fun c22 => ?_) (fun c22 => ?_)
    · have hD21 := ite_t c22 hD21
      have e0 := inj1 hD21
      exact kTt20 e0.symm _ _ hB
    · have hD21 := ite_f c22 hD21
      refine lv_aload_n hx hb dX1_nextToken_77 rfl (lv_at hl 0 rfl) ?_
      refine g_get (C := RX1) (T := TX1) (N := 11) hx hb hts hinX1 hown hK hB 0 rfl rfl 7 rfl hq4 rfl rfl dX1_nextToken_78 ?_
      refine lv_iconst (v := (5 : Int32)) hx hb dX1_nextToken_81 (by decide) ?_
      refine lv_icmp_ne (tgt := 96) hx hb dX1_nextToken_82 (by decide) (fun c23 => ?_) (fun c23 => ?_)
      · have hD21 := ite_f c23 hD21
        have e0 := inj1 hD21
        exact kFt20 e0.symm _ _ hB
      · have hD21 := ite_t c23 hD21
        have e0 := inj1 hD21
        exact kTt20 e0.symm _ _ hB
  have key13 : ∀ (n9 : Nat) (ρ61 : MS) (H : Heap) (locs : List Loc) (ls : Array Slot), loopM (fun st => mX1_nextToken_L8 fu β τ st) n9 ρ61 = some ρ11 → Bd (dC, dI) [(cyI, .int), (cyB, .byte)] (va_A (cR cyI cyB rd0 tx bd β τ ρ) s.heap.size) s (cR cyI cyB rd0 tx bd β τ ρ61) H locs → lv_has ls 1 [(0, .ref rd0)] → W p l e (headSpec wsX1_nextToken rmX1_nextToken).room s m ([.ref rd0] : List Value).toArray below meth c H locs 0 0 (MQ below (QvF (dC, dI) [(cyI, .int), (cyB, .byte)] (cR cyI cyB rd0 tx bd β τ ρ) (cR cyI cyB rd0 tx bd β τ ρ_) s.heap.size) ([.ref rd0] : List Value).toArray s 0 0 (va_A (cR cyI cyB rd0 tx bd β τ ρ) s.heap.size)) (F0 m 8 ls []) := by
    intro n9
    induction n9 with
    | zero => intro ρ61 H locs ls hL14; exact (loopM_z hL14).elim
    | succ n9 ih9 =>
      intro ρ61 H locs ls hL14 hB hl
      obtain ⟨o62, hg15, hL14⟩ := loopM_s hL14
      have hg15 : mX1_nextToken_L8 fu β τ ρ61 = some o62 := hg15
      unfold mX1_nextToken_L8 at hg15
      refine lv_aload_n hx hb dX1_nextToken_8 rfl (lv_at hl 0 rfl) ?_
      refine g_get (C := RX1) (T := TX1) (N := 11) hx hb hts hinX1 hown hK hB 0 rfl rfl 8 rfl hq2 rfl rfl dX1_nextToken_9 ?_
      refine lv_aload_n hx hb dX1_nextToken_12 rfl (lv_at hl 0 rfl) ?_
      refine g_get (C := RX1) (T := TX1) (N := 11) hx hb hts hinX1 hown hK hB 0 rfl rfl 4 rfl hq3 rfl rfl dX1_nextToken_13 ?_
      obtain ⟨t63, hD64, hg15⟩ := ob1_s hg15
      have kTt63 : t63 = true → ∀ (H : Heap) (locs : List Loc), Bd (dC, dI) [(cyI, .int), (cyB, .byte)] (va_A (cR cyI cyB rd0 tx bd β τ ρ) s.heap.size) s (cR cyI cyB rd0 tx bd β τ ρ61) H locs → W p l e (headSpec wsX1_nextToken rmX1_nextToken).room s m ([.ref rd0] : List Value).toArray below meth c H locs 0 0 (MQ below (QvF (dC, dI) [(cyI, .int), (cyB, .byte)] (cR cyI cyB rd0 tx bd β τ ρ) (cR cyI cyB rd0 tx bd β τ ρ_) s.heap.size) ([.ref rd0] : List Value).toArray s 0 0 (va_A (cR cyI cyB rd0 tx bd β τ ρ) s.heap.size)) (F0 m 31 ls []) := by
        intro ht H locs hB
        have hg15 := cnd_t ht hg15
        refine lv_aload_n hx hb dX1_nextToken_31 rfl (lv_at hl 0 rfl) ?_
        refine lv_dup hx hb dX1_nextToken_32 rfl ?_
        refine g_get (C := RX1) (T := TX1) (N := 11) hx hb hts hinX1 hown hK hB 0 rfl rfl 8 rfl hq2 rfl rfl dX1_nextToken_33 ?_
        refine lv_iconst (v := (1 : Int32)) hx hb dX1_nextToken_36 (by decide) ?_
        refine lv_iadd hx hb dX1_nextToken_37 ?_
        obtain ⟨ρ68, e9, hg15⟩ := ob1_s hg15
        have e9 := inj1 e9
        refine g_put (C := RX1) (T := TX1) (N := 11) hx hb hts hinX1 tyX1 tyX1_ok nmX1 hown hK hB 0 rfl rfl 8 rfl hq2 rfl rfl rfl rfl rfl rfl dX1_nextToken_38 (w2 := (cR cyI cyB rd0 tx bd β τ ρ68)) (by rw [← e9]; rfl) (fun H locs hB => ?_)
        refine lv_goto (tgt := 8) hx hb dX1_nextToken_41 (by decide) ?_
        have hL14 := el1_r (inj1 hg15) hL14
        exact ih9 _ _ _ _ hL14 hB (lv_sub hl [0] rfl)
      have kFt63 : t63 = false → ∀ (H : Heap) (locs : List Loc), Bd (dC, dI) [(cyI, .int), (cyB, .byte)] (va_A (cR cyI cyB rd0 tx bd β τ ρ) s.heap.size) s (cR cyI cyB rd0 tx bd β τ ρ61) H locs → W p l e (headSpec wsX1_nextToken rmX1_nextToken).room s m ([.ref rd0] : List Value).toArray below meth c H locs 0 0 (MQ below (QvF (dC, dI) [(cyI, .int), (cyB, .byte)] (cR cyI cyB rd0 tx bd β τ ρ) (cR cyI cyB rd0 tx bd β τ ρ_) s.heap.size) ([.ref rd0] : List Value).toArray s 0 0 (va_A (cR cyI cyB rd0 tx bd β τ ρ) s.heap.size)) (F0 m 44 ls []) := by
        intro ht H locs hB
        have hg15 := cnd_f ht hg15
        have hL14 := el1_l (inj1 hg15) hL14
        have e0 := inj1 hL14
        subst e0
        exact kE12 _ _ _ hB (lv_sub hl [0] rfl)
      refine lv_icmp_ge (tgt := 44) hx hb dX1_nextToken_16 (by decide) (fun c65 => ?_) (fun c65 => ?_)
      · have hD64 := ite_t c65 hD64
        have e0 := inj1 hD64
        exact kFt63 e0.symm _ _ hB
      · have hD64 := ite_f c65 hD64
        refine lv_aload_n hx hb dX1_nextToken_19 rfl (lv_at hl 0 rfl) ?_
        refine lv_aload_n hx hb dX1_nextToken_20 rfl (lv_at hl 0 rfl) ?_
        refine g_get (C := RX1) (T := TX1) (N := 11) hx hb hts hinX1 hown hK hB 0 rfl rfl 8 rfl hq2 rfl rfl dX1_nextToken_21 ?_
        obtain ⟨r66, hc, hD64⟩ := ob1_s hD64
        refine g_callVi (As := [.int (ρ61 8 0)]) (rest := []) ⟨hx, hb, hml, hown, hts⟩ (kX1_kindAt l dC dI cyI cyB rd0 tx bd H.size hc) (cwV 1 hts gX1_nextToken_X1_kindAt rfl rfl rfl (by decide +kernel) ⟨Nat.le_of_ble_eq_true rfl, Nat.le_of_ble_eq_true rfl⟩) hK hB hA (g_recv (ci := 1) hK hB 0 rfl rfl rfl) rfl hl.1 rfl (Nat.le_of_ble_eq_true rfl) dX1_nextToken_24 ⟨Nat.zero_le _, Nat.zero_le _⟩ (fun H locs hB => ?_)
        refine lv_iconst (v := (4 : Int32)) hx hb dX1_nextToken_27 (by decide) ?_
        refine lv_icmp_ne (tgt := 44) hx hb dX1_nextToken_28 (by decide) (fun c67 => ?_) (fun c67 => ?_)
        · have hD64 := ite_f c67 hD64
          have e0 := inj1 hD64
          exact kFt63 e0.symm _ _ hB
        · have hD64 := ite_t c67 hD64
          have e0 := inj1 hD64
          exact kTt63 e0.symm _ _ hB
  exact key13 fu _ _ _ _ hL14 hB (lv_sub hl [0] rfl)

abbrev rmX1_wordIs : Room := { frames := 4, cells := 0, slots := 0, locals := 85 }

set_option maxHeartbeats 4000000 in
set_option maxRecDepth 100000 in
theorem kX1_wordIs (l : Launch) (dC : Nat → ClassId) (dI : Nat → Nat → Nat) (cyI cyB : ClassId) (rd0 tx : Nat) (bd : Nat → Nat) (kS : Nat → Nat) (sz : Nat) {fu : Nat} {β : FS} {τ : MS} {ρ : MS} {w1 : Nat} {r : Int32} (hw1 : w1 < 23) (hf : mX1_wordIs fu β τ ρ w1 = some r) : Met l yX1_wordIs wsX1_wordIs rmX1_wordIs (PcJ (dC, dI) [(cyI, .int), (cyB, .byte)] kS (cR cyI cyB rd0 tx bd β τ ρ) sz [.ref rd0, .ref (kS w1)]) (QzF (dC, dI) [(cyI, .int), (cyB, .byte)] (cR cyI cyB rd0 tx bd β τ ρ) (cR cyI cyB rd0 tx bd β τ ρ) sz r) 0 0 (va_A (cR cyI cyB rd0 tx bd β τ ρ) sz) := by
  refine Met.ofW (cc := cX1_wordIs) (maxL := 3) (ret := (some .boolean)) (by decide) rfl ?_
  intro p e s m args below meth c s₁ B hml hv
  obtain ⟨rfl, ⟨hsz, hP, hK, hD0⟩, hJ⟩ := hv
  have hx := B.exec
  have hb := B.bytes
  have hr := B.returns
  have hts := atoms_spec (ws := wsX1_wordIs) B.pre
  have hown : s.vm.findClass RX1 = some m.cls := findClass_of_methodNamed B.named
  have hlocks := B.notSynchronized
  subst hsz
  have hA : ∀ q : Nat, s.heap.size ≤ q → va_A (cR cyI cyB rd0 tx bd β τ ρ) s.heap.size q := fun q h => Or.inr h
  have hB : Bd (dC, dI) [(cyI, .int), (cyB, .byte)] (va_A (cR cyI cyB rd0 tx bd β τ ρ) s.heap.size) s (cR cyI cyB rd0 tx bd β τ ρ) s.heap [] := ⟨hP, hD0.self, va_S.rf⟩
  have hq1 : (Cond.fieldLink RX1 32 "UndoJourneys$SetupReader" "kind" "I").before _ s = true := hts _ (List.mem_of_getElem? (i := 1) rfl)
  have hq2 : (Cond.fieldLink RX1 38 "UndoJourneys$SetupReader" "tokenEnd" "I").before _ s = true := hts _ (List.mem_of_getElem? (i := 2) rfl)
  have hq3 : (Cond.fieldLink RX1 35 "UndoJourneys$SetupReader" "tokenStart" "I").before _ s = true := hts _ (List.mem_of_getElem? (i := 3) rfl)
  have hq4 : (Cond.fieldLink RX1 44 "UndoJourneys$SetupReader" "text" "[B").before _ s = true := hts _ (List.mem_of_getElem? (i := 4) rfl)
  have hinX1 : ∀ w ∈ wsX10, w ∈ wsX1_wordIs := fun w h => List.mem_cons_of_mem _ (List.mem_append_right _ h)
  have hl := lv_entry [.ref rd0, .ref (kS w1)] (n := 3) (Nat.le_of_ble_eq_true rfl)
  rw [lg_entry_eq]
  generalize (lg_sl [.ref rd0, .ref (kS w1)] ++ List.replicate (3 - (lg_sl [.ref rd0, .ref (kS w1)]).length) Slot.unset).toArray = ls at hl ⊢
  have hl : lv_has ls 3 [(0, .ref rd0), (1, .ref (kS w1))] := hl
  clear hP hD0
  suffices main : ∀ (H : Heap) (locs : List Loc), Bd (dC, dI) [(cyI, .int), (cyB, .byte)] (va_A (cR cyI cyB rd0 tx bd β τ ρ) s.heap.size) s (cR cyI cyB rd0 tx bd β τ ρ) H locs → W p l e (headSpec wsX1_wordIs rmX1_wordIs).room s m ([.ref rd0, .ref (kS w1)] : List Value).toArray below meth c H locs 0 0 (MQ below (QzF (dC, dI) [(cyI, .int), (cyB, .byte)] (cR cyI cyB rd0 tx bd β τ ρ) (cR cyI cyB rd0 tx bd β τ ρ) s.heap.size r) ([.ref rd0, .ref (kS w1)] : List Value).toArray s 0 0 (va_A (cR cyI cyB rd0 tx bd β τ ρ) s.heap.size)) (F0 m 0 ls []) from main _ _ hB
  clear hB
  intro H locs hB
  unfold mX1_wordIs at hf
  refine lv_aload_n hx hb dX1_wordIs_0 rfl (lv_at hl 0 rfl) ?_
  refine g_get (C := RX1) (T := TX1) (N := 11) hx hb hts hinX1 hown hK hB 0 rfl rfl 7 rfl hq1 rfl rfl dX1_wordIs_1 ?_
  refine lv_iconst (v := (2 : Int32)) hx hb dX1_wordIs_4 (by decide) ?_
  obtain ⟨t1, hD2, hf⟩ := ob1_s hf
  have kTt1 : t1 = true → ∀ (H : Heap) (locs : List Loc), Bd (dC, dI) [(cyI, .int), (cyB, .byte)] (va_A (cR cyI cyB rd0 tx bd β τ ρ) s.heap.size) s (cR cyI cyB rd0 tx bd β τ ρ) H locs → W p l e (headSpec wsX1_wordIs rmX1_wordIs).room s m ([.ref rd0, .ref (kS w1)] : List Value).toArray below meth c H locs 0 0 (MQ below (QzF (dC, dI) [(cyI, .int), (cyB, .byte)] (cR cyI cyB rd0 tx bd β τ ρ) (cR cyI cyB rd0 tx bd β τ ρ) s.heap.size r) ([.ref rd0, .ref (kS w1)] : List Value).toArray s 0 0 (va_A (cR cyI cyB rd0 tx bd β τ ρ) s.heap.size)) (F0 m 24 ls []) := by
    intro ht H locs hB
    have hf := cnd_t ht hf
    refine lv_iconst (v := (0 : Int32)) hx hb dX1_wordIs_24 (by decide) ?_
    have e0 := inj1 hf
    subst e0
    exact g_zret hx hb hr hlocks hK hB (Or.inl rfl) dX1_wordIs_25
  have kFt1 : t1 = false → ∀ (H : Heap) (locs : List Loc), Bd (dC, dI) [(cyI, .int), (cyB, .byte)] (va_A (cR cyI cyB rd0 tx bd β τ ρ) s.heap.size) s (cR cyI cyB rd0 tx bd β τ ρ) H locs → W p l e (headSpec wsX1_wordIs rmX1_wordIs).room s m ([.ref rd0, .ref (kS w1)] : List Value).toArray below meth c H locs 0 0 (MQ below (QzF (dC, dI) [(cyI, .int), (cyB, .byte)] (cR cyI cyB rd0 tx bd β τ ρ) (cR cyI cyB rd0 tx bd β τ ρ) s.heap.size r) ([.ref rd0, .ref (kS w1)] : List Value).toArray s 0 0 (va_A (cR cyI cyB rd0 tx bd β τ ρ) s.heap.size)) (F0 m 26 ls []) := by
    intro ht H locs hB
    have hf := cnd_f ht hf
    refine lv_iconst (v := (0 : Int32)) hx hb dX1_wordIs_26 (by decide) ?_
    refine lv_istore_n (lv' := [(2, .int (0 : Int32)), (0, .ref rd0), (1, .ref (kS w1))]) hx hb dX1_wordIs_27 rfl hl (by decide) rfl (fun ls hl => ?_)
    obtain ⟨b18, hL16, hf⟩ := ob1_s hf
    have kE14 : ∀ (H : Heap) (locs : List Loc) (ls : Array Slot), Sum.inr () = b18 → Bd (dC, dI) [(cyI, .int), (cyB, .byte)] (va_A (cR cyI cyB rd0 tx bd β τ ρ) s.heap.size) s (cR cyI cyB rd0 tx bd β τ ρ) H locs → lv_has ls 3 [] → W p l e (headSpec wsX1_wordIs rmX1_wordIs).room s m ([.ref rd0, .ref (kS w1)] : List Value).toArray below meth c H locs 0 0 (MQ below (QzF (dC, dI) [(cyI, .int), (cyB, .byte)] (cR cyI cyB rd0 tx bd β τ ρ) (cR cyI cyB rd0 tx bd β τ ρ) s.heap.size r) ([.ref rd0, .ref (kS w1)] : List Value).toArray s 0 0 (va_A (cR cyI cyB rd0 tx bd β τ ρ) s.heap.size)) (F0 m 63 ls []) := by
      intro  H locs ls hb9 hB hl
      have hf := el1_r hb9 hf
      refine lv_iconst (v := (1 : Int32)) hx hb dX1_wordIs_63 (by decide) ?_
      have e0 := inj1 hf
      subst e0
      exact g_zret hx hb hr hlocks hK hB (Or.inr rfl) dX1_wordIs_64
    have key15 : ∀ (n9 : Nat) (v19 : Int32) (H : Heap) (locs : List Loc) (ls : Array Slot), loopM (fun st => mX1_wordIs_L28 fu w1 β τ ρ st) n9 v19 = some b18 → Bd (dC, dI) [(cyI, .int), (cyB, .byte)] (va_A (cR cyI cyB rd0 tx bd β τ ρ) s.heap.size) s (cR cyI cyB rd0 tx bd β τ ρ) H locs → lv_has ls 3 [(2, .int v19), (0, .ref rd0), (1, .ref (kS w1))] → W p l e (headSpec wsX1_wordIs rmX1_wordIs).room s m ([.ref rd0, .ref (kS w1)] : List Value).toArray below meth c H locs 0 0 (MQ below (QzF (dC, dI) [(cyI, .int), (cyB, .byte)] (cR cyI cyB rd0 tx bd β τ ρ) (cR cyI cyB rd0 tx bd β τ ρ) s.heap.size r) ([.ref rd0, .ref (kS w1)] : List Value).toArray s 0 0 (va_A (cR cyI cyB rd0 tx bd β τ ρ) s.heap.size)) (F0 m 28 ls []) := by
      intro n9
      induction n9 with
      | zero => intro v19 H locs ls hL16; exact (loopM_z hL16).elim
      | succ n9 ih9 =>
        intro v19 H locs ls hL16 hB hl
        obtain ⟨o20, hg17, hL16⟩ := loopM_s hL16
        have hg17 : mX1_wordIs_L28 fu w1 β τ ρ v19 = some o20 := hg17
        unfold mX1_wordIs_L28 at hg17
        refine lv_iload_n hx hb dX1_wordIs_28 rfl (lv_at hl 0 rfl) ?_
        refine lv_aload_n hx hb dX1_wordIs_29 rfl (lv_at hl 2 rfl) ?_
        refine g_jcutVi (As := []) (rest := [.int v19]) (w2 := (cR cyI cyB rd0 tx bd β τ ρ)) ⟨hx, hb, hml, hown, hts⟩ hJ (kJ0_length_8abf5 l dC dI [(cyI, .int), (cyB, .byte)] H.size hw1) (cwV 0 hts gX1_wordIs_J0_length_8abf5 rfl rfl rfl (by decide +kernel) ⟨Nat.le_of_ble_eq_true rfl, Nat.le_of_ble_eq_true rfl⟩) hK hB hA (recvS hJ hB hw1) [] rfl rfl rfl (by rfl) rfl hl.1 rfl (Nat.le_of_ble_eq_true rfl) dX1_wordIs_30 ⟨Nat.zero_le _, Nat.zero_le _⟩ (fun H locs hB => ?_)
        refine lv_icmp_ge (tgt := 63) hx hb dX1_wordIs_33 (by decide) (fun c21 => ?_) (fun c21 => ?_)
        · have hg17 := ite_t c21 hg17
          have hL16 := el1_l (inj1 hg17) hL16
          exact kE14  _ _ _ (inj1 hL16) hB (lv_sub hl [] rfl)
        · have hg17 := ite_f c21 hg17
          refine lv_aload_n hx hb dX1_wordIs_36 rfl (lv_at hl 1 rfl) ?_
          refine g_get (C := RX1) (T := TX1) (N := 11) hx hb hts hinX1 hown hK hB 0 rfl rfl 3 rfl hq4 rfl rfl dX1_wordIs_37 ?_
          refine lv_aload_n hx hb dX1_wordIs_40 rfl (lv_at hl 1 rfl) ?_
          refine g_get (C := RX1) (T := TX1) (N := 11) hx hb hts hinX1 hown hK hB 0 rfl rfl 8 rfl hq3 rfl rfl dX1_wordIs_41 ?_
          refine lv_iload_n hx hb dX1_wordIs_44 rfl (lv_at hl 0 rfl) ?_
          refine lv_iadd hx hb dX1_wordIs_45 ?_
          obtain ⟨x22, e9, hg17⟩ := ob1_s hg17
          refine g_bald hx hb hK hB 1 1 rfl rfl (rd_s e9) dX1_wordIs_46 ?_
          refine lv_aload_n hx hb dX1_wordIs_47 rfl (lv_at hl 2 rfl) ?_
          refine lv_iload_n hx hb dX1_wordIs_48 rfl (lv_at hl 0 rfl) ?_
          obtain ⟨x23, hc, hg17⟩ := ob1_s hg17
          refine g_jcutVi (As := [.int v19]) (rest := [.int x22]) (w2 := (cR cyI cyB rd0 tx bd β τ ρ)) ⟨hx, hb, hml, hown, hts⟩ hJ (kChr l dC dI [(cyI, .int), (cyB, .byte)] H.size hw1 hc) (cwV 1 hts gX1_wordIs_J0_charAt_5068e rfl rfl rfl (by decide +kernel) ⟨Nat.le_of_ble_eq_true rfl, Nat.le_of_ble_eq_true rfl⟩) hK hB hA (recvS hJ hB hw1) [] rfl rfl rfl (by rfl) rfl hl.1 rfl (Nat.le_of_ble_eq_true rfl) dX1_wordIs_49 ⟨Nat.zero_le _, Nat.zero_le _⟩ (fun H locs hB => ?_)
          refine lv_icmp_eq (tgt := 57) hx hb dX1_wordIs_52 (by decide) (fun c24 => ?_) (fun c24 => ?_)
          · have hg17 := ite_t c24 hg17
            refine lv_iinc (v := (v19 + (1 : Int32))) (lv' := [(2, .int (v19 + (1 : Int32))), (0, .ref rd0), (1, .ref (kS w1))]) hx hb dX1_wordIs_57 hl (k := 0) rfl rfl (by decide) rfl (fun ls hl => ?_)
            refine lv_goto (tgt := 28) hx hb dX1_wordIs_60 (by decide) ?_
            have hL16 := el1_r (inj1 hg17) hL16
            exact ih9 _ _ _ _ hL16 hB (lv_sub hl [0, 1, 2] rfl)
          · have hg17 := ite_f c24 hg17
            refine lv_iconst (v := (0 : Int32)) hx hb dX1_wordIs_55 (by decide) ?_
            have hL16 := el1_l (inj1 hg17) hL16
            have hf := el1_l (inj1 hL16) hf
            have e0 := inj1 hf
            subst e0
            exact g_zret hx hb hr hlocks hK hB (Or.inl rfl) dX1_wordIs_56
    exact key15 fu _ _ _ _ hL16 hB (lv_sub hl [0, 1, 2] rfl)
  refine lv_icmp_ne (tgt := 24) hx hb dX1_wordIs_5 (by decide) (fun c3 => ?_) (fun c3 => ?_)
  · have hD2 := ite_f c3 hD2
    have e0 := inj1 hD2
    exact kTt1 e0.symm _ _ hB
  · have hD2 := ite_t c3 hD2
    refine lv_aload_n hx hb dX1_wordIs_8 rfl (lv_at hl 0 rfl) ?_
    refine g_get (C := RX1) (T := TX1) (N := 11) hx hb hts hinX1 hown hK hB 0 rfl rfl 9 rfl hq2 rfl rfl dX1_wordIs_9 ?_
    refine lv_aload_n hx hb dX1_wordIs_12 rfl (lv_at hl 0 rfl) ?_
    refine g_get (C := RX1) (T := TX1) (N := 11) hx hb hts hinX1 hown hK hB 0 rfl rfl 8 rfl hq3 rfl rfl dX1_wordIs_13 ?_
    refine lv_isub hx hb dX1_wordIs_16 ?_
    refine lv_aload_n hx hb dX1_wordIs_17 rfl (lv_at hl 1 rfl) ?_
    refine g_jcutVi (As := []) (rest := [.int ((ρ 9 0) - (ρ 8 0))]) (w2 := (cR cyI cyB rd0 tx bd β τ ρ)) ⟨hx, hb, hml, hown, hts⟩ hJ (kJ0_length_8abf5 l dC dI [(cyI, .int), (cyB, .byte)] H.size hw1) (cwV 0 hts gX1_wordIs_J0_length_8abf5 rfl rfl rfl (by decide +kernel) ⟨Nat.le_of_ble_eq_true rfl, Nat.le_of_ble_eq_true rfl⟩) hK hB hA (recvS hJ hB hw1) [] rfl rfl rfl (by rfl) rfl hl.1 rfl (Nat.le_of_ble_eq_true rfl) dX1_wordIs_18 ⟨Nat.zero_le _, Nat.zero_le _⟩ (fun H locs hB => ?_)
    refine lv_icmp_eq (tgt := 26) hx hb dX1_wordIs_21 (by decide) (fun c4 => ?_) (fun c4 => ?_)
    · have hD2 := ite_t c4 hD2
      have e0 := inj1 hD2
      exact kFt1 e0.symm _ _ hB
    · have hD2 := ite_f c4 hD2
      have e0 := inj1 hD2
      exact kTt1 e0.symm _ _ hB

abbrev rmX1_skipsWord : Room := { frames := 5, cells := 0, slots := 0, locals := 107 }

set_option maxHeartbeats 4000000 in
set_option maxRecDepth 100000 in
theorem kX1_skipsWord (l : Launch) (dC : Nat → ClassId) (dI : Nat → Nat → Nat) (cyI cyB : ClassId) (rd0 tx : Nat) (bd : Nat → Nat) (kS : Nat → Nat) (sz : Nat) {fu : Nat} {β : FS} {τ : MS} {ρ : MS} {w1 : Nat} {r : Int32} {ρ_ : MS} (hw1 : w1 < 23) (hf : mX1_skipsWord fu β τ ρ w1 = some (r, ρ_)) : Met l yX1_skipsWord wsX1_skipsWord rmX1_skipsWord (PcJ (dC, dI) [(cyI, .int), (cyB, .byte)] kS (cR cyI cyB rd0 tx bd β τ ρ) sz [.ref rd0, .ref (kS w1)]) (QzF (dC, dI) [(cyI, .int), (cyB, .byte)] (cR cyI cyB rd0 tx bd β τ ρ) (cR cyI cyB rd0 tx bd β τ ρ_) sz r) 0 0 (va_A (cR cyI cyB rd0 tx bd β τ ρ) sz) := by
  refine Met.ofW (cc := cX1_skipsWord) (maxL := 2) (ret := (some .boolean)) (by decide) rfl ?_
  intro p e s m args below meth c s₁ B hml hv
  obtain ⟨rfl, ⟨hsz, hP, hK, hD0⟩, hJ⟩ := hv
  have hx := B.exec
  have hb := B.bytes
  have hr := B.returns
  have hts := atoms_spec (ws := wsX1_skipsWord) B.pre
  have hown : s.vm.findClass RX1 = some m.cls := findClass_of_methodNamed B.named
  have hlocks := B.notSynchronized
  subst hsz
  have hA : ∀ q : Nat, s.heap.size ≤ q → va_A (cR cyI cyB rd0 tx bd β τ ρ) s.heap.size q := fun q h => Or.inr h
  have hB : Bd (dC, dI) [(cyI, .int), (cyB, .byte)] (va_A (cR cyI cyB rd0 tx bd β τ ρ) s.heap.size) s (cR cyI cyB rd0 tx bd β τ ρ) s.heap [] := ⟨hP, hD0.self, va_S.rf⟩
  have hinX1 : ∀ w ∈ wsX10, w ∈ wsX1_skipsWord := fun w h => List.mem_cons_of_mem _ (List.mem_append_right _ h)
  have hl := lv_entry [.ref rd0, .ref (kS w1)] (n := 2) (Nat.le_of_ble_eq_true rfl)
  rw [lg_entry_eq]
  generalize (lg_sl [.ref rd0, .ref (kS w1)] ++ List.replicate (2 - (lg_sl [.ref rd0, .ref (kS w1)]).length) Slot.unset).toArray = ls at hl ⊢
  have hl : lv_has ls 2 [(0, .ref rd0), (1, .ref (kS w1))] := hl
  clear hP hD0
  suffices main : ∀ (H : Heap) (locs : List Loc), Bd (dC, dI) [(cyI, .int), (cyB, .byte)] (va_A (cR cyI cyB rd0 tx bd β τ ρ) s.heap.size) s (cR cyI cyB rd0 tx bd β τ ρ) H locs → W p l e (headSpec wsX1_skipsWord rmX1_skipsWord).room s m ([.ref rd0, .ref (kS w1)] : List Value).toArray below meth c H locs 0 0 (MQ below (QzF (dC, dI) [(cyI, .int), (cyB, .byte)] (cR cyI cyB rd0 tx bd β τ ρ) (cR cyI cyB rd0 tx bd β τ ρ_) s.heap.size r) ([.ref rd0, .ref (kS w1)] : List Value).toArray s 0 0 (va_A (cR cyI cyB rd0 tx bd β τ ρ) s.heap.size)) (F0 m 0 ls []) from main _ _ hB
  clear hB
  intro H locs hB
  unfold mX1_skipsWord at hf
  refine lv_aload_n hx hb dX1_skipsWord_0 rfl (lv_at hl 0 rfl) ?_
  refine lv_aload_n hx hb dX1_skipsWord_1 rfl (lv_at hl 1 rfl) ?_
  obtain ⟨r1, hc, hf⟩ := ob1_s hf
  refine g_jcallVz (As := [.ref (kS w1)]) (rest := []) ⟨hx, hb, hml, hown, hts⟩ hJ (kX1_wordIs l dC dI cyI cyB rd0 tx bd kS H.size hw1 hc) (cwV 1 hts gX1_skipsWord_X1_wordIs rfl rfl rfl (by decide +kernel) ⟨Nat.le_of_ble_eq_true rfl, Nat.le_of_ble_eq_true rfl⟩) hK hB hA (g_recv (ci := 1) hK hB 0 rfl rfl rfl) rfl hl.1 rfl (Nat.le_of_ble_eq_true rfl) dX1_skipsWord_2 ⟨Nat.zero_le _, Nat.zero_le _⟩ (fun z2 H locs hB => ?_)
  refine lv_if_ne (tgt := 10) hx hb dX1_skipsWord_5 (by decide) (fun c3 => ?_) (fun c3 => ?_)
  · have hf := ite_f c3 hf
    refine lv_aload_n hx hb dX1_skipsWord_10 rfl (lv_at hl 0 rfl) ?_
    obtain ⟨ρ4, hc, hf⟩ := ob1_s hf
    refine g_callVv (As := []) (rest := []) ⟨hx, hb, hml, hown, hts⟩ (kX1_nextToken l dC dI cyI cyB rd0 tx bd H.size hc) (cwV 0 hts gX1_skipsWord_X1_nextToken rfl rfl rfl (by decide +kernel) ⟨Nat.le_of_ble_eq_true rfl, Nat.le_of_ble_eq_true rfl⟩) hK hB hA (g_recv (ci := 1) hK hB 0 rfl rfl rfl) rfl hl.1 rfl (Nat.le_of_ble_eq_true rfl) dX1_skipsWord_11 ⟨Nat.zero_le _, Nat.zero_le _⟩ (fun H locs hB => ?_)
    refine lv_iconst (v := (1 : Int32)) hx hb dX1_skipsWord_14 (by decide) ?_
    obtain ⟨e0, e1⟩ := inj2 hf
    subst e0
    subst e1
    exact g_zret hx hb hr hlocks hK hB (Or.inr rfl) dX1_skipsWord_15
  · have hf := ite_t c3 hf
    refine lv_iconst (v := (0 : Int32)) hx hb dX1_skipsWord_8 (by decide) ?_
    obtain ⟨e0, e1⟩ := inj2 hf
    subst e0
    subst e1
    exact g_zret hx hb hr hlocks hK hB (Or.inl rfl) dX1_skipsWord_9

abbrev rmX1_fail : Room := { frames := 0, cells := 0, slots := 0, locals := 0 }

set_option maxHeartbeats 4000000 in
set_option maxRecDepth 100000 in
theorem kX1_fail (l : Launch) (dC : Nat → ClassId) (dI : Nat → Nat → Nat) (cyI cyB : ClassId) (rd0 tx : Nat) (bd : Nat → Nat) (sz : Nat) {fu : Nat} {β : FS} {τ : MS} {ρ : MS} {i1 : Int32} {i2 : Int32} {ρ_ : MS} (hf : mX1_fail fu β τ ρ i1 i2 = some ρ_) : Met l yX1_fail wsX1_fail rmX1_fail (PcF (dC, dI) [(cyI, .int), (cyB, .byte)] (cR cyI cyB rd0 tx bd β τ ρ) sz [.ref rd0, .int i1, .int i2]) (QvF (dC, dI) [(cyI, .int), (cyB, .byte)] (cR cyI cyB rd0 tx bd β τ ρ) (cR cyI cyB rd0 tx bd β τ ρ_) sz) 0 0 (va_A (cR cyI cyB rd0 tx bd β τ ρ) sz) := by
  refine Met.ofW (cc := cX1_fail) (maxL := 3) (ret := none) (by decide) rfl ?_
  intro p e s m args below meth c s₁ B hml hv
  obtain ⟨rfl, hsz, hP, hK, hD0⟩ := hv
  have hx := B.exec
  have hb := B.bytes
  have hr := B.returns
  have hts := atoms_spec (ws := wsX1_fail) B.pre
  have hown : s.vm.findClass RX1 = some m.cls := findClass_of_methodNamed B.named
  have hlocks := B.notSynchronized
  subst hsz
  have hA : ∀ q : Nat, s.heap.size ≤ q → va_A (cR cyI cyB rd0 tx bd β τ ρ) s.heap.size q := fun q h => Or.inr h
  have hB : Bd (dC, dI) [(cyI, .int), (cyB, .byte)] (va_A (cR cyI cyB rd0 tx bd β τ ρ) s.heap.size) s (cR cyI cyB rd0 tx bd β τ ρ) s.heap [] := ⟨hP, hD0.self, va_S.rf⟩
  have hq1 : (Cond.fieldLink RX1 18 "UndoJourneys$SetupReader" "error" "I").before _ s = true := hts _ (List.mem_of_getElem? (i := 1) rfl)
  have hq2 : (Cond.fieldLink RX1 22 "UndoJourneys$SetupReader" "errorAt" "I").before _ s = true := hts _ (List.mem_of_getElem? (i := 2) rfl)
  have hinX1 : ∀ w ∈ wsX10, w ∈ wsX1_fail := fun w h => List.mem_cons_of_mem _ (List.mem_append_right _ h)
  have hl := lv_entry [.ref rd0, .int i1, .int i2] (n := 3) (Nat.le_of_ble_eq_true rfl)
  rw [lg_entry_eq]
  generalize (lg_sl [.ref rd0, .int i1, .int i2] ++ List.replicate (3 - (lg_sl [.ref rd0, .int i1, .int i2]).length) Slot.unset).toArray = ls at hl ⊢
  have hl : lv_has ls 3 [(0, .ref rd0), (1, .int i1), (2, .int i2)] := hl
  clear hP hD0
  suffices main : ∀ (H : Heap) (locs : List Loc), Bd (dC, dI) [(cyI, .int), (cyB, .byte)] (va_A (cR cyI cyB rd0 tx bd β τ ρ) s.heap.size) s (cR cyI cyB rd0 tx bd β τ ρ) H locs → W p l e (headSpec wsX1_fail rmX1_fail).room s m ([.ref rd0, .int i1, .int i2] : List Value).toArray below meth c H locs 0 0 (MQ below (QvF (dC, dI) [(cyI, .int), (cyB, .byte)] (cR cyI cyB rd0 tx bd β τ ρ) (cR cyI cyB rd0 tx bd β τ ρ_) s.heap.size) ([.ref rd0, .int i1, .int i2] : List Value).toArray s 0 0 (va_A (cR cyI cyB rd0 tx bd β τ ρ) s.heap.size)) (F0 m 0 ls []) from main _ _ hB
  clear hB
  intro H locs hB
  unfold mX1_fail at hf
  refine lv_aload_n hx hb dX1_fail_0 rfl (lv_at hl 0 rfl) ?_
  refine g_get (C := RX1) (T := TX1) (N := 11) hx hb hts hinX1 hown hK hB 0 rfl rfl 1 rfl hq1 rfl rfl dX1_fail_1 ?_
  obtain ⟨ρ1, hJ2, hf⟩ := ob1_s hf
  have kJ3 : ∀ (H : Heap) (locs : List Loc) (ls : Array Slot), Bd (dC, dI) [(cyI, .int), (cyB, .byte)] (va_A (cR cyI cyB rd0 tx bd β τ ρ) s.heap.size) s (cR cyI cyB rd0 tx bd β τ ρ1) H locs → lv_has ls 3 [] → W p l e (headSpec wsX1_fail rmX1_fail).room s m ([.ref rd0, .int i1, .int i2] : List Value).toArray below meth c H locs 0 0 (MQ below (QvF (dC, dI) [(cyI, .int), (cyB, .byte)] (cR cyI cyB rd0 tx bd β τ ρ) (cR cyI cyB rd0 tx bd β τ ρ_) s.heap.size) ([.ref rd0, .int i1, .int i2] : List Value).toArray s 0 0 (va_A (cR cyI cyB rd0 tx bd β τ ρ) s.heap.size)) (F0 m 17 ls []) := by
    intro H locs ls hB hl
    have e0 := inj1 hf
    subst e0
    exact g_vret hx hb hr hlocks hK hB dX1_fail_17
  refine lv_if_ne (tgt := 17) hx hb dX1_fail_4 (by decide) (fun c4 => ?_) (fun c4 => ?_)
  · have hJ2 := ite_f c4 hJ2
    have e0 := inj1 hJ2
    subst e0
    exact kJ3 _ _ _ hB (lv_sub hl [] rfl)
  · have hJ2 := ite_t c4 hJ2
    refine lv_aload_n hx hb dX1_fail_7 rfl (lv_at hl 0 rfl) ?_
    refine lv_iload_n hx hb dX1_fail_8 rfl (lv_at hl 1 rfl) ?_
    obtain ⟨ρ5, e9, hJ2⟩ := ob1_s hJ2
    have e9 := inj1 e9
    refine g_put (C := RX1) (T := TX1) (N := 11) hx hb hts hinX1 tyX1 tyX1_ok nmX1 hown hK hB 0 rfl rfl 1 rfl hq1 rfl rfl rfl rfl rfl rfl dX1_fail_9 (w2 := (cR cyI cyB rd0 tx bd β τ ρ5)) (by rw [← e9]; rfl) (fun H locs hB => ?_)
    refine lv_aload_n hx hb dX1_fail_12 rfl (lv_at hl 0 rfl) ?_
    refine lv_iload_n hx hb dX1_fail_13 rfl (lv_at hl 2 rfl) ?_
    obtain ⟨ρ6, e9, hJ2⟩ := ob1_s hJ2
    have e9 := inj1 e9
    refine g_put (C := RX1) (T := TX1) (N := 11) hx hb hts hinX1 tyX1 tyX1_ok nmX1 hown hK hB 0 rfl rfl 2 rfl hq2 rfl rfl rfl rfl rfl rfl dX1_fail_14 (w2 := (cR cyI cyB rd0 tx bd β τ ρ6)) (by rw [← e9]; rfl) (fun H locs hB => ?_)
    have e0 := inj1 hJ2
    subst e0
    exact kJ3 _ _ _ hB (lv_sub hl [] rfl)

abbrev rmX1_takeWord : Room := { frames := 6, cells := 0, slots := 0, locals := 128 }

set_option maxHeartbeats 4000000 in
set_option maxRecDepth 100000 in
theorem kX1_takeWord (l : Launch) (dC : Nat → ClassId) (dI : Nat → Nat → Nat) (cyI cyB : ClassId) (rd0 tx : Nat) (bd : Nat → Nat) (kS : Nat → Nat) (sz : Nat) {fu : Nat} {β : FS} {τ : MS} {ρ : MS} {w1 : Nat} {ρ_ : MS} (hw1 : w1 < 23) (hf : mX1_takeWord fu β τ ρ w1 = some ρ_) : Met l yX1_takeWord wsX1_takeWord rmX1_takeWord (PcJ (dC, dI) [(cyI, .int), (cyB, .byte)] kS (cR cyI cyB rd0 tx bd β τ ρ) sz [.ref rd0, .ref (kS w1)]) (QvF (dC, dI) [(cyI, .int), (cyB, .byte)] (cR cyI cyB rd0 tx bd β τ ρ) (cR cyI cyB rd0 tx bd β τ ρ_) sz) 0 0 (va_A (cR cyI cyB rd0 tx bd β τ ρ) sz) := by
  refine Met.ofW (cc := cX1_takeWord) (maxL := 2) (ret := none) (by decide) rfl ?_
  intro p e s m args below meth c s₁ B hml hv
  obtain ⟨rfl, ⟨hsz, hP, hK, hD0⟩, hJ⟩ := hv
  have hx := B.exec
  have hb := B.bytes
  have hr := B.returns
  have hts := atoms_spec (ws := wsX1_takeWord) B.pre
  have hown : s.vm.findClass RX1 = some m.cls := findClass_of_methodNamed B.named
  have hlocks := B.notSynchronized
  subst hsz
  have hA : ∀ q : Nat, s.heap.size ≤ q → va_A (cR cyI cyB rd0 tx bd β τ ρ) s.heap.size q := fun q h => Or.inr h
  have hB : Bd (dC, dI) [(cyI, .int), (cyB, .byte)] (va_A (cR cyI cyB rd0 tx bd β τ ρ) s.heap.size) s (cR cyI cyB rd0 tx bd β τ ρ) s.heap [] := ⟨hP, hD0.self, va_S.rf⟩
  have hq1 : (Cond.fieldLink RX1 35 "UndoJourneys$SetupReader" "tokenStart" "I").before _ s = true := hts _ (List.mem_of_getElem? (i := 1) rfl)
  have hinX1 : ∀ w ∈ wsX10, w ∈ wsX1_takeWord := fun w h => List.mem_cons_of_mem _ (List.mem_append_right _ h)
  have hl := lv_entry [.ref rd0, .ref (kS w1)] (n := 2) (Nat.le_of_ble_eq_true rfl)
  rw [lg_entry_eq]
  generalize (lg_sl [.ref rd0, .ref (kS w1)] ++ List.replicate (2 - (lg_sl [.ref rd0, .ref (kS w1)]).length) Slot.unset).toArray = ls at hl ⊢
  have hl : lv_has ls 2 [(0, .ref rd0), (1, .ref (kS w1))] := hl
  clear hP hD0
  suffices main : ∀ (H : Heap) (locs : List Loc), Bd (dC, dI) [(cyI, .int), (cyB, .byte)] (va_A (cR cyI cyB rd0 tx bd β τ ρ) s.heap.size) s (cR cyI cyB rd0 tx bd β τ ρ) H locs → W p l e (headSpec wsX1_takeWord rmX1_takeWord).room s m ([.ref rd0, .ref (kS w1)] : List Value).toArray below meth c H locs 0 0 (MQ below (QvF (dC, dI) [(cyI, .int), (cyB, .byte)] (cR cyI cyB rd0 tx bd β τ ρ) (cR cyI cyB rd0 tx bd β τ ρ_) s.heap.size) ([.ref rd0, .ref (kS w1)] : List Value).toArray s 0 0 (va_A (cR cyI cyB rd0 tx bd β τ ρ) s.heap.size)) (F0 m 0 ls []) from main _ _ hB
  clear hB
  intro H locs hB
  unfold mX1_takeWord at hf
  refine lv_aload_n hx hb dX1_takeWord_0 rfl (lv_at hl 0 rfl) ?_
  refine lv_aload_n hx hb dX1_takeWord_1 rfl (lv_at hl 1 rfl) ?_
  obtain ⟨r1, ρ2, hc, hf⟩ := ob2_s hf
  refine g_jcallVz (As := [.ref (kS w1)]) (rest := []) ⟨hx, hb, hml, hown, hts⟩ hJ (kX1_skipsWord l dC dI cyI cyB rd0 tx bd kS H.size hw1 hc) (cwV 1 hts gX1_takeWord_X1_skipsWord rfl rfl rfl (by decide +kernel) ⟨Nat.le_of_ble_eq_true rfl, Nat.le_of_ble_eq_true rfl⟩) hK hB hA (g_recv (ci := 1) hK hB 0 rfl rfl rfl) rfl hl.1 rfl (Nat.le_of_ble_eq_true rfl) dX1_takeWord_2 ⟨Nat.zero_le _, Nat.zero_le _⟩ (fun z3 H locs hB => ?_)
  obtain ⟨ρ4, hJ5, hf⟩ := ob1_s hf
  have kJ6 : ∀ (H : Heap) (locs : List Loc) (ls : Array Slot), Bd (dC, dI) [(cyI, .int), (cyB, .byte)] (va_A (cR cyI cyB rd0 tx bd β τ ρ) s.heap.size) s (cR cyI cyB rd0 tx bd β τ ρ4) H locs → lv_has ls 2 [] → W p l e (headSpec wsX1_takeWord rmX1_takeWord).room s m ([.ref rd0, .ref (kS w1)] : List Value).toArray below meth c H locs 0 0 (MQ below (QvF (dC, dI) [(cyI, .int), (cyB, .byte)] (cR cyI cyB rd0 tx bd β τ ρ) (cR cyI cyB rd0 tx bd β τ ρ_) s.heap.size) ([.ref rd0, .ref (kS w1)] : List Value).toArray s 0 0 (va_A (cR cyI cyB rd0 tx bd β τ ρ) s.heap.size)) (F0 m 18 ls []) := by
    intro H locs ls hB hl
    have e0 := inj1 hf
    subst e0
    exact g_vret hx hb hr hlocks hK hB dX1_takeWord_18
  refine lv_if_ne (tgt := 18) hx hb dX1_takeWord_5 (by decide) (fun c7 => ?_) (fun c7 => ?_)
  · have hJ5 := ite_f c7 hJ5
    have e0 := inj1 hJ5
    subst e0
    exact kJ6 _ _ _ hB (lv_sub hl [] rfl)
  · have hJ5 := ite_t c7 hJ5
    refine lv_aload_n hx hb dX1_takeWord_8 rfl (lv_at hl 0 rfl) ?_
    refine lv_bipush (v := (-2 : Int32)) hx hb dX1_takeWord_9 (by decide) ?_
    refine lv_aload_n hx hb dX1_takeWord_11 rfl (lv_at hl 0 rfl) ?_
    refine g_get (C := RX1) (T := TX1) (N := 11) hx hb hts hinX1 hown hK hB 0 rfl rfl 8 rfl hq1 rfl rfl dX1_takeWord_12 ?_
    obtain ⟨ρ8, hc, hJ5⟩ := ob1_s hJ5
    refine g_callVv (As := [.int (-2 : Int32), .int (ρ2 8 0)]) (rest := []) ⟨hx, hb, hml, hown, hts⟩ (kX1_fail l dC dI cyI cyB rd0 tx bd H.size hc) (cwV 2 hts gX1_takeWord_X1_fail rfl rfl rfl (by decide +kernel) ⟨Nat.le_of_ble_eq_true rfl, Nat.le_of_ble_eq_true rfl⟩) hK hB hA (g_recv (ci := 1) hK hB 0 rfl rfl rfl) rfl hl.1 rfl (Nat.le_of_ble_eq_true rfl) dX1_takeWord_15 ⟨Nat.zero_le _, Nat.zero_le _⟩ (fun H locs hB => ?_)
    have e0 := inj1 hJ5
    subst e0
    exact kJ6 _ _ _ hB (lv_sub hl [] rfl)

abbrev rmX1_takeSign : Room := { frames := 2, cells := 0, slots := 0, locals := 42 }

set_option maxHeartbeats 4000000 in
set_option maxRecDepth 100000 in
theorem kX1_takeSign (l : Launch) (dC : Nat → ClassId) (dI : Nat → Nat → Nat) (cyI cyB : ClassId) (rd0 tx : Nat) (bd : Nat → Nat) (sz : Nat) {fu : Nat} {β : FS} {τ : MS} {ρ : MS} {i1 : Int32} {ρ_ : MS} (hf : mX1_takeSign fu β τ ρ i1 = some ρ_) : Met l yX1_takeSign wsX1_takeSign rmX1_takeSign (PcF (dC, dI) [(cyI, .int), (cyB, .byte)] (cR cyI cyB rd0 tx bd β τ ρ) sz [.ref rd0, .int i1]) (QvF (dC, dI) [(cyI, .int), (cyB, .byte)] (cR cyI cyB rd0 tx bd β τ ρ) (cR cyI cyB rd0 tx bd β τ ρ_) sz) 0 0 (va_A (cR cyI cyB rd0 tx bd β τ ρ) sz) := by
  refine Met.ofW (cc := cX1_takeSign) (maxL := 2) (ret := none) (by decide) rfl ?_
  intro p e s m args below meth c s₁ B hml hv
  obtain ⟨rfl, hsz, hP, hK, hD0⟩ := hv
  have hx := B.exec
  have hb := B.bytes
  have hr := B.returns
  have hts := atoms_spec (ws := wsX1_takeSign) B.pre
  have hown : s.vm.findClass RX1 = some m.cls := findClass_of_methodNamed B.named
  have hlocks := B.notSynchronized
  subst hsz
  have hA : ∀ q : Nat, s.heap.size ≤ q → va_A (cR cyI cyB rd0 tx bd β τ ρ) s.heap.size q := fun q h => Or.inr h
  have hB : Bd (dC, dI) [(cyI, .int), (cyB, .byte)] (va_A (cR cyI cyB rd0 tx bd β τ ρ) s.heap.size) s (cR cyI cyB rd0 tx bd β τ ρ) s.heap [] := ⟨hP, hD0.self, va_S.rf⟩
  have hq1 : (Cond.fieldLink RX1 32 "UndoJourneys$SetupReader" "kind" "I").before _ s = true := hts _ (List.mem_of_getElem? (i := 1) rfl)
  have hq2 : (Cond.fieldLink RX1 44 "UndoJourneys$SetupReader" "text" "[B").before _ s = true := hts _ (List.mem_of_getElem? (i := 2) rfl)
  have hq3 : (Cond.fieldLink RX1 35 "UndoJourneys$SetupReader" "tokenStart" "I").before _ s = true := hts _ (List.mem_of_getElem? (i := 3) rfl)
  have hinX1 : ∀ w ∈ wsX10, w ∈ wsX1_takeSign := fun w h => List.mem_cons_of_mem _ (List.mem_append_right _ h)
  have hl := lv_entry [.ref rd0, .int i1] (n := 2) (Nat.le_of_ble_eq_true rfl)
  rw [lg_entry_eq]
  generalize (lg_sl [.ref rd0, .int i1] ++ List.replicate (2 - (lg_sl [.ref rd0, .int i1]).length) Slot.unset).toArray = ls at hl ⊢
  have hl : lv_has ls 2 [(0, .ref rd0), (1, .int i1)] := hl
  clear hP hD0
  suffices main : ∀ (H : Heap) (locs : List Loc), Bd (dC, dI) [(cyI, .int), (cyB, .byte)] (va_A (cR cyI cyB rd0 tx bd β τ ρ) s.heap.size) s (cR cyI cyB rd0 tx bd β τ ρ) H locs → W p l e (headSpec wsX1_takeSign rmX1_takeSign).room s m ([.ref rd0, .int i1] : List Value).toArray below meth c H locs 0 0 (MQ below (QvF (dC, dI) [(cyI, .int), (cyB, .byte)] (cR cyI cyB rd0 tx bd β τ ρ) (cR cyI cyB rd0 tx bd β τ ρ_) s.heap.size) ([.ref rd0, .int i1] : List Value).toArray s 0 0 (va_A (cR cyI cyB rd0 tx bd β τ ρ) s.heap.size)) (F0 m 0 ls []) from main _ _ hB
  clear hB
  intro H locs hB
  unfold mX1_takeSign at hf
  refine lv_aload_n hx hb dX1_takeSign_0 rfl (lv_at hl 0 rfl) ?_
  refine g_get (C := RX1) (T := TX1) (N := 11) hx hb hts hinX1 hown hK hB 0 rfl rfl 7 rfl hq1 rfl rfl dX1_takeSign_1 ?_
  refine lv_iconst (v := (3 : Int32)) hx hb dX1_takeSign_4 (by decide) ?_
  obtain ⟨t1, hD2, hf⟩ := ob1_s hf
  have kTt1 : t1 = true → ∀ (H : Heap) (locs : List Loc), Bd (dC, dI) [(cyI, .int), (cyB, .byte)] (va_A (cR cyI cyB rd0 tx bd β τ ρ) s.heap.size) s (cR cyI cyB rd0 tx bd β τ ρ) H locs → W p l e (headSpec wsX1_takeSign rmX1_takeSign).room s m ([.ref rd0, .int i1] : List Value).toArray below meth c H locs 0 0 (MQ below (QvF (dC, dI) [(cyI, .int), (cyB, .byte)] (cR cyI cyB rd0 tx bd β τ ρ) (cR cyI cyB rd0 tx bd β τ ρ_) s.heap.size) ([.ref rd0, .int i1] : List Value).toArray s 0 0 (va_A (cR cyI cyB rd0 tx bd β τ ρ) s.heap.size)) (F0 m 21 ls []) := by
    intro ht H locs hB
    have hf := cnd_t ht hf
    refine lv_aload_n hx hb dX1_takeSign_21 rfl (lv_at hl 0 rfl) ?_
    refine lv_bipush (v := (-2 : Int32)) hx hb dX1_takeSign_22 (by decide) ?_
    refine lv_aload_n hx hb dX1_takeSign_24 rfl (lv_at hl 0 rfl) ?_
    refine g_get (C := RX1) (T := TX1) (N := 11) hx hb hts hinX1 hown hK hB 0 rfl rfl 8 rfl hq3 rfl rfl dX1_takeSign_25 ?_
    obtain ⟨ρ6, hc, hf⟩ := ob1_s hf
    refine g_callVv (As := [.int (-2 : Int32), .int (ρ 8 0)]) (rest := []) ⟨hx, hb, hml, hown, hts⟩ (kX1_fail l dC dI cyI cyB rd0 tx bd H.size hc) (cwV 2 hts gX1_takeSign_X1_fail rfl rfl rfl (by decide +kernel) ⟨Nat.le_of_ble_eq_true rfl, Nat.le_of_ble_eq_true rfl⟩) hK hB hA (g_recv (ci := 1) hK hB 0 rfl rfl rfl) rfl hl.1 rfl (Nat.le_of_ble_eq_true rfl) dX1_takeSign_28 ⟨Nat.zero_le _, Nat.zero_le _⟩ (fun H locs hB => ?_)
    have e0 := inj1 hf
    subst e0
    exact g_vret hx hb hr hlocks hK hB dX1_takeSign_31
  have kFt1 : t1 = false → ∀ (H : Heap) (locs : List Loc), Bd (dC, dI) [(cyI, .int), (cyB, .byte)] (va_A (cR cyI cyB rd0 tx bd β τ ρ) s.heap.size) s (cR cyI cyB rd0 tx bd β τ ρ) H locs → W p l e (headSpec wsX1_takeSign rmX1_takeSign).room s m ([.ref rd0, .int i1] : List Value).toArray below meth c H locs 0 0 (MQ below (QvF (dC, dI) [(cyI, .int), (cyB, .byte)] (cR cyI cyB rd0 tx bd β τ ρ) (cR cyI cyB rd0 tx bd β τ ρ_) s.heap.size) ([.ref rd0, .int i1] : List Value).toArray s 0 0 (va_A (cR cyI cyB rd0 tx bd β τ ρ) s.heap.size)) (F0 m 32 ls []) := by
    intro ht H locs hB
    have hf := cnd_f ht hf
    refine lv_aload_n hx hb dX1_takeSign_32 rfl (lv_at hl 0 rfl) ?_
    obtain ⟨ρ7, hc, hf⟩ := ob1_s hf
    refine g_callVv (As := []) (rest := []) ⟨hx, hb, hml, hown, hts⟩ (kX1_nextToken l dC dI cyI cyB rd0 tx bd H.size hc) (cwV 0 hts gX1_takeSign_X1_nextToken rfl rfl rfl (by decide +kernel) ⟨Nat.le_of_ble_eq_true rfl, Nat.le_of_ble_eq_true rfl⟩) hK hB hA (g_recv (ci := 1) hK hB 0 rfl rfl rfl) rfl hl.1 rfl (Nat.le_of_ble_eq_true rfl) dX1_takeSign_33 ⟨Nat.zero_le _, Nat.zero_le _⟩ (fun H locs hB => ?_)
    have e0 := inj1 hf
    subst e0
    exact g_vret hx hb hr hlocks hK hB dX1_takeSign_36
  refine lv_icmp_ne (tgt := 21) hx hb dX1_takeSign_5 (by decide) (fun c3 => ?_) (fun c3 => ?_)
  · have hD2 := ite_f c3 hD2
    have e0 := inj1 hD2
    exact kTt1 e0.symm _ _ hB
  · have hD2 := ite_t c3 hD2
    refine lv_aload_n hx hb dX1_takeSign_8 rfl (lv_at hl 0 rfl) ?_
    refine g_get (C := RX1) (T := TX1) (N := 11) hx hb hts hinX1 hown hK hB 0 rfl rfl 3 rfl hq2 rfl rfl dX1_takeSign_9 ?_
    refine lv_aload_n hx hb dX1_takeSign_12 rfl (lv_at hl 0 rfl) ?_
    refine g_get (C := RX1) (T := TX1) (N := 11) hx hb hts hinX1 hown hK hB 0 rfl rfl 8 rfl hq3 rfl rfl dX1_takeSign_13 ?_
    obtain ⟨x4, e9, hD2⟩ := ob1_s hD2
    refine g_bald hx hb hK hB 1 1 rfl rfl (rd_s e9) dX1_takeSign_16 ?_
    refine lv_iload_n hx hb dX1_takeSign_17 rfl (lv_at hl 1 rfl) ?_
    refine lv_icmp_eq (tgt := 32) hx hb dX1_takeSign_18 (by decide) (fun c5 => ?_) (fun c5 => ?_)
    · have hD2 := ite_t c5 hD2
      have e0 := inj1 hD2
      exact kFt1 e0.symm _ _ hB
    · have hD2 := ite_f c5 hD2
      have e0 := inj1 hD2
      exact kTt1 e0.symm _ _ hB

abbrev rmX1_readNumber : Room := { frames := 2, cells := 0, slots := 0, locals := 42 }

set_option maxHeartbeats 4000000 in
set_option maxRecDepth 100000 in
theorem kX1_readNumber (l : Launch) (dC : Nat → ClassId) (dI : Nat → Nat → Nat) (cyI cyB : ClassId) (rd0 tx : Nat) (bd : Nat → Nat) (sz : Nat) {fu : Nat} {β : FS} {τ : MS} {ρ : MS} {i1 : Int32} {i2 : Int32} {r : Int32} {ρ_ : MS} (hf : mX1_readNumber fu β τ ρ i1 i2 = some (r, ρ_)) : Met l yX1_readNumber wsX1_readNumber rmX1_readNumber (PcF (dC, dI) [(cyI, .int), (cyB, .byte)] (cR cyI cyB rd0 tx bd β τ ρ) sz [.ref rd0, .int i1, .int i2]) (QiF (dC, dI) [(cyI, .int), (cyB, .byte)] (cR cyI cyB rd0 tx bd β τ ρ) (cR cyI cyB rd0 tx bd β τ ρ_) sz r) 0 0 (va_A (cR cyI cyB rd0 tx bd β τ ρ) sz) := by
  refine Met.ofW (cc := cX1_readNumber) (maxL := 4) (ret := (some .int)) (by decide) rfl ?_
  intro p e s m args below meth c s₁ B hml hv
  obtain ⟨rfl, hsz, hP, hK, hD0⟩ := hv
  have hx := B.exec
  have hb := B.bytes
  have hr := B.returns
  have hts := atoms_spec (ws := wsX1_readNumber) B.pre
  have hown : s.vm.findClass RX1 = some m.cls := findClass_of_methodNamed B.named
  have hlocks := B.notSynchronized
  subst hsz
  have hA : ∀ q : Nat, s.heap.size ≤ q → va_A (cR cyI cyB rd0 tx bd β τ ρ) s.heap.size q := fun q h => Or.inr h
  have hB : Bd (dC, dI) [(cyI, .int), (cyB, .byte)] (va_A (cR cyI cyB rd0 tx bd β τ ρ) s.heap.size) s (cR cyI cyB rd0 tx bd β τ ρ) s.heap [] := ⟨hP, hD0.self, va_S.rf⟩
  have hq1 : (Cond.fieldLink RX1 32 "UndoJourneys$SetupReader" "kind" "I").before _ s = true := hts _ (List.mem_of_getElem? (i := 1) rfl)
  have hq2 : (Cond.fieldLink RX1 35 "UndoJourneys$SetupReader" "tokenStart" "I").before _ s = true := hts _ (List.mem_of_getElem? (i := 2) rfl)
  have hq3 : (Cond.fieldLink RX1 41 "UndoJourneys$SetupReader" "number" "I").before _ s = true := hts _ (List.mem_of_getElem? (i := 3) rfl)
  have hinX1 : ∀ w ∈ wsX10, w ∈ wsX1_readNumber := fun w h => List.mem_cons_of_mem _ (List.mem_append_right _ h)
  have hl := lv_entry [.ref rd0, .int i1, .int i2] (n := 4) (Nat.le_of_ble_eq_true rfl)
  rw [lg_entry_eq]
  generalize (lg_sl [.ref rd0, .int i1, .int i2] ++ List.replicate (4 - (lg_sl [.ref rd0, .int i1, .int i2]).length) Slot.unset).toArray = ls at hl ⊢
  have hl : lv_has ls 4 [(0, .ref rd0), (1, .int i1), (2, .int i2)] := hl
  clear hP hD0
  suffices main : ∀ (H : Heap) (locs : List Loc), Bd (dC, dI) [(cyI, .int), (cyB, .byte)] (va_A (cR cyI cyB rd0 tx bd β τ ρ) s.heap.size) s (cR cyI cyB rd0 tx bd β τ ρ) H locs → W p l e (headSpec wsX1_readNumber rmX1_readNumber).room s m ([.ref rd0, .int i1, .int i2] : List Value).toArray below meth c H locs 0 0 (MQ below (QiF (dC, dI) [(cyI, .int), (cyB, .byte)] (cR cyI cyB rd0 tx bd β τ ρ) (cR cyI cyB rd0 tx bd β τ ρ_) s.heap.size r) ([.ref rd0, .int i1, .int i2] : List Value).toArray s 0 0 (va_A (cR cyI cyB rd0 tx bd β τ ρ) s.heap.size)) (F0 m 0 ls []) from main _ _ hB
  clear hB
  intro H locs hB
  unfold mX1_readNumber at hf
  refine lv_aload_n hx hb dX1_readNumber_0 rfl (lv_at hl 0 rfl) ?_
  refine g_get (C := RX1) (T := TX1) (N := 11) hx hb hts hinX1 hown hK hB 0 rfl rfl 7 rfl hq1 rfl rfl dX1_readNumber_1 ?_
  refine lv_iconst (v := (1 : Int32)) hx hb dX1_readNumber_4 (by decide) ?_
  refine lv_icmp_eq (tgt := 20) hx hb dX1_readNumber_5 (by decide) (fun c1 => ?_) (fun c1 => ?_)
  · have hf := ite_t c1 hf
    refine lv_aload_n hx hb dX1_readNumber_20 rfl (lv_at hl 0 rfl) ?_
    refine g_get (C := RX1) (T := TX1) (N := 11) hx hb hts hinX1 hown hK hB 0 rfl rfl 10 rfl hq3 rfl rfl dX1_readNumber_21 ?_
    refine lv_iload_n hx hb dX1_readNumber_24 rfl (lv_at hl 1 rfl) ?_
    obtain ⟨t2, hD3, hf⟩ := ob1_s hf
    have kTt2 : t2 = true → ∀ (H : Heap) (locs : List Loc), Bd (dC, dI) [(cyI, .int), (cyB, .byte)] (va_A (cR cyI cyB rd0 tx bd β τ ρ) s.heap.size) s (cR cyI cyB rd0 tx bd β τ ρ) H locs → W p l e (headSpec wsX1_readNumber rmX1_readNumber).room s m ([.ref rd0, .int i1, .int i2] : List Value).toArray below meth c H locs 0 0 (MQ below (QiF (dC, dI) [(cyI, .int), (cyB, .byte)] (cR cyI cyB rd0 tx bd β τ ρ) (cR cyI cyB rd0 tx bd β τ ρ_) s.heap.size r) ([.ref rd0, .int i1, .int i2] : List Value).toArray s 0 0 (va_A (cR cyI cyB rd0 tx bd β τ ρ) s.heap.size)) (F0 m 36 ls []) := by
      intro ht H locs hB
      have hf := cnd_t ht hf
      refine lv_aload_n hx hb dX1_readNumber_36 rfl (lv_at hl 0 rfl) ?_
      refine lv_bipush (v := (-3 : Int32)) hx hb dX1_readNumber_37 (by decide) ?_
      refine lv_aload_n hx hb dX1_readNumber_39 rfl (lv_at hl 0 rfl) ?_
      refine g_get (C := RX1) (T := TX1) (N := 11) hx hb hts hinX1 hown hK hB 0 rfl rfl 8 rfl hq2 rfl rfl dX1_readNumber_40 ?_
      obtain ⟨ρ6, hc, hf⟩ := ob1_s hf
      refine g_callVv (As := [.int (-3 : Int32), .int (ρ 8 0)]) (rest := []) ⟨hx, hb, hml, hown, hts⟩ (kX1_fail l dC dI cyI cyB rd0 tx bd H.size hc) (cwV 2 hts gX1_readNumber_X1_fail rfl rfl rfl (by decide +kernel) ⟨Nat.le_of_ble_eq_true rfl, Nat.le_of_ble_eq_true rfl⟩) hK hB hA (g_recv (ci := 1) hK hB 0 rfl rfl rfl) rfl hl.1 rfl (Nat.le_of_ble_eq_true rfl) dX1_readNumber_43 ⟨Nat.zero_le _, Nat.zero_le _⟩ (fun H locs hB => ?_)
      refine lv_iconst (v := (0 : Int32)) hx hb dX1_readNumber_46 (by decide) ?_
      obtain ⟨e0, e1⟩ := inj2 hf
      subst e0
      subst e1
      exact g_iret hx hb hr hlocks hK hB dX1_readNumber_47
    have kFt2 : t2 = false → ∀ (H : Heap) (locs : List Loc), Bd (dC, dI) [(cyI, .int), (cyB, .byte)] (va_A (cR cyI cyB rd0 tx bd β τ ρ) s.heap.size) s (cR cyI cyB rd0 tx bd β τ ρ) H locs → W p l e (headSpec wsX1_readNumber rmX1_readNumber).room s m ([.ref rd0, .int i1, .int i2] : List Value).toArray below meth c H locs 0 0 (MQ below (QiF (dC, dI) [(cyI, .int), (cyB, .byte)] (cR cyI cyB rd0 tx bd β τ ρ) (cR cyI cyB rd0 tx bd β τ ρ_) s.heap.size r) ([.ref rd0, .int i1, .int i2] : List Value).toArray s 0 0 (va_A (cR cyI cyB rd0 tx bd β τ ρ) s.heap.size)) (F0 m 48 ls []) := by
      intro ht H locs hB
      have hf := cnd_f ht hf
      refine lv_aload_n hx hb dX1_readNumber_48 rfl (lv_at hl 0 rfl) ?_
      refine g_get (C := RX1) (T := TX1) (N := 11) hx hb hts hinX1 hown hK hB 0 rfl rfl 10 rfl hq3 rfl rfl dX1_readNumber_49 ?_
      refine lv_istore_n (lv' := [(3, .int (ρ 10 0)), (0, .ref rd0), (1, .int i1), (2, .int i2)]) hx hb dX1_readNumber_52 rfl hl (by decide) rfl (fun ls hl => ?_)
      refine lv_aload_n hx hb dX1_readNumber_53 rfl (lv_at hl 1 rfl) ?_
      obtain ⟨ρ7, hc, hf⟩ := ob1_s hf
      refine g_callVv (As := []) (rest := []) ⟨hx, hb, hml, hown, hts⟩ (kX1_nextToken l dC dI cyI cyB rd0 tx bd H.size hc) (cwV 0 hts gX1_readNumber_X1_nextToken rfl rfl rfl (by decide +kernel) ⟨Nat.le_of_ble_eq_true rfl, Nat.le_of_ble_eq_true rfl⟩) hK hB hA (g_recv (ci := 1) hK hB 0 rfl rfl rfl) rfl hl.1 rfl (Nat.le_of_ble_eq_true rfl) dX1_readNumber_54 ⟨Nat.zero_le _, Nat.zero_le _⟩ (fun H locs hB => ?_)
      refine lv_iload_n hx hb dX1_readNumber_57 rfl (lv_at hl 0 rfl) ?_
      obtain ⟨e0, e1⟩ := inj2 hf
      subst e0
      subst e1
      exact g_iret hx hb hr hlocks hK hB dX1_readNumber_58
    refine lv_icmp_lt (tgt := 36) hx hb dX1_readNumber_25 (by decide) (fun c4 => ?_) (fun c4 => ?_)
    · have hD3 := ite_t c4 hD3
      have e0 := inj1 hD3
      exact kTt2 e0.symm _ _ hB
    · have hD3 := ite_f c4 hD3
      refine lv_aload_n hx hb dX1_readNumber_28 rfl (lv_at hl 0 rfl) ?_
      refine g_get (C := RX1) (T := TX1) (N := 11) hx hb hts hinX1 hown hK hB 0 rfl rfl 10 rfl hq3 rfl rfl dX1_readNumber_29 ?_
      refine lv_iload_n hx hb dX1_readNumber_32 rfl (lv_at hl 2 rfl) ?_
      refine lv_icmp_le (tgt := 48) hx hb dX1_readNumber_33 (by decide) (fun c5 => ?_) (fun c5 => ?_)
      · have hD3 := ite_t c5 hD3
        have e0 := inj1 hD3
        exact kFt2 e0.symm _ _ hB
      · have hD3 := ite_f c5 hD3
        have e0 := inj1 hD3
        exact kTt2 e0.symm _ _ hB
  · have hf := ite_f c1 hf
    refine lv_aload_n hx hb dX1_readNumber_8 rfl (lv_at hl 0 rfl) ?_
    refine lv_bipush (v := (-2 : Int32)) hx hb dX1_readNumber_9 (by decide) ?_
    refine lv_aload_n hx hb dX1_readNumber_11 rfl (lv_at hl 0 rfl) ?_
    refine g_get (C := RX1) (T := TX1) (N := 11) hx hb hts hinX1 hown hK hB 0 rfl rfl 8 rfl hq2 rfl rfl dX1_readNumber_12 ?_
    obtain ⟨ρ8, hc, hf⟩ := ob1_s hf
    refine g_callVv (As := [.int (-2 : Int32), .int (ρ 8 0)]) (rest := []) ⟨hx, hb, hml, hown, hts⟩ (kX1_fail l dC dI cyI cyB rd0 tx bd H.size hc) (cwV 2 hts gX1_readNumber_X1_fail rfl rfl rfl (by decide +kernel) ⟨Nat.le_of_ble_eq_true rfl, Nat.le_of_ble_eq_true rfl⟩) hK hB hA (g_recv (ci := 1) hK hB 0 rfl rfl rfl) rfl hl.1 rfl (Nat.le_of_ble_eq_true rfl) dX1_readNumber_15 ⟨Nat.zero_le _, Nat.zero_le _⟩ (fun H locs hB => ?_)
    refine lv_iconst (v := (0 : Int32)) hx hb dX1_readNumber_18 (by decide) ?_
    obtain ⟨e0, e1⟩ := inj2 hf
    subst e0
    subst e1
    exact g_iret hx hb hr hlocks hK hB dX1_readNumber_19

abbrev rmX1_readStock : Room := { frames := 3, cells := 0, slots := 0, locals := 65 }

set_option maxHeartbeats 4000000 in
set_option maxRecDepth 100000 in
theorem kX1_readStock (l : Launch) (dC : Nat → ClassId) (dI : Nat → Nat → Nat) (cyI cyB : ClassId) (rd0 tx : Nat) (bd : Nat → Nat) (sz : Nat) {fu : Nat} {β : FS} {τ : MS} {ρ : MS} {τ_ : MS} {ρ_ : MS} (hf : mX1_readStock fu β τ ρ = some (τ_, ρ_)) : Met l yX1_readStock wsX1_readStock rmX1_readStock (PcF (dC, dI) [(cyI, .int), (cyB, .byte)] (cR cyI cyB rd0 tx bd β τ ρ) sz [.ref rd0]) (QvF (dC, dI) [(cyI, .int), (cyB, .byte)] (cR cyI cyB rd0 tx bd β τ ρ) (cR cyI cyB rd0 tx bd β τ_ ρ_) sz) 0 0 (va_A (cR cyI cyB rd0 tx bd β τ ρ) sz) := by
  refine Met.ofW (cc := cX1_readStock) (maxL := 3) (ret := none) (by decide) rfl ?_
  intro p e s m args below meth c s₁ B hml hv
  obtain ⟨rfl, hsz, hP, hK, hD0⟩ := hv
  have hx := B.exec
  have hb := B.bytes
  have hr := B.returns
  have hts := atoms_spec (ws := wsX1_readStock) B.pre
  have hown : s.vm.findClass RX1 = some m.cls := findClass_of_methodNamed B.named
  have hlocks := B.notSynchronized
  subst hsz
  have hA : ∀ q : Nat, s.heap.size ≤ q → va_A (cR cyI cyB rd0 tx bd β τ ρ) s.heap.size q := fun q h => Or.inr h
  have hB : Bd (dC, dI) [(cyI, .int), (cyB, .byte)] (va_A (cR cyI cyB rd0 tx bd β τ ρ) s.heap.size) s (cR cyI cyB rd0 tx bd β τ ρ) s.heap [] := ⟨hP, hD0.self, va_S.rf⟩
  have hq1 : (Cond.fieldLink RX1 12 "UndoJourneys$SetupReader" "setup" "LUndoJourneys$Setup;").before _ s = true := hts _ (List.mem_of_getElem? (i := 1) rfl)
  have hq2 : (Cond.fieldLink RX1 35 "UndoJourneys$SetupReader" "tokenStart" "I").before _ s = true := hts _ (List.mem_of_getElem? (i := 2) rfl)
  have hinX0 : ∀ w ∈ wsX00, w ∈ wsX1_readStock := fun w h => List.mem_cons_of_mem _ (List.mem_append_right _ h)
  have hinX1 : ∀ w ∈ wsX10, w ∈ wsX1_readStock := fun w h => List.mem_cons_of_mem _ (List.mem_append_left _ (List.mem_append_right _ h))
  have hl := lv_entry [.ref rd0] (n := 3) (Nat.le_of_ble_eq_true rfl)
  rw [lg_entry_eq]
  generalize (lg_sl [.ref rd0] ++ List.replicate (3 - (lg_sl [.ref rd0]).length) Slot.unset).toArray = ls at hl ⊢
  have hl : lv_has ls 3 [(0, .ref rd0)] := hl
  clear hP hD0
  suffices main : ∀ (H : Heap) (locs : List Loc), Bd (dC, dI) [(cyI, .int), (cyB, .byte)] (va_A (cR cyI cyB rd0 tx bd β τ ρ) s.heap.size) s (cR cyI cyB rd0 tx bd β τ ρ) H locs → W p l e (headSpec wsX1_readStock rmX1_readStock).room s m ([.ref rd0] : List Value).toArray below meth c H locs 0 0 (MQ below (QvF (dC, dI) [(cyI, .int), (cyB, .byte)] (cR cyI cyB rd0 tx bd β τ ρ) (cR cyI cyB rd0 tx bd β τ_ ρ_) s.heap.size) ([.ref rd0] : List Value).toArray s 0 0 (va_A (cR cyI cyB rd0 tx bd β τ ρ) s.heap.size)) (F0 m 0 ls []) from main _ _ hB
  clear hB
  intro H locs hB
  unfold mX1_readStock at hf
  refine lv_aload_n hx hb dX1_readStock_0 rfl (lv_at hl 0 rfl) ?_
  refine g_get (C := RX1) (T := TX1) (N := 11) hx hb hts hinX1 hown hK hB 0 rfl rfl 0 rfl hq1 rfl rfl dX1_readStock_1 ?_
  obtain ⟨r1, hc, hf⟩ := ob1_s hf
  refine g_pcutVz (As := []) (rest := []) (w2 := (cR cyI cyB rd0 tx bd β τ ρ)) ⟨hx, hb, hml, hown, hts⟩ (kX0_hasRoomForStock l dC dI cyI bd H.size hc) (cwV 0 hts gX1_readStock_X0_hasRoomForStock rfl rfl rfl (by decide +kernel) ⟨Nat.le_of_ble_eq_true rfl, Nat.le_of_ble_eq_true rfl⟩) (hK.sub [0] rfl) hB hA (g_recv (ci := 0) hK hB 2 rfl rfl rfl) (cR_perm cyI cyB rd0 tx bd _ _ _) (cR_perm cyI cyB rd0 tx bd _ _ _).symm rfl hl.1 rfl (Nat.le_of_ble_eq_true rfl) dX1_readStock_4 ⟨Nat.zero_le _, Nat.zero_le _⟩ (fun z2 H locs hB => ?_)
  refine lv_if_ne (tgt := 21) hx hb dX1_readStock_7 (by decide) (fun c3 => ?_) (fun c3 => ?_)
  · have hf := ite_f c3 hf
    refine lv_aload_n hx hb dX1_readStock_21 rfl (lv_at hl 0 rfl) ?_
    obtain ⟨ρ4, hc, hf⟩ := ob1_s hf
    refine g_callVv (As := []) (rest := []) ⟨hx, hb, hml, hown, hts⟩ (kX1_nextToken l dC dI cyI cyB rd0 tx bd H.size hc) (cwV 0 hts gX1_readStock_X1_nextToken rfl rfl rfl (by decide +kernel) ⟨Nat.le_of_ble_eq_true rfl, Nat.le_of_ble_eq_true rfl⟩) hK hB hA (g_recv (ci := 1) hK hB 0 rfl rfl rfl) rfl hl.1 rfl (Nat.le_of_ble_eq_true rfl) dX1_readStock_22 ⟨Nat.zero_le _, Nat.zero_le _⟩ (fun H locs hB => ?_)
    refine lv_aload_n hx hb dX1_readStock_25 rfl (lv_at hl 0 rfl) ?_
    refine lv_iconst (v := (0 : Int32)) hx hb dX1_readStock_26 (by decide) ?_
    refine lv_sipush (v := (9999 : Int32)) hx hb dX1_readStock_27 (by decide) ?_
    obtain ⟨r5, ρ6, hc, hf⟩ := ob2_s hf
    refine g_callVi (As := [.int (0 : Int32), .int (9999 : Int32)]) (rest := []) ⟨hx, hb, hml, hown, hts⟩ (kX1_readNumber l dC dI cyI cyB rd0 tx bd H.size hc) (cwV 2 hts gX1_readStock_X1_readNumber rfl rfl rfl (by decide +kernel) ⟨Nat.le_of_ble_eq_true rfl, Nat.le_of_ble_eq_true rfl⟩) hK hB hA (g_recv (ci := 1) hK hB 0 rfl rfl rfl) rfl hl.1 rfl (Nat.le_of_ble_eq_true rfl) dX1_readStock_30 ⟨Nat.zero_le _, Nat.zero_le _⟩ (fun H locs hB => ?_)
    refine lv_istore_n (lv' := [(1, .int r5), (0, .ref rd0)]) hx hb dX1_readStock_33 rfl hl (by decide) rfl (fun ls hl => ?_)
    refine lv_aload_n hx hb dX1_readStock_34 rfl (lv_at hl 1 rfl) ?_
    refine lv_iconst (v := (1 : Int32)) hx hb dX1_readStock_35 (by decide) ?_
    refine lv_bipush (v := (9 : Int32)) hx hb dX1_readStock_36 (by decide) ?_
    obtain ⟨r7, ρ8, hc, hf⟩ := ob2_s hf
    refine g_callVi (As := [.int (1 : Int32), .int (9 : Int32)]) (rest := []) ⟨hx, hb, hml, hown, hts⟩ (kX1_readNumber l dC dI cyI cyB rd0 tx bd H.size hc) (cwV 2 hts gX1_readStock_X1_readNumber rfl rfl rfl (by decide +kernel) ⟨Nat.le_of_ble_eq_true rfl, Nat.le_of_ble_eq_true rfl⟩) hK hB hA (g_recv (ci := 1) hK hB 0 rfl rfl rfl) rfl hl.1 rfl (Nat.le_of_ble_eq_true rfl) dX1_readStock_38 ⟨Nat.zero_le _, Nat.zero_le _⟩ (fun H locs hB => ?_)
    refine lv_istore_n (lv' := [(2, .int r7), (1, .int r5), (0, .ref rd0)]) hx hb dX1_readStock_41 rfl hl (by decide) rfl (fun ls hl => ?_)
    refine lv_aload_n hx hb dX1_readStock_42 rfl (lv_at hl 2 rfl) ?_
    refine g_get (C := RX1) (T := TX1) (N := 11) hx hb hts hinX1 hown hK hB 0 rfl rfl 0 rfl hq1 rfl rfl dX1_readStock_43 ?_
    refine lv_iload_n hx hb dX1_readStock_46 rfl (lv_at hl 1 rfl) ?_
    refine lv_iload_n hx hb dX1_readStock_47 rfl (lv_at hl 0 rfl) ?_
    obtain ⟨τ9, hc, hf⟩ := ob1_s hf
    refine g_pcutVv (As := [.int r5, .int r7]) (rest := []) (w2 := (cR cyI cyB rd0 tx bd β τ9 ρ8)) ⟨hx, hb, hml, hown, hts⟩ (kX0_addStock l dC dI cyI bd H.size hc) (cwV 2 hts gX1_readStock_X0_addStock rfl rfl rfl (by decide +kernel) ⟨Nat.le_of_ble_eq_true rfl, Nat.le_of_ble_eq_true rfl⟩) (hK.sub [0] rfl) hB hA (g_recv (ci := 0) hK hB 2 rfl rfl rfl) (cR_perm cyI cyB rd0 tx bd _ _ _) (cR_perm cyI cyB rd0 tx bd _ _ _).symm rfl hl.1 rfl (Nat.le_of_ble_eq_true rfl) dX1_readStock_48 ⟨Nat.zero_le _, Nat.zero_le _⟩ (fun H locs hB => ?_)
    obtain ⟨e0, e1⟩ := inj2 hf
    subst e0
    subst e1
    exact g_vret hx hb hr hlocks hK hB dX1_readStock_51
  · have hf := ite_t c3 hf
    refine lv_aload_n hx hb dX1_readStock_10 rfl (lv_at hl 0 rfl) ?_
    refine lv_bipush (v := (-4 : Int32)) hx hb dX1_readStock_11 (by decide) ?_
    refine lv_aload_n hx hb dX1_readStock_13 rfl (lv_at hl 0 rfl) ?_
    refine g_get (C := RX1) (T := TX1) (N := 11) hx hb hts hinX1 hown hK hB 0 rfl rfl 8 rfl hq2 rfl rfl dX1_readStock_14 ?_
    obtain ⟨ρ10, hc, hf⟩ := ob1_s hf
    refine g_callVv (As := [.int (-4 : Int32), .int (ρ 8 0)]) (rest := []) ⟨hx, hb, hml, hown, hts⟩ (kX1_fail l dC dI cyI cyB rd0 tx bd H.size hc) (cwV 2 hts gX1_readStock_X1_fail rfl rfl rfl (by decide +kernel) ⟨Nat.le_of_ble_eq_true rfl, Nat.le_of_ble_eq_true rfl⟩) hK hB hA (g_recv (ci := 1) hK hB 0 rfl rfl rfl) rfl hl.1 rfl (Nat.le_of_ble_eq_true rfl) dX1_readStock_17 ⟨Nat.zero_le _, Nat.zero_le _⟩ (fun H locs hB => ?_)
    obtain ⟨e0, e1⟩ := inj2 hf
    subst e0
    subst e1
    exact g_vret hx hb hr hlocks hK hB dX1_readStock_20

abbrev rmX1_readStep : Room := { frames := 6, cells := 0, slots := 0, locals := 128 }

set_option maxHeartbeats 4000000 in
set_option maxRecDepth 100000 in
theorem kX1_readStep (l : Launch) (dC : Nat → ClassId) (dI : Nat → Nat → Nat) (cyI cyB : ClassId) (rd0 tx : Nat) (bd : Nat → Nat) (kS : Nat → Nat) (sz : Nat) {fu : Nat} {β : FS} {τ : MS} {ρ : MS} {i1 : Int32} {τ_ : MS} {ρ_ : MS} (hf : mX1_readStep fu β τ ρ i1 = some (τ_, ρ_)) : Met l yX1_readStep wsX1_readStep rmX1_readStep (PcJ (dC, dI) [(cyI, .int), (cyB, .byte)] kS (cR cyI cyB rd0 tx bd β τ ρ) sz [.ref rd0, .int i1]) (QvF (dC, dI) [(cyI, .int), (cyB, .byte)] (cR cyI cyB rd0 tx bd β τ ρ) (cR cyI cyB rd0 tx bd β τ_ ρ_) sz) 0 0 (va_A (cR cyI cyB rd0 tx bd β τ ρ) sz) := by
  refine Met.ofW (cc := cX1_readStep) (maxL := 8) (ret := none) (by decide) rfl ?_
  intro p e s m args below meth c s₁ B hml hv
  obtain ⟨rfl, ⟨hsz, hP, hK, hD0⟩, hJ⟩ := hv
  have hx := B.exec
  have hb := B.bytes
  have hr := B.returns
  have hts := atoms_spec (ws := wsX1_readStep) B.pre
  have hown : s.vm.findClass RX1 = some m.cls := findClass_of_methodNamed B.named
  have hlocks := B.notSynchronized
  subst hsz
  have hA : ∀ q : Nat, s.heap.size ≤ q → va_A (cR cyI cyB rd0 tx bd β τ ρ) s.heap.size q := fun q h => Or.inr h
  have hB : Bd (dC, dI) [(cyI, .int), (cyB, .byte)] (va_A (cR cyI cyB rd0 tx bd β τ ρ) s.heap.size) s (cR cyI cyB rd0 tx bd β τ ρ) s.heap [] := ⟨hP, hD0.self, va_S.rf⟩
  have hq1 : (Cond.fieldLink RX1 35 "UndoJourneys$SetupReader" "tokenStart" "I").before _ s = true := hts _ (List.mem_of_getElem? (i := 1) rfl)
  have hq2 : (Cond.fieldLink RX1 12 "UndoJourneys$SetupReader" "setup" "LUndoJourneys$Setup;").before _ s = true := hts _ (List.mem_of_getElem? (i := 2) rfl)
  have hq3 : (Cond.fieldLink RX1 123 "UndoJourneys$Setup" "stocks" "I").before _ s = true := hts _ (List.mem_of_getElem? (i := 3) rfl)
  have hinX0 : ∀ w ∈ wsX00, w ∈ wsX1_readStep := fun w h => List.mem_cons_of_mem _ (List.mem_append_right _ h)
  have hinX1 : ∀ w ∈ wsX10, w ∈ wsX1_readStep := fun w h => List.mem_cons_of_mem _ (List.mem_append_left _ (List.mem_append_right _ h))
  have hl := lv_entry [.ref rd0, .int i1] (n := 8) (Nat.le_of_ble_eq_true rfl)
  rw [lg_entry_eq]
  generalize (lg_sl [.ref rd0, .int i1] ++ List.replicate (8 - (lg_sl [.ref rd0, .int i1]).length) Slot.unset).toArray = ls at hl ⊢
  have hl : lv_has ls 8 [(0, .ref rd0), (1, .int i1)] := hl
  clear hP hD0
  suffices main : ∀ (H : Heap) (locs : List Loc), Bd (dC, dI) [(cyI, .int), (cyB, .byte)] (va_A (cR cyI cyB rd0 tx bd β τ ρ) s.heap.size) s (cR cyI cyB rd0 tx bd β τ ρ) H locs → W p l e (headSpec wsX1_readStep rmX1_readStep).room s m ([.ref rd0, .int i1] : List Value).toArray below meth c H locs 0 0 (MQ below (QvF (dC, dI) [(cyI, .int), (cyB, .byte)] (cR cyI cyB rd0 tx bd β τ ρ) (cR cyI cyB rd0 tx bd β τ_ ρ_) s.heap.size) ([.ref rd0, .int i1] : List Value).toArray s 0 0 (va_A (cR cyI cyB rd0 tx bd β τ ρ) s.heap.size)) (F0 m 0 ls []) from main _ _ hB
  clear hB
  intro H locs hB
  unfold mX1_readStep at hf
  refine lv_aload_n hx hb dX1_readStep_0 rfl (lv_at hl 0 rfl) ?_
  refine g_get (C := RX1) (T := TX1) (N := 11) hx hb hts hinX1 hown hK hB 0 rfl rfl 8 rfl hq1 rfl rfl dX1_readStep_1 ?_
  refine lv_istore_n (lv' := [(2, .int (ρ 8 0)), (0, .ref rd0), (1, .int i1)]) hx hb dX1_readStep_4 rfl hl (by decide) rfl (fun ls hl => ?_)
  refine lv_aload_n hx hb dX1_readStep_5 rfl (lv_at hl 1 rfl) ?_
  refine lv_iconst (v := (0 : Int32)) hx hb dX1_readStep_6 (by decide) ?_
  refine lv_aload_n hx hb dX1_readStep_7 rfl (lv_at hl 1 rfl) ?_
  refine g_get (C := RX1) (T := TX1) (N := 11) hx hb hts hinX1 hown hK hB 0 rfl rfl 0 rfl hq2 rfl rfl dX1_readStep_8 ?_
  refine g_get (C := RX0) (T := TX0) (N := 17) hx hb hts hinX0 hown hK hB 2 rfl rfl 2 rfl hq3 rfl rfl dX1_readStep_11 ?_
  refine lv_iconst (v := (1 : Int32)) hx hb dX1_readStep_14 (by decide) ?_
  refine lv_isub hx hb dX1_readStep_15 ?_
  obtain ⟨r1, ρ2, hc, hf⟩ := ob2_s hf
  refine g_callVi (As := [.int (0 : Int32), .int ((τ 2 0) - (1 : Int32))]) (rest := []) ⟨hx, hb, hml, hown, hts⟩ (kX1_readNumber l dC dI cyI cyB rd0 tx bd H.size hc) (cwV 2 hts gX1_readStep_X1_readNumber rfl rfl rfl (by decide +kernel) ⟨Nat.le_of_ble_eq_true rfl, Nat.le_of_ble_eq_true rfl⟩) hK hB hA (g_recv (ci := 1) hK hB 0 rfl rfl rfl) rfl hl.1 rfl (Nat.le_of_ble_eq_true rfl) dX1_readStep_16 ⟨Nat.zero_le _, Nat.zero_le _⟩ (fun H locs hB => ?_)
  refine lv_istore_n (lv' := [(3, .int r1), (2, .int (ρ 8 0)), (0, .ref rd0), (1, .int i1)]) hx hb dX1_readStep_19 rfl hl (by decide) rfl (fun ls hl => ?_)
  refine lv_aload_n hx hb dX1_readStep_20 rfl (lv_at hl 2 rfl) ?_
  refine g_get (C := RX1) (T := TX1) (N := 11) hx hb hts hinX1 hown hK hB 0 rfl rfl 0 rfl hq2 rfl rfl dX1_readStep_21 ?_
  obtain ⟨r3, hc, hf⟩ := ob1_s hf
  refine g_pcutVz (As := []) (rest := []) (w2 := (cR cyI cyB rd0 tx bd β τ ρ2)) ⟨hx, hb, hml, hown, hts⟩ (kX0_hasRoomForStep l dC dI cyI bd H.size hc) (cwV 0 hts gX1_readStep_X0_hasRoomForStep rfl rfl rfl (by decide +kernel) ⟨Nat.le_of_ble_eq_true rfl, Nat.le_of_ble_eq_true rfl⟩) (hK.sub [0] rfl) hB hA (g_recv (ci := 0) hK hB 2 rfl rfl rfl) (cR_perm cyI cyB rd0 tx bd _ _ _) (cR_perm cyI cyB rd0 tx bd _ _ _).symm rfl hl.1 rfl (Nat.le_of_ble_eq_true rfl) dX1_readStep_24 ⟨Nat.zero_le _, Nat.zero_le _⟩ (fun z4 H locs hB => ?_)
  refine lv_if_ne (tgt := 38) hx hb dX1_readStep_27 (by decide) (fun c5 => ?_) (fun c5 => ?_)
  · have hf := ite_f c5 hf
    refine lv_aload_n hx hb dX1_readStep_38 rfl (lv_at hl 2 rfl) ?_
    refine lv_bipush (v := (42 : Int32)) hx hb dX1_readStep_39 (by decide) ?_
    obtain ⟨ρ6, hc, hf⟩ := ob1_s hf
    refine g_callVv (As := [.int (42 : Int32)]) (rest := []) ⟨hx, hb, hml, hown, hts⟩ (kX1_takeSign l dC dI cyI cyB rd0 tx bd H.size hc) (cwV 1 hts gX1_readStep_X1_takeSign rfl rfl rfl (by decide +kernel) ⟨Nat.le_of_ble_eq_true rfl, Nat.le_of_ble_eq_true rfl⟩) hK hB hA (g_recv (ci := 1) hK hB 0 rfl rfl rfl) rfl hl.1 rfl (Nat.le_of_ble_eq_true rfl) dX1_readStep_41 ⟨Nat.zero_le _, Nat.zero_le _⟩ (fun H locs hB => ?_)
    refine lv_aload_n hx hb dX1_readStep_44 rfl (lv_at hl 2 rfl) ?_
    refine lv_iconst (v := (1 : Int32)) hx hb dX1_readStep_45 (by decide) ?_
    refine lv_sipush (v := (999 : Int32)) hx hb dX1_readStep_46 (by decide) ?_
    obtain ⟨r7, ρ8, hc, hf⟩ := ob2_s hf
    refine g_callVi (As := [.int (1 : Int32), .int (999 : Int32)]) (rest := []) ⟨hx, hb, hml, hown, hts⟩ (kX1_readNumber l dC dI cyI cyB rd0 tx bd H.size hc) (cwV 2 hts gX1_readStep_X1_readNumber rfl rfl rfl (by decide +kernel) ⟨Nat.le_of_ble_eq_true rfl, Nat.le_of_ble_eq_true rfl⟩) hK hB hA (g_recv (ci := 1) hK hB 0 rfl rfl rfl) rfl hl.1 rfl (Nat.le_of_ble_eq_true rfl) dX1_readStep_49 ⟨Nat.zero_le _, Nat.zero_le _⟩ (fun H locs hB => ?_)
    refine lv_istore (lv' := [(4, .int r7), (3, .int r1), (2, .int (ρ 8 0)), (0, .ref rd0), (1, .int i1)]) hx hb dX1_readStep_52 hl (by decide) rfl (fun ls hl => ?_)
    refine lv_aload_n hx hb dX1_readStep_54 rfl (lv_at hl 3 rfl) ?_
    refine lv_bipush (v := (58 : Int32)) hx hb dX1_readStep_55 (by decide) ?_
    obtain ⟨ρ9, hc, hf⟩ := ob1_s hf
    refine g_callVv (As := [.int (58 : Int32)]) (rest := []) ⟨hx, hb, hml, hown, hts⟩ (kX1_takeSign l dC dI cyI cyB rd0 tx bd H.size hc) (cwV 1 hts gX1_readStep_X1_takeSign rfl rfl rfl (by decide +kernel) ⟨Nat.le_of_ble_eq_true rfl, Nat.le_of_ble_eq_true rfl⟩) hK hB hA (g_recv (ci := 1) hK hB 0 rfl rfl rfl) rfl hl.1 rfl (Nat.le_of_ble_eq_true rfl) dX1_readStep_57 ⟨Nat.zero_le _, Nat.zero_le _⟩ (fun H locs hB => ?_)
    refine lv_aload_n hx hb dX1_readStep_60 rfl (lv_at hl 3 rfl) ?_
    refine lv_iconst (v := (1 : Int32)) hx hb dX1_readStep_61 (by decide) ?_
    refine lv_bipush (v := (99 : Int32)) hx hb dX1_readStep_62 (by decide) ?_
    obtain ⟨r10, ρ11, hc, hf⟩ := ob2_s hf
    refine g_callVi (As := [.int (1 : Int32), .int (99 : Int32)]) (rest := []) ⟨hx, hb, hml, hown, hts⟩ (kX1_readNumber l dC dI cyI cyB rd0 tx bd H.size hc) (cwV 2 hts gX1_readStep_X1_readNumber rfl rfl rfl (by decide +kernel) ⟨Nat.le_of_ble_eq_true rfl, Nat.le_of_ble_eq_true rfl⟩) hK hB hA (g_recv (ci := 1) hK hB 0 rfl rfl rfl) rfl hl.1 rfl (Nat.le_of_ble_eq_true rfl) dX1_readStep_64 ⟨Nat.zero_le _, Nat.zero_le _⟩ (fun H locs hB => ?_)
    refine lv_istore (lv' := [(5, .int r10), (4, .int r7), (3, .int r1), (2, .int (ρ 8 0)), (0, .ref rd0), (1, .int i1)]) hx hb dX1_readStep_67 hl (by decide) rfl (fun ls hl => ?_)
    refine lv_aload_n hx hb dX1_readStep_69 rfl (lv_at hl 4 rfl) ?_
    refine g_ldcS hx hb hown hJ 7 rfl dX1_readStep_70 ?_
    obtain ⟨r12, ρ13, hc, hf⟩ := ob2_s hf
    refine g_jcallVz (As := [.ref (kS 7)]) (rest := []) ⟨hx, hb, hml, hown, hts⟩ hJ (kX1_skipsWord l dC dI cyI cyB rd0 tx bd kS H.size (by decide) hc) (cwV 1 hts gX1_readStep_X1_skipsWord rfl rfl rfl (by decide +kernel) ⟨Nat.le_of_ble_eq_true rfl, Nat.le_of_ble_eq_true rfl⟩) hK hB hA (g_recv (ci := 1) hK hB 0 rfl rfl rfl) rfl hl.1 rfl (Nat.le_of_ble_eq_true rfl) dX1_readStep_72 ⟨Nat.zero_le _, Nat.zero_le _⟩ (fun z14 H locs hB => ?_)
    obtain ⟨v15, ρ16, hJ17, hf⟩ := ob2_s hf
    have kJ18 : ∀ (H : Heap) (locs : List Loc) (ls : Array Slot), Bd (dC, dI) [(cyI, .int), (cyB, .byte)] (va_A (cR cyI cyB rd0 tx bd β τ ρ) s.heap.size) s (cR cyI cyB rd0 tx bd β τ ρ16) H locs → lv_has ls 8 [(5, .int r10), (4, .int r7), (3, .int r1), (0, .ref rd0), (1, .int i1)] → W p l e (headSpec wsX1_readStep rmX1_readStep).room s m ([.ref rd0, .int i1] : List Value).toArray below meth c H locs 0 0 (MQ below (QvF (dC, dI) [(cyI, .int), (cyB, .byte)] (cR cyI cyB rd0 tx bd β τ ρ) (cR cyI cyB rd0 tx bd β τ_ ρ_) s.heap.size) ([.ref rd0, .int i1] : List Value).toArray s 0 0 (va_A (cR cyI cyB rd0 tx bd β τ ρ) s.heap.size)) (F0 m 89 ls [.int v15]) := by
      intro H locs ls hB hl
      refine lv_istore (lv' := [(6, .int v15), (5, .int r10), (4, .int r7), (3, .int r1), (0, .ref rd0), (1, .int i1)]) hx hb dX1_readStep_89 hl (by decide) rfl (fun ls hl => ?_)
      refine lv_aload_n hx hb dX1_readStep_91 rfl (lv_at hl 4 rfl) ?_
      refine g_ldcS hx hb hown hJ 8 rfl dX1_readStep_92 ?_
      obtain ⟨r22, ρ23, hc, hf⟩ := ob2_s hf
      refine g_jcallVz (As := [.ref (kS 8)]) (rest := []) ⟨hx, hb, hml, hown, hts⟩ hJ (kX1_skipsWord l dC dI cyI cyB rd0 tx bd kS H.size (by decide) hc) (cwV 1 hts gX1_readStep_X1_skipsWord rfl rfl rfl (by decide +kernel) ⟨Nat.le_of_ble_eq_true rfl, Nat.le_of_ble_eq_true rfl⟩) hK hB hA (g_recv (ci := 1) hK hB 0 rfl rfl rfl) rfl hl.1 rfl (Nat.le_of_ble_eq_true rfl) dX1_readStep_94 ⟨Nat.zero_le _, Nat.zero_le _⟩ (fun z24 H locs hB => ?_)
      obtain ⟨v25, ρ26, hJ27, hf⟩ := ob2_s hf
      have kJ28 : ∀ (H : Heap) (locs : List Loc) (ls : Array Slot), Bd (dC, dI) [(cyI, .int), (cyB, .byte)] (va_A (cR cyI cyB rd0 tx bd β τ ρ) s.heap.size) s (cR cyI cyB rd0 tx bd β τ ρ26) H locs → lv_has ls 8 [(6, .int v15), (5, .int r10), (4, .int r7), (3, .int r1), (0, .ref rd0), (1, .int i1)] → W p l e (headSpec wsX1_readStep rmX1_readStep).room s m ([.ref rd0, .int i1] : List Value).toArray below meth c H locs 0 0 (MQ below (QvF (dC, dI) [(cyI, .int), (cyB, .byte)] (cR cyI cyB rd0 tx bd β τ ρ) (cR cyI cyB rd0 tx bd β τ_ ρ_) s.heap.size) ([.ref rd0, .int i1] : List Value).toArray s 0 0 (va_A (cR cyI cyB rd0 tx bd β τ ρ) s.heap.size)) (F0 m 111 ls [.int v25]) := by
        intro H locs ls hB hl
        refine lv_istore (lv' := [(7, .int v25), (6, .int v15), (5, .int r10), (4, .int r7), (3, .int r1), (0, .ref rd0), (1, .int i1)]) hx hb dX1_readStep_111 hl (by decide) rfl (fun ls hl => ?_)
        refine lv_aload_n hx hb dX1_readStep_113 rfl (lv_at hl 5 rfl) ?_
        refine g_get (C := RX1) (T := TX1) (N := 11) hx hb hts hinX1 hown hK hB 0 rfl rfl 0 rfl hq2 rfl rfl dX1_readStep_114 ?_
        refine lv_iload_n hx hb dX1_readStep_117 rfl (lv_at hl 6 rfl) ?_
        refine lv_iload_n hx hb dX1_readStep_118 rfl (lv_at hl 4 rfl) ?_
        refine lv_iload hx hb dX1_readStep_119 (lv_at hl 3 rfl) ?_
        refine lv_iload hx hb dX1_readStep_121 (lv_at hl 2 rfl) ?_
        refine lv_iload hx hb dX1_readStep_123 (lv_at hl 1 rfl) ?_
        refine lv_iload hx hb dX1_readStep_125 (lv_at hl 0 rfl) ?_
        obtain ⟨τ32, hc, hf⟩ := ob1_s hf
        refine g_pcutVv (As := [.int i1, .int r1, .int r7, .int r10, .int v15, .int v25]) (rest := []) (w2 := (cR cyI cyB rd0 tx bd β τ32 ρ26)) ⟨hx, hb, hml, hown, hts⟩ (kX0_addStep l dC dI cyI bd H.size hc) (cwV 6 hts gX1_readStep_X0_addStep rfl rfl rfl (by decide +kernel) ⟨Nat.le_of_ble_eq_true rfl, Nat.le_of_ble_eq_true rfl⟩) (hK.sub [0] rfl) hB hA (g_recv (ci := 0) hK hB 2 rfl rfl rfl) (cR_perm cyI cyB rd0 tx bd _ _ _) (cR_perm cyI cyB rd0 tx bd _ _ _).symm rfl hl.1 rfl (Nat.le_of_ble_eq_true rfl) dX1_readStep_127 ⟨Nat.zero_le _, Nat.zero_le _⟩ (fun H locs hB => ?_)
        obtain ⟨e0, e1⟩ := inj2 hf
        subst e0
        subst e1
        exact g_vret hx hb hr hlocks hK hB dX1_readStep_130
      refine lv_if_eq (tgt := 110) hx hb dX1_readStep_97 (by decide) (fun c29 => ?_) (fun c29 => ?_)
      · have hJ27 := ite_t c29 hJ27
        refine lv_iconst (v := (0 : Int32)) hx hb dX1_readStep_110 (by decide) ?_
        obtain ⟨e0, e1⟩ := inj2 hJ27
        subst e0
        subst e1
        exact kJ28 _ _ _ hB (lv_sub hl [0, 1, 2, 3, 4, 5] rfl)
      · have hJ27 := ite_f c29 hJ27
        refine lv_aload_n hx hb dX1_readStep_100 rfl (lv_at hl 4 rfl) ?_
        refine lv_iconst (v := (0 : Int32)) hx hb dX1_readStep_101 (by decide) ?_
        refine lv_bipush (v := (9 : Int32)) hx hb dX1_readStep_102 (by decide) ?_
        obtain ⟨r30, ρ31, hc, hJ27⟩ := ob2_s hJ27
        refine g_callVi (As := [.int (0 : Int32), .int (9 : Int32)]) (rest := []) ⟨hx, hb, hml, hown, hts⟩ (kX1_readNumber l dC dI cyI cyB rd0 tx bd H.size hc) (cwV 2 hts gX1_readStep_X1_readNumber rfl rfl rfl (by decide +kernel) ⟨Nat.le_of_ble_eq_true rfl, Nat.le_of_ble_eq_true rfl⟩) hK hB hA (g_recv (ci := 1) hK hB 0 rfl rfl rfl) rfl hl.1 rfl (Nat.le_of_ble_eq_true rfl) dX1_readStep_104 ⟨Nat.zero_le _, Nat.zero_le _⟩ (fun H locs hB => ?_)
        refine lv_goto (tgt := 111) hx hb dX1_readStep_107 (by decide) ?_
        obtain ⟨e0, e1⟩ := inj2 hJ27
        subst e0
        subst e1
        exact kJ28 _ _ _ hB (lv_sub hl [0, 1, 2, 3, 4, 5] rfl)
    refine lv_if_eq (tgt := 88) hx hb dX1_readStep_75 (by decide) (fun c19 => ?_) (fun c19 => ?_)
    · have hJ17 := ite_t c19 hJ17
      refine lv_iconst (v := (0 : Int32)) hx hb dX1_readStep_88 (by decide) ?_
      obtain ⟨e0, e1⟩ := inj2 hJ17
      subst e0
      subst e1
      exact kJ18 _ _ _ hB (lv_sub hl [0, 1, 2, 4, 5] rfl)
    · have hJ17 := ite_f c19 hJ17
      refine lv_aload_n hx hb dX1_readStep_78 rfl (lv_at hl 4 rfl) ?_
      refine lv_iconst (v := (0 : Int32)) hx hb dX1_readStep_79 (by decide) ?_
      refine lv_bipush (v := (9 : Int32)) hx hb dX1_readStep_80 (by decide) ?_
      obtain ⟨r20, ρ21, hc, hJ17⟩ := ob2_s hJ17
      refine g_callVi (As := [.int (0 : Int32), .int (9 : Int32)]) (rest := []) ⟨hx, hb, hml, hown, hts⟩ (kX1_readNumber l dC dI cyI cyB rd0 tx bd H.size hc) (cwV 2 hts gX1_readStep_X1_readNumber rfl rfl rfl (by decide +kernel) ⟨Nat.le_of_ble_eq_true rfl, Nat.le_of_ble_eq_true rfl⟩) hK hB hA (g_recv (ci := 1) hK hB 0 rfl rfl rfl) rfl hl.1 rfl (Nat.le_of_ble_eq_true rfl) dX1_readStep_82 ⟨Nat.zero_le _, Nat.zero_le _⟩ (fun H locs hB => ?_)
      refine lv_goto (tgt := 89) hx hb dX1_readStep_85 (by decide) ?_
      obtain ⟨e0, e1⟩ := inj2 hJ17
      subst e0
      subst e1
      exact kJ18 _ _ _ hB (lv_sub hl [0, 1, 2, 4, 5] rfl)
  · have hf := ite_t c5 hf
    refine lv_aload_n hx hb dX1_readStep_30 rfl (lv_at hl 2 rfl) ?_
    refine lv_bipush (v := (-4 : Int32)) hx hb dX1_readStep_31 (by decide) ?_
    refine lv_iload_n hx hb dX1_readStep_33 rfl (lv_at hl 1 rfl) ?_
    obtain ⟨ρ33, hc, hf⟩ := ob1_s hf
    refine g_callVv (As := [.int (-4 : Int32), .int (ρ 8 0)]) (rest := []) ⟨hx, hb, hml, hown, hts⟩ (kX1_fail l dC dI cyI cyB rd0 tx bd H.size hc) (cwV 2 hts gX1_readStep_X1_fail rfl rfl rfl (by decide +kernel) ⟨Nat.le_of_ble_eq_true rfl, Nat.le_of_ble_eq_true rfl⟩) hK hB hA (g_recv (ci := 1) hK hB 0 rfl rfl rfl) rfl hl.1 rfl (Nat.le_of_ble_eq_true rfl) dX1_readStep_34 ⟨Nat.zero_le _, Nat.zero_le _⟩ (fun H locs hB => ?_)
    obtain ⟨e0, e1⟩ := inj2 hf
    subst e0
    subst e1
    exact g_vret hx hb hr hlocks hK hB dX1_readStep_37

abbrev rmX1_readJourney : Room := { frames := 7, cells := 0, slots := 0, locals := 155 }

set_option maxHeartbeats 4000000 in
set_option maxRecDepth 100000 in
theorem kX1_readJourney (l : Launch) (dC : Nat → ClassId) (dI : Nat → Nat → Nat) (cyI cyB : ClassId) (rd0 tx : Nat) (bd : Nat → Nat) (kS : Nat → Nat) (sz : Nat) {fu : Nat} {β : FS} {τ : MS} {ρ : MS} {τ_ : MS} {ρ_ : MS} (hf : mX1_readJourney fu β τ ρ = some (τ_, ρ_)) : Met l yX1_readJourney wsX1_readJourney rmX1_readJourney (PcJ (dC, dI) [(cyI, .int), (cyB, .byte)] kS (cR cyI cyB rd0 tx bd β τ ρ) sz [.ref rd0]) (QvF (dC, dI) [(cyI, .int), (cyB, .byte)] (cR cyI cyB rd0 tx bd β τ ρ) (cR cyI cyB rd0 tx bd β τ_ ρ_) sz) 0 0 (va_A (cR cyI cyB rd0 tx bd β τ ρ) sz) := by
  refine Met.ofW (cc := cX1_readJourney) (maxL := 6) (ret := none) (by decide) rfl ?_
  intro p e s m args below meth c s₁ B hml hv
  obtain ⟨rfl, ⟨hsz, hP, hK, hD0⟩, hJ⟩ := hv
  have hx := B.exec
  have hb := B.bytes
  have hr := B.returns
  have hts := atoms_spec (ws := wsX1_readJourney) B.pre
  have hown : s.vm.findClass RX1 = some m.cls := findClass_of_methodNamed B.named
  have hlocks := B.notSynchronized
  subst hsz
  have hA : ∀ q : Nat, s.heap.size ≤ q → va_A (cR cyI cyB rd0 tx bd β τ ρ) s.heap.size q := fun q h => Or.inr h
  have hB : Bd (dC, dI) [(cyI, .int), (cyB, .byte)] (va_A (cR cyI cyB rd0 tx bd β τ ρ) s.heap.size) s (cR cyI cyB rd0 tx bd β τ ρ) s.heap [] := ⟨hP, hD0.self, va_S.rf⟩
  have hq1 : (Cond.fieldLink RX1 12 "UndoJourneys$SetupReader" "setup" "LUndoJourneys$Setup;").before _ s = true := hts _ (List.mem_of_getElem? (i := 1) rfl)
  have hq2 : (Cond.fieldLink RX1 35 "UndoJourneys$SetupReader" "tokenStart" "I").before _ s = true := hts _ (List.mem_of_getElem? (i := 2) rfl)
  have hq3 : (Cond.fieldLink RX1 18 "UndoJourneys$SetupReader" "error" "I").before _ s = true := hts _ (List.mem_of_getElem? (i := 3) rfl)
  have hinX0 : ∀ w ∈ wsX00, w ∈ wsX1_readJourney := fun w h => List.mem_cons_of_mem _ (List.mem_append_right _ h)
  have hinX1 : ∀ w ∈ wsX10, w ∈ wsX1_readJourney := fun w h => List.mem_cons_of_mem _ (List.mem_append_left _ (List.mem_append_right _ h))
  have hl := lv_entry [.ref rd0] (n := 6) (Nat.le_of_ble_eq_true rfl)
  rw [lg_entry_eq]
  generalize (lg_sl [.ref rd0] ++ List.replicate (6 - (lg_sl [.ref rd0]).length) Slot.unset).toArray = ls at hl ⊢
  have hl : lv_has ls 6 [(0, .ref rd0)] := hl
  clear hP hD0
  suffices main : ∀ (H : Heap) (locs : List Loc), Bd (dC, dI) [(cyI, .int), (cyB, .byte)] (va_A (cR cyI cyB rd0 tx bd β τ ρ) s.heap.size) s (cR cyI cyB rd0 tx bd β τ ρ) H locs → W p l e (headSpec wsX1_readJourney rmX1_readJourney).room s m ([.ref rd0] : List Value).toArray below meth c H locs 0 0 (MQ below (QvF (dC, dI) [(cyI, .int), (cyB, .byte)] (cR cyI cyB rd0 tx bd β τ ρ) (cR cyI cyB rd0 tx bd β τ_ ρ_) s.heap.size) ([.ref rd0] : List Value).toArray s 0 0 (va_A (cR cyI cyB rd0 tx bd β τ ρ) s.heap.size)) (F0 m 0 ls []) from main _ _ hB
  clear hB
  intro H locs hB
  unfold mX1_readJourney at hf
  refine lv_aload_n hx hb dX1_readJourney_0 rfl (lv_at hl 0 rfl) ?_
  refine g_get (C := RX1) (T := TX1) (N := 11) hx hb hts hinX1 hown hK hB 0 rfl rfl 0 rfl hq1 rfl rfl dX1_readJourney_1 ?_
  obtain ⟨r1, hc, hf⟩ := ob1_s hf
  refine g_pcutVz (As := []) (rest := []) (w2 := (cR cyI cyB rd0 tx bd β τ ρ)) ⟨hx, hb, hml, hown, hts⟩ (kX0_hasRoomForJourney l dC dI cyI bd H.size hc) (cwV 0 hts gX1_readJourney_X0_hasRoomForJourney rfl rfl rfl (by decide +kernel) ⟨Nat.le_of_ble_eq_true rfl, Nat.le_of_ble_eq_true rfl⟩) (hK.sub [0] rfl) hB hA (g_recv (ci := 0) hK hB 2 rfl rfl rfl) (cR_perm cyI cyB rd0 tx bd _ _ _) (cR_perm cyI cyB rd0 tx bd _ _ _).symm rfl hl.1 rfl (Nat.le_of_ble_eq_true rfl) dX1_readJourney_4 ⟨Nat.zero_le _, Nat.zero_le _⟩ (fun z2 H locs hB => ?_)
  refine lv_if_ne (tgt := 21) hx hb dX1_readJourney_7 (by decide) (fun c3 => ?_) (fun c3 => ?_)
  · have hf := ite_f c3 hf
    refine lv_aload_n hx hb dX1_readJourney_21 rfl (lv_at hl 0 rfl) ?_
    obtain ⟨ρ4, hc, hf⟩ := ob1_s hf
    refine g_callVv (As := []) (rest := []) ⟨hx, hb, hml, hown, hts⟩ (kX1_nextToken l dC dI cyI cyB rd0 tx bd H.size hc) (cwV 0 hts gX1_readJourney_X1_nextToken rfl rfl rfl (by decide +kernel) ⟨Nat.le_of_ble_eq_true rfl, Nat.le_of_ble_eq_true rfl⟩) hK hB hA (g_recv (ci := 1) hK hB 0 rfl rfl rfl) rfl hl.1 rfl (Nat.le_of_ble_eq_true rfl) dX1_readJourney_22 ⟨Nat.zero_le _, Nat.zero_le _⟩ (fun H locs hB => ?_)
    refine lv_aload_n hx hb dX1_readJourney_25 rfl (lv_at hl 0 rfl) ?_
    refine lv_iconst (v := (0 : Int32)) hx hb dX1_readJourney_26 (by decide) ?_
    refine lv_sipush (v := (999 : Int32)) hx hb dX1_readJourney_27 (by decide) ?_
    obtain ⟨r5, ρ6, hc, hf⟩ := ob2_s hf
    refine g_callVi (As := [.int (0 : Int32), .int (999 : Int32)]) (rest := []) ⟨hx, hb, hml, hown, hts⟩ (kX1_readNumber l dC dI cyI cyB rd0 tx bd H.size hc) (cwV 2 hts gX1_readJourney_X1_readNumber rfl rfl rfl (by decide +kernel) ⟨Nat.le_of_ble_eq_true rfl, Nat.le_of_ble_eq_true rfl⟩) hK hB hA (g_recv (ci := 1) hK hB 0 rfl rfl rfl) rfl hl.1 rfl (Nat.le_of_ble_eq_true rfl) dX1_readJourney_30 ⟨Nat.zero_le _, Nat.zero_le _⟩ (fun H locs hB => ?_)
    refine lv_istore_n (lv' := [(1, .int r5), (0, .ref rd0)]) hx hb dX1_readJourney_33 rfl hl (by decide) rfl (fun ls hl => ?_)
    refine lv_aload_n hx hb dX1_readJourney_34 rfl (lv_at hl 1 rfl) ?_
    refine g_get (C := RX1) (T := TX1) (N := 11) hx hb hts hinX1 hown hK hB 0 rfl rfl 0 rfl hq1 rfl rfl dX1_readJourney_35 ?_
    refine lv_iload_n hx hb dX1_readJourney_38 rfl (lv_at hl 0 rfl) ?_
    obtain ⟨τ7, hc, hf⟩ := ob1_s hf
    refine g_pcutVv (As := [.int r5]) (rest := []) (w2 := (cR cyI cyB rd0 tx bd β τ7 ρ6)) ⟨hx, hb, hml, hown, hts⟩ (kX0_addJourney l dC dI cyI bd H.size hc) (cwV 1 hts gX1_readJourney_X0_addJourney rfl rfl rfl (by decide +kernel) ⟨Nat.le_of_ble_eq_true rfl, Nat.le_of_ble_eq_true rfl⟩) (hK.sub [0] rfl) hB hA (g_recv (ci := 0) hK hB 2 rfl rfl rfl) (cR_perm cyI cyB rd0 tx bd _ _ _) (cR_perm cyI cyB rd0 tx bd _ _ _).symm rfl hl.1 rfl (Nat.le_of_ble_eq_true rfl) dX1_readJourney_39 ⟨Nat.zero_le _, Nat.zero_le _⟩ (fun H locs hB => ?_)
    refine lv_iconst (v := (0 : Int32)) hx hb dX1_readJourney_42 (by decide) ?_
    refine lv_istore_n (lv' := [(2, .int (0 : Int32)), (1, .int r5), (0, .ref rd0)]) hx hb dX1_readJourney_43 rfl hl (by decide) rfl (fun ls hl => ?_)
    refine lv_iconst (v := (1 : Int32)) hx hb dX1_readJourney_44 (by decide) ?_
    refine lv_istore_n (lv' := [(3, .int (1 : Int32)), (2, .int (0 : Int32)), (1, .int r5), (0, .ref rd0)]) hx hb dX1_readJourney_45 rfl hl (by decide) rfl (fun ls hl => ?_)
    refine lv_aload_n hx hb dX1_readJourney_46 rfl (lv_at hl 3 rfl) ?_
    refine lv_iload_n hx hb dX1_readJourney_47 rfl (lv_at hl 1 rfl) ?_
    obtain ⟨τ8, ρ9, hc, hf⟩ := ob2_s hf
    refine g_jcallVv (As := [.int (0 : Int32)]) (rest := []) ⟨hx, hb, hml, hown, hts⟩ hJ (kX1_readStep l dC dI cyI cyB rd0 tx bd kS H.size hc) (cwV 1 hts gX1_readJourney_X1_readStep rfl rfl rfl (by decide +kernel) ⟨Nat.le_of_ble_eq_true rfl, Nat.le_of_ble_eq_true rfl⟩) hK hB hA (g_recv (ci := 1) hK hB 0 rfl rfl rfl) rfl hl.1 rfl (Nat.le_of_ble_eq_true rfl) dX1_readJourney_48 ⟨Nat.zero_le _, Nat.zero_le _⟩ (fun H locs hB => ?_)
    refine lv_iconst (v := (0 : Int32)) hx hb dX1_readJourney_51 (by decide) ?_
    refine lv_istore (lv' := [(4, .int (0 : Int32)), (3, .int (1 : Int32)), (2, .int (0 : Int32)), (1, .int r5), (0, .ref rd0)]) hx hb dX1_readJourney_52 hl (by decide) rfl (fun ls hl => ?_)
    obtain ⟨b50, hL48, hf⟩ := ob1_s hf
    have kE46 : ∀ (τ44 : MS) (ρ45 : MS) (H : Heap) (locs : List Loc) (ls : Array Slot), Sum.inr (τ44, ρ45) = b50 → Bd (dC, dI) [(cyI, .int), (cyB, .byte)] (va_A (cR cyI cyB rd0 tx bd β τ ρ) s.heap.size) s (cR cyI cyB rd0 tx bd β τ44 ρ45) H locs → lv_has ls 6 [] → W p l e (headSpec wsX1_readJourney rmX1_readJourney).room s m ([.ref rd0] : List Value).toArray below meth c H locs 0 0 (MQ below (QvF (dC, dI) [(cyI, .int), (cyB, .byte)] (cR cyI cyB rd0 tx bd β τ ρ) (cR cyI cyB rd0 tx bd β τ_ ρ_) s.heap.size) ([.ref rd0] : List Value).toArray s 0 0 (va_A (cR cyI cyB rd0 tx bd β τ ρ) s.heap.size)) (F0 m 156 ls []) := by
      intro τ44 ρ45 H locs ls hb9 hB hl
      have hf := el2_r hb9 hf
      obtain ⟨e0, e1⟩ := inj2 hf
      subst e0
      subst e1
      exact g_vret hx hb hr hlocks hK hB dX1_readJourney_156
    have key47 : ∀ (n9 : Nat) (v51 : Int32) (v52 : Int32) (v53 : Int32) (τ54 : MS) (ρ55 : MS) (H : Heap) (locs : List Loc) (ls : Array Slot), loopM (fun st => mX1_readJourney_L54 fu β st.1 st.2.1 st.2.2.1 st.2.2.2.1 st.2.2.2.2) n9 (v51, v52, v53, τ54, ρ55) = some b50 → Bd (dC, dI) [(cyI, .int), (cyB, .byte)] (va_A (cR cyI cyB rd0 tx bd β τ ρ) s.heap.size) s (cR cyI cyB rd0 tx bd β τ54 ρ55) H locs → lv_has ls 6 [(4, .int v51), (3, .int v52), (2, .int v53), (0, .ref rd0)] → W p l e (headSpec wsX1_readJourney rmX1_readJourney).room s m ([.ref rd0] : List Value).toArray below meth c H locs 0 0 (MQ below (QvF (dC, dI) [(cyI, .int), (cyB, .byte)] (cR cyI cyB rd0 tx bd β τ ρ) (cR cyI cyB rd0 tx bd β τ_ ρ_) s.heap.size) ([.ref rd0] : List Value).toArray s 0 0 (va_A (cR cyI cyB rd0 tx bd β τ ρ) s.heap.size)) (F0 m 54 ls []) := by
      intro n9
      induction n9 with
      | zero => intro v51 v52 v53 τ54 ρ55 H locs ls hL48; exact (loopM_z hL48).elim
      | succ n9 ih9 =>
        intro v51 v52 v53 τ54 ρ55 H locs ls hL48 hB hl
        obtain ⟨o56, hg49, hL48⟩ := loopM_s hL48
        have hg49 : mX1_readJourney_L54 fu β v51 v52 v53 τ54 ρ55 = some o56 := hg49
        unfold mX1_readJourney_L54 at hg49
        refine lv_iload hx hb dX1_readJourney_54 (lv_at hl 0 rfl) ?_
        refine lv_bipush (v := (40 : Int32)) hx hb dX1_readJourney_56 (by decide) ?_
        obtain ⟨t57, hD58, hg49⟩ := ob1_s hg49
        have kTt57 : t57 = true → ∀ (H : Heap) (locs : List Loc), Bd (dC, dI) [(cyI, .int), (cyB, .byte)] (va_A (cR cyI cyB rd0 tx bd β τ ρ) s.heap.size) s (cR cyI cyB rd0 tx bd β τ54 ρ55) H locs → W p l e (headSpec wsX1_readJourney rmX1_readJourney).room s m ([.ref rd0] : List Value).toArray below meth c H locs 0 0 (MQ below (QvF (dC, dI) [(cyI, .int), (cyB, .byte)] (cR cyI cyB rd0 tx bd β τ ρ) (cR cyI cyB rd0 tx bd β τ_ ρ_) s.heap.size) ([.ref rd0] : List Value).toArray s 0 0 (va_A (cR cyI cyB rd0 tx bd β τ ρ) s.heap.size)) (F0 m 86 ls []) := by
          intro ht H locs hB
          have hg49 := cnd_t ht hg49
          refine lv_aload_n hx hb dX1_readJourney_86 rfl (lv_at hl 3 rfl) ?_
          refine g_ldcS hx hb hown hJ 5 rfl dX1_readJourney_87 ?_
          obtain ⟨r67, hc, hg49⟩ := ob1_s hg49
          refine g_jcallVz (As := [.ref (kS 5)]) (rest := []) ⟨hx, hb, hml, hown, hts⟩ hJ (kX1_wordIs l dC dI cyI cyB rd0 tx bd kS H.size (by decide) hc) (cwV 1 hts gX1_readJourney_X1_wordIs rfl rfl rfl (by decide +kernel) ⟨Nat.le_of_ble_eq_true rfl, Nat.le_of_ble_eq_true rfl⟩) hK hB hA (g_recv (ci := 1) hK hB 0 rfl rfl rfl) rfl hl.1 rfl (Nat.le_of_ble_eq_true rfl) dX1_readJourney_89 ⟨Nat.zero_le _, Nat.zero_le _⟩ (fun z68 H locs hB => ?_)
          refine lv_istore (lv' := [(5, .int r67), (4, .int v51), (3, .int v52), (2, .int v53), (0, .ref rd0)]) hx hb dX1_readJourney_92 hl (by decide) rfl (fun ls hl => ?_)
          refine lv_iload hx hb dX1_readJourney_94 (lv_at hl 0 rfl) ?_
          obtain ⟨v69, hJ70, hg49⟩ := ob1_s hg49
          have kJ71 : ∀ (H : Heap) (locs : List Loc) (ls : Array Slot), Bd (dC, dI) [(cyI, .int), (cyB, .byte)] (va_A (cR cyI cyB rd0 tx bd β τ ρ) s.heap.size) s (cR cyI cyB rd0 tx bd β τ54 ρ55) H locs → lv_has ls 6 [(5, .int r67), (4, .int v51), (2, .int v53), (0, .ref rd0)] → W p l e (headSpec wsX1_readJourney rmX1_readJourney).room s m ([.ref rd0] : List Value).toArray below meth c H locs 0 0 (MQ below (QvF (dC, dI) [(cyI, .int), (cyB, .byte)] (cR cyI cyB rd0 tx bd β τ ρ) (cR cyI cyB rd0 tx bd β τ_ ρ_) s.heap.size) ([.ref rd0] : List Value).toArray s 0 0 (va_A (cR cyI cyB rd0 tx bd β τ ρ) s.heap.size)) (F0 m 106 ls [.int v69]) := by
            intro H locs ls hB hl
            refine lv_istore_n (lv' := [(3, .int v69), (5, .int r67), (4, .int v51), (2, .int v53), (0, .ref rd0)]) hx hb dX1_readJourney_106 rfl hl (by decide) rfl (fun ls hl => ?_)
            refine lv_iload hx hb dX1_readJourney_107 (lv_at hl 1 rfl) ?_
            obtain ⟨v73, hJ74, hg49⟩ := ob1_s hg49
            have kJ75 : ∀ (H : Heap) (locs : List Loc) (ls : Array Slot), Bd (dC, dI) [(cyI, .int), (cyB, .byte)] (va_A (cR cyI cyB rd0 tx bd β τ ρ) s.heap.size) s (cR cyI cyB rd0 tx bd β τ54 ρ55) H locs → lv_has ls 6 [(3, .int v69), (4, .int v51), (0, .ref rd0)] → W p l e (headSpec wsX1_readJourney rmX1_readJourney).room s m ([.ref rd0] : List Value).toArray below meth c H locs 0 0 (MQ below (QvF (dC, dI) [(cyI, .int), (cyB, .byte)] (cR cyI cyB rd0 tx bd β τ ρ) (cR cyI cyB rd0 tx bd β τ_ ρ_) s.heap.size) ([.ref rd0] : List Value).toArray s 0 0 (va_A (cR cyI cyB rd0 tx bd β τ ρ) s.heap.size)) (F0 m 119 ls [.int v73]) := by
              intro H locs ls hB hl
              refine lv_istore_n (lv' := [(2, .int v73), (3, .int v69), (4, .int v51), (0, .ref rd0)]) hx hb dX1_readJourney_119 rfl hl (by decide) rfl (fun ls hl => ?_)
              refine lv_iload_n hx hb dX1_readJourney_120 rfl (lv_at hl 1 rfl) ?_
              refine lv_iconst (v := (3 : Int32)) hx hb dX1_readJourney_121 (by decide) ?_
              obtain ⟨t77, hD78, hg49⟩ := ob1_s hg49
              have kTt77 : t77 = true → ∀ (H : Heap) (locs : List Loc), Bd (dC, dI) [(cyI, .int), (cyB, .byte)] (va_A (cR cyI cyB rd0 tx bd β τ ρ) s.heap.size) s (cR cyI cyB rd0 tx bd β τ54 ρ55) H locs → W p l e (headSpec wsX1_readJourney rmX1_readJourney).room s m ([.ref rd0] : List Value).toArray below meth c H locs 0 0 (MQ below (QvF (dC, dI) [(cyI, .int), (cyB, .byte)] (cR cyI cyB rd0 tx bd β τ ρ) (cR cyI cyB rd0 tx bd β τ_ ρ_) s.heap.size) ([.ref rd0] : List Value).toArray s 0 0 (va_A (cR cyI cyB rd0 tx bd β τ ρ) s.heap.size)) (F0 m 130 ls []) := by
                intro ht H locs hB
                have hg49 := cnd_t ht hg49
                refine lv_aload_n hx hb dX1_readJourney_130 rfl (lv_at hl 3 rfl) ?_
                refine lv_bipush (v := (-4 : Int32)) hx hb dX1_readJourney_131 (by decide) ?_
                refine lv_aload_n hx hb dX1_readJourney_133 rfl (lv_at hl 3 rfl) ?_
                refine g_get (C := RX1) (T := TX1) (N := 11) hx hb hts hinX1 hown hK hB 0 rfl rfl 8 rfl hq2 rfl rfl dX1_readJourney_134 ?_
                obtain ⟨ρ81, hc, hg49⟩ := ob1_s hg49
                refine g_callVv (As := [.int (-4 : Int32), .int (ρ55 8 0)]) (rest := []) ⟨hx, hb, hml, hown, hts⟩ (kX1_fail l dC dI cyI cyB rd0 tx bd H.size hc) (cwV 2 hts gX1_readJourney_X1_fail rfl rfl rfl (by decide +kernel) ⟨Nat.le_of_ble_eq_true rfl, Nat.le_of_ble_eq_true rfl⟩) hK hB hA (g_recv (ci := 1) hK hB 0 rfl rfl rfl) rfl hl.1 rfl (Nat.le_of_ble_eq_true rfl) dX1_readJourney_137 ⟨Nat.zero_le _, Nat.zero_le _⟩ (fun H locs hB => ?_)
                have hL48 := el1_l (inj1 hg49) hL48
                have hf := el2_l (inj1 hL48) hf
                obtain ⟨e0, e1⟩ := inj2 hf
                subst e0
                subst e1
                exact g_vret hx hb hr hlocks hK hB dX1_readJourney_140
              have kFt77 : t77 = false → ∀ (H : Heap) (locs : List Loc), Bd (dC, dI) [(cyI, .int), (cyB, .byte)] (va_A (cR cyI cyB rd0 tx bd β τ ρ) s.heap.size) s (cR cyI cyB rd0 tx bd β τ54 ρ55) H locs → W p l e (headSpec wsX1_readJourney rmX1_readJourney).room s m ([.ref rd0] : List Value).toArray below meth c H locs 0 0 (MQ below (QvF (dC, dI) [(cyI, .int), (cyB, .byte)] (cR cyI cyB rd0 tx bd β τ ρ) (cR cyI cyB rd0 tx bd β τ_ ρ_) s.heap.size) ([.ref rd0] : List Value).toArray s 0 0 (va_A (cR cyI cyB rd0 tx bd β τ ρ) s.heap.size)) (F0 m 141 ls []) := by
                intro ht H locs hB
                have hg49 := cnd_f ht hg49
                refine lv_aload_n hx hb dX1_readJourney_141 rfl (lv_at hl 3 rfl) ?_
                obtain ⟨ρ82, hc, hg49⟩ := ob1_s hg49
                refine g_callVv (As := []) (rest := []) ⟨hx, hb, hml, hown, hts⟩ (kX1_nextToken l dC dI cyI cyB rd0 tx bd H.size hc) (cwV 0 hts gX1_readJourney_X1_nextToken rfl rfl rfl (by decide +kernel) ⟨Nat.le_of_ble_eq_true rfl, Nat.le_of_ble_eq_true rfl⟩) hK hB hA (g_recv (ci := 1) hK hB 0 rfl rfl rfl) rfl hl.1 rfl (Nat.le_of_ble_eq_true rfl) dX1_readJourney_142 ⟨Nat.zero_le _, Nat.zero_le _⟩ (fun H locs hB => ?_)
                refine lv_aload_n hx hb dX1_readJourney_145 rfl (lv_at hl 3 rfl) ?_
                refine lv_iload_n hx hb dX1_readJourney_146 rfl (lv_at hl 0 rfl) ?_
                obtain ⟨τ83, ρ84, hc, hg49⟩ := ob2_s hg49
                refine g_jcallVv (As := [.int v73]) (rest := []) ⟨hx, hb, hml, hown, hts⟩ hJ (kX1_readStep l dC dI cyI cyB rd0 tx bd kS H.size hc) (cwV 1 hts gX1_readJourney_X1_readStep rfl rfl rfl (by decide +kernel) ⟨Nat.le_of_ble_eq_true rfl, Nat.le_of_ble_eq_true rfl⟩) hK hB hA (g_recv (ci := 1) hK hB 0 rfl rfl rfl) rfl hl.1 rfl (Nat.le_of_ble_eq_true rfl) dX1_readJourney_147 ⟨Nat.zero_le _, Nat.zero_le _⟩ (fun H locs hB => ?_)
                refine lv_iinc (v := (v51 + (1 : Int32))) (lv' := [(4, .int (v51 + (1 : Int32))), (2, .int v73), (3, .int v69), (0, .ref rd0)]) hx hb dX1_readJourney_150 hl (k := 2) rfl rfl (by decide) rfl (fun ls hl => ?_)
                refine lv_goto (tgt := 54) hx hb dX1_readJourney_153 (by decide) ?_
                have hL48 := el1_r (inj1 hg49) hL48
                exact ih9 _ _ _ _ _ _ _ _ hL48 hB (lv_sub hl [0, 2, 1, 3] rfl)
              refine lv_icmp_gt (tgt := 130) hx hb dX1_readJourney_122 (by decide) (fun c79 => ?_) (fun c79 => ?_)
              · have hD78 := ite_t c79 hD78
                have e0 := inj1 hD78
                exact kTt77 e0.symm _ _ hB
              · have hD78 := ite_f c79 hD78
                refine lv_iload_n hx hb dX1_readJourney_125 rfl (lv_at hl 0 rfl) ?_
                refine lv_iconst (v := (5 : Int32)) hx hb dX1_readJourney_126 (by decide) ?_
                refine lv_icmp_lt (tgt := 141) hx hb dX1_readJourney_127 (by decide) (fun c80 => ?_) (fun c80 => ?_)
                · have hD78 := ite_t c80 hD78
                  have e0 := inj1 hD78
                  exact kFt77 e0.symm _ _ hB
                · have hD78 := ite_f c80 hD78
                  have e0 := inj1 hD78
                  exact kTt77 e0.symm _ _ hB
            refine lv_if_eq (tgt := 116) hx hb dX1_readJourney_109 (by decide) (fun c76 => ?_) (fun c76 => ?_)
            · have hJ74 := ite_t c76 hJ74
              refine lv_iload_n hx hb dX1_readJourney_116 rfl (lv_at hl 3 rfl) ?_
              refine lv_iconst (v := (1 : Int32)) hx hb dX1_readJourney_117 (by decide) ?_
              refine lv_iadd hx hb dX1_readJourney_118 ?_
              have e0 := inj1 hJ74
              subst e0
              exact kJ75 _ _ _ hB (lv_sub hl [0, 2, 4] rfl)
            · have hJ74 := ite_f c76 hJ74
              refine lv_iload_n hx hb dX1_readJourney_112 rfl (lv_at hl 3 rfl) ?_
              refine lv_goto (tgt := 119) hx hb dX1_readJourney_113 (by decide) ?_
              have e0 := inj1 hJ74
              subst e0
              exact kJ75 _ _ _ hB (lv_sub hl [0, 2, 4] rfl)
          refine lv_if_eq (tgt := 105) hx hb dX1_readJourney_96 (by decide) (fun c72 => ?_) (fun c72 => ?_)
          · have hJ70 := ite_t c72 hJ70
            refine lv_iconst (v := (1 : Int32)) hx hb dX1_readJourney_105 (by decide) ?_
            have e0 := inj1 hJ70
            subst e0
            exact kJ71 _ _ _ hB (lv_sub hl [0, 1, 3, 4] rfl)
          · have hJ70 := ite_f c72 hJ70
            refine lv_iload_n hx hb dX1_readJourney_99 rfl (lv_at hl 2 rfl) ?_
            refine lv_iconst (v := (1 : Int32)) hx hb dX1_readJourney_100 (by decide) ?_
            refine lv_iadd hx hb dX1_readJourney_101 ?_
            refine lv_goto (tgt := 106) hx hb dX1_readJourney_102 (by decide) ?_
            have e0 := inj1 hJ70
            subst e0
            exact kJ71 _ _ _ hB (lv_sub hl [0, 1, 3, 4] rfl)
        have kFt57 : t57 = false → ∀ (H : Heap) (locs : List Loc), Bd (dC, dI) [(cyI, .int), (cyB, .byte)] (va_A (cR cyI cyB rd0 tx bd β τ ρ) s.heap.size) s (cR cyI cyB rd0 tx bd β τ54 ρ55) H locs → W p l e (headSpec wsX1_readJourney rmX1_readJourney).room s m ([.ref rd0] : List Value).toArray below meth c H locs 0 0 (MQ below (QvF (dC, dI) [(cyI, .int), (cyB, .byte)] (cR cyI cyB rd0 tx bd β τ ρ) (cR cyI cyB rd0 tx bd β τ_ ρ_) s.heap.size) ([.ref rd0] : List Value).toArray s 0 0 (va_A (cR cyI cyB rd0 tx bd β τ ρ) s.heap.size)) (F0 m 156 ls []) := by
          intro ht H locs hB
          have hg49 := cnd_f ht hg49
          have hL48 := el1_l (inj1 hg49) hL48
          exact kE46 _ _ _ _ _ (inj1 hL48) hB (lv_sub hl [] rfl)
        refine lv_icmp_ge (tgt := 156) hx hb dX1_readJourney_58 (by decide) (fun c59 => ?_) (fun c59 => ?_)
        · have hD58 := ite_t c59 hD58
          have e0 := inj1 hD58
          exact kFt57 e0.symm _ _ hB
        · have hD58 := ite_f c59 hD58
          refine lv_aload_n hx hb dX1_readJourney_61 rfl (lv_at hl 3 rfl) ?_
          refine g_get (C := RX1) (T := TX1) (N := 11) hx hb hts hinX1 hown hK hB 0 rfl rfl 1 rfl hq3 rfl rfl dX1_readJourney_62 ?_
          refine lv_if_ne (tgt := 156) hx hb dX1_readJourney_65 (by decide) (fun c60 => ?_) (fun c60 => ?_)
          · have hD58 := ite_f c60 hD58
            have e0 := inj1 hD58
            exact kFt57 e0.symm _ _ hB
          · have hD58 := ite_t c60 hD58
            refine lv_aload_n hx hb dX1_readJourney_68 rfl (lv_at hl 3 rfl) ?_
            refine g_ldcS hx hb hown hJ 5 rfl dX1_readJourney_69 ?_
            obtain ⟨r61, hc, hD58⟩ := ob1_s hD58
            refine g_jcallVz (As := [.ref (kS 5)]) (rest := []) ⟨hx, hb, hml, hown, hts⟩ hJ (kX1_wordIs l dC dI cyI cyB rd0 tx bd kS H.size (by decide) hc) (cwV 1 hts gX1_readJourney_X1_wordIs rfl rfl rfl (by decide +kernel) ⟨Nat.le_of_ble_eq_true rfl, Nat.le_of_ble_eq_true rfl⟩) hK hB hA (g_recv (ci := 1) hK hB 0 rfl rfl rfl) rfl hl.1 rfl (Nat.le_of_ble_eq_true rfl) dX1_readJourney_71 ⟨Nat.zero_le _, Nat.zero_le _⟩ (fun z62 H locs hB => ?_)
            refine lv_if_ne (tgt := 86) hx hb dX1_readJourney_74 (by decide) (fun c63 => ?_) (fun c63 => ?_)
            · have hD58 := ite_f c63 hD58
              have e0 := inj1 hD58
              exact kTt57 e0.symm _ _ hB
            · have hD58 := ite_t c63 hD58
              refine lv_aload_n hx hb dX1_readJourney_77 rfl (lv_at hl 3 rfl) ?_
              refine g_ldcS hx hb hown hJ 6 rfl dX1_readJourney_78 ?_
              obtain ⟨r64, hc, hD58⟩ := ob1_s hD58
              refine g_jcallVz (As := [.ref (kS 6)]) (rest := []) ⟨hx, hb, hml, hown, hts⟩ hJ (kX1_wordIs l dC dI cyI cyB rd0 tx bd kS H.size (by decide) hc) (cwV 1 hts gX1_readJourney_X1_wordIs rfl rfl rfl (by decide +kernel) ⟨Nat.le_of_ble_eq_true rfl, Nat.le_of_ble_eq_true rfl⟩) hK hB hA (g_recv (ci := 1) hK hB 0 rfl rfl rfl) rfl hl.1 rfl (Nat.le_of_ble_eq_true rfl) dX1_readJourney_80 ⟨Nat.zero_le _, Nat.zero_le _⟩ (fun z65 H locs hB => ?_)
              refine lv_if_eq (tgt := 156) hx hb dX1_readJourney_83 (by decide) (fun c66 => ?_) (fun c66 => ?_)
              · have hD58 := ite_t c66 hD58
                have e0 := inj1 hD58
                exact kFt57 e0.symm _ _ hB
              · have hD58 := ite_f c66 hD58
                have e0 := inj1 hD58
                exact kTt57 e0.symm _ _ hB
    exact key47 fu _ _ _ _ _ _ _ _ hL48 hB (lv_sub hl [0, 1, 2, 4] rfl)
  · have hf := ite_t c3 hf
    refine lv_aload_n hx hb dX1_readJourney_10 rfl (lv_at hl 0 rfl) ?_
    refine lv_bipush (v := (-4 : Int32)) hx hb dX1_readJourney_11 (by decide) ?_
    refine lv_aload_n hx hb dX1_readJourney_13 rfl (lv_at hl 0 rfl) ?_
    refine g_get (C := RX1) (T := TX1) (N := 11) hx hb hts hinX1 hown hK hB 0 rfl rfl 8 rfl hq2 rfl rfl dX1_readJourney_14 ?_
    obtain ⟨ρ85, hc, hf⟩ := ob1_s hf
    refine g_callVv (As := [.int (-4 : Int32), .int (ρ 8 0)]) (rest := []) ⟨hx, hb, hml, hown, hts⟩ (kX1_fail l dC dI cyI cyB rd0 tx bd H.size hc) (cwV 2 hts gX1_readJourney_X1_fail rfl rfl rfl (by decide +kernel) ⟨Nat.le_of_ble_eq_true rfl, Nat.le_of_ble_eq_true rfl⟩) hK hB hA (g_recv (ci := 1) hK hB 0 rfl rfl rfl) rfl hl.1 rfl (Nat.le_of_ble_eq_true rfl) dX1_readJourney_17 ⟨Nat.zero_le _, Nat.zero_le _⟩ (fun H locs hB => ?_)
    obtain ⟨e0, e1⟩ := inj2 hf
    subst e0
    subst e1
    exact g_vret hx hb hr hlocks hK hB dX1_readJourney_20

abbrev rmX1_readSetup : Room := { frames := 8, cells := 0, slots := 0, locals := 180 }

set_option maxHeartbeats 4000000 in
set_option maxRecDepth 100000 in
theorem kX1_readSetup (l : Launch) (dC : Nat → ClassId) (dI : Nat → Nat → Nat) (cyI cyB : ClassId) (rd0 tx : Nat) (bd : Nat → Nat) (kS : Nat → Nat) (sz : Nat) {fu : Nat} {β : FS} {τ : MS} {ρ : MS} {τ_ : MS} {ρ_ : MS} (hf : mX1_readSetup fu β τ ρ = some (τ_, ρ_)) : Met l yX1_readSetup wsX1_readSetup rmX1_readSetup (PcJ (dC, dI) [(cyI, .int), (cyB, .byte)] kS (cR cyI cyB rd0 tx bd β τ ρ) sz [.ref rd0]) (QvF (dC, dI) [(cyI, .int), (cyB, .byte)] (cR cyI cyB rd0 tx bd β τ ρ) (cR cyI cyB rd0 tx bd β τ_ ρ_) sz) 0 0 (va_A (cR cyI cyB rd0 tx bd β τ ρ) sz) := by
  refine Met.ofW (cc := cX1_readSetup) (maxL := 2) (ret := none) (by decide) rfl ?_
  intro p e s m args below meth c s₁ B hml hv
  obtain ⟨rfl, ⟨hsz, hP, hK, hD0⟩, hJ⟩ := hv
  have hx := B.exec
  have hb := B.bytes
  have hr := B.returns
  have hts := atoms_spec (ws := wsX1_readSetup) B.pre
  have hown : s.vm.findClass RX1 = some m.cls := findClass_of_methodNamed B.named
  have hlocks := B.notSynchronized
  subst hsz
  have hA : ∀ q : Nat, s.heap.size ≤ q → va_A (cR cyI cyB rd0 tx bd β τ ρ) s.heap.size q := fun q h => Or.inr h
  have hB : Bd (dC, dI) [(cyI, .int), (cyB, .byte)] (va_A (cR cyI cyB rd0 tx bd β τ ρ) s.heap.size) s (cR cyI cyB rd0 tx bd β τ ρ) s.heap [] := ⟨hP, hD0.self, va_S.rf⟩
  have hq1 : (Cond.fieldLink RX1 57 "UndoJourneys$SetupReader" "length" "I").before _ s = true := hts _ (List.mem_of_getElem? (i := 1) rfl)
  have hq2 : (Cond.fieldLink RX1 18 "UndoJourneys$SetupReader" "error" "I").before _ s = true := hts _ (List.mem_of_getElem? (i := 2) rfl)
  have hq3 : (Cond.fieldLink RX1 32 "UndoJourneys$SetupReader" "kind" "I").before _ s = true := hts _ (List.mem_of_getElem? (i := 3) rfl)
  have hq4 : (Cond.fieldLink RX1 25 "UndoJourneys$SetupReader" "waitIsTold" "Z").before _ s = true := hts _ (List.mem_of_getElem? (i := 4) rfl)
  have hq5 : (Cond.fieldLink RX1 12 "UndoJourneys$SetupReader" "setup" "LUndoJourneys$Setup;").before _ s = true := hts _ (List.mem_of_getElem? (i := 5) rfl)
  have hq6 : (Cond.fieldLink RX1 92 "UndoJourneys$Setup" "wait" "I").before _ s = true := hts _ (List.mem_of_getElem? (i := 6) rfl)
  have hq7 : (Cond.fieldLink RX1 29 "UndoJourneys$SetupReader" "patienceIsTold" "Z").before _ s = true := hts _ (List.mem_of_getElem? (i := 7) rfl)
  have hq8 : (Cond.fieldLink RX1 96 "UndoJourneys$Setup" "patience" "I").before _ s = true := hts _ (List.mem_of_getElem? (i := 8) rfl)
  have hq9 : (Cond.fieldLink RX1 35 "UndoJourneys$SetupReader" "tokenStart" "I").before _ s = true := hts _ (List.mem_of_getElem? (i := 9) rfl)
  have hinX0 : ∀ w ∈ wsX00, w ∈ wsX1_readSetup := fun w h => List.mem_cons_of_mem _ (List.mem_append_right _ h)
  have hinX1 : ∀ w ∈ wsX10, w ∈ wsX1_readSetup := fun w h => List.mem_cons_of_mem _ (List.mem_append_left _ (List.mem_append_right _ h))
  have hl := lv_entry [.ref rd0] (n := 2) (Nat.le_of_ble_eq_true rfl)
  rw [lg_entry_eq]
  generalize (lg_sl [.ref rd0] ++ List.replicate (2 - (lg_sl [.ref rd0]).length) Slot.unset).toArray = ls at hl ⊢
  have hl : lv_has ls 2 [(0, .ref rd0)] := hl
  clear hP hD0
  suffices main : ∀ (H : Heap) (locs : List Loc), Bd (dC, dI) [(cyI, .int), (cyB, .byte)] (va_A (cR cyI cyB rd0 tx bd β τ ρ) s.heap.size) s (cR cyI cyB rd0 tx bd β τ ρ) H locs → W p l e (headSpec wsX1_readSetup rmX1_readSetup).room s m ([.ref rd0] : List Value).toArray below meth c H locs 0 0 (MQ below (QvF (dC, dI) [(cyI, .int), (cyB, .byte)] (cR cyI cyB rd0 tx bd β τ ρ) (cR cyI cyB rd0 tx bd β τ_ ρ_) s.heap.size) ([.ref rd0] : List Value).toArray s 0 0 (va_A (cR cyI cyB rd0 tx bd β τ ρ) s.heap.size)) (F0 m 0 ls []) from main _ _ hB
  clear hB
  intro H locs hB
  unfold mX1_readSetup at hf
  refine lv_aload_n hx hb dX1_readSetup_0 rfl (lv_at hl 0 rfl) ?_
  obtain ⟨ρ1, hc, hf⟩ := ob1_s hf
  refine g_callVv (As := []) (rest := []) ⟨hx, hb, hml, hown, hts⟩ (kX1_nextToken l dC dI cyI cyB rd0 tx bd H.size hc) (cwV 0 hts gX1_readSetup_X1_nextToken rfl rfl rfl (by decide +kernel) ⟨Nat.le_of_ble_eq_true rfl, Nat.le_of_ble_eq_true rfl⟩) hK hB hA (g_recv (ci := 1) hK hB 0 rfl rfl rfl) rfl hl.1 rfl (Nat.le_of_ble_eq_true rfl) dX1_readSetup_1 ⟨Nat.zero_le _, Nat.zero_le _⟩ (fun H locs hB => ?_)
  refine lv_aload_n hx hb dX1_readSetup_4 rfl (lv_at hl 0 rfl) ?_
  refine g_ldcS hx hb hown hJ 0 rfl dX1_readSetup_5 ?_
  obtain ⟨ρ2, hc, hf⟩ := ob1_s hf
  refine g_jcallVv (As := [.ref (kS 0)]) (rest := []) ⟨hx, hb, hml, hown, hts⟩ hJ (kX1_takeWord l dC dI cyI cyB rd0 tx bd kS H.size (by decide) hc) (cwV 1 hts gX1_readSetup_X1_takeWord rfl rfl rfl (by decide +kernel) ⟨Nat.le_of_ble_eq_true rfl, Nat.le_of_ble_eq_true rfl⟩) hK hB hA (g_recv (ci := 1) hK hB 0 rfl rfl rfl) rfl hl.1 rfl (Nat.le_of_ble_eq_true rfl) dX1_readSetup_7 ⟨Nat.zero_le _, Nat.zero_le _⟩ (fun H locs hB => ?_)
  refine lv_aload_n hx hb dX1_readSetup_10 rfl (lv_at hl 0 rfl) ?_
  refine lv_bipush (v := (59 : Int32)) hx hb dX1_readSetup_11 (by decide) ?_
  obtain ⟨ρ3, hc, hf⟩ := ob1_s hf
  refine g_callVv (As := [.int (59 : Int32)]) (rest := []) ⟨hx, hb, hml, hown, hts⟩ (kX1_takeSign l dC dI cyI cyB rd0 tx bd H.size hc) (cwV 1 hts gX1_readSetup_X1_takeSign rfl rfl rfl (by decide +kernel) ⟨Nat.le_of_ble_eq_true rfl, Nat.le_of_ble_eq_true rfl⟩) hK hB hA (g_recv (ci := 1) hK hB 0 rfl rfl rfl) rfl hl.1 rfl (Nat.le_of_ble_eq_true rfl) dX1_readSetup_13 ⟨Nat.zero_le _, Nat.zero_le _⟩ (fun H locs hB => ?_)
  refine lv_iconst (v := (0 : Int32)) hx hb dX1_readSetup_16 (by decide) ?_
  refine lv_istore_n (lv' := [(1, .int (0 : Int32)), (0, .ref rd0)]) hx hb dX1_readSetup_17 rfl hl (by decide) rfl (fun ls hl => ?_)
  obtain ⟨τ51, ρ52, hL55, hf⟩ := ob2_s hf
  have kE53 : ∀ (H : Heap) (locs : List Loc) (ls : Array Slot), Bd (dC, dI) [(cyI, .int), (cyB, .byte)] (va_A (cR cyI cyB rd0 tx bd β τ ρ) s.heap.size) s (cR cyI cyB rd0 tx bd β τ51 ρ52) H locs → lv_has ls 2 [] → W p l e (headSpec wsX1_readSetup rmX1_readSetup).room s m ([.ref rd0] : List Value).toArray below meth c H locs 0 0 (MQ below (QvF (dC, dI) [(cyI, .int), (cyB, .byte)] (cR cyI cyB rd0 tx bd β τ ρ) (cR cyI cyB rd0 tx bd β τ_ ρ_) s.heap.size) ([.ref rd0] : List Value).toArray s 0 0 (va_A (cR cyI cyB rd0 tx bd β τ ρ) s.heap.size)) (F0 m 178 ls []) := by
    intro H locs ls hB hl
    obtain ⟨e0, e1⟩ := inj2 hf
    subst e0
    subst e1
    exact g_vret hx hb hr hlocks hK hB dX1_readSetup_178
  have key54 : ∀ (n9 : Nat) (v58 : Int32) (τ59 : MS) (ρ60 : MS) (H : Heap) (locs : List Loc) (ls : Array Slot), loopM (fun st => mX1_readSetup_L18 fu β st.1 st.2.1 st.2.2) n9 (v58, τ59, ρ60) = some (τ51, ρ52) → Bd (dC, dI) [(cyI, .int), (cyB, .byte)] (va_A (cR cyI cyB rd0 tx bd β τ ρ) s.heap.size) s (cR cyI cyB rd0 tx bd β τ59 ρ60) H locs → lv_has ls 2 [(1, .int v58), (0, .ref rd0)] → W p l e (headSpec wsX1_readSetup rmX1_readSetup).room s m ([.ref rd0] : List Value).toArray below meth c H locs 0 0 (MQ below (QvF (dC, dI) [(cyI, .int), (cyB, .byte)] (cR cyI cyB rd0 tx bd β τ ρ) (cR cyI cyB rd0 tx bd β τ_ ρ_) s.heap.size) ([.ref rd0] : List Value).toArray s 0 0 (va_A (cR cyI cyB rd0 tx bd β τ ρ) s.heap.size)) (F0 m 18 ls []) := by
    intro n9
    induction n9 with
    | zero => intro v58 τ59 ρ60 H locs ls hL55; exact (loopM_z hL55).elim
    | succ n9 ih9 =>
      intro v58 τ59 ρ60 H locs ls hL55 hB hl
      obtain ⟨o61, hg56, hL55⟩ := loopM_s hL55
      have hg56 : mX1_readSetup_L18 fu β v58 τ59 ρ60 = some o61 := hg56
      unfold mX1_readSetup_L18 at hg56
      refine lv_iload_n hx hb dX1_readSetup_18 rfl (lv_at hl 0 rfl) ?_
      refine lv_aload_n hx hb dX1_readSetup_19 rfl (lv_at hl 1 rfl) ?_
      refine g_get (C := RX1) (T := TX1) (N := 11) hx hb hts hinX1 hown hK hB 0 rfl rfl 4 rfl hq1 rfl rfl dX1_readSetup_20 ?_
      obtain ⟨t62, hD63, hg56⟩ := ob1_s hg56
      have kTt62 : t62 = true → ∀ (H : Heap) (locs : List Loc), Bd (dC, dI) [(cyI, .int), (cyB, .byte)] (va_A (cR cyI cyB rd0 tx bd β τ ρ) s.heap.size) s (cR cyI cyB rd0 tx bd β τ59 ρ60) H locs → W p l e (headSpec wsX1_readSetup rmX1_readSetup).room s m ([.ref rd0] : List Value).toArray below meth c H locs 0 0 (MQ below (QvF (dC, dI) [(cyI, .int), (cyB, .byte)] (cR cyI cyB rd0 tx bd β τ ρ) (cR cyI cyB rd0 tx bd β τ_ ρ_) s.heap.size) ([.ref rd0] : List Value).toArray s 0 0 (va_A (cR cyI cyB rd0 tx bd β τ ρ) s.heap.size)) (F0 m 40 ls []) := by
        intro ht H locs hB
        have hg56 := cnd_t ht hg56
        refine lv_aload_n hx hb dX1_readSetup_40 rfl (lv_at hl 1 rfl) ?_
        refine g_ldcS hx hb hown hJ 1 rfl dX1_readSetup_41 ?_
        obtain ⟨r67, hc, hg56⟩ := ob1_s hg56
        refine g_jcallVz (As := [.ref (kS 1)]) (rest := []) ⟨hx, hb, hml, hown, hts⟩ hJ (kX1_wordIs l dC dI cyI cyB rd0 tx bd kS H.size (by decide) hc) (cwV 1 hts gX1_readSetup_X1_wordIs rfl rfl rfl (by decide +kernel) ⟨Nat.le_of_ble_eq_true rfl, Nat.le_of_ble_eq_true rfl⟩) hK hB hA (g_recv (ci := 1) hK hB 0 rfl rfl rfl) rfl hl.1 rfl (Nat.le_of_ble_eq_true rfl) dX1_readSetup_43 ⟨Nat.zero_le _, Nat.zero_le _⟩ (fun z68 H locs hB => ?_)
        obtain ⟨τ69, ρ70, hJ71, hg56⟩ := ob2_s hg56
        have kJ72 : ∀ (H : Heap) (locs : List Loc) (ls : Array Slot), Bd (dC, dI) [(cyI, .int), (cyB, .byte)] (va_A (cR cyI cyB rd0 tx bd β τ ρ) s.heap.size) s (cR cyI cyB rd0 tx bd β τ69 ρ70) H locs → lv_has ls 2 [(1, .int v58), (0, .ref rd0)] → W p l e (headSpec wsX1_readSetup rmX1_readSetup).room s m ([.ref rd0] : List Value).toArray below meth c H locs 0 0 (MQ below (QvF (dC, dI) [(cyI, .int), (cyB, .byte)] (cR cyI cyB rd0 tx bd β τ ρ) (cR cyI cyB rd0 tx bd β τ_ ρ_) s.heap.size) ([.ref rd0] : List Value).toArray s 0 0 (va_A (cR cyI cyB rd0 tx bd β τ ρ) s.heap.size)) (F0 m 166 ls []) := by
          intro H locs ls hB hl
          refine lv_aload_n hx hb dX1_readSetup_166 rfl (lv_at hl 1 rfl) ?_
          refine lv_bipush (v := (59 : Int32)) hx hb dX1_readSetup_167 (by decide) ?_
          obtain ⟨ρ104, hc, hg56⟩ := ob1_s hg56
          refine g_callVv (As := [.int (59 : Int32)]) (rest := []) ⟨hx, hb, hml, hown, hts⟩ (kX1_takeSign l dC dI cyI cyB rd0 tx bd H.size hc) (cwV 1 hts gX1_readSetup_X1_takeSign rfl rfl rfl (by decide +kernel) ⟨Nat.le_of_ble_eq_true rfl, Nat.le_of_ble_eq_true rfl⟩) hK hB hA (g_recv (ci := 1) hK hB 0 rfl rfl rfl) rfl hl.1 rfl (Nat.le_of_ble_eq_true rfl) dX1_readSetup_169 ⟨Nat.zero_le _, Nat.zero_le _⟩ (fun H locs hB => ?_)
          refine lv_iinc (v := (v58 + (1 : Int32))) (lv' := [(1, .int (v58 + (1 : Int32))), (0, .ref rd0)]) hx hb dX1_readSetup_172 hl (k := 0) rfl rfl (by decide) rfl (fun ls hl => ?_)
          refine lv_goto (tgt := 18) hx hb dX1_readSetup_175 (by decide) ?_
          have hL55 := el1_r (inj1 hg56) hL55
          exact ih9 _ _ _ _ _ _ hL55 hB (lv_sub hl [0, 1] rfl)
        refine lv_if_eq (tgt := 56) hx hb dX1_readSetup_46 (by decide) (fun c73 => ?_) (fun c73 => ?_)
        · have hJ71 := ite_t c73 hJ71
          refine lv_aload_n hx hb dX1_readSetup_56 rfl (lv_at hl 1 rfl) ?_
          refine g_ldcS hx hb hown hJ 2 rfl dX1_readSetup_57 ?_
          obtain ⟨r74, hc, hJ71⟩ := ob1_s hJ71
          refine g_jcallVz (As := [.ref (kS 2)]) (rest := []) ⟨hx, hb, hml, hown, hts⟩ hJ (kX1_wordIs l dC dI cyI cyB rd0 tx bd kS H.size (by decide) hc) (cwV 1 hts gX1_readSetup_X1_wordIs rfl rfl rfl (by decide +kernel) ⟨Nat.le_of_ble_eq_true rfl, Nat.le_of_ble_eq_true rfl⟩) hK hB hA (g_recv (ci := 1) hK hB 0 rfl rfl rfl) rfl hl.1 rfl (Nat.le_of_ble_eq_true rfl) dX1_readSetup_59 ⟨Nat.zero_le _, Nat.zero_le _⟩ (fun z75 H locs hB => ?_)
          refine lv_if_eq (tgt := 72) hx hb dX1_readSetup_62 (by decide) (fun c76 => ?_) (fun c76 => ?_)
          · have hJ71 := ite_t c76 hJ71
            refine lv_aload_n hx hb dX1_readSetup_72 rfl (lv_at hl 1 rfl) ?_
            refine g_ldcS hx hb hown hJ 3 rfl dX1_readSetup_73 ?_
            obtain ⟨r77, hc, hJ71⟩ := ob1_s hJ71
            refine g_jcallVz (As := [.ref (kS 3)]) (rest := []) ⟨hx, hb, hml, hown, hts⟩ hJ (kX1_wordIs l dC dI cyI cyB rd0 tx bd kS H.size (by decide) hc) (cwV 1 hts gX1_readSetup_X1_wordIs rfl rfl rfl (by decide +kernel) ⟨Nat.le_of_ble_eq_true rfl, Nat.le_of_ble_eq_true rfl⟩) hK hB hA (g_recv (ci := 1) hK hB 0 rfl rfl rfl) rfl hl.1 rfl (Nat.le_of_ble_eq_true rfl) dX1_readSetup_75 ⟨Nat.zero_le _, Nat.zero_le _⟩ (fun z78 H locs hB => ?_)
            obtain ⟨t79, hD80, hJ71⟩ := ob1_s hJ71
            have kTt79 : t79 = true → ∀ (H : Heap) (locs : List Loc), Bd (dC, dI) [(cyI, .int), (cyB, .byte)] (va_A (cR cyI cyB rd0 tx bd β τ ρ) s.heap.size) s (cR cyI cyB rd0 tx bd β τ59 ρ60) H locs → W p l e (headSpec wsX1_readSetup rmX1_readSetup).room s m ([.ref rd0] : List Value).toArray below meth c H locs 0 0 (MQ below (QvF (dC, dI) [(cyI, .int), (cyB, .byte)] (cR cyI cyB rd0 tx bd β τ ρ) (cR cyI cyB rd0 tx bd β τ_ ρ_) s.heap.size) ([.ref rd0] : List Value).toArray s 0 0 (va_A (cR cyI cyB rd0 tx bd β τ ρ) s.heap.size)) (F0 m 88 ls []) := by
              intro ht H locs hB
              have hJ71 := cnd_t ht hJ71
              refine lv_aload_n hx hb dX1_readSetup_88 rfl (lv_at hl 1 rfl) ?_
              refine lv_iconst (v := (1 : Int32)) hx hb dX1_readSetup_89 (by decide) ?_
              obtain ⟨ρ83, e9, hJ71⟩ := ob1_s hJ71
              have e9 := inj1 e9
              refine g_put (C := RX1) (T := TX1) (N := 11) hx hb hts hinX1 tyX1 tyX1_ok nmX1 hown hK hB 0 rfl rfl 5 rfl hq4 rfl rfl rfl (by decide) rfl rfl dX1_readSetup_90 (w2 := (cR cyI cyB rd0 tx bd β τ59 ρ83)) (by rw [← e9]; rfl) (fun H locs hB => ?_)
              refine lv_aload_n hx hb dX1_readSetup_93 rfl (lv_at hl 1 rfl) ?_
              obtain ⟨ρ84, hc, hJ71⟩ := ob1_s hJ71
              refine g_callVv (As := []) (rest := []) ⟨hx, hb, hml, hown, hts⟩ (kX1_nextToken l dC dI cyI cyB rd0 tx bd H.size hc) (cwV 0 hts gX1_readSetup_X1_nextToken rfl rfl rfl (by decide +kernel) ⟨Nat.le_of_ble_eq_true rfl, Nat.le_of_ble_eq_true rfl⟩) hK hB hA (g_recv (ci := 1) hK hB 0 rfl rfl rfl) rfl hl.1 rfl (Nat.le_of_ble_eq_true rfl) dX1_readSetup_94 ⟨Nat.zero_le _, Nat.zero_le _⟩ (fun H locs hB => ?_)
              refine lv_aload_n hx hb dX1_readSetup_97 rfl (lv_at hl 1 rfl) ?_
              refine g_get (C := RX1) (T := TX1) (N := 11) hx hb hts hinX1 hown hK hB 0 rfl rfl 0 rfl hq5 rfl rfl dX1_readSetup_98 ?_
              refine lv_aload_n hx hb dX1_readSetup_101 rfl (lv_at hl 1 rfl) ?_
              refine lv_iconst (v := (1 : Int32)) hx hb dX1_readSetup_102 (by decide) ?_
              refine lv_bipush (v := (99 : Int32)) hx hb dX1_readSetup_103 (by decide) ?_
              obtain ⟨r85, ρ86, hc, hJ71⟩ := ob2_s hJ71
              refine g_callVi (As := [.int (1 : Int32), .int (99 : Int32)]) (rest := [.ref (bd 0)]) ⟨hx, hb, hml, hown, hts⟩ (kX1_readNumber l dC dI cyI cyB rd0 tx bd H.size hc) (cwV 2 hts gX1_readSetup_X1_readNumber rfl rfl rfl (by decide +kernel) ⟨Nat.le_of_ble_eq_true rfl, Nat.le_of_ble_eq_true rfl⟩) hK hB hA (g_recv (ci := 1) hK hB 0 rfl rfl rfl) rfl hl.1 rfl (Nat.le_of_ble_eq_true rfl) dX1_readSetup_105 ⟨Nat.zero_le _, Nat.zero_le _⟩ (fun H locs hB => ?_)
              obtain ⟨τ87, e9, hJ71⟩ := ob1_s hJ71
              have e9 := inj1 e9
              refine g_put (C := RX0) (T := TX0) (N := 17) hx hb hts hinX0 tyX0 tyX0_ok nmX0 hown hK hB 2 rfl rfl 0 rfl hq6 rfl rfl rfl rfl rfl rfl dX1_readSetup_108 (w2 := (cR cyI cyB rd0 tx bd β τ87 ρ86)) (by rw [← e9]; rfl) (fun H locs hB => ?_)
              refine lv_goto (tgt := 166) hx hb dX1_readSetup_111 (by decide) ?_
              obtain ⟨e0, e1⟩ := inj2 hJ71
              subst e0
              subst e1
              exact kJ72 _ _ _ hB (lv_sub hl [0, 1] rfl)
            have kFt79 : t79 = false → ∀ (H : Heap) (locs : List Loc), Bd (dC, dI) [(cyI, .int), (cyB, .byte)] (va_A (cR cyI cyB rd0 tx bd β τ ρ) s.heap.size) s (cR cyI cyB rd0 tx bd β τ59 ρ60) H locs → W p l e (headSpec wsX1_readSetup rmX1_readSetup).room s m ([.ref rd0] : List Value).toArray below meth c H locs 0 0 (MQ below (QvF (dC, dI) [(cyI, .int), (cyB, .byte)] (cR cyI cyB rd0 tx bd β τ ρ) (cR cyI cyB rd0 tx bd β τ_ ρ_) s.heap.size) ([.ref rd0] : List Value).toArray s 0 0 (va_A (cR cyI cyB rd0 tx bd β τ ρ) s.heap.size)) (F0 m 114 ls []) := by
              intro ht H locs hB
              have hJ71 := cnd_f ht hJ71
              refine lv_aload_n hx hb dX1_readSetup_114 rfl (lv_at hl 1 rfl) ?_
              refine g_ldcS hx hb hown hJ 4 rfl dX1_readSetup_115 ?_
              obtain ⟨r88, hc, hJ71⟩ := ob1_s hJ71
              refine g_jcallVz (As := [.ref (kS 4)]) (rest := []) ⟨hx, hb, hml, hown, hts⟩ hJ (kX1_wordIs l dC dI cyI cyB rd0 tx bd kS H.size (by decide) hc) (cwV 1 hts gX1_readSetup_X1_wordIs rfl rfl rfl (by decide +kernel) ⟨Nat.le_of_ble_eq_true rfl, Nat.le_of_ble_eq_true rfl⟩) hK hB hA (g_recv (ci := 1) hK hB 0 rfl rfl rfl) rfl hl.1 rfl (Nat.le_of_ble_eq_true rfl) dX1_readSetup_117 ⟨Nat.zero_le _, Nat.zero_le _⟩ (fun z89 H locs hB => ?_)
              obtain ⟨t90, hD91, hJ71⟩ := ob1_s hJ71
              have kTt90 : t90 = true → ∀ (H : Heap) (locs : List Loc), Bd (dC, dI) [(cyI, .int), (cyB, .byte)] (va_A (cR cyI cyB rd0 tx bd β τ ρ) s.heap.size) s (cR cyI cyB rd0 tx bd β τ59 ρ60) H locs → W p l e (headSpec wsX1_readSetup rmX1_readSetup).room s m ([.ref rd0] : List Value).toArray below meth c H locs 0 0 (MQ below (QvF (dC, dI) [(cyI, .int), (cyB, .byte)] (cR cyI cyB rd0 tx bd β τ ρ) (cR cyI cyB rd0 tx bd β τ_ ρ_) s.heap.size) ([.ref rd0] : List Value).toArray s 0 0 (va_A (cR cyI cyB rd0 tx bd β τ ρ) s.heap.size)) (F0 m 130 ls []) := by
                intro ht H locs hB
                have hJ71 := cnd_t ht hJ71
                refine lv_aload_n hx hb dX1_readSetup_130 rfl (lv_at hl 1 rfl) ?_
                refine lv_iconst (v := (1 : Int32)) hx hb dX1_readSetup_131 (by decide) ?_
                obtain ⟨ρ94, e9, hJ71⟩ := ob1_s hJ71
                have e9 := inj1 e9
                refine g_put (C := RX1) (T := TX1) (N := 11) hx hb hts hinX1 tyX1 tyX1_ok nmX1 hown hK hB 0 rfl rfl 6 rfl hq7 rfl rfl rfl (by decide) rfl rfl dX1_readSetup_132 (w2 := (cR cyI cyB rd0 tx bd β τ59 ρ94)) (by rw [← e9]; rfl) (fun H locs hB => ?_)
                refine lv_aload_n hx hb dX1_readSetup_135 rfl (lv_at hl 1 rfl) ?_
                obtain ⟨ρ95, hc, hJ71⟩ := ob1_s hJ71
                refine g_callVv (As := []) (rest := []) ⟨hx, hb, hml, hown, hts⟩ (kX1_nextToken l dC dI cyI cyB rd0 tx bd H.size hc) (cwV 0 hts gX1_readSetup_X1_nextToken rfl rfl rfl (by decide +kernel) ⟨Nat.le_of_ble_eq_true rfl, Nat.le_of_ble_eq_true rfl⟩) hK hB hA (g_recv (ci := 1) hK hB 0 rfl rfl rfl) rfl hl.1 rfl (Nat.le_of_ble_eq_true rfl) dX1_readSetup_136 ⟨Nat.zero_le _, Nat.zero_le _⟩ (fun H locs hB => ?_)
                refine lv_aload_n hx hb dX1_readSetup_139 rfl (lv_at hl 1 rfl) ?_
                refine g_get (C := RX1) (T := TX1) (N := 11) hx hb hts hinX1 hown hK hB 0 rfl rfl 0 rfl hq5 rfl rfl dX1_readSetup_140 ?_
                refine lv_aload_n hx hb dX1_readSetup_143 rfl (lv_at hl 1 rfl) ?_
                refine lv_iconst (v := (1 : Int32)) hx hb dX1_readSetup_144 (by decide) ?_
                refine lv_bipush (v := (9 : Int32)) hx hb dX1_readSetup_145 (by decide) ?_
                obtain ⟨r96, ρ97, hc, hJ71⟩ := ob2_s hJ71
                refine g_callVi (As := [.int (1 : Int32), .int (9 : Int32)]) (rest := [.ref (bd 0)]) ⟨hx, hb, hml, hown, hts⟩ (kX1_readNumber l dC dI cyI cyB rd0 tx bd H.size hc) (cwV 2 hts gX1_readSetup_X1_readNumber rfl rfl rfl (by decide +kernel) ⟨Nat.le_of_ble_eq_true rfl, Nat.le_of_ble_eq_true rfl⟩) hK hB hA (g_recv (ci := 1) hK hB 0 rfl rfl rfl) rfl hl.1 rfl (Nat.le_of_ble_eq_true rfl) dX1_readSetup_147 ⟨Nat.zero_le _, Nat.zero_le _⟩ (fun H locs hB => ?_)
                obtain ⟨τ98, e9, hJ71⟩ := ob1_s hJ71
                have e9 := inj1 e9
                refine g_put (C := RX0) (T := TX0) (N := 17) hx hb hts hinX0 tyX0 tyX0_ok nmX0 hown hK hB 2 rfl rfl 1 rfl hq8 rfl rfl rfl rfl rfl rfl dX1_readSetup_150 (w2 := (cR cyI cyB rd0 tx bd β τ98 ρ97)) (by rw [← e9]; rfl) (fun H locs hB => ?_)
                refine lv_goto (tgt := 166) hx hb dX1_readSetup_153 (by decide) ?_
                obtain ⟨e0, e1⟩ := inj2 hJ71
                subst e0
                subst e1
                exact kJ72 _ _ _ hB (lv_sub hl [0, 1] rfl)
              have kFt90 : t90 = false → ∀ (H : Heap) (locs : List Loc), Bd (dC, dI) [(cyI, .int), (cyB, .byte)] (va_A (cR cyI cyB rd0 tx bd β τ ρ) s.heap.size) s (cR cyI cyB rd0 tx bd β τ59 ρ60) H locs → W p l e (headSpec wsX1_readSetup rmX1_readSetup).room s m ([.ref rd0] : List Value).toArray below meth c H locs 0 0 (MQ below (QvF (dC, dI) [(cyI, .int), (cyB, .byte)] (cR cyI cyB rd0 tx bd β τ ρ) (cR cyI cyB rd0 tx bd β τ_ ρ_) s.heap.size) ([.ref rd0] : List Value).toArray s 0 0 (va_A (cR cyI cyB rd0 tx bd β τ ρ) s.heap.size)) (F0 m 156 ls []) := by
                intro ht H locs hB
                have hJ71 := cnd_f ht hJ71
                refine lv_aload_n hx hb dX1_readSetup_156 rfl (lv_at hl 1 rfl) ?_
                refine lv_bipush (v := (-2 : Int32)) hx hb dX1_readSetup_157 (by decide) ?_
                refine lv_aload_n hx hb dX1_readSetup_159 rfl (lv_at hl 1 rfl) ?_
                refine g_get (C := RX1) (T := TX1) (N := 11) hx hb hts hinX1 hown hK hB 0 rfl rfl 8 rfl hq9 rfl rfl dX1_readSetup_160 ?_
                obtain ⟨ρ99, hc, hJ71⟩ := ob1_s hJ71
                refine g_callVv (As := [.int (-2 : Int32), .int (ρ60 8 0)]) (rest := []) ⟨hx, hb, hml, hown, hts⟩ (kX1_fail l dC dI cyI cyB rd0 tx bd H.size hc) (cwV 2 hts gX1_readSetup_X1_fail rfl rfl rfl (by decide +kernel) ⟨Nat.le_of_ble_eq_true rfl, Nat.le_of_ble_eq_true rfl⟩) hK hB hA (g_recv (ci := 1) hK hB 0 rfl rfl rfl) rfl hl.1 rfl (Nat.le_of_ble_eq_true rfl) dX1_readSetup_163 ⟨Nat.zero_le _, Nat.zero_le _⟩ (fun H locs hB => ?_)
                obtain ⟨e0, e1⟩ := inj2 hJ71
                subst e0
                subst e1
                exact kJ72 _ _ _ hB (lv_sub hl [0, 1] rfl)
              refine lv_if_eq (tgt := 156) hx hb dX1_readSetup_120 (by decide) (fun c92 => ?_) (fun c92 => ?_)
              · have hD91 := ite_t c92 hD91
                have e0 := inj1 hD91
                exact kFt90 e0.symm _ _ hB
              · have hD91 := ite_f c92 hD91
                refine lv_aload_n hx hb dX1_readSetup_123 rfl (lv_at hl 1 rfl) ?_
                refine g_get (C := RX1) (T := TX1) (N := 11) hx hb hts hinX1 hown hK hB 0 rfl rfl 6 rfl hq7 rfl rfl dX1_readSetup_124 ?_
                refine lv_if_ne (tgt := 156) hx hb dX1_readSetup_127 (by decide) (fun c93 => ?_) (fun c93 => ?_)
                · have hD91 := ite_f c93 hD91
                  have e0 := inj1 hD91
                  exact kFt90 e0.symm _ _ hB
                · have hD91 := ite_t c93 hD91
                  have e0 := inj1 hD91
                  exact kTt90 e0.symm _ _ hB
            refine lv_if_eq (tgt := 114) hx hb dX1_readSetup_78 (by decide) (fun c81 => ?_) (fun c81 => ?_)
            · have hD80 := ite_t c81 hD80
              have e0 := inj1 hD80
              exact kFt79 e0.symm _ _ hB
            · have hD80 := ite_f c81 hD80
              refine lv_aload_n hx hb dX1_readSetup_81 rfl (lv_at hl 1 rfl) ?_
              refine g_get (C := RX1) (T := TX1) (N := 11) hx hb hts hinX1 hown hK hB 0 rfl rfl 5 rfl hq4 rfl rfl dX1_readSetup_82 ?_
              refine lv_if_ne (tgt := 114) hx hb dX1_readSetup_85 (by decide) (fun c82 => ?_) (fun c82 => ?_)
              · have hD80 := ite_f c82 hD80
                have e0 := inj1 hD80
                exact kFt79 e0.symm _ _ hB
              · have hD80 := ite_t c82 hD80
                have e0 := inj1 hD80
                exact kTt79 e0.symm _ _ hB
          · have hJ71 := ite_f c76 hJ71
            refine lv_aload_n hx hb dX1_readSetup_65 rfl (lv_at hl 1 rfl) ?_
            obtain ⟨τ100, ρ101, hc, hJ71⟩ := ob2_s hJ71
            refine g_jcallVv (As := []) (rest := []) ⟨hx, hb, hml, hown, hts⟩ hJ (kX1_readJourney l dC dI cyI cyB rd0 tx bd kS H.size hc) (cwV 0 hts gX1_readSetup_X1_readJourney rfl rfl rfl (by decide +kernel) ⟨Nat.le_of_ble_eq_true rfl, Nat.le_of_ble_eq_true rfl⟩) hK hB hA (g_recv (ci := 1) hK hB 0 rfl rfl rfl) rfl hl.1 rfl (Nat.le_of_ble_eq_true rfl) dX1_readSetup_66 ⟨Nat.zero_le _, Nat.zero_le _⟩ (fun H locs hB => ?_)
            refine lv_goto (tgt := 166) hx hb dX1_readSetup_69 (by decide) ?_
            obtain ⟨e0, e1⟩ := inj2 hJ71
            subst e0
            subst e1
            exact kJ72 _ _ _ hB (lv_sub hl [0, 1] rfl)
        · have hJ71 := ite_f c73 hJ71
          refine lv_aload_n hx hb dX1_readSetup_49 rfl (lv_at hl 1 rfl) ?_
          obtain ⟨τ102, ρ103, hc, hJ71⟩ := ob2_s hJ71
          refine g_callVv (As := []) (rest := []) ⟨hx, hb, hml, hown, hts⟩ (kX1_readStock l dC dI cyI cyB rd0 tx bd H.size hc) (cwV 0 hts gX1_readSetup_X1_readStock rfl rfl rfl (by decide +kernel) ⟨Nat.le_of_ble_eq_true rfl, Nat.le_of_ble_eq_true rfl⟩) hK hB hA (g_recv (ci := 1) hK hB 0 rfl rfl rfl) rfl hl.1 rfl (Nat.le_of_ble_eq_true rfl) dX1_readSetup_50 ⟨Nat.zero_le _, Nat.zero_le _⟩ (fun H locs hB => ?_)
          refine lv_goto (tgt := 166) hx hb dX1_readSetup_53 (by decide) ?_
          obtain ⟨e0, e1⟩ := inj2 hJ71
          subst e0
          subst e1
          exact kJ72 _ _ _ hB (lv_sub hl [0, 1] rfl)
      have kFt62 : t62 = false → ∀ (H : Heap) (locs : List Loc), Bd (dC, dI) [(cyI, .int), (cyB, .byte)] (va_A (cR cyI cyB rd0 tx bd β τ ρ) s.heap.size) s (cR cyI cyB rd0 tx bd β τ59 ρ60) H locs → W p l e (headSpec wsX1_readSetup rmX1_readSetup).room s m ([.ref rd0] : List Value).toArray below meth c H locs 0 0 (MQ below (QvF (dC, dI) [(cyI, .int), (cyB, .byte)] (cR cyI cyB rd0 tx bd β τ ρ) (cR cyI cyB rd0 tx bd β τ_ ρ_) s.heap.size) ([.ref rd0] : List Value).toArray s 0 0 (va_A (cR cyI cyB rd0 tx bd β τ ρ) s.heap.size)) (F0 m 178 ls []) := by
        intro ht H locs hB
        have hg56 := cnd_f ht hg56
        have hL55 := el1_l (inj1 hg56) hL55
        obtain ⟨e0, e1⟩ := inj2 hL55
        subst e0
        subst e1
        exact kE53 _ _ _ hB (lv_sub hl [] rfl)
      refine lv_icmp_ge (tgt := 178) hx hb dX1_readSetup_23 (by decide) (fun c64 => ?_) (fun c64 => ?_)
      · have hD63 := ite_t c64 hD63
        have e0 := inj1 hD63
        exact kFt62 e0.symm _ _ hB
      · have hD63 := ite_f c64 hD63
        refine lv_aload_n hx hb dX1_readSetup_26 rfl (lv_at hl 1 rfl) ?_
        refine g_get (C := RX1) (T := TX1) (N := 11) hx hb hts hinX1 hown hK hB 0 rfl rfl 1 rfl hq2 rfl rfl dX1_readSetup_27 ?_
        refine lv_if_ne (tgt := 178) hx hb dX1_readSetup_30 (by decide) (fun c65 => ?_) (fun c65 => ?_)
        · have hD63 := ite_f c65 hD63
          have e0 := inj1 hD63
          exact kFt62 e0.symm _ _ hB
        · have hD63 := ite_t c65 hD63
          refine lv_aload_n hx hb dX1_readSetup_33 rfl (lv_at hl 1 rfl) ?_
          refine g_get (C := RX1) (T := TX1) (N := 11) hx hb hts hinX1 hown hK hB 0 rfl rfl 7 rfl hq3 rfl rfl dX1_readSetup_34 ?_
          refine lv_if_eq (tgt := 178) hx hb dX1_readSetup_37 (by decide) (fun c66 => ?_) (fun c66 => ?_)
          · have hD63 := ite_t c66 hD63
            have e0 := inj1 hD63
            exact kFt62 e0.symm _ _ hB
          · have hD63 := ite_f c66 hD63
            have e0 := inj1 hD63
            exact kTt62 e0.symm _ _ hB
  exact key54 fu _ _ _ _ _ _ hL55 hB (lv_sub hl [0, 1] rfl)

