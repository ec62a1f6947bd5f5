abbrev rmX4_holds : Room := { frames := 5, cells := 0, slots := 0, locals := 108 }

set_option maxHeartbeats 4000000 in
set_option maxRecDepth 100000 in
theorem kX4_holds (l : Launch) (dC : Nat → ClassId) (dI : Nat → Nat → Nat) (cyI cyO : ClassId) (ad : Nat → Nat) (sz : Nat) {fu : Nat} {μ : MS} {i1 : Int32} {i2 : Int32} {r : Int32} (hf : mX4_holds fu μ i1 i2 = some r) : Met l yX4_holds wsX4_holds rmX4_holds (PcF (dC, dI) [(cyI, .int), (cyO, .array .int)] (cM cyI cyO ad μ) sz [.ref (ad 0), .int i1, .int i2]) (QzF (dC, dI) [(cyI, .int), (cyO, .array .int)] (cM cyI cyO ad μ) (cM cyI cyO ad μ) sz r) 0 0 (va_A (cM cyI cyO ad μ) sz) := by
  refine Met.ofW (cc := cX4_holds) (maxL := 4) (ret := (some .boolean)) (by decide) rfl ?_
  intro p e s m args below meth c s₁ B hml hv
  obtain ⟨rfl, hsz, hP, hK, hD0⟩ := hv
  have hx := B.exec
  have hb := B.bytes
  have hr := B.returns
  have hts := atoms_spec (ws := wsX4_holds) B.pre
  have hown : s.vm.findClass RX4 = some m.cls := findClass_of_methodNamed B.named
  have hlocks := B.notSynchronized
  subst hsz
  have hA : ∀ q : Nat, s.heap.size ≤ q → va_A (cM cyI cyO ad μ) s.heap.size q := fun q h => Or.inr h
  have hB : Bd (dC, dI) [(cyI, .int), (cyO, .array .int)] (va_A (cM cyI cyO ad μ) s.heap.size) s (cM cyI cyO ad μ) s.heap [] := ⟨hP, hD0.self, va_S.rf⟩
  have hq1 : (Cond.fieldLink RX4 17 "UndoJourneysModel" "data" "[I").before _ s = true := hts _ (List.mem_of_getElem? (i := 1) rfl)
  have hinX4 : ∀ w ∈ wsX40, w ∈ wsX4_holds := fun w h => List.mem_cons_of_mem _ (List.mem_append_right _ h)
  have hl := lv_entry [.ref (ad 0), .int i1, .int i2] (n := 4) (Nat.le_of_ble_eq_true rfl)
  rw [lg_entry_eq]
  generalize (lg_sl [.ref (ad 0), .int i1, .int i2] ++ List.replicate (4 - (lg_sl [.ref (ad 0), .int i1, .int i2]).length) Slot.unset).toArray = ls at hl ⊢
  have hl : lv_has ls 4 [(0, .ref (ad 0)), (1, .int i1), (2, .int i2)] := hl
  clear hP hD0
  suffices main : ∀ (H : Heap) (locs : List Loc), Bd (dC, dI) [(cyI, .int), (cyO, .array .int)] (va_A (cM cyI cyO ad μ) s.heap.size) s (cM cyI cyO ad μ) H locs → W p l e (headSpec wsX4_holds rmX4_holds).room s m ([.ref (ad 0), .int i1, .int i2] : List Value).toArray below meth c H locs 0 0 (MQ below (QzF (dC, dI) [(cyI, .int), (cyO, .array .int)] (cM cyI cyO ad μ) (cM cyI cyO ad μ) s.heap.size r) ([.ref (ad 0), .int i1, .int i2] : List Value).toArray s 0 0 (va_A (cM cyI cyO ad μ) s.heap.size)) (F0 m 0 ls []) from main _ _ hB
  clear hB
  intro H locs hB
  unfold mX4_holds at hf
  refine lv_aload_n hx hb dX4_holds_0 rfl (lv_at hl 0 rfl) ?_
  refine lv_iload_n hx hb dX4_holds_1 rfl (lv_at hl 1 rfl) ?_
  obtain ⟨r1, hc, hf⟩ := ob1_s hf
  refine g_callVz (As := [.int i1]) (rest := []) ⟨hx, hb, hml, hown, hts⟩ (kX4_hasEnded l dC dI cyI cyO ad H.size hc) (cwV 1 hts gX4_holds_X4_hasEnded rfl rfl rfl (by decide +kernel) ⟨Nat.le_of_ble_eq_true rfl, Nat.le_of_ble_eq_true rfl⟩) hK hB hA (g_recv (ci := 4) hK hB 0 rfl rfl rfl) rfl hl.1 rfl (Nat.le_of_ble_eq_true rfl) dX4_holds_2 ⟨Nat.zero_le _, Nat.zero_le _⟩ (fun z2 H locs hB => ?_)
  refine lv_if_eq (tgt := 10) hx hb dX4_holds_5 (by decide) (fun c3 => ?_) (fun c3 => ?_)
  · have hf := ite_t c3 hf
    refine lv_iconst (v := (0 : Int32)) hx hb dX4_holds_10 (by decide) ?_
    refine lv_istore_n (lv' := [(3, .int (0 : Int32)), (0, .ref (ad 0)), (1, .int i1), (2, .int i2)]) hx hb dX4_holds_11 rfl hl (by decide) rfl (fun ls hl => ?_)
    obtain ⟨b22, hL20, hf⟩ := ob1_s hf
    have kE18 : ∀ (H : Heap) (locs : List Loc) (ls : Array Slot), Sum.inr () = b22 → Bd (dC, dI) [(cyI, .int), (cyO, .array .int)] (va_A (cM cyI cyO ad μ) s.heap.size) s (cM cyI cyO ad μ) H locs → lv_has ls 4 [] → W p l e (headSpec wsX4_holds rmX4_holds).room s m ([.ref (ad 0), .int i1, .int i2] : List Value).toArray below meth c H locs 0 0 (MQ below (QzF (dC, dI) [(cyI, .int), (cyO, .array .int)] (cM cyI cyO ad μ) (cM cyI cyO ad μ) s.heap.size r) ([.ref (ad 0), .int i1, .int i2] : List Value).toArray s 0 0 (va_A (cM cyI cyO ad μ) s.heap.size)) (F0 m 56 ls []) := by
      intro  H locs ls hb9 hB hl
      have hf := el1_r hb9 hf
      refine lv_iconst (v := (0 : Int32)) hx hb dX4_holds_56 (by decide) ?_
      have e0 := inj1 hf
      subst e0
      exact g_zret hx hb hr hlocks hK hB (Or.inl rfl) dX4_holds_57
    have key19 : ∀ (n9 : Nat) (v23 : Int32) (H : Heap) (locs : List Loc) (ls : Array Slot), loopM (fun st => mX4_holds_L12 fu i1 i2 μ st) n9 v23 = some b22 → Bd (dC, dI) [(cyI, .int), (cyO, .array .int)] (va_A (cM cyI cyO ad μ) s.heap.size) s (cM cyI cyO ad μ) H locs → lv_has ls 4 [(3, .int v23), (0, .ref (ad 0)), (1, .int i1), (2, .int i2)] → W p l e (headSpec wsX4_holds rmX4_holds).room s m ([.ref (ad 0), .int i1, .int i2] : List Value).toArray below meth c H locs 0 0 (MQ below (QzF (dC, dI) [(cyI, .int), (cyO, .array .int)] (cM cyI cyO ad μ) (cM cyI cyO ad μ) s.heap.size r) ([.ref (ad 0), .int i1, .int i2] : List Value).toArray s 0 0 (va_A (cM cyI cyO ad μ) s.heap.size)) (F0 m 12 ls []) := by
      intro n9
      induction n9 with
      | zero => intro v23 H locs ls hL20; exact (loopM_z hL20).elim
      | succ n9 ih9 =>
        intro v23 H locs ls hL20 hB hl
        obtain ⟨o24, hg21, hL20⟩ := loopM_s hL20
        have hg21 : mX4_holds_L12 fu i1 i2 μ v23 = some o24 := hg21
        unfold mX4_holds_L12 at hg21
        refine lv_iload_n hx hb dX4_holds_12 rfl (lv_at hl 0 rfl) ?_
        refine lv_aload_n hx hb dX4_holds_13 rfl (lv_at hl 1 rfl) ?_
        refine lv_iload_n hx hb dX4_holds_14 rfl (lv_at hl 2 rfl) ?_
        refine lv_iconst (v := (3 : Int32)) hx hb dX4_holds_15 (by decide) ?_
        obtain ⟨r25, hc, hg21⟩ := ob1_s hg21
        refine g_callVi (As := [.int i1, .int (3 : Int32)]) (rest := [.int v23]) ⟨hx, hb, hml, hown, hts⟩ (kX4_ofJourney l dC dI cyI cyO ad H.size hc) (cwV 2 hts gX4_holds_X4_ofJourney rfl rfl rfl (by decide +kernel) ⟨Nat.le_of_ble_eq_true rfl, Nat.le_of_ble_eq_true rfl⟩) hK hB hA (g_recv (ci := 4) hK hB 0 rfl rfl rfl) rfl hl.1 rfl (Nat.le_of_ble_eq_true rfl) dX4_holds_16 ⟨Nat.zero_le _, Nat.zero_le _⟩ (fun H locs hB => ?_)
        refine lv_icmp_ge (tgt := 56) hx hb dX4_holds_19 (by decide) (fun c26 => ?_) (fun c26 => ?_)
        · have hg21 := ite_t c26 hg21
          have hL20 := el1_l (inj1 hg21) hL20
          exact kE18  _ _ _ (inj1 hL20) hB (lv_sub hl [] rfl)
        · have hg21 := ite_f c26 hg21
          refine lv_aload_n hx hb dX4_holds_22 rfl (lv_at hl 1 rfl) ?_
          refine g_get (C := RX4) (T := TX4) (N := 15) hx hb hts hinX4 hown hK hB 0 rfl rfl 8 rfl hq1 rfl rfl dX4_holds_23 ?_
          refine lv_aload_n hx hb dX4_holds_26 rfl (lv_at hl 1 rfl) ?_
          refine lv_iload_n hx hb dX4_holds_27 rfl (lv_at hl 2 rfl) ?_
          refine lv_iload_n hx hb dX4_holds_28 rfl (lv_at hl 0 rfl) ?_
          obtain ⟨r27, hc, hg21⟩ := ob1_s hg21
          refine g_callVi (As := [.int i1, .int v23]) (rest := [.ref (ad 8)]) ⟨hx, hb, hml, hown, hts⟩ (kX4_stepAt l dC dI cyI cyO ad H.size hc) (cwV 2 hts gX4_holds_X4_stepAt rfl rfl rfl (by decide +kernel) ⟨Nat.le_of_ble_eq_true rfl, Nat.le_of_ble_eq_true rfl⟩) hK hB hA (g_recv (ci := 4) hK hB 0 rfl rfl rfl) rfl hl.1 rfl (Nat.le_of_ble_eq_true rfl) dX4_holds_29 ⟨Nat.zero_le _, Nat.zero_le _⟩ (fun H locs hB => ?_)
          refine lv_iconst (v := (1 : Int32)) hx hb dX4_holds_32 (by decide) ?_
          refine lv_iadd hx hb dX4_holds_33 ?_
          obtain ⟨x28, e9, hg21⟩ := ob1_s hg21
          refine g_iald hx hb hK hB 2 0 rfl rfl (rd_s e9) dX4_holds_34 ?_
          refine lv_iload_n hx hb dX4_holds_35 rfl (lv_at hl 3 rfl) ?_
          obtain ⟨t29, hD30, hg21⟩ := ob1_s hg21
          have kTt29 : t29 = true → ∀ (H : Heap) (locs : List Loc), Bd (dC, dI) [(cyI, .int), (cyO, .array .int)] (va_A (cM cyI cyO ad μ) s.heap.size) s (cM cyI cyO ad μ) H locs → W p l e (headSpec wsX4_holds rmX4_holds).room s m ([.ref (ad 0), .int i1, .int i2] : List Value).toArray below meth c H locs 0 0 (MQ below (QzF (dC, dI) [(cyI, .int), (cyO, .array .int)] (cM cyI cyO ad μ) (cM cyI cyO ad μ) s.heap.size r) ([.ref (ad 0), .int i1, .int i2] : List Value).toArray s 0 0 (va_A (cM cyI cyO ad μ) s.heap.size)) (F0 m 48 ls []) := by
            intro ht H locs hB
            have hg21 := cnd_t ht hg21
            refine lv_iconst (v := (1 : Int32)) hx hb dX4_holds_48 (by decide) ?_
            have hL20 := el1_l (inj1 hg21) hL20
            have hf := el1_l (inj1 hL20) hf
            have e0 := inj1 hf
            subst e0
            exact g_zret hx hb hr hlocks hK hB (Or.inr rfl) dX4_holds_49
          have kFt29 : t29 = false → ∀ (H : Heap) (locs : List Loc), Bd (dC, dI) [(cyI, .int), (cyO, .array .int)] (va_A (cM cyI cyO ad μ) s.heap.size) s (cM cyI cyO ad μ) H locs → W p l e (headSpec wsX4_holds rmX4_holds).room s m ([.ref (ad 0), .int i1, .int i2] : List Value).toArray below meth c H locs 0 0 (MQ below (QzF (dC, dI) [(cyI, .int), (cyO, .array .int)] (cM cyI cyO ad μ) (cM cyI cyO ad μ) s.heap.size r) ([.ref (ad 0), .int i1, .int i2] : List Value).toArray s 0 0 (va_A (cM cyI cyO ad μ) s.heap.size)) (F0 m 50 ls []) := by
            intro ht H locs hB
            have hg21 := cnd_f ht hg21
            refine lv_iinc (v := (v23 + (1 : Int32))) (lv' := [(3, .int (v23 + (1 : Int32))), (0, .ref (ad 0)), (1, .int i1), (2, .int i2)]) hx hb dX4_holds_50 hl (k := 0) rfl rfl (by decide) rfl (fun ls hl => ?_)
            refine lv_goto (tgt := 12) hx hb dX4_holds_53 (by decide) ?_
            have hL20 := el1_r (inj1 hg21) hL20
            exact ih9 _ _ _ _ hL20 hB (lv_sub hl [0, 1, 2, 3] rfl)
          refine lv_icmp_ne (tgt := 50) hx hb dX4_holds_36 (by decide) (fun c31 => ?_) (fun c31 => ?_)
          · have hD30 := ite_f c31 hD30
            have e0 := inj1 hD30
            exact kFt29 e0.symm _ _ hB
          · have hD30 := ite_t c31 hD30
            refine lv_aload_n hx hb dX4_holds_39 rfl (lv_at hl 1 rfl) ?_
            refine lv_iload_n hx hb dX4_holds_40 rfl (lv_at hl 2 rfl) ?_
            refine lv_iload_n hx hb dX4_holds_41 rfl (lv_at hl 0 rfl) ?_
            obtain ⟨r32, hc, hD30⟩ := ob1_s hD30
            refine g_callVz (As := [.int i1, .int v23]) (rest := []) ⟨hx, hb, hml, hown, hts⟩ (kX4_isTaken l dC dI cyI cyO ad H.size hc) (cwV 2 hts gX4_holds_X4_isTaken rfl rfl rfl (by decide +kernel) ⟨Nat.le_of_ble_eq_true rfl, Nat.le_of_ble_eq_true rfl⟩) hK hB hA (g_recv (ci := 4) hK hB 0 rfl rfl rfl) rfl hl.1 rfl (Nat.le_of_ble_eq_true rfl) dX4_holds_42 ⟨Nat.zero_le _, Nat.zero_le _⟩ (fun z33 H locs hB => ?_)
            refine lv_if_eq (tgt := 50) hx hb dX4_holds_45 (by decide) (fun c34 => ?_) (fun c34 => ?_)
            · have hD30 := ite_t c34 hD30
              have e0 := inj1 hD30
              exact kFt29 e0.symm _ _ hB
            · have hD30 := ite_f c34 hD30
              have e0 := inj1 hD30
              exact kTt29 e0.symm _ _ hB
    exact key19 fu _ _ _ _ hL20 hB (lv_sub hl [0, 1, 2, 3] rfl)
  · have hf := ite_f c3 hf
    refine lv_iconst (v := (0 : Int32)) hx hb dX4_holds_8 (by decide) ?_
    have e0 := inj1 hf
    subst e0
    exact g_zret hx hb hr hlocks hK hB (Or.inl rfl) dX4_holds_9

abbrev rmX4_holders : Room := { frames := 6, cells := 0, slots := 0, locals := 131 }

set_option maxHeartbeats 4000000 in
set_option maxRecDepth 100000 in
theorem kX4_holders (l : Launch) (dC : Nat → ClassId) (dI : Nat → Nat → Nat) (cyI cyO : ClassId) (ad : Nat → Nat) (sz : Nat) {fu : Nat} {μ : MS} {i1 : Int32} {r : Int32} (hf : mX4_holders fu μ i1 = some r) : Met l yX4_holders wsX4_holders rmX4_holders (PcF (dC, dI) [(cyI, .int), (cyO, .array .int)] (cM cyI cyO ad μ) sz [.ref (ad 0), .int i1]) (QiF (dC, dI) [(cyI, .int), (cyO, .array .int)] (cM cyI cyO ad μ) (cM cyI cyO ad μ) sz r) 0 0 (va_A (cM cyI cyO ad μ) sz) := by
  refine Met.ofW (cc := cX4_holders) (maxL := 4) (ret := (some .int)) (by decide) rfl ?_
  intro p e s m args below meth c s₁ B hml hv
  obtain ⟨rfl, hsz, hP, hK, hD0⟩ := hv
  have hx := B.exec
  have hb := B.bytes
  have hr := B.returns
  have hts := atoms_spec (ws := wsX4_holders) B.pre
  have hown : s.vm.findClass RX4 = some m.cls := findClass_of_methodNamed B.named
  have hlocks := B.notSynchronized
  subst hsz
  have hA : ∀ q : Nat, s.heap.size ≤ q → va_A (cM cyI cyO ad μ) s.heap.size q := fun q h => Or.inr h
  have hB : Bd (dC, dI) [(cyI, .int), (cyO, .array .int)] (va_A (cM cyI cyO ad μ) s.heap.size) s (cM cyI cyO ad μ) s.heap [] := ⟨hP, hD0.self, va_S.rf⟩
  have hq1 : (Cond.fieldLink RX4 17 "UndoJourneysModel" "data" "[I").before _ s = true := hts _ (List.mem_of_getElem? (i := 1) rfl)
  have hinX4 : ∀ w ∈ wsX40, w ∈ wsX4_holders := fun w h => List.mem_cons_of_mem _ (List.mem_append_right _ h)
  have hl := lv_entry [.ref (ad 0), .int i1] (n := 4) (Nat.le_of_ble_eq_true rfl)
  rw [lg_entry_eq]
  generalize (lg_sl [.ref (ad 0), .int i1] ++ List.replicate (4 - (lg_sl [.ref (ad 0), .int i1]).length) Slot.unset).toArray = ls at hl ⊢
  have hl : lv_has ls 4 [(0, .ref (ad 0)), (1, .int i1)] := hl
  clear hP hD0
  suffices main : ∀ (H : Heap) (locs : List Loc), Bd (dC, dI) [(cyI, .int), (cyO, .array .int)] (va_A (cM cyI cyO ad μ) s.heap.size) s (cM cyI cyO ad μ) H locs → W p l e (headSpec wsX4_holders rmX4_holders).room s m ([.ref (ad 0), .int i1] : List Value).toArray below meth c H locs 0 0 (MQ below (QiF (dC, dI) [(cyI, .int), (cyO, .array .int)] (cM cyI cyO ad μ) (cM cyI cyO ad μ) s.heap.size r) ([.ref (ad 0), .int i1] : List Value).toArray s 0 0 (va_A (cM cyI cyO ad μ) s.heap.size)) (F0 m 0 ls []) from main _ _ hB
  clear hB
  intro H locs hB
  unfold mX4_holders at hf
  refine lv_iconst (v := (0 : Int32)) hx hb dX4_holders_0 (by decide) ?_
  refine lv_istore_n (lv' := [(2, .int (0 : Int32)), (0, .ref (ad 0)), (1, .int i1)]) hx hb dX4_holders_1 rfl hl (by decide) rfl (fun ls hl => ?_)
  refine lv_iconst (v := (0 : Int32)) hx hb dX4_holders_2 (by decide) ?_
  refine lv_istore_n (lv' := [(3, .int (0 : Int32)), (2, .int (0 : Int32)), (0, .ref (ad 0)), (1, .int i1)]) hx hb dX4_holders_3 rfl hl (by decide) rfl (fun ls hl => ?_)
  obtain ⟨v14, hL17, hf⟩ := ob1_s hf
  have kE15 : ∀ (H : Heap) (locs : List Loc) (ls : Array Slot), Bd (dC, dI) [(cyI, .int), (cyO, .array .int)] (va_A (cM cyI cyO ad μ) s.heap.size) s (cM cyI cyO ad μ) H locs → lv_has ls 4 [(2, .int v14)] → W p l e (headSpec wsX4_holders rmX4_holders).room s m ([.ref (ad 0), .int i1] : List Value).toArray below meth c H locs 0 0 (MQ below (QiF (dC, dI) [(cyI, .int), (cyO, .array .int)] (cM cyI cyO ad μ) (cM cyI cyO ad μ) s.heap.size r) ([.ref (ad 0), .int i1] : List Value).toArray s 0 0 (va_A (cM cyI cyO ad μ) s.heap.size)) (F0 m 37 ls []) := by
    intro H locs ls hB hl
    refine lv_iload_n hx hb dX4_holders_37 rfl (lv_at hl 0 rfl) ?_
    have e0 := inj1 hf
    subst e0
    exact g_iret hx hb hr hlocks hK hB dX4_holders_38
  have key16 : ∀ (n9 : Nat) (v20 : Int32) (v21 : Int32) (H : Heap) (locs : List Loc) (ls : Array Slot), loopM (fun st => mX4_holders_L4 fu i1 μ st.1 st.2) n9 (v20, v21) = some v14 → Bd (dC, dI) [(cyI, .int), (cyO, .array .int)] (va_A (cM cyI cyO ad μ) s.heap.size) s (cM cyI cyO ad μ) H locs → lv_has ls 4 [(3, .int v20), (2, .int v21), (0, .ref (ad 0)), (1, .int i1)] → W p l e (headSpec wsX4_holders rmX4_holders).room s m ([.ref (ad 0), .int i1] : List Value).toArray below meth c H locs 0 0 (MQ below (QiF (dC, dI) [(cyI, .int), (cyO, .array .int)] (cM cyI cyO ad μ) (cM cyI cyO ad μ) s.heap.size r) ([.ref (ad 0), .int i1] : List Value).toArray s 0 0 (va_A (cM cyI cyO ad μ) s.heap.size)) (F0 m 4 ls []) := by
    intro n9
    induction n9 with
    | zero => intro v20 v21 H locs ls hL17; exact (loopM_z hL17).elim
    | succ n9 ih9 =>
      intro v20 v21 H locs ls hL17 hB hl
      obtain ⟨o22, hg18, hL17⟩ := loopM_s hL17
      have hg18 : mX4_holders_L4 fu i1 μ v20 v21 = some o22 := hg18
      unfold mX4_holders_L4 at hg18
      refine lv_iload_n hx hb dX4_holders_4 rfl (lv_at hl 0 rfl) ?_
      refine lv_aload_n hx hb dX4_holders_5 rfl (lv_at hl 2 rfl) ?_
      refine g_get (C := RX4) (T := TX4) (N := 15) hx hb hts hinX4 hown hK hB 0 rfl rfl 8 rfl hq1 rfl rfl dX4_holders_6 ?_
      refine lv_iconst (v := (2 : Int32)) hx hb dX4_holders_9 (by decide) ?_
      obtain ⟨x23, e9, hg18⟩ := ob1_s hg18
      refine g_iald hx hb hK hB 2 0 rfl rfl (rd_s e9) dX4_holders_10 ?_
      refine lv_icmp_ge (tgt := 37) hx hb dX4_holders_11 (by decide) (fun c24 => ?_) (fun c24 => ?_)
      · have hg18 := ite_t c24 hg18
        have hL17 := el1_l (inj1 hg18) hL17
        have e0 := inj1 hL17
        subst e0
        exact kE15 _ _ _ hB (lv_sub hl [1] rfl)
      · have hg18 := ite_f c24 hg18
        refine lv_iload_n hx hb dX4_holders_14 rfl (lv_at hl 1 rfl) ?_
        refine lv_aload_n hx hb dX4_holders_15 rfl (lv_at hl 2 rfl) ?_
        refine lv_iload_n hx hb dX4_holders_16 rfl (lv_at hl 0 rfl) ?_
        refine lv_iload_n hx hb dX4_holders_17 rfl (lv_at hl 3 rfl) ?_
        obtain ⟨r25, hc, hg18⟩ := ob1_s hg18
        refine g_callVz (As := [.int v20, .int i1]) (rest := [.int v21]) ⟨hx, hb, hml, hown, hts⟩ (kX4_holds l dC dI cyI cyO ad H.size hc) (cwV 2 hts gX4_holders_X4_holds rfl rfl rfl (by decide +kernel) ⟨Nat.le_of_ble_eq_true rfl, Nat.le_of_ble_eq_true rfl⟩) hK hB hA (g_recv (ci := 4) hK hB 0 rfl rfl rfl) rfl hl.1 rfl (Nat.le_of_ble_eq_true rfl) dX4_holders_18 ⟨Nat.zero_le _, Nat.zero_le _⟩ (fun z26 H locs hB => ?_)
        obtain ⟨v27, hJ29, hg18⟩ := ob1_s hg18
        have kJ30 : (v27 = 0 ∨ v27 = 1) → ∀ (H : Heap) (locs : List Loc) (ls : Array Slot), Bd (dC, dI) [(cyI, .int), (cyO, .array .int)] (va_A (cM cyI cyO ad μ) s.heap.size) s (cM cyI cyO ad μ) H locs → lv_has ls 4 [(3, .int v20), (0, .ref (ad 0)), (1, .int i1)] → W p l e (headSpec wsX4_holders rmX4_holders).room s m ([.ref (ad 0), .int i1] : List Value).toArray below meth c H locs 0 0 (MQ below (QiF (dC, dI) [(cyI, .int), (cyO, .array .int)] (cM cyI cyO ad μ) (cM cyI cyO ad μ) s.heap.size r) ([.ref (ad 0), .int i1] : List Value).toArray s 0 0 (va_A (cM cyI cyO ad μ) s.heap.size)) (F0 m 29 ls [.int v27, .int v21]) := by
          intro z28 H locs ls hB hl
          refine lv_iadd hx hb dX4_holders_29 ?_
          refine lv_istore_n (lv' := [(2, .int (v21 + v27)), (3, .int v20), (0, .ref (ad 0)), (1, .int i1)]) hx hb dX4_holders_30 rfl hl (by decide) rfl (fun ls hl => ?_)
          refine lv_iinc (v := (v20 + (1 : Int32))) (lv' := [(3, .int (v20 + (1 : Int32))), (2, .int (v21 + v27)), (0, .ref (ad 0)), (1, .int i1)]) hx hb dX4_holders_31 hl (k := 1) rfl rfl (by decide) rfl (fun ls hl => ?_)
          refine lv_goto (tgt := 4) hx hb dX4_holders_34 (by decide) ?_
          have hL17 := el1_r (inj1 hg18) hL17
          exact ih9 _ _ _ _ _ hL17 hB (lv_sub hl [0, 1, 2, 3] rfl)
        refine lv_if_eq (tgt := 28) hx hb dX4_holders_21 (by decide) (fun c31 => ?_) (fun c31 => ?_)
        · have hJ29 := ite_t c31 hJ29
          refine lv_iconst (v := (0 : Int32)) hx hb dX4_holders_28 (by decide) ?_
          have e0 := inj1 hJ29
          subst e0
          exact kJ30 (Or.inl rfl) _ _ _ hB (lv_sub hl [0, 2, 3] rfl)
        · have hJ29 := ite_f c31 hJ29
          refine lv_iconst (v := (1 : Int32)) hx hb dX4_holders_24 (by decide) ?_
          refine lv_goto (tgt := 29) hx hb dX4_holders_25 (by decide) ?_
          have e0 := inj1 hJ29
          subst e0
          exact kJ30 (Or.inr rfl) _ _ _ hB (lv_sub hl [0, 2, 3] rfl)
  exact key16 fu _ _ _ _ _ hL17 hB (lv_sub hl [0, 1, 2, 3] rfl)

abbrev rmX4_levelAt : Room := { frames := 0, cells := 0, slots := 0, locals := 0 }

set_option maxHeartbeats 4000000 in
set_option maxRecDepth 100000 in
theorem kX4_levelAt (l : Launch) (dC : Nat → ClassId) (dI : Nat → Nat → Nat) (cyI cyO : ClassId) (ad : Nat → Nat) (sz : Nat) {fu : Nat} {μ : MS} {i1 : Int32} {r : Int32} (hf : mX4_levelAt fu μ i1 = some r) : Met l yX4_levelAt wsX4_levelAt rmX4_levelAt (PcF (dC, dI) [(cyI, .int), (cyO, .array .int)] (cM cyI cyO ad μ) sz [.ref (ad 0), .int i1]) (QiF (dC, dI) [(cyI, .int), (cyO, .array .int)] (cM cyI cyO ad μ) (cM cyI cyO ad μ) sz r) 0 0 (va_A (cM cyI cyO ad μ) sz) := by
  refine Met.ofW (cc := cX4_levelAt) (maxL := 2) (ret := (some .int)) (by decide) rfl ?_
  intro p e s m args below meth c s₁ B hml hv
  obtain ⟨rfl, hsz, hP, hK, hD0⟩ := hv
  have hx := B.exec
  have hb := B.bytes
  have hr := B.returns
  have hts := atoms_spec (ws := wsX4_levelAt) B.pre
  have hown : s.vm.findClass RX4 = some m.cls := findClass_of_methodNamed B.named
  have hlocks := B.notSynchronized
  subst hsz
  have hA : ∀ q : Nat, s.heap.size ≤ q → va_A (cM cyI cyO ad μ) s.heap.size q := fun q h => Or.inr h
  have hB : Bd (dC, dI) [(cyI, .int), (cyO, .array .int)] (va_A (cM cyI cyO ad μ) s.heap.size) s (cM cyI cyO ad μ) s.heap [] := ⟨hP, hD0.self, va_S.rf⟩
  have hq1 : (Cond.fieldLink RX4 17 "UndoJourneysModel" "data" "[I").before _ s = true := hts _ (List.mem_of_getElem? (i := 1) rfl)
  have hinX4 : ∀ w ∈ wsX40, w ∈ wsX4_levelAt := fun w h => List.mem_cons_of_mem _ (List.mem_append_right _ h)
  have hl := lv_entry [.ref (ad 0), .int i1] (n := 2) (Nat.le_of_ble_eq_true rfl)
  rw [lg_entry_eq]
  generalize (lg_sl [.ref (ad 0), .int i1] ++ List.replicate (2 - (lg_sl [.ref (ad 0), .int i1]).length) Slot.unset).toArray = ls at hl ⊢
  have hl : lv_has ls 2 [(0, .ref (ad 0)), (1, .int i1)] := hl
  clear hP hD0
  suffices main : ∀ (H : Heap) (locs : List Loc), Bd (dC, dI) [(cyI, .int), (cyO, .array .int)] (va_A (cM cyI cyO ad μ) s.heap.size) s (cM cyI cyO ad μ) H locs → W p l e (headSpec wsX4_levelAt rmX4_levelAt).room s m ([.ref (ad 0), .int i1] : List Value).toArray below meth c H locs 0 0 (MQ below (QiF (dC, dI) [(cyI, .int), (cyO, .array .int)] (cM cyI cyO ad μ) (cM cyI cyO ad μ) s.heap.size r) ([.ref (ad 0), .int i1] : List Value).toArray s 0 0 (va_A (cM cyI cyO ad μ) s.heap.size)) (F0 m 0 ls []) from main _ _ hB
  clear hB
  intro H locs hB
  unfold mX4_levelAt at hf
  refine lv_bipush (v := (7 : Int32)) hx hb dX4_levelAt_0 (by decide) ?_
  refine lv_iconst (v := (2 : Int32)) hx hb dX4_levelAt_2 (by decide) ?_
  refine lv_aload_n hx hb dX4_levelAt_3 rfl (lv_at hl 0 rfl) ?_
  refine g_get (C := RX4) (T := TX4) (N := 15) hx hb hts hinX4 hown hK hB 0 rfl rfl 8 rfl hq1 rfl rfl dX4_levelAt_4 ?_
  refine lv_iload_n hx hb dX4_levelAt_7 rfl (lv_at hl 1 rfl) ?_
  refine lv_iconst (v := (1 : Int32)) hx hb dX4_levelAt_8 (by decide) ?_
  refine lv_iadd hx hb dX4_levelAt_9 ?_
  obtain ⟨x1, e9, hf⟩ := ob1_s hf
  refine g_iald hx hb hK hB 2 0 rfl rfl (rd_s e9) dX4_levelAt_10 ?_
  refine lv_imul hx hb dX4_levelAt_11 ?_
  refine lv_iadd hx hb dX4_levelAt_12 ?_
  refine lv_iconst (v := (0 : Int32)) hx hb dX4_levelAt_13 (by decide) ?_
  refine lv_iadd hx hb dX4_levelAt_14 ?_
  have e0 := inj1 hf
  subst e0
  exact g_iret hx hb hr hlocks hK hB dX4_levelAt_15

abbrev rmX4_lastDone : Room := { frames := 4, cells := 0, slots := 0, locals := 86 }

set_option maxHeartbeats 4000000 in
set_option maxRecDepth 100000 in
theorem kX4_lastDone (l : Launch) (dC : Nat → ClassId) (dI : Nat → Nat → Nat) (cyI cyO : ClassId) (ad : Nat → Nat) (sz : Nat) {fu : Nat} {μ : MS} {i1 : Int32} {r : Int32} (hf : mX4_lastDone fu μ i1 = some r) : Met l yX4_lastDone wsX4_lastDone rmX4_lastDone (PcF (dC, dI) [(cyI, .int), (cyO, .array .int)] (cM cyI cyO ad μ) sz [.ref (ad 0), .int i1]) (QiF (dC, dI) [(cyI, .int), (cyO, .array .int)] (cM cyI cyO ad μ) (cM cyI cyO ad μ) sz r) 0 0 (va_A (cM cyI cyO ad μ) sz) := by
  refine Met.ofW (cc := cX4_lastDone) (maxL := 3) (ret := (some .int)) (by decide) rfl ?_
  intro p e s m args below meth c s₁ B hml hv
  obtain ⟨rfl, hsz, hP, hK, hD0⟩ := hv
  have hx := B.exec
  have hb := B.bytes
  have hr := B.returns
  have hts := atoms_spec (ws := wsX4_lastDone) B.pre
  have hown : s.vm.findClass RX4 = some m.cls := findClass_of_methodNamed B.named
  have hlocks := B.notSynchronized
  subst hsz
  have hA : ∀ q : Nat, s.heap.size ≤ q → va_A (cM cyI cyO ad μ) s.heap.size q := fun q h => Or.inr h
  have hB : Bd (dC, dI) [(cyI, .int), (cyO, .array .int)] (va_A (cM cyI cyO ad μ) s.heap.size) s (cM cyI cyO ad μ) s.heap [] := ⟨hP, hD0.self, va_S.rf⟩
  have hinX4 : ∀ w ∈ wsX40, w ∈ wsX4_lastDone := fun w h => List.mem_cons_of_mem _ (List.mem_append_right _ h)
  have hl := lv_entry [.ref (ad 0), .int i1] (n := 3) (Nat.le_of_ble_eq_true rfl)
  rw [lg_entry_eq]
  generalize (lg_sl [.ref (ad 0), .int i1] ++ List.replicate (3 - (lg_sl [.ref (ad 0), .int i1]).length) Slot.unset).toArray = ls at hl ⊢
  have hl : lv_has ls 3 [(0, .ref (ad 0)), (1, .int i1)] := hl
  clear hP hD0
  suffices main : ∀ (H : Heap) (locs : List Loc), Bd (dC, dI) [(cyI, .int), (cyO, .array .int)] (va_A (cM cyI cyO ad μ) s.heap.size) s (cM cyI cyO ad μ) H locs → W p l e (headSpec wsX4_lastDone rmX4_lastDone).room s m ([.ref (ad 0), .int i1] : List Value).toArray below meth c H locs 0 0 (MQ below (QiF (dC, dI) [(cyI, .int), (cyO, .array .int)] (cM cyI cyO ad μ) (cM cyI cyO ad μ) s.heap.size r) ([.ref (ad 0), .int i1] : List Value).toArray s 0 0 (va_A (cM cyI cyO ad μ) s.heap.size)) (F0 m 0 ls []) from main _ _ hB
  clear hB
  intro H locs hB
  unfold mX4_lastDone at hf
  refine lv_aload_n hx hb dX4_lastDone_0 rfl (lv_at hl 0 rfl) ?_
  refine lv_iload_n hx hb dX4_lastDone_1 rfl (lv_at hl 1 rfl) ?_
  refine lv_iconst (v := (3 : Int32)) hx hb dX4_lastDone_2 (by decide) ?_
  obtain ⟨r1, hc, hf⟩ := ob1_s hf
  refine g_callVi (As := [.int i1, .int (3 : Int32)]) (rest := []) ⟨hx, hb, hml, hown, hts⟩ (kX4_ofJourney l dC dI cyI cyO ad H.size hc) (cwV 2 hts gX4_lastDone_X4_ofJourney rfl rfl rfl (by decide +kernel) ⟨Nat.le_of_ble_eq_true rfl, Nat.le_of_ble_eq_true rfl⟩) hK hB hA (g_recv (ci := 4) hK hB 0 rfl rfl rfl) rfl hl.1 rfl (Nat.le_of_ble_eq_true rfl) dX4_lastDone_3 ⟨Nat.zero_le _, Nat.zero_le _⟩ (fun H locs hB => ?_)
  refine lv_iconst (v := (1 : Int32)) hx hb dX4_lastDone_6 (by decide) ?_
  refine lv_isub hx hb dX4_lastDone_7 ?_
  refine lv_istore_n (lv' := [(2, .int (r1 - (1 : Int32))), (0, .ref (ad 0)), (1, .int i1)]) hx hb dX4_lastDone_8 rfl hl (by decide) rfl (fun ls hl => ?_)
  obtain ⟨v10, hL13, hf⟩ := ob1_s hf
  have kE11 : ∀ (H : Heap) (locs : List Loc) (ls : Array Slot), Bd (dC, dI) [(cyI, .int), (cyO, .array .int)] (va_A (cM cyI cyO ad μ) s.heap.size) s (cM cyI cyO ad μ) H locs → lv_has ls 3 [(2, .int v10)] → W p l e (headSpec wsX4_lastDone rmX4_lastDone).room s m ([.ref (ad 0), .int i1] : List Value).toArray below meth c H locs 0 0 (MQ below (QiF (dC, dI) [(cyI, .int), (cyO, .array .int)] (cM cyI cyO ad μ) (cM cyI cyO ad μ) s.heap.size r) ([.ref (ad 0), .int i1] : List Value).toArray s 0 0 (va_A (cM cyI cyO ad μ) s.heap.size)) (F0 m 29 ls []) := by
    intro H locs ls hB hl
    refine lv_iload_n hx hb dX4_lastDone_29 rfl (lv_at hl 0 rfl) ?_
    have e0 := inj1 hf
    subst e0
    exact g_iret hx hb hr hlocks hK hB dX4_lastDone_30
  have key12 : ∀ (n9 : Nat) (v16 : Int32) (H : Heap) (locs : List Loc) (ls : Array Slot), loopM (fun st => mX4_lastDone_L9 fu i1 μ st) n9 v16 = some v10 → Bd (dC, dI) [(cyI, .int), (cyO, .array .int)] (va_A (cM cyI cyO ad μ) s.heap.size) s (cM cyI cyO ad μ) H locs → lv_has ls 3 [(2, .int v16), (0, .ref (ad 0)), (1, .int i1)] → W p l e (headSpec wsX4_lastDone rmX4_lastDone).room s m ([.ref (ad 0), .int i1] : List Value).toArray below meth c H locs 0 0 (MQ below (QiF (dC, dI) [(cyI, .int), (cyO, .array .int)] (cM cyI cyO ad μ) (cM cyI cyO ad μ) s.heap.size r) ([.ref (ad 0), .int i1] : List Value).toArray s 0 0 (va_A (cM cyI cyO ad μ) s.heap.size)) (F0 m 9 ls []) := by
    intro n9
    induction n9 with
    | zero => intro v16 H locs ls hL13; exact (loopM_z hL13).elim
    | succ n9 ih9 =>
      intro v16 H locs ls hL13 hB hl
      obtain ⟨o17, hg14, hL13⟩ := loopM_s hL13
      have hg14 : mX4_lastDone_L9 fu i1 μ v16 = some o17 := hg14
      unfold mX4_lastDone_L9 at hg14
      refine lv_iload_n hx hb dX4_lastDone_9 rfl (lv_at hl 0 rfl) ?_
      obtain ⟨t18, hD19, hg14⟩ := ob1_s hg14
      have kTt18 : t18 = true → ∀ (H : Heap) (locs : List Loc), Bd (dC, dI) [(cyI, .int), (cyO, .array .int)] (va_A (cM cyI cyO ad μ) s.heap.size) s (cM cyI cyO ad μ) H locs → W p l e (headSpec wsX4_lastDone rmX4_lastDone).room s m ([.ref (ad 0), .int i1] : List Value).toArray below meth c H locs 0 0 (MQ below (QiF (dC, dI) [(cyI, .int), (cyO, .array .int)] (cM cyI cyO ad μ) (cM cyI cyO ad μ) s.heap.size r) ([.ref (ad 0), .int i1] : List Value).toArray s 0 0 (va_A (cM cyI cyO ad μ) s.heap.size)) (F0 m 23 ls []) := by
        intro ht H locs hB
        have hg14 := cnd_t ht hg14
        refine lv_iinc (v := (v16 + (-1 : Int32))) (lv' := [(2, .int (v16 + (-1 : Int32))), (0, .ref (ad 0)), (1, .int i1)]) hx hb dX4_lastDone_23 hl (k := 0) rfl rfl (by decide) rfl (fun ls hl => ?_)
        refine lv_goto (tgt := 9) hx hb dX4_lastDone_26 (by decide) ?_
        have hL13 := el1_r (inj1 hg14) hL13
        exact ih9 _ _ _ _ hL13 hB (lv_sub hl [0, 1, 2] rfl)
      have kFt18 : t18 = false → ∀ (H : Heap) (locs : List Loc), Bd (dC, dI) [(cyI, .int), (cyO, .array .int)] (va_A (cM cyI cyO ad μ) s.heap.size) s (cM cyI cyO ad μ) H locs → W p l e (headSpec wsX4_lastDone rmX4_lastDone).room s m ([.ref (ad 0), .int i1] : List Value).toArray below meth c H locs 0 0 (MQ below (QiF (dC, dI) [(cyI, .int), (cyO, .array .int)] (cM cyI cyO ad μ) (cM cyI cyO ad μ) s.heap.size r) ([.ref (ad 0), .int i1] : List Value).toArray s 0 0 (va_A (cM cyI cyO ad μ) s.heap.size)) (F0 m 29 ls []) := by
        intro ht H locs hB
        have hg14 := cnd_f ht hg14
        have hL13 := el1_l (inj1 hg14) hL13
        have e0 := inj1 hL13
        subst e0
        exact kE11 _ _ _ hB (lv_sub hl [0] rfl)
      refine lv_if_lt (tgt := 29) hx hb dX4_lastDone_10 (by decide) (fun c20 => ?_) (fun c20 => ?_)
      · have hD19 := ite_t c20 hD19
        have e0 := inj1 hD19
        exact kFt18 e0.symm _ _ hB
      · have hD19 := ite_f c20 hD19
        refine lv_aload_n hx hb dX4_lastDone_13 rfl (lv_at hl 1 rfl) ?_
        refine lv_iload_n hx hb dX4_lastDone_14 rfl (lv_at hl 2 rfl) ?_
        refine lv_iload_n hx hb dX4_lastDone_15 rfl (lv_at hl 0 rfl) ?_
        obtain ⟨r21, hc, hD19⟩ := ob1_s hD19
        refine g_callVi (As := [.int i1, .int v16]) (rest := []) ⟨hx, hb, hml, hown, hts⟩ (kX4_stateOf l dC dI cyI cyO ad H.size hc) (cwV 2 hts gX4_lastDone_X4_stateOf rfl rfl rfl (by decide +kernel) ⟨Nat.le_of_ble_eq_true rfl, Nat.le_of_ble_eq_true rfl⟩) hK hB hA (g_recv (ci := 4) hK hB 0 rfl rfl rfl) rfl hl.1 rfl (Nat.le_of_ble_eq_true rfl) dX4_lastDone_16 ⟨Nat.zero_le _, Nat.zero_le _⟩ (fun H locs hB => ?_)
        refine lv_iconst (v := (3 : Int32)) hx hb dX4_lastDone_19 (by decide) ?_
        refine lv_icmp_eq (tgt := 29) hx hb dX4_lastDone_20 (by decide) (fun c22 => ?_) (fun c22 => ?_)
        · have hD19 := ite_t c22 hD19
          have e0 := inj1 hD19
          exact kFt18 e0.symm _ _ hB
        · have hD19 := ite_f c22 hD19
          have e0 := inj1 hD19
          exact kTt18 e0.symm _ _ hB
  exact key12 fu _ _ _ _ hL13 hB (lv_sub hl [0, 1, 2] rfl)

abbrev rmX4_isSettled : Room := { frames := 4, cells := 0, slots := 0, locals := 86 }

set_option maxHeartbeats 4000000 in
set_option maxRecDepth 100000 in
theorem kX4_isSettled (l : Launch) (dC : Nat → ClassId) (dI : Nat → Nat → Nat) (cyI cyO : ClassId) (ad : Nat → Nat) (sz : Nat) {fu : Nat} {μ : MS} {i1 : Int32} {i2 : Int32} {r : Int32} (hf : mX4_isSettled fu μ i1 i2 = some r) : Met l yX4_isSettled wsX4_isSettled rmX4_isSettled (PcF (dC, dI) [(cyI, .int), (cyO, .array .int)] (cM cyI cyO ad μ) sz [.ref (ad 0), .int i1, .int i2]) (QzF (dC, dI) [(cyI, .int), (cyO, .array .int)] (cM cyI cyO ad μ) (cM cyI cyO ad μ) sz r) 0 0 (va_A (cM cyI cyO ad μ) sz) := by
  refine Met.ofW (cc := cX4_isSettled) (maxL := 3) (ret := (some .boolean)) (by decide) rfl ?_
  intro p e s m args below meth c s₁ B hml hv
  obtain ⟨rfl, hsz, hP, hK, hD0⟩ := hv
  have hx := B.exec
  have hb := B.bytes
  have hr := B.returns
  have hts := atoms_spec (ws := wsX4_isSettled) B.pre
  have hown : s.vm.findClass RX4 = some m.cls := findClass_of_methodNamed B.named
  have hlocks := B.notSynchronized
  subst hsz
  have hA : ∀ q : Nat, s.heap.size ≤ q → va_A (cM cyI cyO ad μ) s.heap.size q := fun q h => Or.inr h
  have hB : Bd (dC, dI) [(cyI, .int), (cyO, .array .int)] (va_A (cM cyI cyO ad μ) s.heap.size) s (cM cyI cyO ad μ) s.heap [] := ⟨hP, hD0.self, va_S.rf⟩
  have hinX4 : ∀ w ∈ wsX40, w ∈ wsX4_isSettled := fun w h => List.mem_cons_of_mem _ (List.mem_append_right _ h)
  have hl := lv_entry [.ref (ad 0), .int i1, .int i2] (n := 3) (Nat.le_of_ble_eq_true rfl)
  rw [lg_entry_eq]
  generalize (lg_sl [.ref (ad 0), .int i1, .int i2] ++ List.replicate (3 - (lg_sl [.ref (ad 0), .int i1, .int i2]).length) Slot.unset).toArray = ls at hl ⊢
  have hl : lv_has ls 3 [(0, .ref (ad 0)), (1, .int i1), (2, .int i2)] := hl
  clear hP hD0
  suffices main : ∀ (H : Heap) (locs : List Loc), Bd (dC, dI) [(cyI, .int), (cyO, .array .int)] (va_A (cM cyI cyO ad μ) s.heap.size) s (cM cyI cyO ad μ) H locs → W p l e (headSpec wsX4_isSettled rmX4_isSettled).room s m ([.ref (ad 0), .int i1, .int i2] : List Value).toArray below meth c H locs 0 0 (MQ below (QzF (dC, dI) [(cyI, .int), (cyO, .array .int)] (cM cyI cyO ad μ) (cM cyI cyO ad μ) s.heap.size r) ([.ref (ad 0), .int i1, .int i2] : List Value).toArray s 0 0 (va_A (cM cyI cyO ad μ) s.heap.size)) (F0 m 0 ls []) from main _ _ hB
  clear hB
  intro H locs hB
  unfold mX4_isSettled at hf
  refine lv_aload_n hx hb dX4_isSettled_0 rfl (lv_at hl 0 rfl) ?_
  refine lv_iload_n hx hb dX4_isSettled_1 rfl (lv_at hl 1 rfl) ?_
  refine lv_iload_n hx hb dX4_isSettled_2 rfl (lv_at hl 2 rfl) ?_
  obtain ⟨r1, hc, hf⟩ := ob1_s hf
  refine g_callVi (As := [.int i1, .int i2]) (rest := []) ⟨hx, hb, hml, hown, hts⟩ (kX4_stateOf l dC dI cyI cyO ad H.size hc) (cwV 2 hts gX4_isSettled_X4_stateOf rfl rfl rfl (by decide +kernel) ⟨Nat.le_of_ble_eq_true rfl, Nat.le_of_ble_eq_true rfl⟩) hK hB hA (g_recv (ci := 4) hK hB 0 rfl rfl rfl) rfl hl.1 rfl (Nat.le_of_ble_eq_true rfl) dX4_isSettled_3 ⟨Nat.zero_le _, Nat.zero_le _⟩ (fun H locs hB => ?_)
  refine lv_iconst (v := (3 : Int32)) hx hb dX4_isSettled_6 (by decide) ?_
  obtain ⟨v2, hJ4, hf⟩ := ob1_s hf
  have kJ5 : (v2 = 0 ∨ v2 = 1) → ∀ (H : Heap) (locs : List Loc) (ls : Array Slot), Bd (dC, dI) [(cyI, .int), (cyO, .array .int)] (va_A (cM cyI cyO ad μ) s.heap.size) s (cM cyI cyO ad μ) H locs → lv_has ls 3 [] → W p l e (headSpec wsX4_isSettled rmX4_isSettled).room s m ([.ref (ad 0), .int i1, .int i2] : List Value).toArray below meth c H locs 0 0 (MQ below (QzF (dC, dI) [(cyI, .int), (cyO, .array .int)] (cM cyI cyO ad μ) (cM cyI cyO ad μ) s.heap.size r) ([.ref (ad 0), .int i1, .int i2] : List Value).toArray s 0 0 (va_A (cM cyI cyO ad μ) s.heap.size)) (F0 m 26 ls [.int v2]) := by
    intro z3 H locs ls hB hl
    have e0 := inj1 hf
    subst e0
    exact g_zret hx hb hr hlocks hK hB z3 dX4_isSettled_26
  obtain ⟨t6, hD7, hJ4⟩ := ob1_s hJ4
  have kTt6 : t6 = true → ∀ (H : Heap) (locs : List Loc), Bd (dC, dI) [(cyI, .int), (cyO, .array .int)] (va_A (cM cyI cyO ad μ) s.heap.size) s (cM cyI cyO ad μ) H locs → W p l e (headSpec wsX4_isSettled rmX4_isSettled).room s m ([.ref (ad 0), .int i1, .int i2] : List Value).toArray below meth c H locs 0 0 (MQ below (QzF (dC, dI) [(cyI, .int), (cyO, .array .int)] (cM cyI cyO ad μ) (cM cyI cyO ad μ) s.heap.size r) ([.ref (ad 0), .int i1, .int i2] : List Value).toArray s 0 0 (va_A (cM cyI cyO ad μ) s.heap.size)) (F0 m 21 ls []) := by
    intro ht H locs hB
    have hJ4 := cnd_t ht hJ4
    refine lv_iconst (v := (1 : Int32)) hx hb dX4_isSettled_21 (by decide) ?_
    refine lv_goto (tgt := 26) hx hb dX4_isSettled_22 (by decide) ?_
    have e0 := inj1 hJ4
    subst e0
    exact kJ5 (Or.inr rfl) _ _ _ hB (lv_sub hl [] rfl)
  have kFt6 : t6 = false → ∀ (H : Heap) (locs : List Loc), Bd (dC, dI) [(cyI, .int), (cyO, .array .int)] (va_A (cM cyI cyO ad μ) s.heap.size) s (cM cyI cyO ad μ) H locs → W p l e (headSpec wsX4_isSettled rmX4_isSettled).room s m ([.ref (ad 0), .int i1, .int i2] : List Value).toArray below meth c H locs 0 0 (MQ below (QzF (dC, dI) [(cyI, .int), (cyO, .array .int)] (cM cyI cyO ad μ) (cM cyI cyO ad μ) s.heap.size r) ([.ref (ad 0), .int i1, .int i2] : List Value).toArray s 0 0 (va_A (cM cyI cyO ad μ) s.heap.size)) (F0 m 25 ls []) := by
    intro ht H locs hB
    have hJ4 := cnd_f ht hJ4
    refine lv_iconst (v := (0 : Int32)) hx hb dX4_isSettled_25 (by decide) ?_
    have e0 := inj1 hJ4
    subst e0
    exact kJ5 (Or.inl rfl) _ _ _ hB (lv_sub hl [] rfl)
  refine lv_icmp_eq (tgt := 21) hx hb dX4_isSettled_7 (by decide) (fun c8 => ?_) (fun c8 => ?_)
  · have hD7 := ite_t c8 hD7
    have e0 := inj1 hD7
    exact kTt6 e0.symm _ _ hB
  · have hD7 := ite_f c8 hD7
    refine lv_aload_n hx hb dX4_isSettled_10 rfl (lv_at hl 0 rfl) ?_
    refine lv_iload_n hx hb dX4_isSettled_11 rfl (lv_at hl 1 rfl) ?_
    refine lv_iload_n hx hb dX4_isSettled_12 rfl (lv_at hl 2 rfl) ?_
    obtain ⟨r9, hc, hD7⟩ := ob1_s hD7
    refine g_callVi (As := [.int i1, .int i2]) (rest := []) ⟨hx, hb, hml, hown, hts⟩ (kX4_stateOf l dC dI cyI cyO ad H.size hc) (cwV 2 hts gX4_isSettled_X4_stateOf rfl rfl rfl (by decide +kernel) ⟨Nat.le_of_ble_eq_true rfl, Nat.le_of_ble_eq_true rfl⟩) hK hB hA (g_recv (ci := 4) hK hB 0 rfl rfl rfl) rfl hl.1 rfl (Nat.le_of_ble_eq_true rfl) dX4_isSettled_13 ⟨Nat.zero_le _, Nat.zero_le _⟩ (fun H locs hB => ?_)
    refine lv_bipush (v := (6 : Int32)) hx hb dX4_isSettled_16 (by decide) ?_
    refine lv_icmp_ne (tgt := 25) hx hb dX4_isSettled_18 (by decide) (fun c10 => ?_) (fun c10 => ?_)
    · have hD7 := ite_f c10 hD7
      have e0 := inj1 hD7
      exact kFt6 e0.symm _ _ hB
    · have hD7 := ite_t c10 hD7
      have e0 := inj1 hD7
      exact kTt6 e0.symm _ _ hB

abbrev rmX4_rest : Room := { frames := 1, cells := 0, slots := 0, locals := 20 }

set_option maxHeartbeats 4000000 in
set_option maxRecDepth 100000 in
theorem kX4_rest (l : Launch) (dC : Nat → ClassId) (dI : Nat → Nat → Nat) (cyI cyO : ClassId) (ad : Nat → Nat) (sz : Nat) {fu : Nat} {μ : MS} {i1 : Int32} {i2 : Int32} {μ_ : MS} (hf : mX4_rest fu μ i1 i2 = some μ_) : Met l yX4_rest wsX4_rest rmX4_rest (PcF (dC, dI) [(cyI, .int), (cyO, .array .int)] (cM cyI cyO ad μ) sz [.ref (ad 0), .int i1, .int i2]) (QvF (dC, dI) [(cyI, .int), (cyO, .array .int)] (cM cyI cyO ad μ) (cM cyI cyO ad μ_) sz) 0 0 (va_A (cM cyI cyO ad μ) sz) := by
  refine Met.ofW (cc := cX4_rest) (maxL := 3) (ret := none) (by decide) rfl ?_
  intro p e s m args below meth c s₁ B hml hv
  obtain ⟨rfl, hsz, hP, hK, hD0⟩ := hv
  have hx := B.exec
  have hb := B.bytes
  have hr := B.returns
  have hts := atoms_spec (ws := wsX4_rest) B.pre
  have hown : s.vm.findClass RX4 = some m.cls := findClass_of_methodNamed B.named
  have hlocks := B.notSynchronized
  subst hsz
  have hA : ∀ q : Nat, s.heap.size ≤ q → va_A (cM cyI cyO ad μ) s.heap.size q := fun q h => Or.inr h
  have hB : Bd (dC, dI) [(cyI, .int), (cyO, .array .int)] (va_A (cM cyI cyO ad μ) s.heap.size) s (cM cyI cyO ad μ) s.heap [] := ⟨hP, hD0.self, va_S.rf⟩
  have hq1 : (Cond.fieldLink RX4 17 "UndoJourneysModel" "data" "[I").before _ s = true := hts _ (List.mem_of_getElem? (i := 1) rfl)
  have hinX4 : ∀ w ∈ wsX40, w ∈ wsX4_rest := fun w h => List.mem_cons_of_mem _ (List.mem_append_right _ h)
  have hl := lv_entry [.ref (ad 0), .int i1, .int i2] (n := 3) (Nat.le_of_ble_eq_true rfl)
  rw [lg_entry_eq]
  generalize (lg_sl [.ref (ad 0), .int i1, .int i2] ++ List.replicate (3 - (lg_sl [.ref (ad 0), .int i1, .int i2]).length) Slot.unset).toArray = ls at hl ⊢
  have hl : lv_has ls 3 [(0, .ref (ad 0)), (1, .int i1), (2, .int i2)] := hl
  clear hP hD0
  suffices main : ∀ (H : Heap) (locs : List Loc), Bd (dC, dI) [(cyI, .int), (cyO, .array .int)] (va_A (cM cyI cyO ad μ) s.heap.size) s (cM cyI cyO ad μ) H locs → W p l e (headSpec wsX4_rest rmX4_rest).room s m ([.ref (ad 0), .int i1, .int i2] : List Value).toArray below meth c H locs 0 0 (MQ below (QvF (dC, dI) [(cyI, .int), (cyO, .array .int)] (cM cyI cyO ad μ) (cM cyI cyO ad μ_) s.heap.size) ([.ref (ad 0), .int i1, .int i2] : List Value).toArray s 0 0 (va_A (cM cyI cyO ad μ) s.heap.size)) (F0 m 0 ls []) from main _ _ hB
  clear hB
  intro H locs hB
  unfold mX4_rest at hf
  refine lv_aload_n hx hb dX4_rest_0 rfl (lv_at hl 0 rfl) ?_
  refine g_get (C := RX4) (T := TX4) (N := 15) hx hb hts hinX4 hown hK hB 0 rfl rfl 8 rfl hq1 rfl rfl dX4_rest_1 ?_
  refine lv_iload_n hx hb dX4_rest_4 rfl (lv_at hl 1 rfl) ?_
  obtain ⟨r1, hc, hf⟩ := ob1_s hf
  refine g_pcutSi (As := [.int i1]) (rest := [.ref (ad 8)]) (w2 := (cM cyI cyO ad μ)) ⟨hx, hb, hml, hown, hts⟩ (kX4_journeyAt l dC dI [(cyI, .int), (cyO, .array .int)] H.size hc) (va_cwS 1 hts gX4_rest_X4_journeyAt rfl rfl rfl (by decide +kernel) ⟨Nat.le_of_ble_eq_true rfl, Nat.le_of_ble_eq_true rfl⟩) hK hB hA (List.Perm.refl _) (List.Perm.refl _) rfl hl.1 rfl (Nat.le_of_ble_eq_true rfl) dX4_rest_5 ⟨Nat.zero_le _, Nat.zero_le _⟩ (fun H locs hB => ?_)
  refine lv_iconst (v := (0 : Int32)) hx hb dX4_rest_8 (by decide) ?_
  refine lv_iadd hx hb dX4_rest_9 ?_
  refine lv_iload_n hx hb dX4_rest_10 rfl (lv_at hl 2 rfl) ?_
  obtain ⟨μ2, e9, hf⟩ := ob1_s hf
  obtain ⟨hi, e9⟩ := wra_s e9
  refine g_iast hx hb hK hB 2 0 rfl rfl hi rfl dX4_rest_11 (w2 := (cM cyI cyO ad μ2)) (by rw [← e9]; rfl) (fun H locs hB => ?_)
  refine lv_aload_n hx hb dX4_rest_12 rfl (lv_at hl 0 rfl) ?_
  refine g_get (C := RX4) (T := TX4) (N := 15) hx hb hts hinX4 hown hK hB 0 rfl rfl 8 rfl hq1 rfl rfl dX4_rest_13 ?_
  refine lv_iload_n hx hb dX4_rest_16 rfl (lv_at hl 1 rfl) ?_
  obtain ⟨r3, hc, hf⟩ := ob1_s hf
  refine g_pcutSi (As := [.int i1]) (rest := [.ref (ad 8)]) (w2 := (cM cyI cyO ad μ2)) ⟨hx, hb, hml, hown, hts⟩ (kX4_journeyAt l dC dI [(cyI, .int), (cyO, .array .int)] H.size hc) (va_cwS 1 hts gX4_rest_X4_journeyAt rfl rfl rfl (by decide +kernel) ⟨Nat.le_of_ble_eq_true rfl, Nat.le_of_ble_eq_true rfl⟩) hK hB hA (List.Perm.refl _) (List.Perm.refl _) rfl hl.1 rfl (Nat.le_of_ble_eq_true rfl) dX4_rest_17 ⟨Nat.zero_le _, Nat.zero_le _⟩ (fun H locs hB => ?_)
  refine lv_iconst (v := (5 : Int32)) hx hb dX4_rest_20 (by decide) ?_
  refine lv_iadd hx hb dX4_rest_21 ?_
  refine lv_aload_n hx hb dX4_rest_22 rfl (lv_at hl 0 rfl) ?_
  refine g_get (C := RX4) (T := TX4) (N := 15) hx hb hts hinX4 hown hK hB 0 rfl rfl 8 rfl hq1 rfl rfl dX4_rest_23 ?_
  refine lv_iconst (v := (0 : Int32)) hx hb dX4_rest_26 (by decide) ?_
  obtain ⟨x4, e9, hf⟩ := ob1_s hf
  refine g_iald hx hb hK hB 2 0 rfl rfl (rd_s e9) dX4_rest_27 ?_
  obtain ⟨μ5, e9, hf⟩ := ob1_s hf
  obtain ⟨hi, e9⟩ := wra_s e9
  refine g_iast hx hb hK hB 2 0 rfl rfl hi rfl dX4_rest_28 (w2 := (cM cyI cyO ad μ5)) (by rw [← e9]; rfl) (fun H locs hB => ?_)
  refine lv_aload_n hx hb dX4_rest_29 rfl (lv_at hl 0 rfl) ?_
  refine g_get (C := RX4) (T := TX4) (N := 15) hx hb hts hinX4 hown hK hB 0 rfl rfl 8 rfl hq1 rfl rfl dX4_rest_30 ?_
  refine lv_iload_n hx hb dX4_rest_33 rfl (lv_at hl 1 rfl) ?_
  obtain ⟨r6, hc, hf⟩ := ob1_s hf
  refine g_pcutSi (As := [.int i1]) (rest := [.ref (ad 8)]) (w2 := (cM cyI cyO ad μ5)) ⟨hx, hb, hml, hown, hts⟩ (kX4_journeyAt l dC dI [(cyI, .int), (cyO, .array .int)] H.size hc) (va_cwS 1 hts gX4_rest_X4_journeyAt rfl rfl rfl (by decide +kernel) ⟨Nat.le_of_ble_eq_true rfl, Nat.le_of_ble_eq_true rfl⟩) hK hB hA (List.Perm.refl _) (List.Perm.refl _) rfl hl.1 rfl (Nat.le_of_ble_eq_true rfl) dX4_rest_34 ⟨Nat.zero_le _, Nat.zero_le _⟩ (fun H locs hB => ?_)
  refine lv_iconst (v := (4 : Int32)) hx hb dX4_rest_37 (by decide) ?_
  refine lv_iadd hx hb dX4_rest_38 ?_
  refine lv_iconst (v := (-1 : Int32)) hx hb dX4_rest_39 (by decide) ?_
  obtain ⟨μ7, e9, hf⟩ := ob1_s hf
  obtain ⟨hi, e9⟩ := wra_s e9
  refine g_iast hx hb hK hB 2 0 rfl rfl hi rfl dX4_rest_40 (w2 := (cM cyI cyO ad μ7)) (by rw [← e9]; rfl) (fun H locs hB => ?_)
  have e0 := inj1 hf
  subst e0
  exact g_vret hx hb hr hlocks hK hB dX4_rest_41

abbrev rmX4_beReady : Room := { frames := 0, cells := 0, slots := 0, locals := 0 }

set_option maxHeartbeats 4000000 in
set_option maxRecDepth 100000 in
theorem kX4_beReady (l : Launch) (dC : Nat → ClassId) (dI : Nat → Nat → Nat) (cyI cyO : ClassId) (ad : Nat → Nat) (sz : Nat) {fu : Nat} {μ : MS} {i1 : Int32} {μ_ : MS} (hf : mX4_beReady fu μ i1 = some μ_) : Met l yX4_beReady wsX4_beReady rmX4_beReady (PcF (dC, dI) [(cyI, .int), (cyO, .array .int)] (cM cyI cyO ad μ) sz [.ref (ad 0), .int i1]) (QvF (dC, dI) [(cyI, .int), (cyO, .array .int)] (cM cyI cyO ad μ) (cM cyI cyO ad μ_) sz) 0 0 (va_A (cM cyI cyO ad μ) sz) := by
  refine Met.ofW (cc := cX4_beReady) (maxL := 2) (ret := none) (by decide) rfl ?_
  intro p e s m args below meth c s₁ B hml hv
  obtain ⟨rfl, hsz, hP, hK, hD0⟩ := hv
  have hx := B.exec
  have hb := B.bytes
  have hr := B.returns
  have hts := atoms_spec (ws := wsX4_beReady) B.pre
  have hown : s.vm.findClass RX4 = some m.cls := findClass_of_methodNamed B.named
  have hlocks := B.notSynchronized
  subst hsz
  have hA : ∀ q : Nat, s.heap.size ≤ q → va_A (cM cyI cyO ad μ) s.heap.size q := fun q h => Or.inr h
  have hB : Bd (dC, dI) [(cyI, .int), (cyO, .array .int)] (va_A (cM cyI cyO ad μ) s.heap.size) s (cM cyI cyO ad μ) s.heap [] := ⟨hP, hD0.self, va_S.rf⟩
  have hq1 : (Cond.fieldLink RX4 17 "UndoJourneysModel" "data" "[I").before _ s = true := hts _ (List.mem_of_getElem? (i := 1) rfl)
  have hinX4 : ∀ w ∈ wsX40, w ∈ wsX4_beReady := fun w h => List.mem_cons_of_mem _ (List.mem_append_right _ h)
  have hl := lv_entry [.ref (ad 0), .int i1] (n := 2) (Nat.le_of_ble_eq_true rfl)
  rw [lg_entry_eq]
  generalize (lg_sl [.ref (ad 0), .int i1] ++ List.replicate (2 - (lg_sl [.ref (ad 0), .int i1]).length) Slot.unset).toArray = ls at hl ⊢
  have hl : lv_has ls 2 [(0, .ref (ad 0)), (1, .int i1)] := hl
  clear hP hD0
  suffices main : ∀ (H : Heap) (locs : List Loc), Bd (dC, dI) [(cyI, .int), (cyO, .array .int)] (va_A (cM cyI cyO ad μ) s.heap.size) s (cM cyI cyO ad μ) H locs → W p l e (headSpec wsX4_beReady rmX4_beReady).room s m ([.ref (ad 0), .int i1] : List Value).toArray below meth c H locs 0 0 (MQ below (QvF (dC, dI) [(cyI, .int), (cyO, .array .int)] (cM cyI cyO ad μ) (cM cyI cyO ad μ_) s.heap.size) ([.ref (ad 0), .int i1] : List Value).toArray s 0 0 (va_A (cM cyI cyO ad μ) s.heap.size)) (F0 m 0 ls []) from main _ _ hB
  clear hB
  intro H locs hB
  unfold mX4_beReady at hf
  refine lv_aload_n hx hb dX4_beReady_0 rfl (lv_at hl 0 rfl) ?_
  refine g_get (C := RX4) (T := TX4) (N := 15) hx hb hts hinX4 hown hK hB 0 rfl rfl 8 rfl hq1 rfl rfl dX4_beReady_1 ?_
  refine lv_iload_n hx hb dX4_beReady_4 rfl (lv_at hl 1 rfl) ?_
  refine lv_iconst (v := (4 : Int32)) hx hb dX4_beReady_5 (by decide) ?_
  refine lv_iadd hx hb dX4_beReady_6 ?_
  refine lv_iconst (v := (1 : Int32)) hx hb dX4_beReady_7 (by decide) ?_
  obtain ⟨μ1, e9, hf⟩ := ob1_s hf
  obtain ⟨hi, e9⟩ := wra_s e9
  refine g_iast hx hb hK hB 2 0 rfl rfl hi rfl dX4_beReady_8 (w2 := (cM cyI cyO ad μ1)) (by rw [← e9]; rfl) (fun H locs hB => ?_)
  refine lv_aload_n hx hb dX4_beReady_9 rfl (lv_at hl 0 rfl) ?_
  refine g_get (C := RX4) (T := TX4) (N := 15) hx hb hts hinX4 hown hK hB 0 rfl rfl 8 rfl hq1 rfl rfl dX4_beReady_10 ?_
  refine lv_iload_n hx hb dX4_beReady_13 rfl (lv_at hl 1 rfl) ?_
  refine lv_bipush (v := (8 : Int32)) hx hb dX4_beReady_14 (by decide) ?_
  refine lv_iadd hx hb dX4_beReady_16 ?_
  refine lv_iconst (v := (0 : Int32)) hx hb dX4_beReady_17 (by decide) ?_
  obtain ⟨μ2, e9, hf⟩ := ob1_s hf
  obtain ⟨hi, e9⟩ := wra_s e9
  refine g_iast hx hb hK hB 2 0 rfl rfl hi rfl dX4_beReady_18 (w2 := (cM cyI cyO ad μ2)) (by rw [← e9]; rfl) (fun H locs hB => ?_)
  have e0 := inj1 hf
  subst e0
  exact g_vret hx hb hr hlocks hK hB dX4_beReady_19

abbrev rmX4_present : Room := { frames := 3, cells := 0, slots := 0, locals := 64 }

set_option maxHeartbeats 4000000 in
set_option maxRecDepth 100000 in
theorem kX4_present (l : Launch) (dC : Nat → ClassId) (dI : Nat → Nat → Nat) (cyI cyO : ClassId) (ad : Nat → Nat) (sz : Nat) {fu : Nat} {μ : MS} {i1 : Int32} {i2 : Int32} {μ_ : MS} (hf : mX4_present fu μ i1 i2 = some μ_) : Met l yX4_present wsX4_present rmX4_present (PcF (dC, dI) [(cyI, .int), (cyO, .array .int)] (cM cyI cyO ad μ) sz [.ref (ad 0), .int i1, .int i2]) (QvF (dC, dI) [(cyI, .int), (cyO, .array .int)] (cM cyI cyO ad μ) (cM cyI cyO ad μ_) sz) 0 0 (va_A (cM cyI cyO ad μ) sz) := by
  refine Met.ofW (cc := cX4_present) (maxL := 5) (ret := none) (by decide) rfl ?_
  intro p e s m args below meth c s₁ B hml hv
  obtain ⟨rfl, hsz, hP, hK, hD0⟩ := hv
  have hx := B.exec
  have hb := B.bytes
  have hr := B.returns
  have hts := atoms_spec (ws := wsX4_present) B.pre
  have hown : s.vm.findClass RX4 = some m.cls := findClass_of_methodNamed B.named
  have hlocks := B.notSynchronized
  subst hsz
  have hA : ∀ q : Nat, s.heap.size ≤ q → va_A (cM cyI cyO ad μ) s.heap.size q := fun q h => Or.inr h
  have hB : Bd (dC, dI) [(cyI, .int), (cyO, .array .int)] (va_A (cM cyI cyO ad μ) s.heap.size) s (cM cyI cyO ad μ) s.heap [] := ⟨hP, hD0.self, va_S.rf⟩
  have hq1 : (Cond.fieldLink RX4 17 "UndoJourneysModel" "data" "[I").before _ s = true := hts _ (List.mem_of_getElem? (i := 1) rfl)
  have hinX4 : ∀ w ∈ wsX40, w ∈ wsX4_present := fun w h => List.mem_cons_of_mem _ (List.mem_append_right _ h)
  have hl := lv_entry [.ref (ad 0), .int i1, .int i2] (n := 5) (Nat.le_of_ble_eq_true rfl)
  rw [lg_entry_eq]
  generalize (lg_sl [.ref (ad 0), .int i1, .int i2] ++ List.replicate (5 - (lg_sl [.ref (ad 0), .int i1, .int i2]).length) Slot.unset).toArray = ls at hl ⊢
  have hl : lv_has ls 5 [(0, .ref (ad 0)), (1, .int i1), (2, .int i2)] := hl
  clear hP hD0
  suffices main : ∀ (H : Heap) (locs : List Loc), Bd (dC, dI) [(cyI, .int), (cyO, .array .int)] (va_A (cM cyI cyO ad μ) s.heap.size) s (cM cyI cyO ad μ) H locs → W p l e (headSpec wsX4_present rmX4_present).room s m ([.ref (ad 0), .int i1, .int i2] : List Value).toArray below meth c H locs 0 0 (MQ below (QvF (dC, dI) [(cyI, .int), (cyO, .array .int)] (cM cyI cyO ad μ) (cM cyI cyO ad μ_) s.heap.size) ([.ref (ad 0), .int i1, .int i2] : List Value).toArray s 0 0 (va_A (cM cyI cyO ad μ) s.heap.size)) (F0 m 0 ls []) from main _ _ hB
  clear hB
  intro H locs hB
  unfold mX4_present at hf
  refine lv_aload_n hx hb dX4_present_0 rfl (lv_at hl 0 rfl) ?_
  refine g_get (C := RX4) (T := TX4) (N := 15) hx hb hts hinX4 hown hK hB 0 rfl rfl 8 rfl hq1 rfl rfl dX4_present_1 ?_
  refine lv_iload_n hx hb dX4_present_4 rfl (lv_at hl 1 rfl) ?_
  obtain ⟨r1, hc, hf⟩ := ob1_s hf
  refine g_pcutSi (As := [.int i1]) (rest := [.ref (ad 8)]) (w2 := (cM cyI cyO ad μ)) ⟨hx, hb, hml, hown, hts⟩ (kX4_journeyAt l dC dI [(cyI, .int), (cyO, .array .int)] H.size hc) (va_cwS 1 hts gX4_present_X4_journeyAt rfl rfl rfl (by decide +kernel) ⟨Nat.le_of_ble_eq_true rfl, Nat.le_of_ble_eq_true rfl⟩) hK hB hA (List.Perm.refl _) (List.Perm.refl _) rfl hl.1 rfl (Nat.le_of_ble_eq_true rfl) dX4_present_5 ⟨Nat.zero_le _, Nat.zero_le _⟩ (fun H locs hB => ?_)
  refine lv_iconst (v := (4 : Int32)) hx hb dX4_present_8 (by decide) ?_
  refine lv_iadd hx hb dX4_present_9 ?_
  refine lv_iload_n hx hb dX4_present_10 rfl (lv_at hl 2 rfl) ?_
  obtain ⟨μ2, e9, hf⟩ := ob1_s hf
  obtain ⟨hi, e9⟩ := wra_s e9
  refine g_iast hx hb hK hB 2 0 rfl rfl hi rfl dX4_present_11 (w2 := (cM cyI cyO ad μ2)) (by rw [← e9]; rfl) (fun H locs hB => ?_)
  refine lv_iconst (v := (0 : Int32)) hx hb dX4_present_12 (by decide) ?_
  refine lv_istore_n (lv' := [(3, .int (0 : Int32)), (0, .ref (ad 0)), (1, .int i1), (2, .int i2)]) hx hb dX4_present_13 rfl hl (by decide) rfl (fun ls hl => ?_)
  obtain ⟨μ20, hL23, hf⟩ := ob1_s hf
  have kE21 : ∀ (H : Heap) (locs : List Loc) (ls : Array Slot), Bd (dC, dI) [(cyI, .int), (cyO, .array .int)] (va_A (cM cyI cyO ad μ) s.heap.size) s (cM cyI cyO ad μ20) H locs → lv_has ls 5 [] → W p l e (headSpec wsX4_present rmX4_present).room s m ([.ref (ad 0), .int i1, .int i2] : List Value).toArray below meth c H locs 0 0 (MQ below (QvF (dC, dI) [(cyI, .int), (cyO, .array .int)] (cM cyI cyO ad μ) (cM cyI cyO ad μ_) s.heap.size) ([.ref (ad 0), .int i1, .int i2] : List Value).toArray s 0 0 (va_A (cM cyI cyO ad μ) s.heap.size)) (F0 m 69 ls []) := by
    intro H locs ls hB hl
    have e0 := inj1 hf
    subst e0
    exact g_vret hx hb hr hlocks hK hB dX4_present_69
  have key22 : ∀ (n9 : Nat) (v26 : Int32) (μ27 : MS) (H : Heap) (locs : List Loc) (ls : Array Slot), loopM (fun st => mX4_present_L14 fu i1 i2 st.1 st.2) n9 (v26, μ27) = some μ20 → Bd (dC, dI) [(cyI, .int), (cyO, .array .int)] (va_A (cM cyI cyO ad μ) s.heap.size) s (cM cyI cyO ad μ27) H locs → lv_has ls 5 [(3, .int v26), (0, .ref (ad 0)), (1, .int i1), (2, .int i2)] → W p l e (headSpec wsX4_present rmX4_present).room s m ([.ref (ad 0), .int i1, .int i2] : List Value).toArray below meth c H locs 0 0 (MQ below (QvF (dC, dI) [(cyI, .int), (cyO, .array .int)] (cM cyI cyO ad μ) (cM cyI cyO ad μ_) s.heap.size) ([.ref (ad 0), .int i1, .int i2] : List Value).toArray s 0 0 (va_A (cM cyI cyO ad μ) s.heap.size)) (F0 m 14 ls []) := by
    intro n9
    induction n9 with
    | zero => intro v26 μ27 H locs ls hL23; exact (loopM_z hL23).elim
    | succ n9 ih9 =>
      intro v26 μ27 H locs ls hL23 hB hl
      obtain ⟨o28, hg24, hL23⟩ := loopM_s hL23
      have hg24 : mX4_present_L14 fu i1 i2 v26 μ27 = some o28 := hg24
      unfold mX4_present_L14 at hg24
      refine lv_iload_n hx hb dX4_present_14 rfl (lv_at hl 0 rfl) ?_
      refine lv_aload_n hx hb dX4_present_15 rfl (lv_at hl 1 rfl) ?_
      refine lv_iload_n hx hb dX4_present_16 rfl (lv_at hl 2 rfl) ?_
      refine lv_iconst (v := (3 : Int32)) hx hb dX4_present_17 (by decide) ?_
      obtain ⟨r29, hc, hg24⟩ := ob1_s hg24
      refine g_callVi (As := [.int i1, .int (3 : Int32)]) (rest := [.int v26]) ⟨hx, hb, hml, hown, hts⟩ (kX4_ofJourney l dC dI cyI cyO ad H.size hc) (cwV 2 hts gX4_present_X4_ofJourney rfl rfl rfl (by decide +kernel) ⟨Nat.le_of_ble_eq_true rfl, Nat.le_of_ble_eq_true rfl⟩) hK hB hA (g_recv (ci := 4) hK hB 0 rfl rfl rfl) rfl hl.1 rfl (Nat.le_of_ble_eq_true rfl) dX4_present_18 ⟨Nat.zero_le _, Nat.zero_le _⟩ (fun H locs hB => ?_)
      refine lv_icmp_ge (tgt := 69) hx hb dX4_present_21 (by decide) (fun c30 => ?_) (fun c30 => ?_)
      · have hg24 := ite_t c30 hg24
        have hL23 := el1_l (inj1 hg24) hL23
        have e0 := inj1 hL23
        subst e0
        exact kE21 _ _ _ hB (lv_sub hl [] rfl)
      · have hg24 := ite_f c30 hg24
        refine lv_aload_n hx hb dX4_present_24 rfl (lv_at hl 1 rfl) ?_
        refine lv_iload_n hx hb dX4_present_25 rfl (lv_at hl 2 rfl) ?_
        refine lv_iload_n hx hb dX4_present_26 rfl (lv_at hl 0 rfl) ?_
        obtain ⟨r31, hc, hg24⟩ := ob1_s hg24
        refine g_callVi (As := [.int i1, .int v26]) (rest := []) ⟨hx, hb, hml, hown, hts⟩ (kX4_stepAt l dC dI cyI cyO ad H.size hc) (cwV 2 hts gX4_present_X4_stepAt rfl rfl rfl (by decide +kernel) ⟨Nat.le_of_ble_eq_true rfl, Nat.le_of_ble_eq_true rfl⟩) hK hB hA (g_recv (ci := 4) hK hB 0 rfl rfl rfl) rfl hl.1 rfl (Nat.le_of_ble_eq_true rfl) dX4_present_27 ⟨Nat.zero_le _, Nat.zero_le _⟩ (fun H locs hB => ?_)
        refine lv_istore (lv' := [(4, .int r31), (3, .int v26), (0, .ref (ad 0)), (1, .int i1), (2, .int i2)]) hx hb dX4_present_30 hl (by decide) rfl (fun ls hl => ?_)
        refine lv_aload_n hx hb dX4_present_32 rfl (lv_at hl 2 rfl) ?_
        refine g_get (C := RX4) (T := TX4) (N := 15) hx hb hts hinX4 hown hK hB 0 rfl rfl 8 rfl hq1 rfl rfl dX4_present_33 ?_
        refine lv_iload hx hb dX4_present_36 (lv_at hl 0 rfl) ?_
        refine lv_iconst (v := (0 : Int32)) hx hb dX4_present_38 (by decide) ?_
        refine lv_iadd hx hb dX4_present_39 ?_
        obtain ⟨x32, e9, hg24⟩ := ob1_s hg24
        refine g_iald hx hb hK hB 2 0 rfl rfl (rd_s e9) dX4_present_40 ?_
        refine lv_iload_n hx hb dX4_present_41 rfl (lv_at hl 4 rfl) ?_
        obtain ⟨μ33, hJ34, hg24⟩ := ob1_s hg24
        have kJ35 : ∀ (H : Heap) (locs : List Loc) (ls : Array Slot), Bd (dC, dI) [(cyI, .int), (cyO, .array .int)] (va_A (cM cyI cyO ad μ) s.heap.size) s (cM cyI cyO ad μ33) H locs → lv_has ls 5 [(3, .int v26), (0, .ref (ad 0)), (1, .int i1), (2, .int i2)] → W p l e (headSpec wsX4_present rmX4_present).room s m ([.ref (ad 0), .int i1, .int i2] : List Value).toArray below meth c H locs 0 0 (MQ below (QvF (dC, dI) [(cyI, .int), (cyO, .array .int)] (cM cyI cyO ad μ) (cM cyI cyO ad μ_) s.heap.size) ([.ref (ad 0), .int i1, .int i2] : List Value).toArray s 0 0 (va_A (cM cyI cyO ad μ) s.heap.size)) (F0 m 63 ls []) := by
          intro H locs ls hB hl
          refine lv_iinc (v := (v26 + (1 : Int32))) (lv' := [(3, .int (v26 + (1 : Int32))), (0, .ref (ad 0)), (1, .int i1), (2, .int i2)]) hx hb dX4_present_63 hl (k := 0) rfl rfl (by decide) rfl (fun ls hl => ?_)
          refine lv_goto (tgt := 14) hx hb dX4_present_66 (by decide) ?_
          have hL23 := el1_r (inj1 hg24) hL23
          exact ih9 _ _ _ _ _ hL23 hB (lv_sub hl [0, 1, 2, 3] rfl)
        obtain ⟨t36, hD37, hJ34⟩ := ob1_s hJ34
        have kTt36 : t36 = true → ∀ (H : Heap) (locs : List Loc), Bd (dC, dI) [(cyI, .int), (cyO, .array .int)] (va_A (cM cyI cyO ad μ) s.heap.size) s (cM cyI cyO ad μ27) H locs → W p l e (headSpec wsX4_present rmX4_present).room s m ([.ref (ad 0), .int i1, .int i2] : List Value).toArray below meth c H locs 0 0 (MQ below (QvF (dC, dI) [(cyI, .int), (cyO, .array .int)] (cM cyI cyO ad μ) (cM cyI cyO ad μ_) s.heap.size) ([.ref (ad 0), .int i1, .int i2] : List Value).toArray s 0 0 (va_A (cM cyI cyO ad μ) s.heap.size)) (F0 m 57 ls []) := by
          intro ht H locs hB
          have hJ34 := cnd_t ht hJ34
          refine lv_aload_n hx hb dX4_present_57 rfl (lv_at hl 2 rfl) ?_
          refine lv_iload hx hb dX4_present_58 (lv_at hl 0 rfl) ?_
          obtain ⟨μ41, hc, hJ34⟩ := ob1_s hJ34
          refine g_callVv (As := [.int r31]) (rest := []) ⟨hx, hb, hml, hown, hts⟩ (kX4_beReady l dC dI cyI cyO ad H.size hc) (cwV 1 hts gX4_present_X4_beReady rfl rfl rfl (by decide +kernel) ⟨Nat.le_of_ble_eq_true rfl, Nat.le_of_ble_eq_true rfl⟩) hK hB hA (g_recv (ci := 4) hK hB 0 rfl rfl rfl) rfl hl.1 rfl (Nat.le_of_ble_eq_true rfl) dX4_present_60 ⟨Nat.zero_le _, Nat.zero_le _⟩ (fun H locs hB => ?_)
          have e0 := inj1 hJ34
          subst e0
          exact kJ35 _ _ _ hB (lv_sub hl [1, 2, 3, 4] rfl)
        have kFt36 : t36 = false → ∀ (H : Heap) (locs : List Loc), Bd (dC, dI) [(cyI, .int), (cyO, .array .int)] (va_A (cM cyI cyO ad μ) s.heap.size) s (cM cyI cyO ad μ27) H locs → W p l e (headSpec wsX4_present rmX4_present).room s m ([.ref (ad 0), .int i1, .int i2] : List Value).toArray below meth c H locs 0 0 (MQ below (QvF (dC, dI) [(cyI, .int), (cyO, .array .int)] (cM cyI cyO ad μ) (cM cyI cyO ad μ_) s.heap.size) ([.ref (ad 0), .int i1, .int i2] : List Value).toArray s 0 0 (va_A (cM cyI cyO ad μ) s.heap.size)) (F0 m 63 ls []) := by
          intro ht H locs hB
          have hJ34 := cnd_f ht hJ34
          have e0 := inj1 hJ34
          subst e0
          exact kJ35 _ _ _ hB (lv_sub hl [1, 2, 3, 4] rfl)
        refine lv_icmp_ne (tgt := 63) hx hb dX4_present_42 (by decide) (fun c38 => ?_) (fun c38 => ?_)
        · have hD37 := ite_f c38 hD37
          have e0 := inj1 hD37
          exact kFt36 e0.symm _ _ hB
        · have hD37 := ite_t c38 hD37
          refine lv_aload_n hx hb dX4_present_45 rfl (lv_at hl 2 rfl) ?_
          refine g_get (C := RX4) (T := TX4) (N := 15) hx hb hts hinX4 hown hK hB 0 rfl rfl 8 rfl hq1 rfl rfl dX4_present_46 ?_
          refine lv_iload hx hb dX4_present_49 (lv_at hl 0 rfl) ?_
          refine lv_iconst (v := (4 : Int32)) hx hb dX4_present_51 (by decide) ?_
          refine lv_iadd hx hb dX4_present_52 ?_
          obtain ⟨x39, e9, hD37⟩ := ob1_s hD37
          refine g_iald hx hb hK hB 2 0 rfl rfl (rd_s e9) dX4_present_53 ?_
          refine lv_if_ne (tgt := 63) hx hb dX4_present_54 (by decide) (fun c40 => ?_) (fun c40 => ?_)
          · have hD37 := ite_f c40 hD37
            have e0 := inj1 hD37
            exact kFt36 e0.symm _ _ hB
          · have hD37 := ite_t c40 hD37
            have e0 := inj1 hD37
            exact kTt36 e0.symm _ _ hB
  exact key22 fu _ _ _ _ _ hL23 hB (lv_sub hl [0, 1, 2, 3] rfl)

abbrev rmX4_go : Room := { frames := 7, cells := 0, slots := 0, locals := 154 }

set_option maxHeartbeats 4000000 in
set_option maxRecDepth 100000 in
theorem kX4_go (l : Launch) (dC : Nat → ClassId) (dI : Nat → Nat → Nat) (cyI cyO : ClassId) (ad : Nat → Nat) (sz : Nat) {fu : Nat} {μ : MS} {i1 : Int32} {i2 : Int32} {μ_ : MS} (hf : mX4_go fu μ i1 i2 = some μ_) : Met l yX4_go wsX4_go rmX4_go (PcF (dC, dI) [(cyI, .int), (cyO, .array .int)] (cM cyI cyO ad μ) sz [.ref (ad 0), .int i1, .int i2]) (QvF (dC, dI) [(cyI, .int), (cyO, .array .int)] (cM cyI cyO ad μ) (cM cyI cyO ad μ_) sz) 0 0 (va_A (cM cyI cyO ad μ) sz) := by
  refine Met.ofW (cc := cX4_go) (maxL := 5) (ret := none) (by decide) rfl ?_
  intro p e s m args below meth c s₁ B hml hv
  obtain ⟨rfl, hsz, hP, hK, hD0⟩ := hv
  have hx := B.exec
  have hb := B.bytes
  have hr := B.returns
  have hts := atoms_spec (ws := wsX4_go) B.pre
  have hown : s.vm.findClass RX4 = some m.cls := findClass_of_methodNamed B.named
  have hlocks := B.notSynchronized
  subst hsz
  have hA : ∀ q : Nat, s.heap.size ≤ q → va_A (cM cyI cyO ad μ) s.heap.size q := fun q h => Or.inr h
  have hB : Bd (dC, dI) [(cyI, .int), (cyO, .array .int)] (va_A (cM cyI cyO ad μ) s.heap.size) s (cM cyI cyO ad μ) s.heap [] := ⟨hP, hD0.self, va_S.rf⟩
  have hq1 : (Cond.fieldLink RX4 17 "UndoJourneysModel" "data" "[I").before _ s = true := hts _ (List.mem_of_getElem? (i := 1) rfl)
  have hinX4 : ∀ w ∈ wsX40, w ∈ wsX4_go := fun w h => List.mem_cons_of_mem _ (List.mem_append_right _ h)
  have hl := lv_entry [.ref (ad 0), .int i1, .int i2] (n := 5) (Nat.le_of_ble_eq_true rfl)
  rw [lg_entry_eq]
  generalize (lg_sl [.ref (ad 0), .int i1, .int i2] ++ List.replicate (5 - (lg_sl [.ref (ad 0), .int i1, .int i2]).length) Slot.unset).toArray = ls at hl ⊢
  have hl : lv_has ls 5 [(0, .ref (ad 0)), (1, .int i1), (2, .int i2)] := hl
  clear hP hD0
  suffices main : ∀ (H : Heap) (locs : List Loc), Bd (dC, dI) [(cyI, .int), (cyO, .array .int)] (va_A (cM cyI cyO ad μ) s.heap.size) s (cM cyI cyO ad μ) H locs → W p l e (headSpec wsX4_go rmX4_go).room s m ([.ref (ad 0), .int i1, .int i2] : List Value).toArray below meth c H locs 0 0 (MQ below (QvF (dC, dI) [(cyI, .int), (cyO, .array .int)] (cM cyI cyO ad μ) (cM cyI cyO ad μ_) s.heap.size) ([.ref (ad 0), .int i1, .int i2] : List Value).toArray s 0 0 (va_A (cM cyI cyO ad μ) s.heap.size)) (F0 m 0 ls []) from main _ _ hB
  clear hB
  intro H locs hB
  unfold mX4_go at hf
  refine lv_aload_n hx hb dX4_go_0 rfl (lv_at hl 0 rfl) ?_
  refine lv_iload_n hx hb dX4_go_1 rfl (lv_at hl 1 rfl) ?_
  refine lv_iload_n hx hb dX4_go_2 rfl (lv_at hl 2 rfl) ?_
  obtain ⟨r1, hc, hf⟩ := ob1_s hf
  refine g_callVi (As := [.int i1, .int i2]) (rest := []) ⟨hx, hb, hml, hown, hts⟩ (kX4_stepAt l dC dI cyI cyO ad H.size hc) (cwV 2 hts gX4_go_X4_stepAt rfl rfl rfl (by decide +kernel) ⟨Nat.le_of_ble_eq_true rfl, Nat.le_of_ble_eq_true rfl⟩) hK hB hA (g_recv (ci := 4) hK hB 0 rfl rfl rfl) rfl hl.1 rfl (Nat.le_of_ble_eq_true rfl) dX4_go_3 ⟨Nat.zero_le _, Nat.zero_le _⟩ (fun H locs hB => ?_)
  refine lv_istore_n (lv' := [(3, .int r1), (0, .ref (ad 0)), (1, .int i1), (2, .int i2)]) hx hb dX4_go_6 rfl hl (by decide) rfl (fun ls hl => ?_)
  refine lv_aload_n hx hb dX4_go_7 rfl (lv_at hl 1 rfl) ?_
  refine g_get (C := RX4) (T := TX4) (N := 15) hx hb hts hinX4 hown hK hB 0 rfl rfl 8 rfl hq1 rfl rfl dX4_go_8 ?_
  refine lv_iload_n hx hb dX4_go_11 rfl (lv_at hl 0 rfl) ?_
  refine lv_iconst (v := (1 : Int32)) hx hb dX4_go_12 (by decide) ?_
  refine lv_iadd hx hb dX4_go_13 ?_
  obtain ⟨x2, e9, hf⟩ := ob1_s hf
  refine g_iald hx hb hK hB 2 0 rfl rfl (rd_s e9) dX4_go_14 ?_
  refine lv_istore (lv' := [(4, .int x2), (3, .int r1), (0, .ref (ad 0)), (1, .int i1), (2, .int i2)]) hx hb dX4_go_15 hl (by decide) rfl (fun ls hl => ?_)
  refine lv_aload_n hx hb dX4_go_17 rfl (lv_at hl 2 rfl) ?_
  refine g_get (C := RX4) (T := TX4) (N := 15) hx hb hts hinX4 hown hK hB 0 rfl rfl 8 rfl hq1 rfl rfl dX4_go_18 ?_
  refine lv_iload_n hx hb dX4_go_21 rfl (lv_at hl 1 rfl) ?_
  refine lv_iconst (v := (4 : Int32)) hx hb dX4_go_22 (by decide) ?_
  refine lv_iadd hx hb dX4_go_23 ?_
  obtain ⟨x3, e9, hf⟩ := ob1_s hf
  refine g_iald hx hb hK hB 2 0 rfl rfl (rd_s e9) dX4_go_24 ?_
  refine lv_iconst (v := (2 : Int32)) hx hb dX4_go_25 (by decide) ?_
  obtain ⟨μ4, hJ5, hf⟩ := ob1_s hf
  have kJ6 : ∀ (H : Heap) (locs : List Loc) (ls : Array Slot), Bd (dC, dI) [(cyI, .int), (cyO, .array .int)] (va_A (cM cyI cyO ad μ) s.heap.size) s (cM cyI cyO ad μ4) H locs → lv_has ls 5 [] → W p l e (headSpec wsX4_go rmX4_go).room s m ([.ref (ad 0), .int i1, .int i2] : List Value).toArray below meth c H locs 0 0 (MQ below (QvF (dC, dI) [(cyI, .int), (cyO, .array .int)] (cM cyI cyO ad μ) (cM cyI cyO ad μ_) s.heap.size) ([.ref (ad 0), .int i1, .int i2] : List Value).toArray s 0 0 (va_A (cM cyI cyO ad μ) s.heap.size)) (F0 m 265 ls []) := by
    intro H locs ls hB hl
    have e0 := inj1 hf
    subst e0
    exact g_vret hx hb hr hlocks hK hB dX4_go_265
  obtain ⟨t7, hD8, hJ5⟩ := ob1_s hJ5
  have kTt7 : t7 = true → ∀ (H : Heap) (locs : List Loc), Bd (dC, dI) [(cyI, .int), (cyO, .array .int)] (va_A (cM cyI cyO ad μ) s.heap.size) s (cM cyI cyO ad μ) H locs → W p l e (headSpec wsX4_go rmX4_go).room s m ([.ref (ad 0), .int i1, .int i2] : List Value).toArray below meth c H locs 0 0 (MQ below (QvF (dC, dI) [(cyI, .int), (cyO, .array .int)] (cM cyI cyO ad μ) (cM cyI cyO ad μ_) s.heap.size) ([.ref (ad 0), .int i1, .int i2] : List Value).toArray s 0 0 (va_A (cM cyI cyO ad μ) s.heap.size)) (F0 m 56 ls []) := by
    intro ht H locs hB
    have hJ5 := cnd_t ht hJ5
    refine lv_aload_n hx hb dX4_go_56 rfl (lv_at hl 2 rfl) ?_
    refine g_get (C := RX4) (T := TX4) (N := 15) hx hb hts hinX4 hown hK hB 0 rfl rfl 8 rfl hq1 rfl rfl dX4_go_57 ?_
    refine lv_iload_n hx hb dX4_go_60 rfl (lv_at hl 1 rfl) ?_
    refine lv_iconst (v := (4 : Int32)) hx hb dX4_go_61 (by decide) ?_
    refine lv_iadd hx hb dX4_go_62 ?_
    refine lv_iconst (v := (3 : Int32)) hx hb dX4_go_63 (by decide) ?_
    obtain ⟨μ14, e9, hJ5⟩ := ob1_s hJ5
    obtain ⟨hi, e9⟩ := wra_s e9
    refine g_iast hx hb hK hB 2 0 rfl rfl hi rfl dX4_go_64 (w2 := (cM cyI cyO ad μ14)) (by rw [← e9]; rfl) (fun H locs hB => ?_)
    refine lv_goto (tgt := 265) hx hb dX4_go_65 (by decide) ?_
    have e0 := inj1 hJ5
    subst e0
    exact kJ6 _ _ _ hB (lv_sub hl [] rfl)
  have kFt7 : t7 = false → ∀ (H : Heap) (locs : List Loc), Bd (dC, dI) [(cyI, .int), (cyO, .array .int)] (va_A (cM cyI cyO ad μ) s.heap.size) s (cM cyI cyO ad μ) H locs → W p l e (headSpec wsX4_go rmX4_go).room s m ([.ref (ad 0), .int i1, .int i2] : List Value).toArray below meth c H locs 0 0 (MQ below (QvF (dC, dI) [(cyI, .int), (cyO, .array .int)] (cM cyI cyO ad μ) (cM cyI cyO ad μ_) s.heap.size) ([.ref (ad 0), .int i1, .int i2] : List Value).toArray s 0 0 (va_A (cM cyI cyO ad μ) s.heap.size)) (F0 m 68 ls []) := by
    intro ht H locs hB
    have hJ5 := cnd_f ht hJ5
    refine lv_aload_n hx hb dX4_go_68 rfl (lv_at hl 2 rfl) ?_
    refine g_get (C := RX4) (T := TX4) (N := 15) hx hb hts hinX4 hown hK hB 0 rfl rfl 8 rfl hq1 rfl rfl dX4_go_69 ?_
    refine lv_iload_n hx hb dX4_go_72 rfl (lv_at hl 1 rfl) ?_
    refine lv_iconst (v := (4 : Int32)) hx hb dX4_go_73 (by decide) ?_
    refine lv_iadd hx hb dX4_go_74 ?_
    obtain ⟨x15, e9, hJ5⟩ := ob1_s hJ5
    refine g_iald hx hb hK hB 2 0 rfl rfl (rd_s e9) dX4_go_75 ?_
    refine lv_iconst (v := (1 : Int32)) hx hb dX4_go_76 (by decide) ?_
    refine lv_icmp_ne (tgt := 265) hx hb dX4_go_77 (by decide) (fun c16 => ?_) (fun c16 => ?_)
    · have hJ5 := ite_f c16 hJ5
      have e0 := inj1 hJ5
      subst e0
      exact kJ6 _ _ _ hB (lv_sub hl [] rfl)
    · have hJ5 := ite_t c16 hJ5
      refine lv_aload_n hx hb dX4_go_80 rfl (lv_at hl 2 rfl) ?_
      refine lv_iload_n hx hb dX4_go_81 rfl (lv_at hl 3 rfl) ?_
      refine lv_iload hx hb dX4_go_82 (lv_at hl 0 rfl) ?_
      obtain ⟨r17, hc, hJ5⟩ := ob1_s hJ5
      refine g_callVz (As := [.int i1, .int x2]) (rest := []) ⟨hx, hb, hml, hown, hts⟩ (kX4_holds l dC dI cyI cyO ad H.size hc) (cwV 2 hts gX4_go_X4_holds rfl rfl rfl (by decide +kernel) ⟨Nat.le_of_ble_eq_true rfl, Nat.le_of_ble_eq_true rfl⟩) hK hB hA (g_recv (ci := 4) hK hB 0 rfl rfl rfl) rfl hl.1 rfl (Nat.le_of_ble_eq_true rfl) dX4_go_84 ⟨Nat.zero_le _, Nat.zero_le _⟩ (fun z18 H locs hB => ?_)
      obtain ⟨t19, hD20, hJ5⟩ := ob1_s hJ5
      have kTt19 : t19 = true → ∀ (H : Heap) (locs : List Loc), Bd (dC, dI) [(cyI, .int), (cyO, .array .int)] (va_A (cM cyI cyO ad μ) s.heap.size) s (cM cyI cyO ad μ) H locs → W p l e (headSpec wsX4_go rmX4_go).room s m ([.ref (ad 0), .int i1, .int i2] : List Value).toArray below meth c H locs 0 0 (MQ below (QvF (dC, dI) [(cyI, .int), (cyO, .array .int)] (cM cyI cyO ad μ) (cM cyI cyO ad μ_) s.heap.size) ([.ref (ad 0), .int i1, .int i2] : List Value).toArray s 0 0 (va_A (cM cyI cyO ad μ) s.heap.size)) (F0 m 113 ls []) := by
        intro ht H locs hB
        have hJ5 := cnd_t ht hJ5
        refine lv_aload_n hx hb dX4_go_113 rfl (lv_at hl 2 rfl) ?_
        refine g_get (C := RX4) (T := TX4) (N := 15) hx hb hts hinX4 hown hK hB 0 rfl rfl 8 rfl hq1 rfl rfl dX4_go_114 ?_
        refine lv_iload_n hx hb dX4_go_117 rfl (lv_at hl 1 rfl) ?_
        refine lv_bipush (v := (8 : Int32)) hx hb dX4_go_118 (by decide) ?_
        refine lv_iadd hx hb dX4_go_120 ?_
        obtain ⟨x25, e9, hJ5⟩ := ob1_s hJ5
        refine g_iald hx hb hK hB 2 0 rfl rfl (rd_s e9) dX4_go_121 ?_
        refine lv_aload_n hx hb dX4_go_122 rfl (lv_at hl 2 rfl) ?_
        refine g_get (C := RX4) (T := TX4) (N := 15) hx hb hts hinX4 hown hK hB 0 rfl rfl 8 rfl hq1 rfl rfl dX4_go_123 ?_
        refine lv_iconst (v := (4 : Int32)) hx hb dX4_go_126 (by decide) ?_
        obtain ⟨x26, e9, hJ5⟩ := ob1_s hJ5
        refine g_iald hx hb hK hB 2 0 rfl rfl (rd_s e9) dX4_go_127 ?_
        refine lv_icmp_lt (tgt := 143) hx hb dX4_go_128 (by decide) (fun c27 => ?_) (fun c27 => ?_)
        · have hJ5 := ite_t c27 hJ5
          refine lv_aload_n hx hb dX4_go_143 rfl (lv_at hl 2 rfl) ?_
          refine g_get (C := RX4) (T := TX4) (N := 15) hx hb hts hinX4 hown hK hB 0 rfl rfl 8 rfl hq1 rfl rfl dX4_go_144 ?_
          refine lv_iload_n hx hb dX4_go_147 rfl (lv_at hl 1 rfl) ?_
          refine lv_bipush (v := (8 : Int32)) hx hb dX4_go_148 (by decide) ?_
          refine lv_iadd hx hb dX4_go_150 ?_
          refine lv_dup2_11 hx hb dX4_go_151 rfl rfl ?_
          obtain ⟨x28, e9, hJ5⟩ := ob1_s hJ5
          refine g_iald hx hb hK hB 2 0 rfl rfl (rd_s e9) dX4_go_152 ?_
          refine lv_iconst (v := (1 : Int32)) hx hb dX4_go_153 (by decide) ?_
          refine lv_iadd hx hb dX4_go_154 ?_
          obtain ⟨μ29, e9, hJ5⟩ := ob1_s hJ5
          obtain ⟨hi, e9⟩ := wra_s e9
          refine g_iast hx hb hK hB 2 0 rfl rfl hi rfl dX4_go_155 (w2 := (cM cyI cyO ad μ29)) (by rw [← e9]; rfl) (fun H locs hB => ?_)
          refine lv_goto (tgt := 265) hx hb dX4_go_156 (by decide) ?_
          have e0 := inj1 hJ5
          subst e0
          exact kJ6 _ _ _ hB (lv_sub hl [] rfl)
        · have hJ5 := ite_f c27 hJ5
          refine lv_aload_n hx hb dX4_go_131 rfl (lv_at hl 2 rfl) ?_
          refine g_get (C := RX4) (T := TX4) (N := 15) hx hb hts hinX4 hown hK hB 0 rfl rfl 8 rfl hq1 rfl rfl dX4_go_132 ?_
          refine lv_iload_n hx hb dX4_go_135 rfl (lv_at hl 1 rfl) ?_
          refine lv_iconst (v := (4 : Int32)) hx hb dX4_go_136 (by decide) ?_
          refine lv_iadd hx hb dX4_go_137 ?_
          refine lv_iconst (v := (4 : Int32)) hx hb dX4_go_138 (by decide) ?_
          obtain ⟨μ30, e9, hJ5⟩ := ob1_s hJ5
          obtain ⟨hi, e9⟩ := wra_s e9
          refine g_iast hx hb hK hB 2 0 rfl rfl hi rfl dX4_go_139 (w2 := (cM cyI cyO ad μ30)) (by rw [← e9]; rfl) (fun H locs hB => ?_)
          refine lv_goto (tgt := 265) hx hb dX4_go_140 (by decide) ?_
          have e0 := inj1 hJ5
          subst e0
          exact kJ6 _ _ _ hB (lv_sub hl [] rfl)
      have kFt19 : t19 = false → ∀ (H : Heap) (locs : List Loc), Bd (dC, dI) [(cyI, .int), (cyO, .array .int)] (va_A (cM cyI cyO ad μ) s.heap.size) s (cM cyI cyO ad μ) H locs → W p l e (headSpec wsX4_go rmX4_go).room s m ([.ref (ad 0), .int i1, .int i2] : List Value).toArray below meth c H locs 0 0 (MQ below (QvF (dC, dI) [(cyI, .int), (cyO, .array .int)] (cM cyI cyO ad μ) (cM cyI cyO ad μ_) s.heap.size) ([.ref (ad 0), .int i1, .int i2] : List Value).toArray s 0 0 (va_A (cM cyI cyO ad μ) s.heap.size)) (F0 m 159 ls []) := by
        intro ht H locs hB
        have hJ5 := cnd_f ht hJ5
        refine lv_aload_n hx hb dX4_go_159 rfl (lv_at hl 2 rfl) ?_
        refine g_get (C := RX4) (T := TX4) (N := 15) hx hb hts hinX4 hown hK hB 0 rfl rfl 8 rfl hq1 rfl rfl dX4_go_160 ?_
        refine lv_aload_n hx hb dX4_go_163 rfl (lv_at hl 2 rfl) ?_
        refine lv_iload_n hx hb dX4_go_164 rfl (lv_at hl 1 rfl) ?_
        obtain ⟨r31, hc, hJ5⟩ := ob1_s hJ5
        refine g_callVi (As := [.int r1]) (rest := [.ref (ad 8)]) ⟨hx, hb, hml, hown, hts⟩ (kX4_levelAt l dC dI cyI cyO ad H.size hc) (cwV 1 hts gX4_go_X4_levelAt rfl rfl rfl (by decide +kernel) ⟨Nat.le_of_ble_eq_true rfl, Nat.le_of_ble_eq_true rfl⟩) hK hB hA (g_recv (ci := 4) hK hB 0 rfl rfl rfl) rfl hl.1 rfl (Nat.le_of_ble_eq_true rfl) dX4_go_165 ⟨Nat.zero_le _, Nat.zero_le _⟩ (fun H locs hB => ?_)
        obtain ⟨x32, e9, hJ5⟩ := ob1_s hJ5
        refine g_iald hx hb hK hB 2 0 rfl rfl (rd_s e9) dX4_go_168 ?_
        refine lv_aload_n hx hb dX4_go_169 rfl (lv_at hl 2 rfl) ?_
        refine g_get (C := RX4) (T := TX4) (N := 15) hx hb hts hinX4 hown hK hB 0 rfl rfl 8 rfl hq1 rfl rfl dX4_go_170 ?_
        refine lv_iload_n hx hb dX4_go_173 rfl (lv_at hl 1 rfl) ?_
        refine lv_iconst (v := (2 : Int32)) hx hb dX4_go_174 (by decide) ?_
        refine lv_iadd hx hb dX4_go_175 ?_
        obtain ⟨x33, e9, hJ5⟩ := ob1_s hJ5
        refine g_iald hx hb hK hB 2 0 rfl rfl (rd_s e9) dX4_go_176 ?_
        refine lv_icmp_ge (tgt := 220) hx hb dX4_go_177 (by decide) (fun c34 => ?_) (fun c34 => ?_)
        · have hJ5 := ite_t c34 hJ5
          refine lv_aload_n hx hb dX4_go_220 rfl (lv_at hl 2 rfl) ?_
          refine g_get (C := RX4) (T := TX4) (N := 15) hx hb hts hinX4 hown hK hB 0 rfl rfl 8 rfl hq1 rfl rfl dX4_go_221 ?_
          refine lv_aload_n hx hb dX4_go_224 rfl (lv_at hl 2 rfl) ?_
          refine lv_iload_n hx hb dX4_go_225 rfl (lv_at hl 1 rfl) ?_
          obtain ⟨r35, hc, hJ5⟩ := ob1_s hJ5
          refine g_callVi (As := [.int r1]) (rest := [.ref (ad 8)]) ⟨hx, hb, hml, hown, hts⟩ (kX4_levelAt l dC dI cyI cyO ad H.size hc) (cwV 1 hts gX4_go_X4_levelAt rfl rfl rfl (by decide +kernel) ⟨Nat.le_of_ble_eq_true rfl, Nat.le_of_ble_eq_true rfl⟩) hK hB hA (g_recv (ci := 4) hK hB 0 rfl rfl rfl) rfl hl.1 rfl (Nat.le_of_ble_eq_true rfl) dX4_go_226 ⟨Nat.zero_le _, Nat.zero_le _⟩ (fun H locs hB => ?_)
          refine lv_dup2_11 hx hb dX4_go_229 rfl rfl ?_
          obtain ⟨x36, e9, hJ5⟩ := ob1_s hJ5
          refine g_iald hx hb hK hB 2 0 rfl rfl (rd_s e9) dX4_go_230 ?_
          refine lv_aload_n hx hb dX4_go_231 rfl (lv_at hl 2 rfl) ?_
          refine g_get (C := RX4) (T := TX4) (N := 15) hx hb hts hinX4 hown hK hB 0 rfl rfl 8 rfl hq1 rfl rfl dX4_go_232 ?_
          refine lv_iload_n hx hb dX4_go_235 rfl (lv_at hl 1 rfl) ?_
          refine lv_iconst (v := (2 : Int32)) hx hb dX4_go_236 (by decide) ?_
          refine lv_iadd hx hb dX4_go_237 ?_
          obtain ⟨x37, e9, hJ5⟩ := ob1_s hJ5
          refine g_iald hx hb hK hB 2 0 rfl rfl (rd_s e9) dX4_go_238 ?_
          refine lv_isub hx hb dX4_go_239 ?_
          obtain ⟨μ38, e9, hJ5⟩ := ob1_s hJ5
          obtain ⟨hi, e9⟩ := wra_s e9
          refine g_iast hx hb hK hB 2 0 rfl rfl hi rfl dX4_go_240 (w2 := (cM cyI cyO ad μ38)) (by rw [← e9]; rfl) (fun H locs hB => ?_)
          refine lv_aload_n hx hb dX4_go_241 rfl (lv_at hl 2 rfl) ?_
          refine g_get (C := RX4) (T := TX4) (N := 15) hx hb hts hinX4 hown hK hB 0 rfl rfl 8 rfl hq1 rfl rfl dX4_go_242 ?_
          refine lv_iload_n hx hb dX4_go_245 rfl (lv_at hl 1 rfl) ?_
          refine lv_iconst (v := (4 : Int32)) hx hb dX4_go_246 (by decide) ?_
          refine lv_iadd hx hb dX4_go_247 ?_
          refine lv_iconst (v := (2 : Int32)) hx hb dX4_go_248 (by decide) ?_
          obtain ⟨μ39, e9, hJ5⟩ := ob1_s hJ5
          obtain ⟨hi, e9⟩ := wra_s e9
          refine g_iast hx hb hK hB 2 0 rfl rfl hi rfl dX4_go_249 (w2 := (cM cyI cyO ad μ39)) (by rw [← e9]; rfl) (fun H locs hB => ?_)
          refine lv_aload_n hx hb dX4_go_250 rfl (lv_at hl 2 rfl) ?_
          refine g_get (C := RX4) (T := TX4) (N := 15) hx hb hts hinX4 hown hK hB 0 rfl rfl 8 rfl hq1 rfl rfl dX4_go_251 ?_
          refine lv_iload_n hx hb dX4_go_254 rfl (lv_at hl 1 rfl) ?_
          refine lv_bipush (v := (8 : Int32)) hx hb dX4_go_255 (by decide) ?_
          refine lv_iadd hx hb dX4_go_257 ?_
          refine lv_aload_n hx hb dX4_go_258 rfl (lv_at hl 2 rfl) ?_
          refine g_get (C := RX4) (T := TX4) (N := 15) hx hb hts hinX4 hown hK hB 0 rfl rfl 8 rfl hq1 rfl rfl dX4_go_259 ?_
          refine lv_iconst (v := (0 : Int32)) hx hb dX4_go_262 (by decide) ?_
          obtain ⟨x40, e9, hJ5⟩ := ob1_s hJ5
          refine g_iald hx hb hK hB 2 0 rfl rfl (rd_s e9) dX4_go_263 ?_
          obtain ⟨μ41, e9, hJ5⟩ := ob1_s hJ5
          obtain ⟨hi, e9⟩ := wra_s e9
          refine g_iast hx hb hK hB 2 0 rfl rfl hi rfl dX4_go_264 (w2 := (cM cyI cyO ad μ41)) (by rw [← e9]; rfl) (fun H locs hB => ?_)
          have e0 := inj1 hJ5
          subst e0
          exact kJ6 _ _ _ hB (lv_sub hl [] rfl)
        · have hJ5 := ite_f c34 hJ5
          refine lv_aload_n hx hb dX4_go_180 rfl (lv_at hl 2 rfl) ?_
          refine g_get (C := RX4) (T := TX4) (N := 15) hx hb hts hinX4 hown hK hB 0 rfl rfl 8 rfl hq1 rfl rfl dX4_go_181 ?_
          refine lv_iload_n hx hb dX4_go_184 rfl (lv_at hl 1 rfl) ?_
          refine lv_bipush (v := (6 : Int32)) hx hb dX4_go_185 (by decide) ?_
          refine lv_iadd hx hb dX4_go_187 ?_
          obtain ⟨x42, e9, hJ5⟩ := ob1_s hJ5
          refine g_iald hx hb hK hB 2 0 rfl rfl (rd_s e9) dX4_go_188 ?_
          refine lv_if_le (tgt := 208) hx hb dX4_go_189 (by decide) (fun c43 => ?_) (fun c43 => ?_)
          · have hJ5 := ite_t c43 hJ5
            refine lv_aload_n hx hb dX4_go_208 rfl (lv_at hl 2 rfl) ?_
            refine g_get (C := RX4) (T := TX4) (N := 15) hx hb hts hinX4 hown hK hB 0 rfl rfl 8 rfl hq1 rfl rfl dX4_go_209 ?_
            refine lv_iload_n hx hb dX4_go_212 rfl (lv_at hl 1 rfl) ?_
            refine lv_iconst (v := (4 : Int32)) hx hb dX4_go_213 (by decide) ?_
            refine lv_iadd hx hb dX4_go_214 ?_
            refine lv_iconst (v := (4 : Int32)) hx hb dX4_go_215 (by decide) ?_
            obtain ⟨μ44, e9, hJ5⟩ := ob1_s hJ5
            obtain ⟨hi, e9⟩ := wra_s e9
            refine g_iast hx hb hK hB 2 0 rfl rfl hi rfl dX4_go_216 (w2 := (cM cyI cyO ad μ44)) (by rw [← e9]; rfl) (fun H locs hB => ?_)
            refine lv_goto (tgt := 265) hx hb dX4_go_217 (by decide) ?_
            have e0 := inj1 hJ5
            subst e0
            exact kJ6 _ _ _ hB (lv_sub hl [] rfl)
          · have hJ5 := ite_f c43 hJ5
            refine lv_aload_n hx hb dX4_go_192 rfl (lv_at hl 2 rfl) ?_
            refine g_get (C := RX4) (T := TX4) (N := 15) hx hb hts hinX4 hown hK hB 0 rfl rfl 8 rfl hq1 rfl rfl dX4_go_193 ?_
            refine lv_iload_n hx hb dX4_go_196 rfl (lv_at hl 1 rfl) ?_
            refine lv_bipush (v := (6 : Int32)) hx hb dX4_go_197 (by decide) ?_
            refine lv_iadd hx hb dX4_go_199 ?_
            refine lv_dup2_11 hx hb dX4_go_200 rfl rfl ?_
            obtain ⟨x45, e9, hJ5⟩ := ob1_s hJ5
            refine g_iald hx hb hK hB 2 0 rfl rfl (rd_s e9) dX4_go_201 ?_
            refine lv_iconst (v := (1 : Int32)) hx hb dX4_go_202 (by decide) ?_
            refine lv_isub hx hb dX4_go_203 ?_
            obtain ⟨μ46, e9, hJ5⟩ := ob1_s hJ5
            obtain ⟨hi, e9⟩ := wra_s e9
            refine g_iast hx hb hK hB 2 0 rfl rfl hi rfl dX4_go_204 (w2 := (cM cyI cyO ad μ46)) (by rw [← e9]; rfl) (fun H locs hB => ?_)
            refine lv_goto (tgt := 265) hx hb dX4_go_205 (by decide) ?_
            have e0 := inj1 hJ5
            subst e0
            exact kJ6 _ _ _ hB (lv_sub hl [] rfl)
      refine lv_if_ne (tgt := 159) hx hb dX4_go_87 (by decide) (fun c21 => ?_) (fun c21 => ?_)
      · have hD20 := ite_f c21 hD20
        have e0 := inj1 hD20
        exact kFt19 e0.symm _ _ hB
      · have hD20 := ite_t c21 hD20
        refine lv_aload_n hx hb dX4_go_90 rfl (lv_at hl 2 rfl) ?_
        refine lv_iload hx hb dX4_go_91 (lv_at hl 0 rfl) ?_
        obtain ⟨r22, hc, hD20⟩ := ob1_s hD20
        refine g_callVi (As := [.int x2]) (rest := []) ⟨hx, hb, hml, hown, hts⟩ (kX4_holders l dC dI cyI cyO ad H.size hc) (cwV 1 hts gX4_go_X4_holders rfl rfl rfl (by decide +kernel) ⟨Nat.le_of_ble_eq_true rfl, Nat.le_of_ble_eq_true rfl⟩) hK hB hA (g_recv (ci := 4) hK hB 0 rfl rfl rfl) rfl hl.1 rfl (Nat.le_of_ble_eq_true rfl) dX4_go_93 ⟨Nat.zero_le _, Nat.zero_le _⟩ (fun H locs hB => ?_)
        refine lv_aload_n hx hb dX4_go_96 rfl (lv_at hl 2 rfl) ?_
        refine g_get (C := RX4) (T := TX4) (N := 15) hx hb hts hinX4 hown hK hB 0 rfl rfl 8 rfl hq1 rfl rfl dX4_go_97 ?_
        refine lv_bipush (v := (7 : Int32)) hx hb dX4_go_100 (by decide) ?_
        refine lv_iconst (v := (2 : Int32)) hx hb dX4_go_102 (by decide) ?_
        refine lv_iload hx hb dX4_go_103 (lv_at hl 0 rfl) ?_
        refine lv_imul hx hb dX4_go_105 ?_
        refine lv_iadd hx hb dX4_go_106 ?_
        refine lv_iconst (v := (1 : Int32)) hx hb dX4_go_107 (by decide) ?_
        refine lv_iadd hx hb dX4_go_108 ?_
        obtain ⟨x23, e9, hD20⟩ := ob1_s hD20
        refine g_iald hx hb hK hB 2 0 rfl rfl (rd_s e9) dX4_go_109 ?_
        refine lv_icmp_lt (tgt := 159) hx hb dX4_go_110 (by decide) (fun c24 => ?_) (fun c24 => ?_)
        · have hD20 := ite_t c24 hD20
          have e0 := inj1 hD20
          exact kFt19 e0.symm _ _ hB
        · have hD20 := ite_f c24 hD20
          have e0 := inj1 hD20
          exact kTt19 e0.symm _ _ hB
  refine lv_icmp_ne (tgt := 68) hx hb dX4_go_26 (by decide) (fun c9 => ?_) (fun c9 => ?_)
  · have hD8 := ite_f c9 hD8
    have e0 := inj1 hD8
    exact kFt7 e0.symm _ _ hB
  · have hD8 := ite_t c9 hD8
    refine lv_aload_n hx hb dX4_go_29 rfl (lv_at hl 2 rfl) ?_
    refine g_get (C := RX4) (T := TX4) (N := 15) hx hb hts hinX4 hown hK hB 0 rfl rfl 8 rfl hq1 rfl rfl dX4_go_30 ?_
    refine lv_iconst (v := (0 : Int32)) hx hb dX4_go_33 (by decide) ?_
    obtain ⟨x10, e9, hD8⟩ := ob1_s hD8
    refine g_iald hx hb hK hB 2 0 rfl rfl (rd_s e9) dX4_go_34 ?_
    refine lv_aload_n hx hb dX4_go_35 rfl (lv_at hl 2 rfl) ?_
    refine g_get (C := RX4) (T := TX4) (N := 15) hx hb hts hinX4 hown hK hB 0 rfl rfl 8 rfl hq1 rfl rfl dX4_go_36 ?_
    refine lv_iload_n hx hb dX4_go_39 rfl (lv_at hl 1 rfl) ?_
    refine lv_bipush (v := (8 : Int32)) hx hb dX4_go_40 (by decide) ?_
    refine lv_iadd hx hb dX4_go_42 ?_
    obtain ⟨x11, e9, hD8⟩ := ob1_s hD8
    refine g_iald hx hb hK hB 2 0 rfl rfl (rd_s e9) dX4_go_43 ?_
    refine lv_isub hx hb dX4_go_44 ?_
    refine lv_aload_n hx hb dX4_go_45 rfl (lv_at hl 2 rfl) ?_
    refine g_get (C := RX4) (T := TX4) (N := 15) hx hb hts hinX4 hown hK hB 0 rfl rfl 8 rfl hq1 rfl rfl dX4_go_46 ?_
    refine lv_iload_n hx hb dX4_go_49 rfl (lv_at hl 1 rfl) ?_
    refine lv_iconst (v := (3 : Int32)) hx hb dX4_go_50 (by decide) ?_
    refine lv_iadd hx hb dX4_go_51 ?_
    obtain ⟨x12, e9, hD8⟩ := ob1_s hD8
    refine g_iald hx hb hK hB 2 0 rfl rfl (rd_s e9) dX4_go_52 ?_
    refine lv_icmp_lt (tgt := 68) hx hb dX4_go_53 (by decide) (fun c13 => ?_) (fun c13 => ?_)
    · have hD8 := ite_t c13 hD8
      have e0 := inj1 hD8
      exact kFt7 e0.symm _ _ hB
    · have hD8 := ite_f c13 hD8
      have e0 := inj1 hD8
      exact kTt7 e0.symm _ _ hB

abbrev rmX4_isAt : Room := { frames := 3, cells := 0, slots := 0, locals := 64 }

set_option maxHeartbeats 4000000 in
set_option maxRecDepth 100000 in
theorem kX4_isAt (l : Launch) (dC : Nat → ClassId) (dI : Nat → Nat → Nat) (cyI cyO : ClassId) (ad : Nat → Nat) (sz : Nat) {fu : Nat} {μ : MS} {i1 : Int32} {i2 : Int32} {i3 : Int32} {r : Int32} (hf : mX4_isAt fu μ i1 i2 i3 = some r) : Met l yX4_isAt wsX4_isAt rmX4_isAt (PcF (dC, dI) [(cyI, .int), (cyO, .array .int)] (cM cyI cyO ad μ) sz [.ref (ad 0), .int i1, .int i2, .int i3]) (QzF (dC, dI) [(cyI, .int), (cyO, .array .int)] (cM cyI cyO ad μ) (cM cyI cyO ad μ) sz r) 0 0 (va_A (cM cyI cyO ad μ) sz) := by
  refine Met.ofW (cc := cX4_isAt) (maxL := 4) (ret := (some .boolean)) (by decide) rfl ?_
  intro p e s m args below meth c s₁ B hml hv
  obtain ⟨rfl, hsz, hP, hK, hD0⟩ := hv
  have hx := B.exec
  have hb := B.bytes
  have hr := B.returns
  have hts := atoms_spec (ws := wsX4_isAt) B.pre
  have hown : s.vm.findClass RX4 = some m.cls := findClass_of_methodNamed B.named
  have hlocks := B.notSynchronized
  subst hsz
  have hA : ∀ q : Nat, s.heap.size ≤ q → va_A (cM cyI cyO ad μ) s.heap.size q := fun q h => Or.inr h
  have hB : Bd (dC, dI) [(cyI, .int), (cyO, .array .int)] (va_A (cM cyI cyO ad μ) s.heap.size) s (cM cyI cyO ad μ) s.heap [] := ⟨hP, hD0.self, va_S.rf⟩
  have hq1 : (Cond.fieldLink RX4 17 "UndoJourneysModel" "data" "[I").before _ s = true := hts _ (List.mem_of_getElem? (i := 1) rfl)
  have hinX4 : ∀ w ∈ wsX40, w ∈ wsX4_isAt := fun w h => List.mem_cons_of_mem _ (List.mem_append_right _ h)
  have hl := lv_entry [.ref (ad 0), .int i1, .int i2, .int i3] (n := 4) (Nat.le_of_ble_eq_true rfl)
  rw [lg_entry_eq]
  generalize (lg_sl [.ref (ad 0), .int i1, .int i2, .int i3] ++ List.replicate (4 - (lg_sl [.ref (ad 0), .int i1, .int i2, .int i3]).length) Slot.unset).toArray = ls at hl ⊢
  have hl : lv_has ls 4 [(0, .ref (ad 0)), (1, .int i1), (2, .int i2), (3, .int i3)] := hl
  clear hP hD0
  suffices main : ∀ (H : Heap) (locs : List Loc), Bd (dC, dI) [(cyI, .int), (cyO, .array .int)] (va_A (cM cyI cyO ad μ) s.heap.size) s (cM cyI cyO ad μ) H locs → W p l e (headSpec wsX4_isAt rmX4_isAt).room s m ([.ref (ad 0), .int i1, .int i2, .int i3] : List Value).toArray below meth c H locs 0 0 (MQ below (QzF (dC, dI) [(cyI, .int), (cyO, .array .int)] (cM cyI cyO ad μ) (cM cyI cyO ad μ) s.heap.size r) ([.ref (ad 0), .int i1, .int i2, .int i3] : List Value).toArray s 0 0 (va_A (cM cyI cyO ad μ) s.heap.size)) (F0 m 0 ls []) from main _ _ hB
  clear hB
  intro H locs hB
  unfold mX4_isAt at hf
  refine lv_aload_n hx hb dX4_isAt_0 rfl (lv_at hl 0 rfl) ?_
  refine g_get (C := RX4) (T := TX4) (N := 15) hx hb hts hinX4 hown hK hB 0 rfl rfl 8 rfl hq1 rfl rfl dX4_isAt_1 ?_
  refine lv_aload_n hx hb dX4_isAt_4 rfl (lv_at hl 0 rfl) ?_
  refine lv_iload_n hx hb dX4_isAt_5 rfl (lv_at hl 1 rfl) ?_
  refine lv_iload_n hx hb dX4_isAt_6 rfl (lv_at hl 2 rfl) ?_
  obtain ⟨r1, hc, hf⟩ := ob1_s hf
  refine g_callVi (As := [.int i1, .int i2]) (rest := [.ref (ad 8)]) ⟨hx, hb, hml, hown, hts⟩ (kX4_stepAt l dC dI cyI cyO ad H.size hc) (cwV 2 hts gX4_isAt_X4_stepAt rfl rfl rfl (by decide +kernel) ⟨Nat.le_of_ble_eq_true rfl, Nat.le_of_ble_eq_true rfl⟩) hK hB hA (g_recv (ci := 4) hK hB 0 rfl rfl rfl) rfl hl.1 rfl (Nat.le_of_ble_eq_true rfl) dX4_isAt_7 ⟨Nat.zero_le _, Nat.zero_le _⟩ (fun H locs hB => ?_)
  refine lv_iconst (v := (0 : Int32)) hx hb dX4_isAt_10 (by decide) ?_
  refine lv_iadd hx hb dX4_isAt_11 ?_
  obtain ⟨x2, e9, hf⟩ := ob1_s hf
  refine g_iald hx hb hK hB 2 0 rfl rfl (rd_s e9) dX4_isAt_12 ?_
  refine lv_iload_n hx hb dX4_isAt_13 rfl (lv_at hl 3 rfl) ?_
  obtain ⟨v3, hJ5, hf⟩ := ob1_s hf
  have kJ6 : (v3 = 0 ∨ v3 = 1) → ∀ (H : Heap) (locs : List Loc) (ls : Array Slot), Bd (dC, dI) [(cyI, .int), (cyO, .array .int)] (va_A (cM cyI cyO ad μ) s.heap.size) s (cM cyI cyO ad μ) H locs → lv_has ls 4 [] → W p l e (headSpec wsX4_isAt rmX4_isAt).room s m ([.ref (ad 0), .int i1, .int i2, .int i3] : List Value).toArray below meth c H locs 0 0 (MQ below (QzF (dC, dI) [(cyI, .int), (cyO, .array .int)] (cM cyI cyO ad μ) (cM cyI cyO ad μ) s.heap.size r) ([.ref (ad 0), .int i1, .int i2, .int i3] : List Value).toArray s 0 0 (va_A (cM cyI cyO ad μ) s.heap.size)) (F0 m 22 ls [.int v3]) := by
    intro z4 H locs ls hB hl
    have e0 := inj1 hf
    subst e0
    exact g_zret hx hb hr hlocks hK hB z4 dX4_isAt_22
  refine lv_icmp_ne (tgt := 21) hx hb dX4_isAt_14 (by decide) (fun c7 => ?_) (fun c7 => ?_)
  · have hJ5 := ite_f c7 hJ5
    refine lv_iconst (v := (0 : Int32)) hx hb dX4_isAt_21 (by decide) ?_
    have e0 := inj1 hJ5
    subst e0
    exact kJ6 (Or.inl rfl) _ _ _ hB (lv_sub hl [] rfl)
  · have hJ5 := ite_t c7 hJ5
    refine lv_iconst (v := (1 : Int32)) hx hb dX4_isAt_17 (by decide) ?_
    refine lv_goto (tgt := 22) hx hb dX4_isAt_18 (by decide) ?_
    have e0 := inj1 hJ5
    subst e0
    exact kJ6 (Or.inr rfl) _ _ _ hB (lv_sub hl [] rfl)

abbrev rmX4_countAt : Room := { frames := 4, cells := 0, slots := 0, locals := 87 }

set_option maxHeartbeats 4000000 in
set_option maxRecDepth 100000 in
theorem kX4_countAt (l : Launch) (dC : Nat → ClassId) (dI : Nat → Nat → Nat) (cyI cyO : ClassId) (ad : Nat → Nat) (sz : Nat) {fu : Nat} {μ : MS} {i1 : Int32} {i2 : Int32} {i3 : Int32} {r : Int32} (hf : mX4_countAt fu μ i1 i2 i3 = some r) : Met l yX4_countAt wsX4_countAt rmX4_countAt (PcF (dC, dI) [(cyI, .int), (cyO, .array .int)] (cM cyI cyO ad μ) sz [.ref (ad 0), .int i1, .int i2, .int i3]) (QiF (dC, dI) [(cyI, .int), (cyO, .array .int)] (cM cyI cyO ad μ) (cM cyI cyO ad μ) sz r) 0 0 (va_A (cM cyI cyO ad μ) sz) := by
  refine Met.ofW (cc := cX4_countAt) (maxL := 6) (ret := (some .int)) (by decide) rfl ?_
  intro p e s m args below meth c s₁ B hml hv
  obtain ⟨rfl, hsz, hP, hK, hD0⟩ := hv
  have hx := B.exec
  have hb := B.bytes
  have hr := B.returns
  have hts := atoms_spec (ws := wsX4_countAt) B.pre
  have hown : s.vm.findClass RX4 = some m.cls := findClass_of_methodNamed B.named
  have hlocks := B.notSynchronized
  subst hsz
  have hA : ∀ q : Nat, s.heap.size ≤ q → va_A (cM cyI cyO ad μ) s.heap.size q := fun q h => Or.inr h
  have hB : Bd (dC, dI) [(cyI, .int), (cyO, .array .int)] (va_A (cM cyI cyO ad μ) s.heap.size) s (cM cyI cyO ad μ) s.heap [] := ⟨hP, hD0.self, va_S.rf⟩
  have hinX4 : ∀ w ∈ wsX40, w ∈ wsX4_countAt := fun w h => List.mem_cons_of_mem _ (List.mem_append_right _ h)
  have hl := lv_entry [.ref (ad 0), .int i1, .int i2, .int i3] (n := 6) (Nat.le_of_ble_eq_true rfl)
  rw [lg_entry_eq]
  generalize (lg_sl [.ref (ad 0), .int i1, .int i2, .int i3] ++ List.replicate (6 - (lg_sl [.ref (ad 0), .int i1, .int i2, .int i3]).length) Slot.unset).toArray = ls at hl ⊢
  have hl : lv_has ls 6 [(0, .ref (ad 0)), (1, .int i1), (2, .int i2), (3, .int i3)] := hl
  clear hP hD0
  suffices main : ∀ (H : Heap) (locs : List Loc), Bd (dC, dI) [(cyI, .int), (cyO, .array .int)] (va_A (cM cyI cyO ad μ) s.heap.size) s (cM cyI cyO ad μ) H locs → W p l e (headSpec wsX4_countAt rmX4_countAt).room s m ([.ref (ad 0), .int i1, .int i2, .int i3] : List Value).toArray below meth c H locs 0 0 (MQ below (QiF (dC, dI) [(cyI, .int), (cyO, .array .int)] (cM cyI cyO ad μ) (cM cyI cyO ad μ) s.heap.size r) ([.ref (ad 0), .int i1, .int i2, .int i3] : List Value).toArray s 0 0 (va_A (cM cyI cyO ad μ) s.heap.size)) (F0 m 0 ls []) from main _ _ hB
  clear hB
  intro H locs hB
  unfold mX4_countAt at hf
  refine lv_iconst (v := (0 : Int32)) hx hb dX4_countAt_0 (by decide) ?_
  refine lv_istore (lv' := [(4, .int (0 : Int32)), (0, .ref (ad 0)), (1, .int i1), (2, .int i2), (3, .int i3)]) hx hb dX4_countAt_1 hl (by decide) rfl (fun ls hl => ?_)
  refine lv_iconst (v := (0 : Int32)) hx hb dX4_countAt_3 (by decide) ?_
  refine lv_istore (lv' := [(5, .int (0 : Int32)), (4, .int (0 : Int32)), (0, .ref (ad 0)), (1, .int i1), (2, .int i2), (3, .int i3)]) hx hb dX4_countAt_4 hl (by decide) rfl (fun ls hl => ?_)
  obtain ⟨v20, hL23, hf⟩ := ob1_s hf
  have kE21 : ∀ (H : Heap) (locs : List Loc) (ls : Array Slot), Bd (dC, dI) [(cyI, .int), (cyO, .array .int)] (va_A (cM cyI cyO ad μ) s.heap.size) s (cM cyI cyO ad μ) H locs → lv_has ls 6 [(4, .int v20)] → W p l e (headSpec wsX4_countAt rmX4_countAt).room s m ([.ref (ad 0), .int i1, .int i2, .int i3] : List Value).toArray below meth c H locs 0 0 (MQ below (QiF (dC, dI) [(cyI, .int), (cyO, .array .int)] (cM cyI cyO ad μ) (cM cyI cyO ad μ) s.heap.size r) ([.ref (ad 0), .int i1, .int i2, .int i3] : List Value).toArray s 0 0 (va_A (cM cyI cyO ad μ) s.heap.size)) (F0 m 55 ls []) := by
    intro H locs ls hB hl
    refine lv_iload hx hb dX4_countAt_55 (lv_at hl 0 rfl) ?_
    have e0 := inj1 hf
    subst e0
    exact g_iret hx hb hr hlocks hK hB dX4_countAt_57
  have key22 : ∀ (n9 : Nat) (v26 : Int32) (v27 : Int32) (H : Heap) (locs : List Loc) (ls : Array Slot), loopM (fun st => mX4_countAt_L6 fu i1 i2 i3 μ st.1 st.2) n9 (v26, v27) = some v20 → Bd (dC, dI) [(cyI, .int), (cyO, .array .int)] (va_A (cM cyI cyO ad μ) s.heap.size) s (cM cyI cyO ad μ) H locs → lv_has ls 6 [(5, .int v26), (4, .int v27), (0, .ref (ad 0)), (1, .int i1), (2, .int i2), (3, .int i3)] → W p l e (headSpec wsX4_countAt rmX4_countAt).room s m ([.ref (ad 0), .int i1, .int i2, .int i3] : List Value).toArray below meth c H locs 0 0 (MQ below (QiF (dC, dI) [(cyI, .int), (cyO, .array .int)] (cM cyI cyO ad μ) (cM cyI cyO ad μ) s.heap.size r) ([.ref (ad 0), .int i1, .int i2, .int i3] : List Value).toArray s 0 0 (va_A (cM cyI cyO ad μ) s.heap.size)) (F0 m 6 ls []) := by
    intro n9
    induction n9 with
    | zero => intro v26 v27 H locs ls hL23; exact (loopM_z hL23).elim
    | succ n9 ih9 =>
      intro v26 v27 H locs ls hL23 hB hl
      obtain ⟨o28, hg24, hL23⟩ := loopM_s hL23
      have hg24 : mX4_countAt_L6 fu i1 i2 i3 μ v26 v27 = some o28 := hg24
      unfold mX4_countAt_L6 at hg24
      refine lv_iload hx hb dX4_countAt_6 (lv_at hl 0 rfl) ?_
      refine lv_aload_n hx hb dX4_countAt_8 rfl (lv_at hl 2 rfl) ?_
      refine lv_iload_n hx hb dX4_countAt_9 rfl (lv_at hl 3 rfl) ?_
      refine lv_iconst (v := (3 : Int32)) hx hb dX4_countAt_10 (by decide) ?_
      obtain ⟨r29, hc, hg24⟩ := ob1_s hg24
      refine g_callVi (As := [.int i1, .int (3 : Int32)]) (rest := [.int v26]) ⟨hx, hb, hml, hown, hts⟩ (kX4_ofJourney l dC dI cyI cyO ad H.size hc) (cwV 2 hts gX4_countAt_X4_ofJourney rfl rfl rfl (by decide +kernel) ⟨Nat.le_of_ble_eq_true rfl, Nat.le_of_ble_eq_true rfl⟩) hK hB hA (g_recv (ci := 4) hK hB 0 rfl rfl rfl) rfl hl.1 rfl (Nat.le_of_ble_eq_true rfl) dX4_countAt_11 ⟨Nat.zero_le _, Nat.zero_le _⟩ (fun H locs hB => ?_)
      refine lv_icmp_ge (tgt := 55) hx hb dX4_countAt_14 (by decide) (fun c30 => ?_) (fun c30 => ?_)
      · have hg24 := ite_t c30 hg24
        have hL23 := el1_l (inj1 hg24) hL23
        have e0 := inj1 hL23
        subst e0
        exact kE21 _ _ _ hB (lv_sub hl [1] rfl)
      · have hg24 := ite_f c30 hg24
        refine lv_iload hx hb dX4_countAt_17 (lv_at hl 1 rfl) ?_
        refine lv_aload_n hx hb dX4_countAt_19 rfl (lv_at hl 2 rfl) ?_
        refine lv_iload_n hx hb dX4_countAt_20 rfl (lv_at hl 3 rfl) ?_
        refine lv_iload hx hb dX4_countAt_21 (lv_at hl 0 rfl) ?_
        refine lv_iload_n hx hb dX4_countAt_23 rfl (lv_at hl 4 rfl) ?_
        obtain ⟨r31, hc, hg24⟩ := ob1_s hg24
        refine g_callVz (As := [.int i1, .int v26, .int i2]) (rest := [.int v27]) ⟨hx, hb, hml, hown, hts⟩ (kX4_isAt l dC dI cyI cyO ad H.size hc) (cwV 3 hts gX4_countAt_X4_isAt rfl rfl rfl (by decide +kernel) ⟨Nat.le_of_ble_eq_true rfl, Nat.le_of_ble_eq_true rfl⟩) hK hB hA (g_recv (ci := 4) hK hB 0 rfl rfl rfl) rfl hl.1 rfl (Nat.le_of_ble_eq_true rfl) dX4_countAt_24 ⟨Nat.zero_le _, Nat.zero_le _⟩ (fun z32 H locs hB => ?_)
        obtain ⟨v33, hJ35, hg24⟩ := ob1_s hg24
        have kJ36 : (v33 = 0 ∨ v33 = 1) → ∀ (H : Heap) (locs : List Loc) (ls : Array Slot), Bd (dC, dI) [(cyI, .int), (cyO, .array .int)] (va_A (cM cyI cyO ad μ) s.heap.size) s (cM cyI cyO ad μ) H locs → lv_has ls 6 [(5, .int v26), (0, .ref (ad 0)), (1, .int i1), (2, .int i2), (3, .int i3)] → W p l e (headSpec wsX4_countAt rmX4_countAt).room s m ([.ref (ad 0), .int i1, .int i2, .int i3] : List Value).toArray below meth c H locs 0 0 (MQ below (QiF (dC, dI) [(cyI, .int), (cyO, .array .int)] (cM cyI cyO ad μ) (cM cyI cyO ad μ) s.heap.size r) ([.ref (ad 0), .int i1, .int i2, .int i3] : List Value).toArray s 0 0 (va_A (cM cyI cyO ad μ) s.heap.size)) (F0 m 46 ls [.int v33, .int v27]) := by
          intro z34 H locs ls hB hl
          refine lv_iadd hx hb dX4_countAt_46 ?_
          refine lv_istore (lv' := [(4, .int (v27 + v33)), (5, .int v26), (0, .ref (ad 0)), (1, .int i1), (2, .int i2), (3, .int i3)]) hx hb dX4_countAt_47 hl (by decide) rfl (fun ls hl => ?_)
          refine lv_iinc (v := (v26 + (1 : Int32))) (lv' := [(5, .int (v26 + (1 : Int32))), (4, .int (v27 + v33)), (0, .ref (ad 0)), (1, .int i1), (2, .int i2), (3, .int i3)]) hx hb dX4_countAt_49 hl (k := 1) rfl rfl (by decide) rfl (fun ls hl => ?_)
          refine lv_goto (tgt := 6) hx hb dX4_countAt_52 (by decide) ?_
          have hL23 := el1_r (inj1 hg24) hL23
          exact ih9 _ _ _ _ _ hL23 hB (lv_sub hl [0, 1, 2, 3, 4, 5] rfl)
        obtain ⟨t37, hD38, hJ35⟩ := ob1_s hJ35
        have kTt37 : t37 = true → ∀ (H : Heap) (locs : List Loc), Bd (dC, dI) [(cyI, .int), (cyO, .array .int)] (va_A (cM cyI cyO ad μ) s.heap.size) s (cM cyI cyO ad μ) H locs → W p l e (headSpec wsX4_countAt rmX4_countAt).room s m ([.ref (ad 0), .int i1, .int i2, .int i3] : List Value).toArray below meth c H locs 0 0 (MQ below (QiF (dC, dI) [(cyI, .int), (cyO, .array .int)] (cM cyI cyO ad μ) (cM cyI cyO ad μ) s.heap.size r) ([.ref (ad 0), .int i1, .int i2, .int i3] : List Value).toArray s 0 0 (va_A (cM cyI cyO ad μ) s.heap.size)) (F0 m 41 ls [.int v27]) := by
          intro ht H locs hB
          have hJ35 := cnd_t ht hJ35
          refine lv_iconst (v := (1 : Int32)) hx hb dX4_countAt_41 (by decide) ?_
          refine lv_goto (tgt := 46) hx hb dX4_countAt_42 (by decide) ?_
          have e0 := inj1 hJ35
          subst e0
          exact kJ36 (Or.inr rfl) _ _ _ hB (lv_sub hl [0, 2, 3, 4, 5] rfl)
        have kFt37 : t37 = false → ∀ (H : Heap) (locs : List Loc), Bd (dC, dI) [(cyI, .int), (cyO, .array .int)] (va_A (cM cyI cyO ad μ) s.heap.size) s (cM cyI cyO ad μ) H locs → W p l e (headSpec wsX4_countAt rmX4_countAt).room s m ([.ref (ad 0), .int i1, .int i2, .int i3] : List Value).toArray below meth c H locs 0 0 (MQ below (QiF (dC, dI) [(cyI, .int), (cyO, .array .int)] (cM cyI cyO ad μ) (cM cyI cyO ad μ) s.heap.size r) ([.ref (ad 0), .int i1, .int i2, .int i3] : List Value).toArray s 0 0 (va_A (cM cyI cyO ad μ) s.heap.size)) (F0 m 45 ls [.int v27]) := by
          intro ht H locs hB
          have hJ35 := cnd_f ht hJ35
          refine lv_iconst (v := (0 : Int32)) hx hb dX4_countAt_45 (by decide) ?_
          have e0 := inj1 hJ35
          subst e0
          exact kJ36 (Or.inl rfl) _ _ _ hB (lv_sub hl [0, 2, 3, 4, 5] rfl)
        refine lv_if_eq (tgt := 45) hx hb dX4_countAt_27 (by decide) (fun c39 => ?_) (fun c39 => ?_)
        · have hD38 := ite_t c39 hD38
          have e0 := inj1 hD38
          exact kFt37 e0.symm _ _ hB
        · have hD38 := ite_f c39 hD38
          refine lv_aload_n hx hb dX4_countAt_30 rfl (lv_at hl 2 rfl) ?_
          refine lv_iload_n hx hb dX4_countAt_31 rfl (lv_at hl 3 rfl) ?_
          refine lv_iload hx hb dX4_countAt_32 (lv_at hl 0 rfl) ?_
          obtain ⟨r40, hc, hD38⟩ := ob1_s hD38
          refine g_callVi (As := [.int i1, .int v26]) (rest := [.int v27]) ⟨hx, hb, hml, hown, hts⟩ (kX4_stateOf l dC dI cyI cyO ad H.size hc) (cwV 2 hts gX4_countAt_X4_stateOf rfl rfl rfl (by decide +kernel) ⟨Nat.le_of_ble_eq_true rfl, Nat.le_of_ble_eq_true rfl⟩) hK hB hA (g_recv (ci := 4) hK hB 0 rfl rfl rfl) rfl hl.1 rfl (Nat.le_of_ble_eq_true rfl) dX4_countAt_34 ⟨Nat.zero_le _, Nat.zero_le _⟩ (fun H locs hB => ?_)
          refine lv_iload_n hx hb dX4_countAt_37 rfl (lv_at hl 5 rfl) ?_
          refine lv_icmp_ne (tgt := 45) hx hb dX4_countAt_38 (by decide) (fun c41 => ?_) (fun c41 => ?_)
          · have hD38 := ite_f c41 hD38
            have e0 := inj1 hD38
            exact kFt37 e0.symm _ _ hB
          · have hD38 := ite_t c41 hD38
            have e0 := inj1 hD38
            exact kTt37 e0.symm _ _ hB
  exact key22 fu _ _ _ _ _ hL23 hB (lv_sub hl [0, 1, 2, 3, 4, 5] rfl)

abbrev rmX4_isOver : Room := { frames := 5, cells := 0, slots := 0, locals := 108 }

set_option maxHeartbeats 4000000 in
set_option maxRecDepth 100000 in
theorem kX4_isOver (l : Launch) (dC : Nat → ClassId) (dI : Nat → Nat → Nat) (cyI cyO : ClassId) (ad : Nat → Nat) (sz : Nat) {fu : Nat} {μ : MS} {i1 : Int32} {i2 : Int32} {r : Int32} (hf : mX4_isOver fu μ i1 i2 = some r) : Met l yX4_isOver wsX4_isOver rmX4_isOver (PcF (dC, dI) [(cyI, .int), (cyO, .array .int)] (cM cyI cyO ad μ) sz [.ref (ad 0), .int i1, .int i2]) (QzF (dC, dI) [(cyI, .int), (cyO, .array .int)] (cM cyI cyO ad μ) (cM cyI cyO ad μ) sz r) 0 0 (va_A (cM cyI cyO ad μ) sz) := by
  refine Met.ofW (cc := cX4_isOver) (maxL := 4) (ret := (some .boolean)) (by decide) rfl ?_
  intro p e s m args below meth c s₁ B hml hv
  obtain ⟨rfl, hsz, hP, hK, hD0⟩ := hv
  have hx := B.exec
  have hb := B.bytes
  have hr := B.returns
  have hts := atoms_spec (ws := wsX4_isOver) B.pre
  have hown : s.vm.findClass RX4 = some m.cls := findClass_of_methodNamed B.named
  have hlocks := B.notSynchronized
  subst hsz
  have hA : ∀ q : Nat, s.heap.size ≤ q → va_A (cM cyI cyO ad μ) s.heap.size q := fun q h => Or.inr h
  have hB : Bd (dC, dI) [(cyI, .int), (cyO, .array .int)] (va_A (cM cyI cyO ad μ) s.heap.size) s (cM cyI cyO ad μ) s.heap [] := ⟨hP, hD0.self, va_S.rf⟩
  have hinX4 : ∀ w ∈ wsX40, w ∈ wsX4_isOver := fun w h => List.mem_cons_of_mem _ (List.mem_append_right _ h)
  have hl := lv_entry [.ref (ad 0), .int i1, .int i2] (n := 4) (Nat.le_of_ble_eq_true rfl)
  rw [lg_entry_eq]
  generalize (lg_sl [.ref (ad 0), .int i1, .int i2] ++ List.replicate (4 - (lg_sl [.ref (ad 0), .int i1, .int i2]).length) Slot.unset).toArray = ls at hl ⊢
  have hl : lv_has ls 4 [(0, .ref (ad 0)), (1, .int i1), (2, .int i2)] := hl
  clear hP hD0
  suffices main : ∀ (H : Heap) (locs : List Loc), Bd (dC, dI) [(cyI, .int), (cyO, .array .int)] (va_A (cM cyI cyO ad μ) s.heap.size) s (cM cyI cyO ad μ) H locs → W p l e (headSpec wsX4_isOver rmX4_isOver).room s m ([.ref (ad 0), .int i1, .int i2] : List Value).toArray below meth c H locs 0 0 (MQ below (QzF (dC, dI) [(cyI, .int), (cyO, .array .int)] (cM cyI cyO ad μ) (cM cyI cyO ad μ) s.heap.size r) ([.ref (ad 0), .int i1, .int i2] : List Value).toArray s 0 0 (va_A (cM cyI cyO ad μ) s.heap.size)) (F0 m 0 ls []) from main _ _ hB
  clear hB
  intro H locs hB
  unfold mX4_isOver at hf
  refine lv_iconst (v := (0 : Int32)) hx hb dX4_isOver_0 (by decide) ?_
  refine lv_istore_n (lv' := [(3, .int (0 : Int32)), (0, .ref (ad 0)), (1, .int i1), (2, .int i2)]) hx hb dX4_isOver_1 rfl hl (by decide) rfl (fun ls hl => ?_)
  obtain ⟨b19, hL17, hf⟩ := ob1_s hf
  have kE15 : ∀ (H : Heap) (locs : List Loc) (ls : Array Slot), Sum.inr () = b19 → Bd (dC, dI) [(cyI, .int), (cyO, .array .int)] (va_A (cM cyI cyO ad μ) s.heap.size) s (cM cyI cyO ad μ) H locs → lv_has ls 4 [] → W p l e (headSpec wsX4_isOver rmX4_isOver).room s m ([.ref (ad 0), .int i1, .int i2] : List Value).toArray below meth c H locs 0 0 (MQ below (QzF (dC, dI) [(cyI, .int), (cyO, .array .int)] (cM cyI cyO ad μ) (cM cyI cyO ad μ) s.heap.size r) ([.ref (ad 0), .int i1, .int i2] : List Value).toArray s 0 0 (va_A (cM cyI cyO ad μ) s.heap.size)) (F0 m 39 ls []) := by
    intro  H locs ls hb9 hB hl
    have hf := el1_r hb9 hf
    refine lv_iconst (v := (1 : Int32)) hx hb dX4_isOver_39 (by decide) ?_
    have e0 := inj1 hf
    subst e0
    exact g_zret hx hb hr hlocks hK hB (Or.inr rfl) dX4_isOver_40
  have key16 : ∀ (n9 : Nat) (v20 : Int32) (H : Heap) (locs : List Loc) (ls : Array Slot), loopM (fun st => mX4_isOver_L2 fu i1 i2 μ st) n9 v20 = some b19 → Bd (dC, dI) [(cyI, .int), (cyO, .array .int)] (va_A (cM cyI cyO ad μ) s.heap.size) s (cM cyI cyO ad μ) H locs → lv_has ls 4 [(3, .int v20), (0, .ref (ad 0)), (1, .int i1), (2, .int i2)] → W p l e (headSpec wsX4_isOver rmX4_isOver).room s m ([.ref (ad 0), .int i1, .int i2] : List Value).toArray below meth c H locs 0 0 (MQ below (QzF (dC, dI) [(cyI, .int), (cyO, .array .int)] (cM cyI cyO ad μ) (cM cyI cyO ad μ) s.heap.size r) ([.ref (ad 0), .int i1, .int i2] : List Value).toArray s 0 0 (va_A (cM cyI cyO ad μ) s.heap.size)) (F0 m 2 ls []) := by
    intro n9
    induction n9 with
    | zero => intro v20 H locs ls hL17; exact (loopM_z hL17).elim
    | succ n9 ih9 =>
      intro v20 H locs ls hL17 hB hl
      obtain ⟨o21, hg18, hL17⟩ := loopM_s hL17
      have hg18 : mX4_isOver_L2 fu i1 i2 μ v20 = some o21 := hg18
      unfold mX4_isOver_L2 at hg18
      refine lv_iload_n hx hb dX4_isOver_2 rfl (lv_at hl 0 rfl) ?_
      refine lv_aload_n hx hb dX4_isOver_3 rfl (lv_at hl 1 rfl) ?_
      refine lv_iload_n hx hb dX4_isOver_4 rfl (lv_at hl 2 rfl) ?_
      refine lv_iconst (v := (3 : Int32)) hx hb dX4_isOver_5 (by decide) ?_
      obtain ⟨r22, hc, hg18⟩ := ob1_s hg18
      refine g_callVi (As := [.int i1, .int (3 : Int32)]) (rest := [.int v20]) ⟨hx, hb, hml, hown, hts⟩ (kX4_ofJourney l dC dI cyI cyO ad H.size hc) (cwV 2 hts gX4_isOver_X4_ofJourney rfl rfl rfl (by decide +kernel) ⟨Nat.le_of_ble_eq_true rfl, Nat.le_of_ble_eq_true rfl⟩) hK hB hA (g_recv (ci := 4) hK hB 0 rfl rfl rfl) rfl hl.1 rfl (Nat.le_of_ble_eq_true rfl) dX4_isOver_6 ⟨Nat.zero_le _, Nat.zero_le _⟩ (fun H locs hB => ?_)
      refine lv_icmp_ge (tgt := 39) hx hb dX4_isOver_9 (by decide) (fun c23 => ?_) (fun c23 => ?_)
      · have hg18 := ite_t c23 hg18
        have hL17 := el1_l (inj1 hg18) hL17
        exact kE15  _ _ _ (inj1 hL17) hB (lv_sub hl [] rfl)
      · have hg18 := ite_f c23 hg18
        refine lv_aload_n hx hb dX4_isOver_12 rfl (lv_at hl 1 rfl) ?_
        refine lv_iload_n hx hb dX4_isOver_13 rfl (lv_at hl 2 rfl) ?_
        refine lv_iload_n hx hb dX4_isOver_14 rfl (lv_at hl 0 rfl) ?_
        refine lv_iload_n hx hb dX4_isOver_15 rfl (lv_at hl 3 rfl) ?_
        obtain ⟨r24, hc, hg18⟩ := ob1_s hg18
        refine g_callVz (As := [.int i1, .int v20, .int i2]) (rest := []) ⟨hx, hb, hml, hown, hts⟩ (kX4_isAt l dC dI cyI cyO ad H.size hc) (cwV 3 hts gX4_isOver_X4_isAt rfl rfl rfl (by decide +kernel) ⟨Nat.le_of_ble_eq_true rfl, Nat.le_of_ble_eq_true rfl⟩) hK hB hA (g_recv (ci := 4) hK hB 0 rfl rfl rfl) rfl hl.1 rfl (Nat.le_of_ble_eq_true rfl) dX4_isOver_16 ⟨Nat.zero_le _, Nat.zero_le _⟩ (fun z25 H locs hB => ?_)
        obtain ⟨t26, hD27, hg18⟩ := ob1_s hg18
        have kTt26 : t26 = true → ∀ (H : Heap) (locs : List Loc), Bd (dC, dI) [(cyI, .int), (cyO, .array .int)] (va_A (cM cyI cyO ad μ) s.heap.size) s (cM cyI cyO ad μ) H locs → W p l e (headSpec wsX4_isOver rmX4_isOver).room s m ([.ref (ad 0), .int i1, .int i2] : List Value).toArray below meth c H locs 0 0 (MQ below (QzF (dC, dI) [(cyI, .int), (cyO, .array .int)] (cM cyI cyO ad μ) (cM cyI cyO ad μ) s.heap.size r) ([.ref (ad 0), .int i1, .int i2] : List Value).toArray s 0 0 (va_A (cM cyI cyO ad μ) s.heap.size)) (F0 m 31 ls []) := by
          intro ht H locs hB
          have hg18 := cnd_t ht hg18
          refine lv_iconst (v := (0 : Int32)) hx hb dX4_isOver_31 (by decide) ?_
          have hL17 := el1_l (inj1 hg18) hL17
          have hf := el1_l (inj1 hL17) hf
          have e0 := inj1 hf
          subst e0
          exact g_zret hx hb hr hlocks hK hB (Or.inl rfl) dX4_isOver_32
        have kFt26 : t26 = false → ∀ (H : Heap) (locs : List Loc), Bd (dC, dI) [(cyI, .int), (cyO, .array .int)] (va_A (cM cyI cyO ad μ) s.heap.size) s (cM cyI cyO ad μ) H locs → W p l e (headSpec wsX4_isOver rmX4_isOver).room s m ([.ref (ad 0), .int i1, .int i2] : List Value).toArray below meth c H locs 0 0 (MQ below (QzF (dC, dI) [(cyI, .int), (cyO, .array .int)] (cM cyI cyO ad μ) (cM cyI cyO ad μ) s.heap.size r) ([.ref (ad 0), .int i1, .int i2] : List Value).toArray s 0 0 (va_A (cM cyI cyO ad μ) s.heap.size)) (F0 m 33 ls []) := by
          intro ht H locs hB
          have hg18 := cnd_f ht hg18
          refine lv_iinc (v := (v20 + (1 : Int32))) (lv' := [(3, .int (v20 + (1 : Int32))), (0, .ref (ad 0)), (1, .int i1), (2, .int i2)]) hx hb dX4_isOver_33 hl (k := 0) rfl rfl (by decide) rfl (fun ls hl => ?_)
          refine lv_goto (tgt := 2) hx hb dX4_isOver_36 (by decide) ?_
          have hL17 := el1_r (inj1 hg18) hL17
          exact ih9 _ _ _ _ hL17 hB (lv_sub hl [0, 1, 2, 3] rfl)
        refine lv_if_eq (tgt := 33) hx hb dX4_isOver_19 (by decide) (fun c28 => ?_) (fun c28 => ?_)
        · have hD27 := ite_t c28 hD27
          have e0 := inj1 hD27
          exact kFt26 e0.symm _ _ hB
        · have hD27 := ite_f c28 hD27
          refine lv_aload_n hx hb dX4_isOver_22 rfl (lv_at hl 1 rfl) ?_
          refine lv_iload_n hx hb dX4_isOver_23 rfl (lv_at hl 2 rfl) ?_
          refine lv_iload_n hx hb dX4_isOver_24 rfl (lv_at hl 0 rfl) ?_
          obtain ⟨r29, hc, hD27⟩ := ob1_s hD27
          refine g_callVz (As := [.int i1, .int v20]) (rest := []) ⟨hx, hb, hml, hown, hts⟩ (kX4_isSettled l dC dI cyI cyO ad H.size hc) (cwV 2 hts gX4_isOver_X4_isSettled rfl rfl rfl (by decide +kernel) ⟨Nat.le_of_ble_eq_true rfl, Nat.le_of_ble_eq_true rfl⟩) hK hB hA (g_recv (ci := 4) hK hB 0 rfl rfl rfl) rfl hl.1 rfl (Nat.le_of_ble_eq_true rfl) dX4_isOver_25 ⟨Nat.zero_le _, Nat.zero_le _⟩ (fun z30 H locs hB => ?_)
          refine lv_if_ne (tgt := 33) hx hb dX4_isOver_28 (by decide) (fun c31 => ?_) (fun c31 => ?_)
          · have hD27 := ite_f c31 hD27
            have e0 := inj1 hD27
            exact kFt26 e0.symm _ _ hB
          · have hD27 := ite_t c31 hD27
            have e0 := inj1 hD27
            exact kTt26 e0.symm _ _ hB
  exact key16 fu _ _ _ _ hL17 hB (lv_sub hl [0, 1, 2, 3] rfl)

