abbrev rmX2_stageHas : Room := { frames := 1, cells := 0, slots := 0, locals := 22 }

set_option maxHeartbeats 4000000 in
set_option maxRecDepth 100000 in
theorem kX2_stageHas (l : Launch) (dC : Nat → ClassId) (dI : Nat → Nat → Nat) (cyI : ClassId) (ad bd : Nat → Nat) (sz : Nat) {fu : Nat} {τ : MS} {σ : MS} {i1 : Int32} {i2 : Int32} {r : Int32} (hf : mX2_stageHas fu τ σ i1 i2 = some r) : Met l yX2_stageHas wsX2_stageHas rmX2_stageHas (PcF (dC, dI) [(cyI, .int)] (cW cyI ad bd τ σ) sz [.ref (ad 0), .int i1, .int i2]) (QzF (dC, dI) [(cyI, .int)] (cW cyI ad bd τ σ) (cW cyI ad bd τ σ) sz r) 0 0 (va_A (cW cyI ad bd τ σ) sz) := by
  refine Met.ofW (cc := cX2_stageHas) (maxL := 5) (ret := (some .boolean)) (by decide) rfl ?_
  intro p e s m args below meth c s₁ B hml hv
  obtain ⟨rfl, hsz, hP, hK, hD0⟩ := hv
  have hx := B.exec
  have hb := B.bytes
  have hr := B.returns
  have hts := atoms_spec (ws := wsX2_stageHas) B.pre
  have hown : s.vm.findClass RX2 = some m.cls := findClass_of_methodNamed B.named
  have hlocks := B.notSynchronized
  subst hsz
  have hA : ∀ q : Nat, s.heap.size ≤ q → va_A (cW cyI ad bd τ σ) s.heap.size q := fun q h => Or.inr h
  have hB : Bd (dC, dI) [(cyI, .int)] (va_A (cW cyI ad bd τ σ) s.heap.size) s (cW cyI ad bd τ σ) s.heap [] := ⟨hP, hD0.self, va_S.rf⟩
  have hq1 : (Cond.fieldLink RX2 52 "UndoJourneys$World" "setup" "LUndoJourneys$Setup;").before _ s = true := hts _ (List.mem_of_getElem? (i := 1) rfl)
  have hq2 : (Cond.fieldLink RX2 145 "UndoJourneys$Setup" "endStep" "[I").before _ s = true := hts _ (List.mem_of_getElem? (i := 2) rfl)
  have hq3 : (Cond.fieldLink RX2 148 "UndoJourneys$Setup" "firstStep" "[I").before _ s = true := hts _ (List.mem_of_getElem? (i := 3) rfl)
  have hq4 : (Cond.fieldLink RX2 37 "UndoJourneys$World" "stepState" "[I").before _ s = true := hts _ (List.mem_of_getElem? (i := 4) rfl)
  have hinX0 : ∀ w ∈ wsX00, w ∈ wsX2_stageHas := fun w h => List.mem_cons_of_mem _ (List.mem_append_right _ h)
  have hinX2 : ∀ w ∈ wsX20, w ∈ wsX2_stageHas := fun w h => List.mem_cons_of_mem _ (List.mem_append_left _ (List.mem_append_right _ h))
  have hl := lv_entry [.ref (ad 0), .int i1, .int i2] (n := 5) (Nat.le_of_ble_eq_true rfl)
  rw [lg_entry_eq]
  generalize (lg_sl [.ref (ad 0), .int i1, .int i2] ++ List.replicate (5 - (lg_sl [.ref (ad 0), .int i1, .int i2]).length) Slot.unset).toArray = ls at hl ⊢
  have hl : lv_has ls 5 [(0, .ref (ad 0)), (1, .int i1), (2, .int i2)] := hl
  clear hP hD0
  suffices main : ∀ (H : Heap) (locs : List Loc), Bd (dC, dI) [(cyI, .int)] (va_A (cW cyI ad bd τ σ) s.heap.size) s (cW cyI ad bd τ σ) H locs → W p l e (headSpec wsX2_stageHas rmX2_stageHas).room s m ([.ref (ad 0), .int i1, .int i2] : List Value).toArray below meth c H locs 0 0 (MQ below (QzF (dC, dI) [(cyI, .int)] (cW cyI ad bd τ σ) (cW cyI ad bd τ σ) s.heap.size r) ([.ref (ad 0), .int i1, .int i2] : List Value).toArray s 0 0 (va_A (cW cyI ad bd τ σ) s.heap.size)) (F0 m 0 ls []) from main _ _ hB
  clear hB
  intro H locs hB
  unfold mX2_stageHas at hf
  refine lv_aload_n hx hb dX2_stageHas_0 rfl (lv_at hl 0 rfl) ?_
  refine g_get (C := RX2) (T := TX2) (N := 14) hx hb hts hinX2 hown hK hB 0 rfl rfl 0 rfl hq1 rfl rfl dX2_stageHas_1 ?_
  refine g_get (C := RX0) (T := TX0) (N := 17) hx hb hts hinX0 hown hK hB 12 rfl rfl 9 rfl hq2 rfl rfl dX2_stageHas_4 ?_
  refine lv_iload_n hx hb dX2_stageHas_7 rfl (lv_at hl 1 rfl) ?_
  obtain ⟨x1, e9, hf⟩ := ob1_s hf
  refine g_iald hx hb hK hB 18 0 rfl rfl (rd_s e9) dX2_stageHas_8 ?_
  refine lv_istore_n (lv' := [(3, .int x1), (0, .ref (ad 0)), (1, .int i1), (2, .int i2)]) hx hb dX2_stageHas_9 rfl hl (by decide) rfl (fun ls hl => ?_)
  refine lv_aload_n hx hb dX2_stageHas_10 rfl (lv_at hl 1 rfl) ?_
  refine g_get (C := RX2) (T := TX2) (N := 14) hx hb hts hinX2 hown hK hB 0 rfl rfl 0 rfl hq1 rfl rfl dX2_stageHas_11 ?_
  refine g_get (C := RX0) (T := TX0) (N := 17) hx hb hts hinX0 hown hK hB 12 rfl rfl 8 rfl hq3 rfl rfl dX2_stageHas_14 ?_
  refine lv_iload_n hx hb dX2_stageHas_17 rfl (lv_at hl 2 rfl) ?_
  obtain ⟨x2, e9, hf⟩ := ob1_s hf
  refine g_iald hx hb hK hB 17 0 rfl rfl (rd_s e9) dX2_stageHas_18 ?_
  refine lv_istore (lv' := [(4, .int x2), (3, .int x1), (0, .ref (ad 0)), (1, .int i1), (2, .int i2)]) hx hb dX2_stageHas_19 hl (by decide) rfl (fun ls hl => ?_)
  obtain ⟨b21, hL19, hf⟩ := ob1_s hf
  have kE17 : ∀ (H : Heap) (locs : List Loc) (ls : Array Slot), Sum.inr () = b21 → Bd (dC, dI) [(cyI, .int)] (va_A (cW cyI ad bd τ σ) s.heap.size) s (cW cyI ad bd τ σ) H locs → lv_has ls 5 [] → W p l e (headSpec wsX2_stageHas rmX2_stageHas).room s m ([.ref (ad 0), .int i1, .int i2] : List Value).toArray below meth c H locs 0 0 (MQ below (QzF (dC, dI) [(cyI, .int)] (cW cyI ad bd τ σ) (cW cyI ad bd τ σ) s.heap.size r) ([.ref (ad 0), .int i1, .int i2] : List Value).toArray s 0 0 (va_A (cW cyI ad bd τ σ) s.heap.size)) (F0 m 56 ls []) := by
    intro  H locs ls hb9 hB hl
    have hf := el1_r hb9 hf
    refine lv_iconst (v := (0 : Int32)) hx hb dX2_stageHas_56 (by decide) ?_
    have e0 := inj1 hf
    subst e0
    exact g_zret hx hb hr hlocks hK hB (Or.inl rfl) dX2_stageHas_57
  have key18 : ∀ (n9 : Nat) (v22 : Int32) (H : Heap) (locs : List Loc) (ls : Array Slot), loopM (fun st => mX2_stageHas_L21 fu x1 i1 i2 τ σ st) n9 v22 = some b21 → Bd (dC, dI) [(cyI, .int)] (va_A (cW cyI ad bd τ σ) s.heap.size) s (cW cyI ad bd τ σ) H locs → lv_has ls 5 [(4, .int v22), (3, .int x1), (0, .ref (ad 0)), (1, .int i1), (2, .int i2)] → W p l e (headSpec wsX2_stageHas rmX2_stageHas).room s m ([.ref (ad 0), .int i1, .int i2] : List Value).toArray below meth c H locs 0 0 (MQ below (QzF (dC, dI) [(cyI, .int)] (cW cyI ad bd τ σ) (cW cyI ad bd τ σ) s.heap.size r) ([.ref (ad 0), .int i1, .int i2] : List Value).toArray s 0 0 (va_A (cW cyI ad bd τ σ) s.heap.size)) (F0 m 21 ls []) := by
    intro n9
    induction n9 with
    | zero => intro v22 H locs ls hL19; exact (loopM_z hL19).elim
    | succ n9 ih9 =>
      intro v22 H locs ls hL19 hB hl
      obtain ⟨o23, hg20, hL19⟩ := loopM_s hL19
      have hg20 : mX2_stageHas_L21 fu x1 i1 i2 τ σ v22 = some o23 := hg20
      unfold mX2_stageHas_L21 at hg20
      refine lv_iload hx hb dX2_stageHas_21 (lv_at hl 0 rfl) ?_
      refine lv_iload_n hx hb dX2_stageHas_23 rfl (lv_at hl 1 rfl) ?_
      refine lv_icmp_ge (tgt := 56) hx hb dX2_stageHas_24 (by decide) (fun c24 => ?_) (fun c24 => ?_)
      · have hg20 := ite_t c24 hg20
        have hL19 := el1_l (inj1 hg20) hL19
        exact kE17  _ _ _ (inj1 hL19) hB (lv_sub hl [] rfl)
      · have hg20 := ite_f c24 hg20
        refine lv_aload_n hx hb dX2_stageHas_27 rfl (lv_at hl 2 rfl) ?_
        refine lv_iload_n hx hb dX2_stageHas_28 rfl (lv_at hl 3 rfl) ?_
        refine lv_iload hx hb dX2_stageHas_29 (lv_at hl 0 rfl) ?_
        obtain ⟨r25, hc, hg20⟩ := ob1_s hg20
        refine g_callVz (As := [.int i1, .int v22]) (rest := []) ⟨hx, hb, hml, hown, hts⟩ (kX2_isPresent l dC dI cyI ad bd H.size hc) (cwV 2 hts gX2_stageHas_X2_isPresent rfl rfl rfl (by decide +kernel) ⟨Nat.le_of_ble_eq_true rfl, Nat.le_of_ble_eq_true rfl⟩) hK hB hA (g_recv (ci := 2) hK hB 0 rfl rfl rfl) rfl hl.1 rfl (Nat.le_of_ble_eq_true rfl) dX2_stageHas_31 ⟨Nat.zero_le _, Nat.zero_le _⟩ (fun z26 H locs hB => ?_)
        obtain ⟨t27, hD28, hg20⟩ := ob1_s hg20
        have kTt27 : t27 = true → ∀ (H : Heap) (locs : List Loc), Bd (dC, dI) [(cyI, .int)] (va_A (cW cyI ad bd τ σ) s.heap.size) s (cW cyI ad bd τ σ) H locs → W p l e (headSpec wsX2_stageHas rmX2_stageHas).room s m ([.ref (ad 0), .int i1, .int i2] : List Value).toArray below meth c H locs 0 0 (MQ below (QzF (dC, dI) [(cyI, .int)] (cW cyI ad bd τ σ) (cW cyI ad bd τ σ) s.heap.size r) ([.ref (ad 0), .int i1, .int i2] : List Value).toArray s 0 0 (va_A (cW cyI ad bd τ σ) s.heap.size)) (F0 m 48 ls []) := by
          intro ht H locs hB
          have hg20 := cnd_t ht hg20
          refine lv_iconst (v := (1 : Int32)) hx hb dX2_stageHas_48 (by decide) ?_
          have hL19 := el1_l (inj1 hg20) hL19
          have hf := el1_l (inj1 hL19) hf
          have e0 := inj1 hf
          subst e0
          exact g_zret hx hb hr hlocks hK hB (Or.inr rfl) dX2_stageHas_49
        have kFt27 : t27 = false → ∀ (H : Heap) (locs : List Loc), Bd (dC, dI) [(cyI, .int)] (va_A (cW cyI ad bd τ σ) s.heap.size) s (cW cyI ad bd τ σ) H locs → W p l e (headSpec wsX2_stageHas rmX2_stageHas).room s m ([.ref (ad 0), .int i1, .int i2] : List Value).toArray below meth c H locs 0 0 (MQ below (QzF (dC, dI) [(cyI, .int)] (cW cyI ad bd τ σ) (cW cyI ad bd τ σ) s.heap.size r) ([.ref (ad 0), .int i1, .int i2] : List Value).toArray s 0 0 (va_A (cW cyI ad bd τ σ) s.heap.size)) (F0 m 50 ls []) := by
          intro ht H locs hB
          have hg20 := cnd_f ht hg20
          refine lv_iinc (v := (v22 + (1 : Int32))) (lv' := [(4, .int (v22 + (1 : Int32))), (3, .int x1), (0, .ref (ad 0)), (1, .int i1), (2, .int i2)]) hx hb dX2_stageHas_50 hl (k := 0) rfl rfl (by decide) rfl (fun ls hl => ?_)
          refine lv_goto (tgt := 21) hx hb dX2_stageHas_53 (by decide) ?_
          have hL19 := el1_r (inj1 hg20) hL19
          exact ih9 _ _ _ _ hL19 hB (lv_sub hl [0, 1, 2, 3, 4] rfl)
        refine lv_if_eq (tgt := 50) hx hb dX2_stageHas_34 (by decide) (fun c29 => ?_) (fun c29 => ?_)
        · have hD28 := ite_t c29 hD28
          have e0 := inj1 hD28
          exact kFt27 e0.symm _ _ hB
        · have hD28 := ite_f c29 hD28
          refine lv_aload_n hx hb dX2_stageHas_37 rfl (lv_at hl 2 rfl) ?_
          refine g_get (C := RX2) (T := TX2) (N := 14) hx hb hts hinX2 hown hK hB 0 rfl rfl 9 rfl hq4 rfl rfl dX2_stageHas_38 ?_
          refine lv_iload hx hb dX2_stageHas_41 (lv_at hl 0 rfl) ?_
          obtain ⟨x30, e9, hD28⟩ := ob1_s hD28
          refine g_iald hx hb hK hB 7 0 rfl rfl (rd_s e9) dX2_stageHas_43 ?_
          refine lv_iload_n hx hb dX2_stageHas_44 rfl (lv_at hl 4 rfl) ?_
          refine lv_icmp_ne (tgt := 50) hx hb dX2_stageHas_45 (by decide) (fun c31 => ?_) (fun c31 => ?_)
          · have hD28 := ite_f c31 hD28
            have e0 := inj1 hD28
            exact kFt27 e0.symm _ _ hB
          · have hD28 := ite_t c31 hD28
            have e0 := inj1 hD28
            exact kTt27 e0.symm _ _ hB
  exact key18 fu _ _ _ _ hL19 hB (lv_sub hl [0, 1, 2, 3, 4] rfl)

abbrev rmX2_withdrawReadySteps : Room := { frames := 1, cells := 0, slots := 0, locals := 22 }

set_option maxHeartbeats 4000000 in
set_option maxRecDepth 100000 in
theorem kX2_withdrawReadySteps (l : Launch) (dC : Nat → ClassId) (dI : Nat → Nat → Nat) (cyI : ClassId) (ad bd : Nat → Nat) (sz : Nat) {fu : Nat} {τ : MS} {σ : MS} {i1 : Int32} {σ_ : MS} (hf : mX2_withdrawReadySteps fu τ σ i1 = some σ_) : Met l yX2_withdrawReadySteps wsX2_withdrawReadySteps rmX2_withdrawReadySteps (PcF (dC, dI) [(cyI, .int)] (cW cyI ad bd τ σ) sz [.ref (ad 0), .int i1]) (QvF (dC, dI) [(cyI, .int)] (cW cyI ad bd τ σ) (cW cyI ad bd τ σ_) sz) 0 0 (va_A (cW cyI ad bd τ σ) sz) := by
  refine Met.ofW (cc := cX2_withdrawReadySteps) (maxL := 4) (ret := none) (by decide) rfl ?_
  intro p e s m args below meth c s₁ B hml hv
  obtain ⟨rfl, hsz, hP, hK, hD0⟩ := hv
  have hx := B.exec
  have hb := B.bytes
  have hr := B.returns
  have hts := atoms_spec (ws := wsX2_withdrawReadySteps) B.pre
  have hown : s.vm.findClass RX2 = some m.cls := findClass_of_methodNamed B.named
  have hlocks := B.notSynchronized
  subst hsz
  have hA : ∀ q : Nat, s.heap.size ≤ q → va_A (cW cyI ad bd τ σ) s.heap.size q := fun q h => Or.inr h
  have hB : Bd (dC, dI) [(cyI, .int)] (va_A (cW cyI ad bd τ σ) s.heap.size) s (cW cyI ad bd τ σ) s.heap [] := ⟨hP, hD0.self, va_S.rf⟩
  have hq1 : (Cond.fieldLink RX2 52 "UndoJourneys$World" "setup" "LUndoJourneys$Setup;").before _ s = true := hts _ (List.mem_of_getElem? (i := 1) rfl)
  have hq2 : (Cond.fieldLink RX2 145 "UndoJourneys$Setup" "endStep" "[I").before _ s = true := hts _ (List.mem_of_getElem? (i := 2) rfl)
  have hq3 : (Cond.fieldLink RX2 148 "UndoJourneys$Setup" "firstStep" "[I").before _ s = true := hts _ (List.mem_of_getElem? (i := 3) rfl)
  have hq4 : (Cond.fieldLink RX2 37 "UndoJourneys$World" "stepState" "[I").before _ s = true := hts _ (List.mem_of_getElem? (i := 4) rfl)
  have hinX0 : ∀ w ∈ wsX00, w ∈ wsX2_withdrawReadySteps := fun w h => List.mem_cons_of_mem _ (List.mem_append_right _ h)
  have hinX2 : ∀ w ∈ wsX20, w ∈ wsX2_withdrawReadySteps := fun w h => List.mem_cons_of_mem _ (List.mem_append_left _ (List.mem_append_right _ h))
  have hl := lv_entry [.ref (ad 0), .int i1] (n := 4) (Nat.le_of_ble_eq_true rfl)
  rw [lg_entry_eq]
  generalize (lg_sl [.ref (ad 0), .int i1] ++ List.replicate (4 - (lg_sl [.ref (ad 0), .int i1]).length) Slot.unset).toArray = ls at hl ⊢
  have hl : lv_has ls 4 [(0, .ref (ad 0)), (1, .int i1)] := hl
  clear hP hD0
  suffices main : ∀ (H : Heap) (locs : List Loc), Bd (dC, dI) [(cyI, .int)] (va_A (cW cyI ad bd τ σ) s.heap.size) s (cW cyI ad bd τ σ) H locs → W p l e (headSpec wsX2_withdrawReadySteps rmX2_withdrawReadySteps).room s m ([.ref (ad 0), .int i1] : List Value).toArray below meth c H locs 0 0 (MQ below (QvF (dC, dI) [(cyI, .int)] (cW cyI ad bd τ σ) (cW cyI ad bd τ σ_) s.heap.size) ([.ref (ad 0), .int i1] : List Value).toArray s 0 0 (va_A (cW cyI ad bd τ σ) s.heap.size)) (F0 m 0 ls []) from main _ _ hB
  clear hB
  intro H locs hB
  unfold mX2_withdrawReadySteps at hf
  refine lv_aload_n hx hb dX2_withdrawReadySteps_0 rfl (lv_at hl 0 rfl) ?_
  refine g_get (C := RX2) (T := TX2) (N := 14) hx hb hts hinX2 hown hK hB 0 rfl rfl 0 rfl hq1 rfl rfl dX2_withdrawReadySteps_1 ?_
  refine g_get (C := RX0) (T := TX0) (N := 17) hx hb hts hinX0 hown hK hB 12 rfl rfl 9 rfl hq2 rfl rfl dX2_withdrawReadySteps_4 ?_
  refine lv_iload_n hx hb dX2_withdrawReadySteps_7 rfl (lv_at hl 1 rfl) ?_
  obtain ⟨x1, e9, hf⟩ := ob1_s hf
  refine g_iald hx hb hK hB 18 0 rfl rfl (rd_s e9) dX2_withdrawReadySteps_8 ?_
  refine lv_istore_n (lv' := [(2, .int x1), (0, .ref (ad 0)), (1, .int i1)]) hx hb dX2_withdrawReadySteps_9 rfl hl (by decide) rfl (fun ls hl => ?_)
  refine lv_aload_n hx hb dX2_withdrawReadySteps_10 rfl (lv_at hl 1 rfl) ?_
  refine g_get (C := RX2) (T := TX2) (N := 14) hx hb hts hinX2 hown hK hB 0 rfl rfl 0 rfl hq1 rfl rfl dX2_withdrawReadySteps_11 ?_
  refine g_get (C := RX0) (T := TX0) (N := 17) hx hb hts hinX0 hown hK hB 12 rfl rfl 8 rfl hq3 rfl rfl dX2_withdrawReadySteps_14 ?_
  refine lv_iload_n hx hb dX2_withdrawReadySteps_17 rfl (lv_at hl 2 rfl) ?_
  obtain ⟨x2, e9, hf⟩ := ob1_s hf
  refine g_iald hx hb hK hB 17 0 rfl rfl (rd_s e9) dX2_withdrawReadySteps_18 ?_
  refine lv_istore_n (lv' := [(3, .int x2), (2, .int x1), (0, .ref (ad 0)), (1, .int i1)]) hx hb dX2_withdrawReadySteps_19 rfl hl (by decide) rfl (fun ls hl => ?_)
  obtain ⟨σ20, hL23, hf⟩ := ob1_s hf
  have kE21 : ∀ (H : Heap) (locs : List Loc) (ls : Array Slot), Bd (dC, dI) [(cyI, .int)] (va_A (cW cyI ad bd τ σ) s.heap.size) s (cW cyI ad bd τ σ20) H locs → lv_has ls 4 [] → W p l e (headSpec wsX2_withdrawReadySteps rmX2_withdrawReadySteps).room s m ([.ref (ad 0), .int i1] : List Value).toArray below meth c H locs 0 0 (MQ below (QvF (dC, dI) [(cyI, .int)] (cW cyI ad bd τ σ) (cW cyI ad bd τ σ_) s.heap.size) ([.ref (ad 0), .int i1] : List Value).toArray s 0 0 (va_A (cW cyI ad bd τ σ) s.heap.size)) (F0 m 57 ls []) := by
    intro H locs ls hB hl
    have e0 := inj1 hf
    subst e0
    exact g_vret hx hb hr hlocks hK hB dX2_withdrawReadySteps_57
  have key22 : ∀ (n9 : Nat) (v26 : Int32) (σ27 : MS) (H : Heap) (locs : List Loc) (ls : Array Slot), loopM (fun st => mX2_withdrawReadySteps_L20 fu x1 i1 τ st.1 st.2) n9 (v26, σ27) = some σ20 → Bd (dC, dI) [(cyI, .int)] (va_A (cW cyI ad bd τ σ) s.heap.size) s (cW cyI ad bd τ σ27) H locs → lv_has ls 4 [(3, .int v26), (2, .int x1), (0, .ref (ad 0)), (1, .int i1)] → W p l e (headSpec wsX2_withdrawReadySteps rmX2_withdrawReadySteps).room s m ([.ref (ad 0), .int i1] : List Value).toArray below meth c H locs 0 0 (MQ below (QvF (dC, dI) [(cyI, .int)] (cW cyI ad bd τ σ) (cW cyI ad bd τ σ_) s.heap.size) ([.ref (ad 0), .int i1] : List Value).toArray s 0 0 (va_A (cW cyI ad bd τ σ) s.heap.size)) (F0 m 20 ls []) := by
    intro n9
    induction n9 with
    | zero => intro v26 σ27 H locs ls hL23; exact (loopM_z hL23).elim
    | succ n9 ih9 =>
      intro v26 σ27 H locs ls hL23 hB hl
      obtain ⟨o28, hg24, hL23⟩ := loopM_s hL23
      have hg24 : mX2_withdrawReadySteps_L20 fu x1 i1 τ v26 σ27 = some o28 := hg24
      unfold mX2_withdrawReadySteps_L20 at hg24
      refine lv_iload_n hx hb dX2_withdrawReadySteps_20 rfl (lv_at hl 0 rfl) ?_
      refine lv_iload_n hx hb dX2_withdrawReadySteps_21 rfl (lv_at hl 1 rfl) ?_
      refine lv_icmp_ge (tgt := 57) hx hb dX2_withdrawReadySteps_22 (by decide) (fun c29 => ?_) (fun c29 => ?_)
      · have hg24 := ite_t c29 hg24
        have hL23 := el1_l (inj1 hg24) hL23
        have e0 := inj1 hL23
        subst e0
        exact kE21 _ _ _ hB (lv_sub hl [] rfl)
      · have hg24 := ite_f c29 hg24
        refine lv_aload_n hx hb dX2_withdrawReadySteps_25 rfl (lv_at hl 2 rfl) ?_
        refine lv_iload_n hx hb dX2_withdrawReadySteps_26 rfl (lv_at hl 3 rfl) ?_
        refine lv_iload_n hx hb dX2_withdrawReadySteps_27 rfl (lv_at hl 0 rfl) ?_
        obtain ⟨r30, hc, hg24⟩ := ob1_s hg24
        refine g_callVz (As := [.int i1, .int v26]) (rest := []) ⟨hx, hb, hml, hown, hts⟩ (kX2_isPresent l dC dI cyI ad bd H.size hc) (cwV 2 hts gX2_withdrawReadySteps_X2_isPresent rfl rfl rfl (by decide +kernel) ⟨Nat.le_of_ble_eq_true rfl, Nat.le_of_ble_eq_true rfl⟩) hK hB hA (g_recv (ci := 2) hK hB 0 rfl rfl rfl) rfl hl.1 rfl (Nat.le_of_ble_eq_true rfl) dX2_withdrawReadySteps_28 ⟨Nat.zero_le _, Nat.zero_le _⟩ (fun z31 H locs hB => ?_)
        obtain ⟨σ32, hJ33, hg24⟩ := ob1_s hg24
        have kJ34 : ∀ (H : Heap) (locs : List Loc) (ls : Array Slot), Bd (dC, dI) [(cyI, .int)] (va_A (cW cyI ad bd τ σ) s.heap.size) s (cW cyI ad bd τ σ32) H locs → lv_has ls 4 [(3, .int v26), (2, .int x1), (0, .ref (ad 0)), (1, .int i1)] → W p l e (headSpec wsX2_withdrawReadySteps rmX2_withdrawReadySteps).room s m ([.ref (ad 0), .int i1] : List Value).toArray below meth c H locs 0 0 (MQ below (QvF (dC, dI) [(cyI, .int)] (cW cyI ad bd τ σ) (cW cyI ad bd τ σ_) s.heap.size) ([.ref (ad 0), .int i1] : List Value).toArray s 0 0 (va_A (cW cyI ad bd τ σ) s.heap.size)) (F0 m 51 ls []) := by
          intro H locs ls hB hl
          refine lv_iinc (v := (v26 + (1 : Int32))) (lv' := [(3, .int (v26 + (1 : Int32))), (2, .int x1), (0, .ref (ad 0)), (1, .int i1)]) hx hb dX2_withdrawReadySteps_51 hl (k := 0) rfl rfl (by decide) rfl (fun ls hl => ?_)
          refine lv_goto (tgt := 20) hx hb dX2_withdrawReadySteps_54 (by decide) ?_
          have hL23 := el1_r (inj1 hg24) hL23
          exact ih9 _ _ _ _ _ hL23 hB (lv_sub hl [0, 1, 2, 3] rfl)
        obtain ⟨t35, hD36, hJ33⟩ := ob1_s hJ33
        have kTt35 : t35 = true → ∀ (H : Heap) (locs : List Loc), Bd (dC, dI) [(cyI, .int)] (va_A (cW cyI ad bd τ σ) s.heap.size) s (cW cyI ad bd τ σ27) H locs → W p l e (headSpec wsX2_withdrawReadySteps rmX2_withdrawReadySteps).room s m ([.ref (ad 0), .int i1] : List Value).toArray below meth c H locs 0 0 (MQ below (QvF (dC, dI) [(cyI, .int)] (cW cyI ad bd τ σ) (cW cyI ad bd τ σ_) s.heap.size) ([.ref (ad 0), .int i1] : List Value).toArray s 0 0 (va_A (cW cyI ad bd τ σ) s.heap.size)) (F0 m 44 ls []) := by
          intro ht H locs hB
          have hJ33 := cnd_t ht hJ33
          refine lv_aload_n hx hb dX2_withdrawReadySteps_44 rfl (lv_at hl 2 rfl) ?_
          refine g_get (C := RX2) (T := TX2) (N := 14) hx hb hts hinX2 hown hK hB 0 rfl rfl 9 rfl hq4 rfl rfl dX2_withdrawReadySteps_45 ?_
          refine lv_iload_n hx hb dX2_withdrawReadySteps_48 rfl (lv_at hl 0 rfl) ?_
          refine lv_iconst (v := (0 : Int32)) hx hb dX2_withdrawReadySteps_49 (by decide) ?_
          obtain ⟨σ40, e9, hJ33⟩ := ob1_s hJ33
          obtain ⟨hi, e9⟩ := wra_s e9
          refine g_iast hx hb hK hB 7 0 rfl rfl hi rfl dX2_withdrawReadySteps_50 (w2 := (cW cyI ad bd τ σ40)) (by rw [← e9]; rfl) (fun H locs hB => ?_)
          have e0 := inj1 hJ33
          subst e0
          exact kJ34 _ _ _ hB (lv_sub hl [0, 1, 2, 3] rfl)
        have kFt35 : t35 = false → ∀ (H : Heap) (locs : List Loc), Bd (dC, dI) [(cyI, .int)] (va_A (cW cyI ad bd τ σ) s.heap.size) s (cW cyI ad bd τ σ27) H locs → W p l e (headSpec wsX2_withdrawReadySteps rmX2_withdrawReadySteps).room s m ([.ref (ad 0), .int i1] : List Value).toArray below meth c H locs 0 0 (MQ below (QvF (dC, dI) [(cyI, .int)] (cW cyI ad bd τ σ) (cW cyI ad bd τ σ_) s.heap.size) ([.ref (ad 0), .int i1] : List Value).toArray s 0 0 (va_A (cW cyI ad bd τ σ) s.heap.size)) (F0 m 51 ls []) := by
          intro ht H locs hB
          have hJ33 := cnd_f ht hJ33
          have e0 := inj1 hJ33
          subst e0
          exact kJ34 _ _ _ hB (lv_sub hl [0, 1, 2, 3] rfl)
        refine lv_if_eq (tgt := 51) hx hb dX2_withdrawReadySteps_31 (by decide) (fun c37 => ?_) (fun c37 => ?_)
        · have hD36 := ite_t c37 hD36
          have e0 := inj1 hD36
          exact kFt35 e0.symm _ _ hB
        · have hD36 := ite_f c37 hD36
          refine lv_aload_n hx hb dX2_withdrawReadySteps_34 rfl (lv_at hl 2 rfl) ?_
          refine g_get (C := RX2) (T := TX2) (N := 14) hx hb hts hinX2 hown hK hB 0 rfl rfl 9 rfl hq4 rfl rfl dX2_withdrawReadySteps_35 ?_
          refine lv_iload_n hx hb dX2_withdrawReadySteps_38 rfl (lv_at hl 0 rfl) ?_
          obtain ⟨x38, e9, hD36⟩ := ob1_s hD36
          refine g_iald hx hb hK hB 7 0 rfl rfl (rd_s e9) dX2_withdrawReadySteps_39 ?_
          refine lv_iconst (v := (1 : Int32)) hx hb dX2_withdrawReadySteps_40 (by decide) ?_
          refine lv_icmp_ne (tgt := 51) hx hb dX2_withdrawReadySteps_41 (by decide) (fun c39 => ?_) (fun c39 => ?_)
          · have hD36 := ite_f c39 hD36
            have e0 := inj1 hD36
            exact kFt35 e0.symm _ _ hB
          · have hD36 := ite_t c39 hD36
            have e0 := inj1 hD36
            exact kTt35 e0.symm _ _ hB
  exact key22 fu _ _ _ _ _ hL23 hB (lv_sub hl [0, 1, 2, 3] rfl)

abbrev rmX2_isOpen : Room := { frames := 0, cells := 0, slots := 0, locals := 0 }

set_option maxHeartbeats 4000000 in
set_option maxRecDepth 100000 in
theorem kX2_isOpen (l : Launch) (dC : Nat → ClassId) (dI : Nat → Nat → Nat) (cyI : ClassId) (ad bd : Nat → Nat) (sz : Nat) {fu : Nat} {τ : MS} {σ : MS} {i1 : Int32} {r : Int32} (hf : mX2_isOpen fu τ σ i1 = some r) : Met l yX2_isOpen wsX2_isOpen rmX2_isOpen (PcF (dC, dI) [(cyI, .int)] (cW cyI ad bd τ σ) sz [.ref (ad 0), .int i1]) (QzF (dC, dI) [(cyI, .int)] (cW cyI ad bd τ σ) (cW cyI ad bd τ σ) sz r) 0 0 (va_A (cW cyI ad bd τ σ) sz) := by
  refine Met.ofW (cc := cX2_isOpen) (maxL := 2) (ret := (some .boolean)) (by decide) rfl ?_
  intro p e s m args below meth c s₁ B hml hv
  obtain ⟨rfl, hsz, hP, hK, hD0⟩ := hv
  have hx := B.exec
  have hb := B.bytes
  have hr := B.returns
  have hts := atoms_spec (ws := wsX2_isOpen) B.pre
  have hown : s.vm.findClass RX2 = some m.cls := findClass_of_methodNamed B.named
  have hlocks := B.notSynchronized
  subst hsz
  have hA : ∀ q : Nat, s.heap.size ≤ q → va_A (cW cyI ad bd τ σ) s.heap.size q := fun q h => Or.inr h
  have hB : Bd (dC, dI) [(cyI, .int)] (va_A (cW cyI ad bd τ σ) s.heap.size) s (cW cyI ad bd τ σ) s.heap [] := ⟨hP, hD0.self, va_S.rf⟩
  have hq1 : (Cond.fieldLink RX2 37 "UndoJourneys$World" "stepState" "[I").before _ s = true := hts _ (List.mem_of_getElem? (i := 1) rfl)
  have hinX2 : ∀ w ∈ wsX20, w ∈ wsX2_isOpen := fun w h => List.mem_cons_of_mem _ (List.mem_append_right _ h)
  have hl := lv_entry [.ref (ad 0), .int i1] (n := 2) (Nat.le_of_ble_eq_true rfl)
  rw [lg_entry_eq]
  generalize (lg_sl [.ref (ad 0), .int i1] ++ List.replicate (2 - (lg_sl [.ref (ad 0), .int i1]).length) Slot.unset).toArray = ls at hl ⊢
  have hl : lv_has ls 2 [(0, .ref (ad 0)), (1, .int i1)] := hl
  clear hP hD0
  suffices main : ∀ (H : Heap) (locs : List Loc), Bd (dC, dI) [(cyI, .int)] (va_A (cW cyI ad bd τ σ) s.heap.size) s (cW cyI ad bd τ σ) H locs → W p l e (headSpec wsX2_isOpen rmX2_isOpen).room s m ([.ref (ad 0), .int i1] : List Value).toArray below meth c H locs 0 0 (MQ below (QzF (dC, dI) [(cyI, .int)] (cW cyI ad bd τ σ) (cW cyI ad bd τ σ) s.heap.size r) ([.ref (ad 0), .int i1] : List Value).toArray s 0 0 (va_A (cW cyI ad bd τ σ) s.heap.size)) (F0 m 0 ls []) from main _ _ hB
  clear hB
  intro H locs hB
  unfold mX2_isOpen at hf
  refine lv_aload_n hx hb dX2_isOpen_0 rfl (lv_at hl 0 rfl) ?_
  refine g_get (C := RX2) (T := TX2) (N := 14) hx hb hts hinX2 hown hK hB 0 rfl rfl 9 rfl hq1 rfl rfl dX2_isOpen_1 ?_
  refine lv_iload_n hx hb dX2_isOpen_4 rfl (lv_at hl 1 rfl) ?_
  obtain ⟨x1, e9, hf⟩ := ob1_s hf
  refine g_iald hx hb hK hB 7 0 rfl rfl (rd_s e9) dX2_isOpen_5 ?_
  refine lv_iconst (v := (3 : Int32)) hx hb dX2_isOpen_6 (by decide) ?_
  obtain ⟨v2, hJ4, hf⟩ := ob1_s hf
  have kJ5 : (v2 = 0 ∨ v2 = 1) → ∀ (H : Heap) (locs : List Loc) (ls : Array Slot), Bd (dC, dI) [(cyI, .int)] (va_A (cW cyI ad bd τ σ) s.heap.size) s (cW cyI ad bd τ σ) H locs → lv_has ls 2 [] → W p l e (headSpec wsX2_isOpen rmX2_isOpen).room s m ([.ref (ad 0), .int i1] : List Value).toArray below meth c H locs 0 0 (MQ below (QzF (dC, dI) [(cyI, .int)] (cW cyI ad bd τ σ) (cW cyI ad bd τ σ) s.heap.size r) ([.ref (ad 0), .int i1] : List Value).toArray s 0 0 (va_A (cW cyI ad bd τ σ) s.heap.size)) (F0 m 26 ls [.int v2]) := by
    intro z3 H locs ls hB hl
    have e0 := inj1 hf
    subst e0
    exact g_zret hx hb hr hlocks hK hB z3 dX2_isOpen_26
  obtain ⟨t6, hD7, hJ4⟩ := ob1_s hJ4
  have kTt6 : t6 = true → ∀ (H : Heap) (locs : List Loc), Bd (dC, dI) [(cyI, .int)] (va_A (cW cyI ad bd τ σ) s.heap.size) s (cW cyI ad bd τ σ) H locs → W p l e (headSpec wsX2_isOpen rmX2_isOpen).room s m ([.ref (ad 0), .int i1] : List Value).toArray below meth c H locs 0 0 (MQ below (QzF (dC, dI) [(cyI, .int)] (cW cyI ad bd τ σ) (cW cyI ad bd τ σ) s.heap.size r) ([.ref (ad 0), .int i1] : List Value).toArray s 0 0 (va_A (cW cyI ad bd τ σ) s.heap.size)) (F0 m 21 ls []) := by
    intro ht H locs hB
    have hJ4 := cnd_t ht hJ4
    refine lv_iconst (v := (1 : Int32)) hx hb dX2_isOpen_21 (by decide) ?_
    refine lv_goto (tgt := 26) hx hb dX2_isOpen_22 (by decide) ?_
    have e0 := inj1 hJ4
    subst e0
    exact kJ5 (Or.inr rfl) _ _ _ hB (lv_sub hl [] rfl)
  have kFt6 : t6 = false → ∀ (H : Heap) (locs : List Loc), Bd (dC, dI) [(cyI, .int)] (va_A (cW cyI ad bd τ σ) s.heap.size) s (cW cyI ad bd τ σ) H locs → W p l e (headSpec wsX2_isOpen rmX2_isOpen).room s m ([.ref (ad 0), .int i1] : List Value).toArray below meth c H locs 0 0 (MQ below (QzF (dC, dI) [(cyI, .int)] (cW cyI ad bd τ σ) (cW cyI ad bd τ σ) s.heap.size r) ([.ref (ad 0), .int i1] : List Value).toArray s 0 0 (va_A (cW cyI ad bd τ σ) s.heap.size)) (F0 m 25 ls []) := by
    intro ht H locs hB
    have hJ4 := cnd_f ht hJ4
    refine lv_iconst (v := (0 : Int32)) hx hb dX2_isOpen_25 (by decide) ?_
    have e0 := inj1 hJ4
    subst e0
    exact kJ5 (Or.inl rfl) _ _ _ hB (lv_sub hl [] rfl)
  refine lv_icmp_eq (tgt := 25) hx hb dX2_isOpen_7 (by decide) (fun c8 => ?_) (fun c8 => ?_)
  · have hD7 := ite_t c8 hD7
    have e0 := inj1 hD7
    exact kFt6 e0.symm _ _ hB
  · have hD7 := ite_f c8 hD7
    refine lv_aload_n hx hb dX2_isOpen_10 rfl (lv_at hl 0 rfl) ?_
    refine g_get (C := RX2) (T := TX2) (N := 14) hx hb hts hinX2 hown hK hB 0 rfl rfl 9 rfl hq1 rfl rfl dX2_isOpen_11 ?_
    refine lv_iload_n hx hb dX2_isOpen_14 rfl (lv_at hl 1 rfl) ?_
    obtain ⟨x9, e9, hD7⟩ := ob1_s hD7
    refine g_iald hx hb hK hB 7 0 rfl rfl (rd_s e9) dX2_isOpen_15 ?_
    refine lv_bipush (v := (6 : Int32)) hx hb dX2_isOpen_16 (by decide) ?_
    refine lv_icmp_eq (tgt := 25) hx hb dX2_isOpen_18 (by decide) (fun c10 => ?_) (fun c10 => ?_)
    · have hD7 := ite_t c10 hD7
      have e0 := inj1 hD7
      exact kFt6 e0.symm _ _ hB
    · have hD7 := ite_f c10 hD7
      have e0 := inj1 hD7
      exact kTt6 e0.symm _ _ hB

abbrev rmX2_stageIsOver : Room := { frames := 1, cells := 0, slots := 0, locals := 22 }

set_option maxHeartbeats 4000000 in
set_option maxRecDepth 100000 in
theorem kX2_stageIsOver (l : Launch) (dC : Nat → ClassId) (dI : Nat → Nat → Nat) (cyI : ClassId) (ad bd : Nat → Nat) (sz : Nat) {fu : Nat} {τ : MS} {σ : MS} {i1 : Int32} {r : Int32} (hf : mX2_stageIsOver fu τ σ i1 = some r) : Met l yX2_stageIsOver wsX2_stageIsOver rmX2_stageIsOver (PcF (dC, dI) [(cyI, .int)] (cW cyI ad bd τ σ) sz [.ref (ad 0), .int i1]) (QzF (dC, dI) [(cyI, .int)] (cW cyI ad bd τ σ) (cW cyI ad bd τ σ) sz r) 0 0 (va_A (cW cyI ad bd τ σ) sz) := by
  refine Met.ofW (cc := cX2_stageIsOver) (maxL := 4) (ret := (some .boolean)) (by decide) rfl ?_
  intro p e s m args below meth c s₁ B hml hv
  obtain ⟨rfl, hsz, hP, hK, hD0⟩ := hv
  have hx := B.exec
  have hb := B.bytes
  have hr := B.returns
  have hts := atoms_spec (ws := wsX2_stageIsOver) B.pre
  have hown : s.vm.findClass RX2 = some m.cls := findClass_of_methodNamed B.named
  have hlocks := B.notSynchronized
  subst hsz
  have hA : ∀ q : Nat, s.heap.size ≤ q → va_A (cW cyI ad bd τ σ) s.heap.size q := fun q h => Or.inr h
  have hB : Bd (dC, dI) [(cyI, .int)] (va_A (cW cyI ad bd τ σ) s.heap.size) s (cW cyI ad bd τ σ) s.heap [] := ⟨hP, hD0.self, va_S.rf⟩
  have hq1 : (Cond.fieldLink RX2 52 "UndoJourneys$World" "setup" "LUndoJourneys$Setup;").before _ s = true := hts _ (List.mem_of_getElem? (i := 1) rfl)
  have hq2 : (Cond.fieldLink RX2 145 "UndoJourneys$Setup" "endStep" "[I").before _ s = true := hts _ (List.mem_of_getElem? (i := 2) rfl)
  have hq3 : (Cond.fieldLink RX2 148 "UndoJourneys$Setup" "firstStep" "[I").before _ s = true := hts _ (List.mem_of_getElem? (i := 3) rfl)
  have hinX0 : ∀ w ∈ wsX00, w ∈ wsX2_stageIsOver := fun w h => List.mem_cons_of_mem _ (List.mem_append_right _ h)
  have hinX2 : ∀ w ∈ wsX20, w ∈ wsX2_stageIsOver := fun w h => List.mem_cons_of_mem _ (List.mem_append_left _ (List.mem_append_right _ h))
  have hl := lv_entry [.ref (ad 0), .int i1] (n := 4) (Nat.le_of_ble_eq_true rfl)
  rw [lg_entry_eq]
  generalize (lg_sl [.ref (ad 0), .int i1] ++ List.replicate (4 - (lg_sl [.ref (ad 0), .int i1]).length) Slot.unset).toArray = ls at hl ⊢
  have hl : lv_has ls 4 [(0, .ref (ad 0)), (1, .int i1)] := hl
  clear hP hD0
  suffices main : ∀ (H : Heap) (locs : List Loc), Bd (dC, dI) [(cyI, .int)] (va_A (cW cyI ad bd τ σ) s.heap.size) s (cW cyI ad bd τ σ) H locs → W p l e (headSpec wsX2_stageIsOver rmX2_stageIsOver).room s m ([.ref (ad 0), .int i1] : List Value).toArray below meth c H locs 0 0 (MQ below (QzF (dC, dI) [(cyI, .int)] (cW cyI ad bd τ σ) (cW cyI ad bd τ σ) s.heap.size r) ([.ref (ad 0), .int i1] : List Value).toArray s 0 0 (va_A (cW cyI ad bd τ σ) s.heap.size)) (F0 m 0 ls []) from main _ _ hB
  clear hB
  intro H locs hB
  unfold mX2_stageIsOver at hf
  refine lv_aload_n hx hb dX2_stageIsOver_0 rfl (lv_at hl 0 rfl) ?_
  refine g_get (C := RX2) (T := TX2) (N := 14) hx hb hts hinX2 hown hK hB 0 rfl rfl 0 rfl hq1 rfl rfl dX2_stageIsOver_1 ?_
  refine g_get (C := RX0) (T := TX0) (N := 17) hx hb hts hinX0 hown hK hB 12 rfl rfl 9 rfl hq2 rfl rfl dX2_stageIsOver_4 ?_
  refine lv_iload_n hx hb dX2_stageIsOver_7 rfl (lv_at hl 1 rfl) ?_
  obtain ⟨x1, e9, hf⟩ := ob1_s hf
  refine g_iald hx hb hK hB 18 0 rfl rfl (rd_s e9) dX2_stageIsOver_8 ?_
  refine lv_istore_n (lv' := [(2, .int x1), (0, .ref (ad 0)), (1, .int i1)]) hx hb dX2_stageIsOver_9 rfl hl (by decide) rfl (fun ls hl => ?_)
  refine lv_aload_n hx hb dX2_stageIsOver_10 rfl (lv_at hl 1 rfl) ?_
  refine g_get (C := RX2) (T := TX2) (N := 14) hx hb hts hinX2 hown hK hB 0 rfl rfl 0 rfl hq1 rfl rfl dX2_stageIsOver_11 ?_
  refine g_get (C := RX0) (T := TX0) (N := 17) hx hb hts hinX0 hown hK hB 12 rfl rfl 8 rfl hq3 rfl rfl dX2_stageIsOver_14 ?_
  refine lv_iload_n hx hb dX2_stageIsOver_17 rfl (lv_at hl 2 rfl) ?_
  obtain ⟨x2, e9, hf⟩ := ob1_s hf
  refine g_iald hx hb hK hB 17 0 rfl rfl (rd_s e9) dX2_stageIsOver_18 ?_
  refine lv_istore_n (lv' := [(3, .int x2), (2, .int x1), (0, .ref (ad 0)), (1, .int i1)]) hx hb dX2_stageIsOver_19 rfl hl (by decide) rfl (fun ls hl => ?_)
  obtain ⟨b21, hL19, hf⟩ := ob1_s hf
  have kE17 : ∀ (H : Heap) (locs : List Loc) (ls : Array Slot), Sum.inr () = b21 → Bd (dC, dI) [(cyI, .int)] (va_A (cW cyI ad bd τ σ) s.heap.size) s (cW cyI ad bd τ σ) H locs → lv_has ls 4 [] → W p l e (headSpec wsX2_stageIsOver rmX2_stageIsOver).room s m ([.ref (ad 0), .int i1] : List Value).toArray below meth c H locs 0 0 (MQ below (QzF (dC, dI) [(cyI, .int)] (cW cyI ad bd τ σ) (cW cyI ad bd τ σ) s.heap.size r) ([.ref (ad 0), .int i1] : List Value).toArray s 0 0 (va_A (cW cyI ad bd τ σ) s.heap.size)) (F0 m 50 ls []) := by
    intro  H locs ls hb9 hB hl
    have hf := el1_r hb9 hf
    refine lv_iconst (v := (1 : Int32)) hx hb dX2_stageIsOver_50 (by decide) ?_
    have e0 := inj1 hf
    subst e0
    exact g_zret hx hb hr hlocks hK hB (Or.inr rfl) dX2_stageIsOver_51
  have key18 : ∀ (n9 : Nat) (v22 : Int32) (H : Heap) (locs : List Loc) (ls : Array Slot), loopM (fun st => mX2_stageIsOver_L20 fu x1 i1 τ σ st) n9 v22 = some b21 → Bd (dC, dI) [(cyI, .int)] (va_A (cW cyI ad bd τ σ) s.heap.size) s (cW cyI ad bd τ σ) H locs → lv_has ls 4 [(3, .int v22), (2, .int x1), (0, .ref (ad 0)), (1, .int i1)] → W p l e (headSpec wsX2_stageIsOver rmX2_stageIsOver).room s m ([.ref (ad 0), .int i1] : List Value).toArray below meth c H locs 0 0 (MQ below (QzF (dC, dI) [(cyI, .int)] (cW cyI ad bd τ σ) (cW cyI ad bd τ σ) s.heap.size r) ([.ref (ad 0), .int i1] : List Value).toArray s 0 0 (va_A (cW cyI ad bd τ σ) s.heap.size)) (F0 m 20 ls []) := by
    intro n9
    induction n9 with
    | zero => intro v22 H locs ls hL19; exact (loopM_z hL19).elim
    | succ n9 ih9 =>
      intro v22 H locs ls hL19 hB hl
      obtain ⟨o23, hg20, hL19⟩ := loopM_s hL19
      have hg20 : mX2_stageIsOver_L20 fu x1 i1 τ σ v22 = some o23 := hg20
      unfold mX2_stageIsOver_L20 at hg20
      refine lv_iload_n hx hb dX2_stageIsOver_20 rfl (lv_at hl 0 rfl) ?_
      refine lv_iload_n hx hb dX2_stageIsOver_21 rfl (lv_at hl 1 rfl) ?_
      refine lv_icmp_ge (tgt := 50) hx hb dX2_stageIsOver_22 (by decide) (fun c24 => ?_) (fun c24 => ?_)
      · have hg20 := ite_t c24 hg20
        have hL19 := el1_l (inj1 hg20) hL19
        exact kE17  _ _ _ (inj1 hL19) hB (lv_sub hl [] rfl)
      · have hg20 := ite_f c24 hg20
        refine lv_aload_n hx hb dX2_stageIsOver_25 rfl (lv_at hl 2 rfl) ?_
        refine lv_iload_n hx hb dX2_stageIsOver_26 rfl (lv_at hl 3 rfl) ?_
        refine lv_iload_n hx hb dX2_stageIsOver_27 rfl (lv_at hl 0 rfl) ?_
        obtain ⟨r25, hc, hg20⟩ := ob1_s hg20
        refine g_callVz (As := [.int i1, .int v22]) (rest := []) ⟨hx, hb, hml, hown, hts⟩ (kX2_isPresent l dC dI cyI ad bd H.size hc) (cwV 2 hts gX2_stageIsOver_X2_isPresent rfl rfl rfl (by decide +kernel) ⟨Nat.le_of_ble_eq_true rfl, Nat.le_of_ble_eq_true rfl⟩) hK hB hA (g_recv (ci := 2) hK hB 0 rfl rfl rfl) rfl hl.1 rfl (Nat.le_of_ble_eq_true rfl) dX2_stageIsOver_28 ⟨Nat.zero_le _, Nat.zero_le _⟩ (fun z26 H locs hB => ?_)
        obtain ⟨t27, hD28, hg20⟩ := ob1_s hg20
        have kTt27 : t27 = true → ∀ (H : Heap) (locs : List Loc), Bd (dC, dI) [(cyI, .int)] (va_A (cW cyI ad bd τ σ) s.heap.size) s (cW cyI ad bd τ σ) H locs → W p l e (headSpec wsX2_stageIsOver rmX2_stageIsOver).room s m ([.ref (ad 0), .int i1] : List Value).toArray below meth c H locs 0 0 (MQ below (QzF (dC, dI) [(cyI, .int)] (cW cyI ad bd τ σ) (cW cyI ad bd τ σ) s.heap.size r) ([.ref (ad 0), .int i1] : List Value).toArray s 0 0 (va_A (cW cyI ad bd τ σ) s.heap.size)) (F0 m 42 ls []) := by
          intro ht H locs hB
          have hg20 := cnd_t ht hg20
          refine lv_iconst (v := (0 : Int32)) hx hb dX2_stageIsOver_42 (by decide) ?_
          have hL19 := el1_l (inj1 hg20) hL19
          have hf := el1_l (inj1 hL19) hf
          have e0 := inj1 hf
          subst e0
          exact g_zret hx hb hr hlocks hK hB (Or.inl rfl) dX2_stageIsOver_43
        have kFt27 : t27 = false → ∀ (H : Heap) (locs : List Loc), Bd (dC, dI) [(cyI, .int)] (va_A (cW cyI ad bd τ σ) s.heap.size) s (cW cyI ad bd τ σ) H locs → W p l e (headSpec wsX2_stageIsOver rmX2_stageIsOver).room s m ([.ref (ad 0), .int i1] : List Value).toArray below meth c H locs 0 0 (MQ below (QzF (dC, dI) [(cyI, .int)] (cW cyI ad bd τ σ) (cW cyI ad bd τ σ) s.heap.size r) ([.ref (ad 0), .int i1] : List Value).toArray s 0 0 (va_A (cW cyI ad bd τ σ) s.heap.size)) (F0 m 44 ls []) := by
          intro ht H locs hB
          have hg20 := cnd_f ht hg20
          refine lv_iinc (v := (v22 + (1 : Int32))) (lv' := [(3, .int (v22 + (1 : Int32))), (2, .int x1), (0, .ref (ad 0)), (1, .int i1)]) hx hb dX2_stageIsOver_44 hl (k := 0) rfl rfl (by decide) rfl (fun ls hl => ?_)
          refine lv_goto (tgt := 20) hx hb dX2_stageIsOver_47 (by decide) ?_
          have hL19 := el1_r (inj1 hg20) hL19
          exact ih9 _ _ _ _ hL19 hB (lv_sub hl [0, 1, 2, 3] rfl)
        refine lv_if_eq (tgt := 44) hx hb dX2_stageIsOver_31 (by decide) (fun c29 => ?_) (fun c29 => ?_)
        · have hD28 := ite_t c29 hD28
          have e0 := inj1 hD28
          exact kFt27 e0.symm _ _ hB
        · have hD28 := ite_f c29 hD28
          refine lv_aload_n hx hb dX2_stageIsOver_34 rfl (lv_at hl 2 rfl) ?_
          refine lv_iload_n hx hb dX2_stageIsOver_35 rfl (lv_at hl 0 rfl) ?_
          obtain ⟨r30, hc, hD28⟩ := ob1_s hD28
          refine g_callVz (As := [.int v22]) (rest := []) ⟨hx, hb, hml, hown, hts⟩ (kX2_isOpen l dC dI cyI ad bd H.size hc) (cwV 1 hts gX2_stageIsOver_X2_isOpen rfl rfl rfl (by decide +kernel) ⟨Nat.le_of_ble_eq_true rfl, Nat.le_of_ble_eq_true rfl⟩) hK hB hA (g_recv (ci := 2) hK hB 0 rfl rfl rfl) rfl hl.1 rfl (Nat.le_of_ble_eq_true rfl) dX2_stageIsOver_36 ⟨Nat.zero_le _, Nat.zero_le _⟩ (fun z31 H locs hB => ?_)
          refine lv_if_eq (tgt := 44) hx hb dX2_stageIsOver_39 (by decide) (fun c32 => ?_) (fun c32 => ?_)
          · have hD28 := ite_t c32 hD28
            have e0 := inj1 hD28
            exact kFt27 e0.symm _ _ hB
          · have hD28 := ite_f c32 hD28
            have e0 := inj1 hD28
            exact kTt27 e0.symm _ _ hB
  exact key18 fu _ _ _ _ hL19 hB (lv_sub hl [0, 1, 2, 3] rfl)

abbrev rmX2_moveForward : Room := { frames := 3, cells := 0, slots := 0, locals := 73 }

set_option maxHeartbeats 4000000 in
set_option maxRecDepth 100000 in
theorem kX2_moveForward (l : Launch) (dC : Nat → ClassId) (dI : Nat → Nat → Nat) (cyI : ClassId) (ad bd : Nat → Nat) (sz : Nat) {fu : Nat} {τ : MS} {σ : MS} {i1 : Int32} {σ_ : MS} (hf : mX2_moveForward fu τ σ i1 = some σ_) : Met l yX2_moveForward wsX2_moveForward rmX2_moveForward (PcF (dC, dI) [(cyI, .int)] (cW cyI ad bd τ σ) sz [.ref (ad 0), .int i1]) (QvF (dC, dI) [(cyI, .int)] (cW cyI ad bd τ σ) (cW cyI ad bd τ σ_) sz) 0 0 (va_A (cW cyI ad bd τ σ) sz) := by
  refine Met.ofW (cc := cX2_moveForward) (maxL := 4) (ret := none) (by decide) rfl ?_
  intro p e s m args below meth c s₁ B hml hv
  obtain ⟨rfl, hsz, hP, hK, hD0⟩ := hv
  have hx := B.exec
  have hb := B.bytes
  have hr := B.returns
  have hts := atoms_spec (ws := wsX2_moveForward) B.pre
  have hown : s.vm.findClass RX2 = some m.cls := findClass_of_methodNamed B.named
  have hlocks := B.notSynchronized
  subst hsz
  have hA : ∀ q : Nat, s.heap.size ≤ q → va_A (cW cyI ad bd τ σ) s.heap.size q := fun q h => Or.inr h
  have hB : Bd (dC, dI) [(cyI, .int)] (va_A (cW cyI ad bd τ σ) s.heap.size) s (cW cyI ad bd τ σ) s.heap [] := ⟨hP, hD0.self, va_S.rf⟩
  have hq1 : (Cond.fieldLink RX2 52 "UndoJourneys$World" "setup" "LUndoJourneys$Setup;").before _ s = true := hts _ (List.mem_of_getElem? (i := 1) rfl)
  have hq2 : (Cond.fieldLink RX2 145 "UndoJourneys$Setup" "endStep" "[I").before _ s = true := hts _ (List.mem_of_getElem? (i := 2) rfl)
  have hq3 : (Cond.fieldLink RX2 148 "UndoJourneys$Setup" "firstStep" "[I").before _ s = true := hts _ (List.mem_of_getElem? (i := 3) rfl)
  have hq4 : (Cond.fieldLink RX2 28 "UndoJourneys$World" "presentStage" "[I").before _ s = true := hts _ (List.mem_of_getElem? (i := 4) rfl)
  have hq5 : (Cond.fieldLink RX2 25 "UndoJourneys$World" "journeyState" "[I").before _ s = true := hts _ (List.mem_of_getElem? (i := 5) rfl)
  have hq6 : (Cond.fieldLink RX2 34 "UndoJourneys$World" "undoFails" "[I").before _ s = true := hts _ (List.mem_of_getElem? (i := 6) rfl)
  have hinX0 : ∀ w ∈ wsX00, w ∈ wsX2_moveForward := fun w h => List.mem_cons_of_mem _ (List.mem_append_right _ h)
  have hinX2 : ∀ w ∈ wsX20, w ∈ wsX2_moveForward := fun w h => List.mem_cons_of_mem _ (List.mem_append_left _ (List.mem_append_right _ h))
  have hl := lv_entry [.ref (ad 0), .int i1] (n := 4) (Nat.le_of_ble_eq_true rfl)
  rw [lg_entry_eq]
  generalize (lg_sl [.ref (ad 0), .int i1] ++ List.replicate (4 - (lg_sl [.ref (ad 0), .int i1]).length) Slot.unset).toArray = ls at hl ⊢
  have hl : lv_has ls 4 [(0, .ref (ad 0)), (1, .int i1)] := hl
  clear hP hD0
  suffices main : ∀ (H : Heap) (locs : List Loc), Bd (dC, dI) [(cyI, .int)] (va_A (cW cyI ad bd τ σ) s.heap.size) s (cW cyI ad bd τ σ) H locs → W p l e (headSpec wsX2_moveForward rmX2_moveForward).room s m ([.ref (ad 0), .int i1] : List Value).toArray below meth c H locs 0 0 (MQ below (QvF (dC, dI) [(cyI, .int)] (cW cyI ad bd τ σ) (cW cyI ad bd τ σ_) s.heap.size) ([.ref (ad 0), .int i1] : List Value).toArray s 0 0 (va_A (cW cyI ad bd τ σ) s.heap.size)) (F0 m 0 ls []) from main _ _ hB
  clear hB
  intro H locs hB
  unfold mX2_moveForward at hf
  refine lv_aload_n hx hb dX2_moveForward_0 rfl (lv_at hl 0 rfl) ?_
  refine g_get (C := RX2) (T := TX2) (N := 14) hx hb hts hinX2 hown hK hB 0 rfl rfl 0 rfl hq1 rfl rfl dX2_moveForward_1 ?_
  refine g_get (C := RX0) (T := TX0) (N := 17) hx hb hts hinX0 hown hK hB 12 rfl rfl 9 rfl hq2 rfl rfl dX2_moveForward_4 ?_
  refine lv_iload_n hx hb dX2_moveForward_7 rfl (lv_at hl 1 rfl) ?_
  obtain ⟨x1, e9, hf⟩ := ob1_s hf
  refine g_iald hx hb hK hB 18 0 rfl rfl (rd_s e9) dX2_moveForward_8 ?_
  refine lv_istore_n (lv' := [(2, .int x1), (0, .ref (ad 0)), (1, .int i1)]) hx hb dX2_moveForward_9 rfl hl (by decide) rfl (fun ls hl => ?_)
  refine lv_aload_n hx hb dX2_moveForward_10 rfl (lv_at hl 1 rfl) ?_
  refine g_get (C := RX2) (T := TX2) (N := 14) hx hb hts hinX2 hown hK hB 0 rfl rfl 0 rfl hq1 rfl rfl dX2_moveForward_11 ?_
  refine g_get (C := RX0) (T := TX0) (N := 17) hx hb hts hinX0 hown hK hB 12 rfl rfl 8 rfl hq3 rfl rfl dX2_moveForward_14 ?_
  refine lv_iload_n hx hb dX2_moveForward_17 rfl (lv_at hl 2 rfl) ?_
  obtain ⟨x2, e9, hf⟩ := ob1_s hf
  refine g_iald hx hb hK hB 17 0 rfl rfl (rd_s e9) dX2_moveForward_18 ?_
  refine lv_istore_n (lv' := [(3, .int x2), (2, .int x1), (0, .ref (ad 0)), (1, .int i1)]) hx hb dX2_moveForward_19 rfl hl (by decide) rfl (fun ls hl => ?_)
  obtain ⟨σ16, hL19, hf⟩ := ob1_s hf
  have kE17 : ∀ (H : Heap) (locs : List Loc) (ls : Array Slot), Bd (dC, dI) [(cyI, .int)] (va_A (cW cyI ad bd τ σ) s.heap.size) s (cW cyI ad bd τ σ16) H locs → lv_has ls 4 [(0, .ref (ad 0)), (1, .int i1)] → W p l e (headSpec wsX2_moveForward rmX2_moveForward).room s m ([.ref (ad 0), .int i1] : List Value).toArray below meth c H locs 0 0 (MQ below (QvF (dC, dI) [(cyI, .int)] (cW cyI ad bd τ σ) (cW cyI ad bd τ σ_) s.heap.size) ([.ref (ad 0), .int i1] : List Value).toArray s 0 0 (va_A (cW cyI ad bd τ σ) s.heap.size)) (F0 m 46 ls []) := by
    intro H locs ls hB hl
    refine lv_aload_n hx hb dX2_moveForward_46 rfl (lv_at hl 0 rfl) ?_
    refine lv_iload_n hx hb dX2_moveForward_47 rfl (lv_at hl 1 rfl) ?_
    refine lv_iconst (v := (4 : Int32)) hx hb dX2_moveForward_48 (by decide) ?_
    obtain ⟨r21, hc, hf⟩ := ob1_s hf
    refine g_callVz (As := [.int i1, .int (4 : Int32)]) (rest := []) ⟨hx, hb, hml, hown, hts⟩ (kX2_stageHas l dC dI cyI ad bd H.size hc) (cwV 2 hts gX2_moveForward_X2_stageHas rfl rfl rfl (by decide +kernel) ⟨Nat.le_of_ble_eq_true rfl, Nat.le_of_ble_eq_true rfl⟩) hK hB hA (g_recv (ci := 2) hK hB 0 rfl rfl rfl) rfl hl.1 rfl (Nat.le_of_ble_eq_true rfl) dX2_moveForward_49 ⟨Nat.zero_le _, Nat.zero_le _⟩ (fun z22 H locs hB => ?_)
    refine lv_istore_n (lv' := [(3, .int r21), (0, .ref (ad 0)), (1, .int i1)]) hx hb dX2_moveForward_52 rfl hl (by decide) rfl (fun ls hl => ?_)
    refine lv_iload_n hx hb dX2_moveForward_53 rfl (lv_at hl 0 rfl) ?_
    obtain ⟨σ23, hJ24, hf⟩ := ob1_s hf
    have kJ25 : ∀ (H : Heap) (locs : List Loc) (ls : Array Slot), Bd (dC, dI) [(cyI, .int)] (va_A (cW cyI ad bd τ σ) s.heap.size) s (cW cyI ad bd τ σ23) H locs → lv_has ls 4 [(3, .int r21), (0, .ref (ad 0)), (1, .int i1)] → W p l e (headSpec wsX2_moveForward rmX2_moveForward).room s m ([.ref (ad 0), .int i1] : List Value).toArray below meth c H locs 0 0 (MQ below (QvF (dC, dI) [(cyI, .int)] (cW cyI ad bd τ σ) (cW cyI ad bd τ σ_) s.heap.size) ([.ref (ad 0), .int i1] : List Value).toArray s 0 0 (va_A (cW cyI ad bd τ σ) s.heap.size)) (F0 m 62 ls []) := by
      intro H locs ls hB hl
      refine lv_aload_n hx hb dX2_moveForward_62 rfl (lv_at hl 1 rfl) ?_
      refine lv_iload_n hx hb dX2_moveForward_63 rfl (lv_at hl 2 rfl) ?_
      obtain ⟨r28, hc, hf⟩ := ob1_s hf
      refine g_callVz (As := [.int i1]) (rest := []) ⟨hx, hb, hml, hown, hts⟩ (kX2_stageIsOver l dC dI cyI ad bd H.size hc) (cwV 1 hts gX2_moveForward_X2_stageIsOver rfl rfl rfl (by decide +kernel) ⟨Nat.le_of_ble_eq_true rfl, Nat.le_of_ble_eq_true rfl⟩) hK hB hA (g_recv (ci := 2) hK hB 0 rfl rfl rfl) rfl hl.1 rfl (Nat.le_of_ble_eq_true rfl) dX2_moveForward_64 ⟨Nat.zero_le _, Nat.zero_le _⟩ (fun z29 H locs hB => ?_)
      obtain ⟨σ30, hJ31, hf⟩ := ob1_s hf
      have kJ32 : ∀ (H : Heap) (locs : List Loc) (ls : Array Slot), Bd (dC, dI) [(cyI, .int)] (va_A (cW cyI ad bd τ σ) s.heap.size) s (cW cyI ad bd τ σ30) H locs → lv_has ls 4 [] → W p l e (headSpec wsX2_moveForward rmX2_moveForward).room s m ([.ref (ad 0), .int i1] : List Value).toArray below meth c H locs 0 0 (MQ below (QvF (dC, dI) [(cyI, .int)] (cW cyI ad bd τ σ) (cW cyI ad bd τ σ_) s.heap.size) ([.ref (ad 0), .int i1] : List Value).toArray s 0 0 (va_A (cW cyI ad bd τ σ) s.heap.size)) (F0 m 113 ls []) := by
        intro H locs ls hB hl
        have e0 := inj1 hf
        subst e0
        exact g_vret hx hb hr hlocks hK hB dX2_moveForward_113
      refine lv_if_eq (tgt := 86) hx hb dX2_moveForward_67 (by decide) (fun c33 => ?_) (fun c33 => ?_)
      · have hJ31 := ite_t c33 hJ31
        refine lv_iload_n hx hb dX2_moveForward_86 rfl (lv_at hl 0 rfl) ?_
        obtain ⟨t34, hD35, hJ31⟩ := ob1_s hJ31
        have kTt34 : t34 = true → ∀ (H : Heap) (locs : List Loc), Bd (dC, dI) [(cyI, .int)] (va_A (cW cyI ad bd τ σ) s.heap.size) s (cW cyI ad bd τ σ23) H locs → W p l e (headSpec wsX2_moveForward rmX2_moveForward).room s m ([.ref (ad 0), .int i1] : List Value).toArray below meth c H locs 0 0 (MQ below (QvF (dC, dI) [(cyI, .int)] (cW cyI ad bd τ σ) (cW cyI ad bd τ σ_) s.heap.size) ([.ref (ad 0), .int i1] : List Value).toArray s 0 0 (va_A (cW cyI ad bd τ σ) s.heap.size)) (F0 m 99 ls []) := by
          intro ht H locs hB
          have hJ31 := cnd_t ht hJ31
          refine lv_aload_n hx hb dX2_moveForward_99 rfl (lv_at hl 1 rfl) ?_
          refine g_get (C := RX2) (T := TX2) (N := 14) hx hb hts hinX2 hown hK hB 0 rfl rfl 5 rfl hq5 rfl rfl dX2_moveForward_100 ?_
          refine lv_iload_n hx hb dX2_moveForward_103 rfl (lv_at hl 2 rfl) ?_
          refine lv_iconst (v := (2 : Int32)) hx hb dX2_moveForward_104 (by decide) ?_
          obtain ⟨σ40, e9, hJ31⟩ := ob1_s hJ31
          obtain ⟨hi, e9⟩ := wra_s e9
          refine g_iast hx hb hK hB 3 0 rfl rfl hi rfl dX2_moveForward_105 (w2 := (cW cyI ad bd τ σ40)) (by rw [← e9]; rfl) (fun H locs hB => ?_)
          refine lv_aload_n hx hb dX2_moveForward_106 rfl (lv_at hl 1 rfl) ?_
          refine g_get (C := RX2) (T := TX2) (N := 14) hx hb hts hinX2 hown hK hB 0 rfl rfl 8 rfl hq6 rfl rfl dX2_moveForward_107 ?_
          refine lv_iload_n hx hb dX2_moveForward_110 rfl (lv_at hl 2 rfl) ?_
          refine lv_iconst (v := (0 : Int32)) hx hb dX2_moveForward_111 (by decide) ?_
          obtain ⟨σ41, e9, hJ31⟩ := ob1_s hJ31
          obtain ⟨hi, e9⟩ := wra_s e9
          refine g_iast hx hb hK hB 6 0 rfl rfl hi rfl dX2_moveForward_112 (w2 := (cW cyI ad bd τ σ41)) (by rw [← e9]; rfl) (fun H locs hB => ?_)
          have e0 := inj1 hJ31
          subst e0
          exact kJ32 _ _ _ hB (lv_sub hl [] rfl)
        have kFt34 : t34 = false → ∀ (H : Heap) (locs : List Loc), Bd (dC, dI) [(cyI, .int)] (va_A (cW cyI ad bd τ σ) s.heap.size) s (cW cyI ad bd τ σ23) H locs → W p l e (headSpec wsX2_moveForward rmX2_moveForward).room s m ([.ref (ad 0), .int i1] : List Value).toArray below meth c H locs 0 0 (MQ below (QvF (dC, dI) [(cyI, .int)] (cW cyI ad bd τ σ) (cW cyI ad bd τ σ_) s.heap.size) ([.ref (ad 0), .int i1] : List Value).toArray s 0 0 (va_A (cW cyI ad bd τ σ) s.heap.size)) (F0 m 113 ls []) := by
          intro ht H locs hB
          have hJ31 := cnd_f ht hJ31
          have e0 := inj1 hJ31
          subst e0
          exact kJ32 _ _ _ hB (lv_sub hl [] rfl)
        refine lv_if_eq (tgt := 113) hx hb dX2_moveForward_87 (by decide) (fun c36 => ?_) (fun c36 => ?_)
        · have hD35 := ite_t c36 hD35
          have e0 := inj1 hD35
          exact kFt34 e0.symm _ _ hB
        · have hD35 := ite_f c36 hD35
          refine lv_aload_n hx hb dX2_moveForward_90 rfl (lv_at hl 1 rfl) ?_
          refine lv_iload_n hx hb dX2_moveForward_91 rfl (lv_at hl 2 rfl) ?_
          refine lv_iconst (v := (2 : Int32)) hx hb dX2_moveForward_92 (by decide) ?_
          obtain ⟨r37, hc, hD35⟩ := ob1_s hD35
          refine g_callVz (As := [.int i1, .int (2 : Int32)]) (rest := []) ⟨hx, hb, hml, hown, hts⟩ (kX2_stageHas l dC dI cyI ad bd H.size hc) (cwV 2 hts gX2_moveForward_X2_stageHas rfl rfl rfl (by decide +kernel) ⟨Nat.le_of_ble_eq_true rfl, Nat.le_of_ble_eq_true rfl⟩) hK hB hA (g_recv (ci := 2) hK hB 0 rfl rfl rfl) rfl hl.1 rfl (Nat.le_of_ble_eq_true rfl) dX2_moveForward_93 ⟨Nat.zero_le _, Nat.zero_le _⟩ (fun z38 H locs hB => ?_)
          refine lv_if_ne (tgt := 113) hx hb dX2_moveForward_96 (by decide) (fun c39 => ?_) (fun c39 => ?_)
          · have hD35 := ite_f c39 hD35
            have e0 := inj1 hD35
            exact kFt34 e0.symm _ _ hB
          · have hD35 := ite_t c39 hD35
            have e0 := inj1 hD35
            exact kTt34 e0.symm _ _ hB
      · have hJ31 := ite_f c33 hJ31
        refine lv_aload_n hx hb dX2_moveForward_70 rfl (lv_at hl 1 rfl) ?_
        refine lv_iload_n hx hb dX2_moveForward_71 rfl (lv_at hl 2 rfl) ?_
        refine lv_aload_n hx hb dX2_moveForward_72 rfl (lv_at hl 1 rfl) ?_
        refine g_get (C := RX2) (T := TX2) (N := 14) hx hb hts hinX2 hown hK hB 0 rfl rfl 6 rfl hq4 rfl rfl dX2_moveForward_73 ?_
        refine lv_iload_n hx hb dX2_moveForward_76 rfl (lv_at hl 2 rfl) ?_
        obtain ⟨x42, e9, hJ31⟩ := ob1_s hJ31
        refine g_iald hx hb hK hB 4 0 rfl rfl (rd_s e9) dX2_moveForward_77 ?_
        refine lv_iconst (v := (1 : Int32)) hx hb dX2_moveForward_78 (by decide) ?_
        refine lv_iadd hx hb dX2_moveForward_79 ?_
        obtain ⟨σ43, hc, hJ31⟩ := ob1_s hJ31
        refine g_callVv (As := [.int i1, .int (x42 + (1 : Int32))]) (rest := []) ⟨hx, hb, hml, hown, hts⟩ (kX2_enterStage l dC dI cyI ad bd H.size hc) (cwV 2 hts gX2_moveForward_X2_enterStage rfl rfl rfl (by decide +kernel) ⟨Nat.le_of_ble_eq_true rfl, Nat.le_of_ble_eq_true rfl⟩) hK hB hA (g_recv (ci := 2) hK hB 0 rfl rfl rfl) rfl hl.1 rfl (Nat.le_of_ble_eq_true rfl) dX2_moveForward_80 ⟨Nat.zero_le _, Nat.zero_le _⟩ (fun H locs hB => ?_)
        refine lv_goto (tgt := 113) hx hb dX2_moveForward_83 (by decide) ?_
        have e0 := inj1 hJ31
        subst e0
        exact kJ32 _ _ _ hB (lv_sub hl [] rfl)
    refine lv_if_eq (tgt := 62) hx hb dX2_moveForward_54 (by decide) (fun c26 => ?_) (fun c26 => ?_)
    · have hJ24 := ite_t c26 hJ24
      have e0 := inj1 hJ24
      subst e0
      exact kJ25 _ _ _ hB (lv_sub hl [0, 1, 2] rfl)
    · have hJ24 := ite_f c26 hJ24
      refine lv_aload_n hx hb dX2_moveForward_57 rfl (lv_at hl 1 rfl) ?_
      refine lv_iload_n hx hb dX2_moveForward_58 rfl (lv_at hl 2 rfl) ?_
      obtain ⟨σ27, hc, hJ24⟩ := ob1_s hJ24
      refine g_callVv (As := [.int i1]) (rest := []) ⟨hx, hb, hml, hown, hts⟩ (kX2_withdrawReadySteps l dC dI cyI ad bd H.size hc) (cwV 1 hts gX2_moveForward_X2_withdrawReadySteps rfl rfl rfl (by decide +kernel) ⟨Nat.le_of_ble_eq_true rfl, Nat.le_of_ble_eq_true rfl⟩) hK hB hA (g_recv (ci := 2) hK hB 0 rfl rfl rfl) rfl hl.1 rfl (Nat.le_of_ble_eq_true rfl) dX2_moveForward_59 ⟨Nat.zero_le _, Nat.zero_le _⟩ (fun H locs hB => ?_)
      have e0 := inj1 hJ24
      subst e0
      exact kJ25 _ _ _ hB (lv_sub hl [0, 1, 2] rfl)
  have key18 : ∀ (n9 : Nat) (v45 : Int32) (σ46 : MS) (H : Heap) (locs : List Loc) (ls : Array Slot), loopM (fun st => mX2_moveForward_L20 fu x1 i1 τ st.1 st.2) n9 (v45, σ46) = some σ16 → Bd (dC, dI) [(cyI, .int)] (va_A (cW cyI ad bd τ σ) s.heap.size) s (cW cyI ad bd τ σ46) H locs → lv_has ls 4 [(3, .int v45), (2, .int x1), (0, .ref (ad 0)), (1, .int i1)] → W p l e (headSpec wsX2_moveForward rmX2_moveForward).room s m ([.ref (ad 0), .int i1] : List Value).toArray below meth c H locs 0 0 (MQ below (QvF (dC, dI) [(cyI, .int)] (cW cyI ad bd τ σ) (cW cyI ad bd τ σ_) s.heap.size) ([.ref (ad 0), .int i1] : List Value).toArray s 0 0 (va_A (cW cyI ad bd τ σ) s.heap.size)) (F0 m 20 ls []) := by
    intro n9
    induction n9 with
    | zero => intro v45 σ46 H locs ls hL19; exact (loopM_z hL19).elim
    | succ n9 ih9 =>
      intro v45 σ46 H locs ls hL19 hB hl
      obtain ⟨o47, hg20, hL19⟩ := loopM_s hL19
      have hg20 : mX2_moveForward_L20 fu x1 i1 τ v45 σ46 = some o47 := hg20
      unfold mX2_moveForward_L20 at hg20
      refine lv_iload_n hx hb dX2_moveForward_20 rfl (lv_at hl 0 rfl) ?_
      refine lv_iload_n hx hb dX2_moveForward_21 rfl (lv_at hl 1 rfl) ?_
      refine lv_icmp_ge (tgt := 46) hx hb dX2_moveForward_22 (by decide) (fun c48 => ?_) (fun c48 => ?_)
      · have hg20 := ite_t c48 hg20
        have hL19 := el1_l (inj1 hg20) hL19
        have e0 := inj1 hL19
        subst e0
        exact kE17 _ _ _ hB (lv_sub hl [2, 3] rfl)
      · have hg20 := ite_f c48 hg20
        refine lv_aload_n hx hb dX2_moveForward_25 rfl (lv_at hl 2 rfl) ?_
        refine lv_iload_n hx hb dX2_moveForward_26 rfl (lv_at hl 3 rfl) ?_
        refine lv_iload_n hx hb dX2_moveForward_27 rfl (lv_at hl 0 rfl) ?_
        obtain ⟨r49, hc, hg20⟩ := ob1_s hg20
        refine g_callVz (As := [.int i1, .int v45]) (rest := []) ⟨hx, hb, hml, hown, hts⟩ (kX2_isPresent l dC dI cyI ad bd H.size hc) (cwV 2 hts gX2_moveForward_X2_isPresent rfl rfl rfl (by decide +kernel) ⟨Nat.le_of_ble_eq_true rfl, Nat.le_of_ble_eq_true rfl⟩) hK hB hA (g_recv (ci := 2) hK hB 0 rfl rfl rfl) rfl hl.1 rfl (Nat.le_of_ble_eq_true rfl) dX2_moveForward_28 ⟨Nat.zero_le _, Nat.zero_le _⟩ (fun z50 H locs hB => ?_)
        obtain ⟨σ51, hJ52, hg20⟩ := ob1_s hg20
        have kJ53 : ∀ (H : Heap) (locs : List Loc) (ls : Array Slot), Bd (dC, dI) [(cyI, .int)] (va_A (cW cyI ad bd τ σ) s.heap.size) s (cW cyI ad bd τ σ51) H locs → lv_has ls 4 [(3, .int v45), (2, .int x1), (0, .ref (ad 0)), (1, .int i1)] → W p l e (headSpec wsX2_moveForward rmX2_moveForward).room s m ([.ref (ad 0), .int i1] : List Value).toArray below meth c H locs 0 0 (MQ below (QvF (dC, dI) [(cyI, .int)] (cW cyI ad bd τ σ) (cW cyI ad bd τ σ_) s.heap.size) ([.ref (ad 0), .int i1] : List Value).toArray s 0 0 (va_A (cW cyI ad bd τ σ) s.heap.size)) (F0 m 40 ls []) := by
          intro H locs ls hB hl
          refine lv_iinc (v := (v45 + (1 : Int32))) (lv' := [(3, .int (v45 + (1 : Int32))), (2, .int x1), (0, .ref (ad 0)), (1, .int i1)]) hx hb dX2_moveForward_40 hl (k := 0) rfl rfl (by decide) rfl (fun ls hl => ?_)
          refine lv_goto (tgt := 20) hx hb dX2_moveForward_43 (by decide) ?_
          have hL19 := el1_r (inj1 hg20) hL19
          exact ih9 _ _ _ _ _ hL19 hB (lv_sub hl [0, 1, 2, 3] rfl)
        refine lv_if_eq (tgt := 40) hx hb dX2_moveForward_31 (by decide) (fun c54 => ?_) (fun c54 => ?_)
        · have hJ52 := ite_t c54 hJ52
          have e0 := inj1 hJ52
          subst e0
          exact kJ53 _ _ _ hB (lv_sub hl [0, 1, 2, 3] rfl)
        · have hJ52 := ite_f c54 hJ52
          refine lv_aload_n hx hb dX2_moveForward_34 rfl (lv_at hl 2 rfl) ?_
          refine lv_iload_n hx hb dX2_moveForward_35 rfl (lv_at hl 3 rfl) ?_
          refine lv_iload_n hx hb dX2_moveForward_36 rfl (lv_at hl 0 rfl) ?_
          obtain ⟨σ55, hc, hJ52⟩ := ob1_s hJ52
          refine g_callVv (As := [.int i1, .int v45]) (rest := []) ⟨hx, hb, hml, hown, hts⟩ (kX2_moveStep l dC dI cyI ad bd H.size hc) (cwV 2 hts gX2_moveForward_X2_moveStep rfl rfl rfl (by decide +kernel) ⟨Nat.le_of_ble_eq_true rfl, Nat.le_of_ble_eq_true rfl⟩) hK hB hA (g_recv (ci := 2) hK hB 0 rfl rfl rfl) rfl hl.1 rfl (Nat.le_of_ble_eq_true rfl) dX2_moveForward_37 ⟨Nat.zero_le _, Nat.zero_le _⟩ (fun H locs hB => ?_)
          have e0 := inj1 hJ52
          subst e0
          exact kJ53 _ _ _ hB (lv_sub hl [0, 1, 2, 3] rfl)
  exact key18 fu _ _ _ _ _ hL19 hB (lv_sub hl [0, 1, 2, 3] rfl)

abbrev rmX2_putStepAway : Room := { frames := 0, cells := 0, slots := 0, locals := 0 }

set_option maxHeartbeats 4000000 in
set_option maxRecDepth 100000 in
theorem kX2_putStepAway (l : Launch) (dC : Nat → ClassId) (dI : Nat → Nat → Nat) (cyI : ClassId) (ad bd : Nat → Nat) (sz : Nat) {fu : Nat} {τ : MS} {σ : MS} {i1 : Int32} {i2 : Int32} {i3 : Int32} {σ_ : MS} (hf : mX2_putStepAway fu τ σ i1 i2 i3 = some σ_) : Met l yX2_putStepAway wsX2_putStepAway rmX2_putStepAway (PcF (dC, dI) [(cyI, .int)] (cW cyI ad bd τ σ) sz [.ref (ad 0), .int i1, .int i2, .int i3]) (QvF (dC, dI) [(cyI, .int)] (cW cyI ad bd τ σ) (cW cyI ad bd τ σ_) sz) 0 0 (va_A (cW cyI ad bd τ σ) sz) := by
  refine Met.ofW (cc := cX2_putStepAway) (maxL := 4) (ret := none) (by decide) rfl ?_
  intro p e s m args below meth c s₁ B hml hv
  obtain ⟨rfl, hsz, hP, hK, hD0⟩ := hv
  have hx := B.exec
  have hb := B.bytes
  have hr := B.returns
  have hts := atoms_spec (ws := wsX2_putStepAway) B.pre
  have hown : s.vm.findClass RX2 = some m.cls := findClass_of_methodNamed B.named
  have hlocks := B.notSynchronized
  subst hsz
  have hA : ∀ q : Nat, s.heap.size ≤ q → va_A (cW cyI ad bd τ σ) s.heap.size q := fun q h => Or.inr h
  have hB : Bd (dC, dI) [(cyI, .int)] (va_A (cW cyI ad bd τ σ) s.heap.size) s (cW cyI ad bd τ σ) s.heap [] := ⟨hP, hD0.self, va_S.rf⟩
  have hq1 : (Cond.fieldLink RX2 18 "UndoJourneys$World" "level" "[I").before _ s = true := hts _ (List.mem_of_getElem? (i := 1) rfl)
  have hq2 : (Cond.fieldLink RX2 52 "UndoJourneys$World" "setup" "LUndoJourneys$Setup;").before _ s = true := hts _ (List.mem_of_getElem? (i := 2) rfl)
  have hq3 : (Cond.fieldLink RX2 133 "UndoJourneys$Setup" "stockOf" "[I").before _ s = true := hts _ (List.mem_of_getElem? (i := 3) rfl)
  have hq4 : (Cond.fieldLink RX2 136 "UndoJourneys$Setup" "amount" "[I").before _ s = true := hts _ (List.mem_of_getElem? (i := 4) rfl)
  have hq5 : (Cond.fieldLink RX2 37 "UndoJourneys$World" "stepState" "[I").before _ s = true := hts _ (List.mem_of_getElem? (i := 5) rfl)
  have hq6 : (Cond.fieldLink RX2 34 "UndoJourneys$World" "undoFails" "[I").before _ s = true := hts _ (List.mem_of_getElem? (i := 6) rfl)
  have hinX0 : ∀ w ∈ wsX00, w ∈ wsX2_putStepAway := fun w h => List.mem_cons_of_mem _ (List.mem_append_right _ h)
  have hinX2 : ∀ w ∈ wsX20, w ∈ wsX2_putStepAway := fun w h => List.mem_cons_of_mem _ (List.mem_append_left _ (List.mem_append_right _ h))
  have hl := lv_entry [.ref (ad 0), .int i1, .int i2, .int i3] (n := 4) (Nat.le_of_ble_eq_true rfl)
  rw [lg_entry_eq]
  generalize (lg_sl [.ref (ad 0), .int i1, .int i2, .int i3] ++ List.replicate (4 - (lg_sl [.ref (ad 0), .int i1, .int i2, .int i3]).length) Slot.unset).toArray = ls at hl ⊢
  have hl : lv_has ls 4 [(0, .ref (ad 0)), (1, .int i1), (2, .int i2), (3, .int i3)] := hl
  clear hP hD0
  suffices main : ∀ (H : Heap) (locs : List Loc), Bd (dC, dI) [(cyI, .int)] (va_A (cW cyI ad bd τ σ) s.heap.size) s (cW cyI ad bd τ σ) H locs → W p l e (headSpec wsX2_putStepAway rmX2_putStepAway).room s m ([.ref (ad 0), .int i1, .int i2, .int i3] : List Value).toArray below meth c H locs 0 0 (MQ below (QvF (dC, dI) [(cyI, .int)] (cW cyI ad bd τ σ) (cW cyI ad bd τ σ_) s.heap.size) ([.ref (ad 0), .int i1, .int i2, .int i3] : List Value).toArray s 0 0 (va_A (cW cyI ad bd τ σ) s.heap.size)) (F0 m 0 ls []) from main _ _ hB
  clear hB
  intro H locs hB
  unfold mX2_putStepAway at hf
  refine lv_iload_n hx hb dX2_putStepAway_0 rfl (lv_at hl 3 rfl) ?_
  refine lv_iconst (v := (5 : Int32)) hx hb dX2_putStepAway_1 (by decide) ?_
  obtain ⟨σ1, hJ2, hf⟩ := ob1_s hf
  have kJ3 : ∀ (H : Heap) (locs : List Loc) (ls : Array Slot), Bd (dC, dI) [(cyI, .int)] (va_A (cW cyI ad bd τ σ) s.heap.size) s (cW cyI ad bd τ σ1) H locs → lv_has ls 4 [(0, .ref (ad 0)), (1, .int i1), (2, .int i2), (3, .int i3)] → W p l e (headSpec wsX2_putStepAway rmX2_putStepAway).room s m ([.ref (ad 0), .int i1, .int i2, .int i3] : List Value).toArray below meth c H locs 0 0 (MQ below (QvF (dC, dI) [(cyI, .int)] (cW cyI ad bd τ σ) (cW cyI ad bd τ σ_) s.heap.size) ([.ref (ad 0), .int i1, .int i2, .int i3] : List Value).toArray s 0 0 (va_A (cW cyI ad bd τ σ) s.heap.size)) (F0 m 31 ls []) := by
    intro H locs ls hB hl
    refine lv_aload_n hx hb dX2_putStepAway_31 rfl (lv_at hl 0 rfl) ?_
    refine g_get (C := RX2) (T := TX2) (N := 14) hx hb hts hinX2 hown hK hB 0 rfl rfl 9 rfl hq5 rfl rfl dX2_putStepAway_32 ?_
    refine lv_iload_n hx hb dX2_putStepAway_35 rfl (lv_at hl 2 rfl) ?_
    refine lv_iload_n hx hb dX2_putStepAway_36 rfl (lv_at hl 3 rfl) ?_
    obtain ⟨σ9, e9, hf⟩ := ob1_s hf
    obtain ⟨hi, e9⟩ := wra_s e9
    refine g_iast hx hb hK hB 7 0 rfl rfl hi rfl dX2_putStepAway_37 (w2 := (cW cyI ad bd τ σ9)) (by rw [← e9]; rfl) (fun H locs hB => ?_)
    refine lv_aload_n hx hb dX2_putStepAway_38 rfl (lv_at hl 0 rfl) ?_
    refine g_get (C := RX2) (T := TX2) (N := 14) hx hb hts hinX2 hown hK hB 0 rfl rfl 8 rfl hq6 rfl rfl dX2_putStepAway_39 ?_
    refine lv_iload_n hx hb dX2_putStepAway_42 rfl (lv_at hl 1 rfl) ?_
    refine lv_iconst (v := (0 : Int32)) hx hb dX2_putStepAway_43 (by decide) ?_
    obtain ⟨σ10, e9, hf⟩ := ob1_s hf
    obtain ⟨hi, e9⟩ := wra_s e9
    refine g_iast hx hb hK hB 6 0 rfl rfl hi rfl dX2_putStepAway_44 (w2 := (cW cyI ad bd τ σ10)) (by rw [← e9]; rfl) (fun H locs hB => ?_)
    have e0 := inj1 hf
    subst e0
    exact g_vret hx hb hr hlocks hK hB dX2_putStepAway_45
  refine lv_icmp_ne (tgt := 31) hx hb dX2_putStepAway_2 (by decide) (fun c4 => ?_) (fun c4 => ?_)
  · have hJ2 := ite_f c4 hJ2
    have e0 := inj1 hJ2
    subst e0
    exact kJ3 _ _ _ hB (lv_sub hl [0, 1, 2, 3] rfl)
  · have hJ2 := ite_t c4 hJ2
    refine lv_aload_n hx hb dX2_putStepAway_5 rfl (lv_at hl 0 rfl) ?_
    refine g_get (C := RX2) (T := TX2) (N := 14) hx hb hts hinX2 hown hK hB 0 rfl rfl 3 rfl hq1 rfl rfl dX2_putStepAway_6 ?_
    refine lv_aload_n hx hb dX2_putStepAway_9 rfl (lv_at hl 0 rfl) ?_
    refine g_get (C := RX2) (T := TX2) (N := 14) hx hb hts hinX2 hown hK hB 0 rfl rfl 0 rfl hq2 rfl rfl dX2_putStepAway_10 ?_
    refine g_get (C := RX0) (T := TX0) (N := 17) hx hb hts hinX0 hown hK hB 12 rfl rfl 12 rfl hq3 rfl rfl dX2_putStepAway_13 ?_
    refine lv_iload_n hx hb dX2_putStepAway_16 rfl (lv_at hl 2 rfl) ?_
    obtain ⟨x5, e9, hJ2⟩ := ob1_s hJ2
    refine g_iald hx hb hK hB 20 0 rfl rfl (rd_s e9) dX2_putStepAway_17 ?_
    refine lv_dup2_11 hx hb dX2_putStepAway_18 rfl rfl ?_
    obtain ⟨x6, e9, hJ2⟩ := ob1_s hJ2
    refine g_iald hx hb hK hB 1 0 rfl rfl (rd_s e9) dX2_putStepAway_19 ?_
    refine lv_aload_n hx hb dX2_putStepAway_20 rfl (lv_at hl 0 rfl) ?_
    refine g_get (C := RX2) (T := TX2) (N := 14) hx hb hts hinX2 hown hK hB 0 rfl rfl 0 rfl hq2 rfl rfl dX2_putStepAway_21 ?_
    refine g_get (C := RX0) (T := TX0) (N := 17) hx hb hts hinX0 hown hK hB 12 rfl rfl 13 rfl hq4 rfl rfl dX2_putStepAway_24 ?_
    refine lv_iload_n hx hb dX2_putStepAway_27 rfl (lv_at hl 2 rfl) ?_
    obtain ⟨x7, e9, hJ2⟩ := ob1_s hJ2
    refine g_iald hx hb hK hB 21 0 rfl rfl (rd_s e9) dX2_putStepAway_28 ?_
    refine lv_iadd hx hb dX2_putStepAway_29 ?_
    obtain ⟨σ8, e9, hJ2⟩ := ob1_s hJ2
    obtain ⟨hi, e9⟩ := wra_s e9
    refine g_iast hx hb hK hB 1 0 rfl rfl hi rfl dX2_putStepAway_30 (w2 := (cW cyI ad bd τ σ8)) (by rw [← e9]; rfl) (fun H locs hB => ?_)
    have e0 := inj1 hJ2
    subst e0
    exact kJ3 _ _ _ hB (lv_sub hl [0, 1, 2, 3] rfl)

abbrev rmX2_undoLastStep : Room := { frames := 1, cells := 0, slots := 0, locals := 24 }

set_option maxHeartbeats 4000000 in
set_option maxRecDepth 100000 in
theorem kX2_undoLastStep (l : Launch) (dC : Nat → ClassId) (dI : Nat → Nat → Nat) (cyI : ClassId) (ad bd : Nat → Nat) (sz : Nat) {fu : Nat} {τ : MS} {σ : MS} {i1 : Int32} {σ_ : MS} (hf : mX2_undoLastStep fu τ σ i1 = some σ_) : Met l yX2_undoLastStep wsX2_undoLastStep rmX2_undoLastStep (PcF (dC, dI) [(cyI, .int)] (cW cyI ad bd τ σ) sz [.ref (ad 0), .int i1]) (QvF (dC, dI) [(cyI, .int)] (cW cyI ad bd τ σ) (cW cyI ad bd τ σ_) sz) 0 0 (va_A (cW cyI ad bd τ σ) sz) := by
  refine Met.ofW (cc := cX2_undoLastStep) (maxL := 3) (ret := none) (by decide) rfl ?_
  intro p e s m args below meth c s₁ B hml hv
  obtain ⟨rfl, hsz, hP, hK, hD0⟩ := hv
  have hx := B.exec
  have hb := B.bytes
  have hr := B.returns
  have hts := atoms_spec (ws := wsX2_undoLastStep) B.pre
  have hown : s.vm.findClass RX2 = some m.cls := findClass_of_methodNamed B.named
  have hlocks := B.notSynchronized
  subst hsz
  have hA : ∀ q : Nat, s.heap.size ≤ q → va_A (cW cyI ad bd τ σ) s.heap.size q := fun q h => Or.inr h
  have hB : Bd (dC, dI) [(cyI, .int)] (va_A (cW cyI ad bd τ σ) s.heap.size) s (cW cyI ad bd τ σ) s.heap [] := ⟨hP, hD0.self, va_S.rf⟩
  have hq1 : (Cond.fieldLink RX2 40 "UndoJourneys$World" "failuresLeft" "[I").before _ s = true := hts _ (List.mem_of_getElem? (i := 1) rfl)
  have hq2 : (Cond.fieldLink RX2 15 "UndoJourneys$World" "failedUndos" "I").before _ s = true := hts _ (List.mem_of_getElem? (i := 2) rfl)
  have hq3 : (Cond.fieldLink RX2 34 "UndoJourneys$World" "undoFails" "[I").before _ s = true := hts _ (List.mem_of_getElem? (i := 3) rfl)
  have hq4 : (Cond.fieldLink RX2 52 "UndoJourneys$World" "setup" "LUndoJourneys$Setup;").before _ s = true := hts _ (List.mem_of_getElem? (i := 4) rfl)
  have hq5 : (Cond.fieldLink RX2 92 "UndoJourneys$Setup" "patience" "I").before _ s = true := hts _ (List.mem_of_getElem? (i := 5) rfl)
  have hinX0 : ∀ w ∈ wsX00, w ∈ wsX2_undoLastStep := fun w h => List.mem_cons_of_mem _ (List.mem_append_right _ h)
  have hinX2 : ∀ w ∈ wsX20, w ∈ wsX2_undoLastStep := fun w h => List.mem_cons_of_mem _ (List.mem_append_left _ (List.mem_append_right _ h))
  have hl := lv_entry [.ref (ad 0), .int i1] (n := 3) (Nat.le_of_ble_eq_true rfl)
  rw [lg_entry_eq]
  generalize (lg_sl [.ref (ad 0), .int i1] ++ List.replicate (3 - (lg_sl [.ref (ad 0), .int i1]).length) Slot.unset).toArray = ls at hl ⊢
  have hl : lv_has ls 3 [(0, .ref (ad 0)), (1, .int i1)] := hl
  clear hP hD0
  suffices main : ∀ (H : Heap) (locs : List Loc), Bd (dC, dI) [(cyI, .int)] (va_A (cW cyI ad bd τ σ) s.heap.size) s (cW cyI ad bd τ σ) H locs → W p l e (headSpec wsX2_undoLastStep rmX2_undoLastStep).room s m ([.ref (ad 0), .int i1] : List Value).toArray below meth c H locs 0 0 (MQ below (QvF (dC, dI) [(cyI, .int)] (cW cyI ad bd τ σ) (cW cyI ad bd τ σ_) s.heap.size) ([.ref (ad 0), .int i1] : List Value).toArray s 0 0 (va_A (cW cyI ad bd τ σ) s.heap.size)) (F0 m 0 ls []) from main _ _ hB
  clear hB
  intro H locs hB
  unfold mX2_undoLastStep at hf
  refine lv_aload_n hx hb dX2_undoLastStep_0 rfl (lv_at hl 0 rfl) ?_
  refine lv_iload_n hx hb dX2_undoLastStep_1 rfl (lv_at hl 1 rfl) ?_
  refine lv_iconst (v := (0 : Int32)) hx hb dX2_undoLastStep_2 (by decide) ?_
  obtain ⟨r1, hc, hf⟩ := ob1_s hf
  refine g_callVi (As := [.int i1, .int (0 : Int32)]) (rest := []) ⟨hx, hb, hml, hown, hts⟩ (kX2_doneStepFromBehind l dC dI cyI ad bd H.size hc) (cwV 2 hts gX2_undoLastStep_X2_doneStepFromBehind rfl rfl rfl (by decide +kernel) ⟨Nat.le_of_ble_eq_true rfl, Nat.le_of_ble_eq_true rfl⟩) hK hB hA (g_recv (ci := 2) hK hB 0 rfl rfl rfl) rfl hl.1 rfl (Nat.le_of_ble_eq_true rfl) dX2_undoLastStep_3 ⟨Nat.zero_le _, Nat.zero_le _⟩ (fun H locs hB => ?_)
  refine lv_istore_n (lv' := [(2, .int r1), (0, .ref (ad 0)), (1, .int i1)]) hx hb dX2_undoLastStep_6 rfl hl (by decide) rfl (fun ls hl => ?_)
  refine lv_iload_n hx hb dX2_undoLastStep_7 rfl (lv_at hl 0 rfl) ?_
  obtain ⟨σ2, hJ3, hf⟩ := ob1_s hf
  have kJ4 : ∀ (H : Heap) (locs : List Loc) (ls : Array Slot), Bd (dC, dI) [(cyI, .int)] (va_A (cW cyI ad bd τ σ) s.heap.size) s (cW cyI ad bd τ σ2) H locs → lv_has ls 3 [] → W p l e (headSpec wsX2_undoLastStep rmX2_undoLastStep).room s m ([.ref (ad 0), .int i1] : List Value).toArray below meth c H locs 0 0 (MQ below (QvF (dC, dI) [(cyI, .int)] (cW cyI ad bd τ σ) (cW cyI ad bd τ σ_) s.heap.size) ([.ref (ad 0), .int i1] : List Value).toArray s 0 0 (va_A (cW cyI ad bd τ σ) s.heap.size)) (F0 m 91 ls []) := by
    intro H locs ls hB hl
    have e0 := inj1 hf
    subst e0
    exact g_vret hx hb hr hlocks hK hB dX2_undoLastStep_91
  refine lv_if_ge (tgt := 20) hx hb dX2_undoLastStep_8 (by decide) (fun c5 => ?_) (fun c5 => ?_)
  · have hJ3 := ite_t c5 hJ3
    refine lv_aload_n hx hb dX2_undoLastStep_20 rfl (lv_at hl 1 rfl) ?_
    refine g_get (C := RX2) (T := TX2) (N := 14) hx hb hts hinX2 hown hK hB 0 rfl rfl 10 rfl hq1 rfl rfl dX2_undoLastStep_21 ?_
    refine lv_iload_n hx hb dX2_undoLastStep_24 rfl (lv_at hl 0 rfl) ?_
    obtain ⟨x6, e9, hJ3⟩ := ob1_s hJ3
    refine g_iald hx hb hK hB 8 0 rfl rfl (rd_s e9) dX2_undoLastStep_25 ?_
    refine lv_if_le (tgt := 84) hx hb dX2_undoLastStep_26 (by decide) (fun c7 => ?_) (fun c7 => ?_)
    · have hJ3 := ite_t c7 hJ3
      refine lv_aload_n hx hb dX2_undoLastStep_84 rfl (lv_at hl 1 rfl) ?_
      refine lv_iload_n hx hb dX2_undoLastStep_85 rfl (lv_at hl 2 rfl) ?_
      refine lv_iload_n hx hb dX2_undoLastStep_86 rfl (lv_at hl 0 rfl) ?_
      refine lv_iconst (v := (5 : Int32)) hx hb dX2_undoLastStep_87 (by decide) ?_
      obtain ⟨σ8, hc, hJ3⟩ := ob1_s hJ3
      refine g_callVv (As := [.int i1, .int r1, .int (5 : Int32)]) (rest := []) ⟨hx, hb, hml, hown, hts⟩ (kX2_putStepAway l dC dI cyI ad bd H.size hc) (cwV 3 hts gX2_undoLastStep_X2_putStepAway rfl rfl rfl (by decide +kernel) ⟨Nat.le_of_ble_eq_true rfl, Nat.le_of_ble_eq_true rfl⟩) hK hB hA (g_recv (ci := 2) hK hB 0 rfl rfl rfl) rfl hl.1 rfl (Nat.le_of_ble_eq_true rfl) dX2_undoLastStep_88 ⟨Nat.zero_le _, Nat.zero_le _⟩ (fun H locs hB => ?_)
      have e0 := inj1 hJ3
      subst e0
      exact kJ4 _ _ _ hB (lv_sub hl [] rfl)
    · have hJ3 := ite_f c7 hJ3
      refine lv_aload_n hx hb dX2_undoLastStep_29 rfl (lv_at hl 1 rfl) ?_
      refine g_get (C := RX2) (T := TX2) (N := 14) hx hb hts hinX2 hown hK hB 0 rfl rfl 10 rfl hq1 rfl rfl dX2_undoLastStep_30 ?_
      refine lv_iload_n hx hb dX2_undoLastStep_33 rfl (lv_at hl 0 rfl) ?_
      refine lv_dup2_11 hx hb dX2_undoLastStep_34 rfl rfl ?_
      obtain ⟨x9, e9, hJ3⟩ := ob1_s hJ3
      refine g_iald hx hb hK hB 8 0 rfl rfl (rd_s e9) dX2_undoLastStep_35 ?_
      refine lv_iconst (v := (1 : Int32)) hx hb dX2_undoLastStep_36 (by decide) ?_
      refine lv_isub hx hb dX2_undoLastStep_37 ?_
      obtain ⟨σ10, e9, hJ3⟩ := ob1_s hJ3
      obtain ⟨hi, e9⟩ := wra_s e9
      refine g_iast hx hb hK hB 8 0 rfl rfl hi rfl dX2_undoLastStep_38 (w2 := (cW cyI ad bd τ σ10)) (by rw [← e9]; rfl) (fun H locs hB => ?_)
      refine lv_aload_n hx hb dX2_undoLastStep_39 rfl (lv_at hl 1 rfl) ?_
      refine lv_dup hx hb dX2_undoLastStep_40 rfl ?_
      refine g_get (C := RX2) (T := TX2) (N := 14) hx hb hts hinX2 hown hK hB 0 rfl rfl 2 rfl hq2 rfl rfl dX2_undoLastStep_41 ?_
      refine lv_iconst (v := (1 : Int32)) hx hb dX2_undoLastStep_44 (by decide) ?_
      refine lv_iadd hx hb dX2_undoLastStep_45 ?_
      obtain ⟨σ11, e9, hJ3⟩ := ob1_s hJ3
      have e9 := inj1 e9
      refine g_put (C := RX2) (T := TX2) (N := 14) hx hb hts hinX2 tyX2 tyX2_ok nmX2 hown hK hB 0 rfl rfl 2 rfl hq2 rfl rfl rfl rfl rfl rfl dX2_undoLastStep_46 (w2 := (cW cyI ad bd τ σ11)) (by rw [← e9]; rfl) (fun H locs hB => ?_)
      refine lv_aload_n hx hb dX2_undoLastStep_49 rfl (lv_at hl 1 rfl) ?_
      refine g_get (C := RX2) (T := TX2) (N := 14) hx hb hts hinX2 hown hK hB 0 rfl rfl 8 rfl hq3 rfl rfl dX2_undoLastStep_50 ?_
      refine lv_iload_n hx hb dX2_undoLastStep_53 rfl (lv_at hl 2 rfl) ?_
      refine lv_dup2_11 hx hb dX2_undoLastStep_54 rfl rfl ?_
      obtain ⟨x12, e9, hJ3⟩ := ob1_s hJ3
      refine g_iald hx hb hK hB 6 0 rfl rfl (rd_s e9) dX2_undoLastStep_55 ?_
      refine lv_iconst (v := (1 : Int32)) hx hb dX2_undoLastStep_56 (by decide) ?_
      refine lv_iadd hx hb dX2_undoLastStep_57 ?_
      obtain ⟨σ13, e9, hJ3⟩ := ob1_s hJ3
      obtain ⟨hi, e9⟩ := wra_s e9
      refine g_iast hx hb hK hB 6 0 rfl rfl hi rfl dX2_undoLastStep_58 (w2 := (cW cyI ad bd τ σ13)) (by rw [← e9]; rfl) (fun H locs hB => ?_)
      refine lv_aload_n hx hb dX2_undoLastStep_59 rfl (lv_at hl 1 rfl) ?_
      refine g_get (C := RX2) (T := TX2) (N := 14) hx hb hts hinX2 hown hK hB 0 rfl rfl 8 rfl hq3 rfl rfl dX2_undoLastStep_60 ?_
      refine lv_iload_n hx hb dX2_undoLastStep_63 rfl (lv_at hl 2 rfl) ?_
      obtain ⟨x14, e9, hJ3⟩ := ob1_s hJ3
      refine g_iald hx hb hK hB 6 0 rfl rfl (rd_s e9) dX2_undoLastStep_64 ?_
      refine lv_aload_n hx hb dX2_undoLastStep_65 rfl (lv_at hl 1 rfl) ?_
      refine g_get (C := RX2) (T := TX2) (N := 14) hx hb hts hinX2 hown hK hB 0 rfl rfl 0 rfl hq4 rfl rfl dX2_undoLastStep_66 ?_
      refine g_get (C := RX0) (T := TX0) (N := 17) hx hb hts hinX0 hown hK hB 12 rfl rfl 1 rfl hq5 rfl rfl dX2_undoLastStep_69 ?_
      refine lv_icmp_lt (tgt := 91) hx hb dX2_undoLastStep_72 (by decide) (fun c15 => ?_) (fun c15 => ?_)
      · have hJ3 := ite_t c15 hJ3
        have e0 := inj1 hJ3
        subst e0
        exact kJ4 _ _ _ hB (lv_sub hl [] rfl)
      · have hJ3 := ite_f c15 hJ3
        refine lv_aload_n hx hb dX2_undoLastStep_75 rfl (lv_at hl 1 rfl) ?_
        refine lv_iload_n hx hb dX2_undoLastStep_76 rfl (lv_at hl 2 rfl) ?_
        refine lv_iconst (v := (5 : Int32)) hx hb dX2_undoLastStep_77 (by decide) ?_
        obtain ⟨σ16, hc, hJ3⟩ := ob1_s hJ3
        refine g_callVv (As := [.int i1, .int (5 : Int32)]) (rest := []) ⟨hx, hb, hml, hown, hts⟩ (kX2_comeToRest l dC dI cyI ad bd H.size hc) (cwV 2 hts gX2_undoLastStep_X2_comeToRest rfl rfl rfl (by decide +kernel) ⟨Nat.le_of_ble_eq_true rfl, Nat.le_of_ble_eq_true rfl⟩) hK hB hA (g_recv (ci := 2) hK hB 0 rfl rfl rfl) rfl hl.1 rfl (Nat.le_of_ble_eq_true rfl) dX2_undoLastStep_78 ⟨Nat.zero_le _, Nat.zero_le _⟩ (fun H locs hB => ?_)
        refine lv_goto (tgt := 91) hx hb dX2_undoLastStep_81 (by decide) ?_
        have e0 := inj1 hJ3
        subst e0
        exact kJ4 _ _ _ hB (lv_sub hl [] rfl)
  · have hJ3 := ite_f c5 hJ3
    refine lv_aload_n hx hb dX2_undoLastStep_11 rfl (lv_at hl 1 rfl) ?_
    refine lv_iload_n hx hb dX2_undoLastStep_12 rfl (lv_at hl 2 rfl) ?_
    refine lv_iconst (v := (4 : Int32)) hx hb dX2_undoLastStep_13 (by decide) ?_
    obtain ⟨σ17, hc, hJ3⟩ := ob1_s hJ3
    refine g_callVv (As := [.int i1, .int (4 : Int32)]) (rest := []) ⟨hx, hb, hml, hown, hts⟩ (kX2_comeToRest l dC dI cyI ad bd H.size hc) (cwV 2 hts gX2_undoLastStep_X2_comeToRest rfl rfl rfl (by decide +kernel) ⟨Nat.le_of_ble_eq_true rfl, Nat.le_of_ble_eq_true rfl⟩) hK hB hA (g_recv (ci := 2) hK hB 0 rfl rfl rfl) rfl hl.1 rfl (Nat.le_of_ble_eq_true rfl) dX2_undoLastStep_14 ⟨Nat.zero_le _, Nat.zero_le _⟩ (fun H locs hB => ?_)
    refine lv_goto (tgt := 91) hx hb dX2_undoLastStep_17 (by decide) ?_
    have e0 := inj1 hJ3
    subst e0
    exact kJ4 _ _ _ hB (lv_sub hl [] rfl)

abbrev rmX2_passTick : Room := { frames := 4, cells := 0, slots := 0, locals := 96 }

set_option maxHeartbeats 4000000 in
set_option maxRecDepth 100000 in
theorem kX2_passTick (l : Launch) (dC : Nat → ClassId) (dI : Nat → Nat → Nat) (cyI : ClassId) (ad bd : Nat → Nat) (sz : Nat) {fu : Nat} {τ : MS} {σ : MS} {σ_ : MS} (hf : mX2_passTick fu τ σ = some σ_) : Met l yX2_passTick wsX2_passTick rmX2_passTick (PcF (dC, dI) [(cyI, .int)] (cW cyI ad bd τ σ) sz [.ref (ad 0)]) (QvF (dC, dI) [(cyI, .int)] (cW cyI ad bd τ σ) (cW cyI ad bd τ σ_) sz) 0 0 (va_A (cW cyI ad bd τ σ) sz) := by
  refine Met.ofW (cc := cX2_passTick) (maxL := 3) (ret := none) (by decide) rfl ?_
  intro p e s m args below meth c s₁ B hml hv
  obtain ⟨rfl, hsz, hP, hK, hD0⟩ := hv
  have hx := B.exec
  have hb := B.bytes
  have hr := B.returns
  have hts := atoms_spec (ws := wsX2_passTick) B.pre
  have hown : s.vm.findClass RX2 = some m.cls := findClass_of_methodNamed B.named
  have hlocks := B.notSynchronized
  subst hsz
  have hA : ∀ q : Nat, s.heap.size ≤ q → va_A (cW cyI ad bd τ σ) s.heap.size q := fun q h => Or.inr h
  have hB : Bd (dC, dI) [(cyI, .int)] (va_A (cW cyI ad bd τ σ) s.heap.size) s (cW cyI ad bd τ σ) s.heap [] := ⟨hP, hD0.self, va_S.rf⟩
  have hq1 : (Cond.fieldLink RX2 52 "UndoJourneys$World" "setup" "LUndoJourneys$Setup;").before _ s = true := hts _ (List.mem_of_getElem? (i := 1) rfl)
  have hq2 : (Cond.fieldLink RX2 83 "UndoJourneys$Setup" "journeys" "I").before _ s = true := hts _ (List.mem_of_getElem? (i := 2) rfl)
  have hq3 : (Cond.fieldLink RX2 25 "UndoJourneys$World" "journeyState" "[I").before _ s = true := hts _ (List.mem_of_getElem? (i := 3) rfl)
  have hq4 : (Cond.fieldLink RX2 114 "UndoJourneys$Setup" "start" "[I").before _ s = true := hts _ (List.mem_of_getElem? (i := 4) rfl)
  have hq5 : (Cond.fieldLink RX2 9 "UndoJourneys$World" "time" "I").before _ s = true := hts _ (List.mem_of_getElem? (i := 5) rfl)
  have hinX0 : ∀ w ∈ wsX00, w ∈ wsX2_passTick := fun w h => List.mem_cons_of_mem _ (List.mem_append_right _ h)
  have hinX2 : ∀ w ∈ wsX20, w ∈ wsX2_passTick := fun w h => List.mem_cons_of_mem _ (List.mem_append_left _ (List.mem_append_right _ h))
  have hl := lv_entry [.ref (ad 0)] (n := 3) (Nat.le_of_ble_eq_true rfl)
  rw [lg_entry_eq]
  generalize (lg_sl [.ref (ad 0)] ++ List.replicate (3 - (lg_sl [.ref (ad 0)]).length) Slot.unset).toArray = ls at hl ⊢
  have hl : lv_has ls 3 [(0, .ref (ad 0))] := hl
  clear hP hD0
  suffices main : ∀ (H : Heap) (locs : List Loc), Bd (dC, dI) [(cyI, .int)] (va_A (cW cyI ad bd τ σ) s.heap.size) s (cW cyI ad bd τ σ) H locs → W p l e (headSpec wsX2_passTick rmX2_passTick).room s m ([.ref (ad 0)] : List Value).toArray below meth c H locs 0 0 (MQ below (QvF (dC, dI) [(cyI, .int)] (cW cyI ad bd τ σ) (cW cyI ad bd τ σ_) s.heap.size) ([.ref (ad 0)] : List Value).toArray s 0 0 (va_A (cW cyI ad bd τ σ) s.heap.size)) (F0 m 0 ls []) from main _ _ hB
  clear hB
  intro H locs hB
  unfold mX2_passTick at hf
  refine lv_iconst (v := (0 : Int32)) hx hb dX2_passTick_0 (by decide) ?_
  refine lv_istore_n (lv' := [(1, .int (0 : Int32)), (0, .ref (ad 0))]) hx hb dX2_passTick_1 rfl hl (by decide) rfl (fun ls hl => ?_)
  refine lv_iconst (v := (0 : Int32)) hx hb dX2_passTick_2 (by decide) ?_
  refine lv_istore_n (lv' := [(2, .int (0 : Int32)), (1, .int (0 : Int32)), (0, .ref (ad 0))]) hx hb dX2_passTick_3 rfl hl (by decide) rfl (fun ls hl => ?_)
  obtain ⟨v20, σ21, hL24, hf⟩ := ob2_s hf
  have kE22 : ∀ (H : Heap) (locs : List Loc) (ls : Array Slot), Bd (dC, dI) [(cyI, .int)] (va_A (cW cyI ad bd τ σ) s.heap.size) s (cW cyI ad bd τ σ21) H locs → lv_has ls 3 [(1, .int v20), (0, .ref (ad 0))] → W p l e (headSpec wsX2_passTick rmX2_passTick).room s m ([.ref (ad 0)] : List Value).toArray below meth c H locs 0 0 (MQ below (QvF (dC, dI) [(cyI, .int)] (cW cyI ad bd τ σ) (cW cyI ad bd τ σ_) s.heap.size) ([.ref (ad 0)] : List Value).toArray s 0 0 (va_A (cW cyI ad bd τ σ) s.heap.size)) (F0 m 78 ls []) := by
    intro H locs ls hB hl
    refine lv_iconst (v := (0 : Int32)) hx hb dX2_passTick_78 (by decide) ?_
    refine lv_istore_n (lv' := [(2, .int (0 : Int32)), (1, .int v20), (0, .ref (ad 0))]) hx hb dX2_passTick_79 rfl hl (by decide) rfl (fun ls hl => ?_)
    obtain ⟨σ37, hL40, hf⟩ := ob1_s hf
    have kE38 : ∀ (H : Heap) (locs : List Loc) (ls : Array Slot), Bd (dC, dI) [(cyI, .int)] (va_A (cW cyI ad bd τ σ) s.heap.size) s (cW cyI ad bd τ σ37) H locs → lv_has ls 3 [(1, .int v20), (0, .ref (ad 0))] → W p l e (headSpec wsX2_passTick rmX2_passTick).room s m ([.ref (ad 0)] : List Value).toArray below meth c H locs 0 0 (MQ below (QvF (dC, dI) [(cyI, .int)] (cW cyI ad bd τ σ) (cW cyI ad bd τ σ_) s.heap.size) ([.ref (ad 0)] : List Value).toArray s 0 0 (va_A (cW cyI ad bd τ σ) s.heap.size)) (F0 m 112 ls []) := by
      intro H locs ls hB hl
      refine lv_iconst (v := (0 : Int32)) hx hb dX2_passTick_112 (by decide) ?_
      refine lv_istore_n (lv' := [(2, .int (0 : Int32)), (1, .int v20), (0, .ref (ad 0))]) hx hb dX2_passTick_113 rfl hl (by decide) rfl (fun ls hl => ?_)
      obtain ⟨σ52, hL55, hf⟩ := ob1_s hf
      have kE53 : ∀ (H : Heap) (locs : List Loc) (ls : Array Slot), Bd (dC, dI) [(cyI, .int)] (va_A (cW cyI ad bd τ σ) s.heap.size) s (cW cyI ad bd τ σ52) H locs → lv_has ls 3 [(0, .ref (ad 0))] → W p l e (headSpec wsX2_passTick rmX2_passTick).room s m ([.ref (ad 0)] : List Value).toArray below meth c H locs 0 0 (MQ below (QvF (dC, dI) [(cyI, .int)] (cW cyI ad bd τ σ) (cW cyI ad bd τ σ_) s.heap.size) ([.ref (ad 0)] : List Value).toArray s 0 0 (va_A (cW cyI ad bd τ σ) s.heap.size)) (F0 m 145 ls []) := by
        intro H locs ls hB hl
        refine lv_aload_n hx hb dX2_passTick_145 rfl (lv_at hl 0 rfl) ?_
        refine lv_dup hx hb dX2_passTick_146 rfl ?_
        refine g_get (C := RX2) (T := TX2) (N := 14) hx hb hts hinX2 hown hK hB 0 rfl rfl 1 rfl hq5 rfl rfl dX2_passTick_147 ?_
        refine lv_iconst (v := (1 : Int32)) hx hb dX2_passTick_150 (by decide) ?_
        refine lv_iadd hx hb dX2_passTick_151 ?_
        obtain ⟨σ57, e9, hf⟩ := ob1_s hf
        have e9 := inj1 e9
        refine g_put (C := RX2) (T := TX2) (N := 14) hx hb hts hinX2 tyX2 tyX2_ok nmX2 hown hK hB 0 rfl rfl 1 rfl hq5 rfl rfl rfl rfl rfl rfl dX2_passTick_152 (w2 := (cW cyI ad bd τ σ57)) (by rw [← e9]; rfl) (fun H locs hB => ?_)
        have e0 := inj1 hf
        subst e0
        exact g_vret hx hb hr hlocks hK hB dX2_passTick_155
      have key54 : ∀ (n9 : Nat) (v59 : Int32) (σ60 : MS) (H : Heap) (locs : List Loc) (ls : Array Slot), loopM (fun st => mX2_passTick_L114 fu v20 τ st.1 st.2) n9 (v59, σ60) = some σ52 → Bd (dC, dI) [(cyI, .int)] (va_A (cW cyI ad bd τ σ) s.heap.size) s (cW cyI ad bd τ σ60) H locs → lv_has ls 3 [(2, .int v59), (1, .int v20), (0, .ref (ad 0))] → W p l e (headSpec wsX2_passTick rmX2_passTick).room s m ([.ref (ad 0)] : List Value).toArray below meth c H locs 0 0 (MQ below (QvF (dC, dI) [(cyI, .int)] (cW cyI ad bd τ σ) (cW cyI ad bd τ σ_) s.heap.size) ([.ref (ad 0)] : List Value).toArray s 0 0 (va_A (cW cyI ad bd τ σ) s.heap.size)) (F0 m 114 ls []) := by
        intro n9
        induction n9 with
        | zero => intro v59 σ60 H locs ls hL55; exact (loopM_z hL55).elim
        | succ n9 ih9 =>
          intro v59 σ60 H locs ls hL55 hB hl
          obtain ⟨o61, hg56, hL55⟩ := loopM_s hL55
          have hg56 : mX2_passTick_L114 fu v20 τ v59 σ60 = some o61 := hg56
          unfold mX2_passTick_L114 at hg56
          refine lv_iload_n hx hb dX2_passTick_114 rfl (lv_at hl 0 rfl) ?_
          refine lv_aload_n hx hb dX2_passTick_115 rfl (lv_at hl 2 rfl) ?_
          refine g_get (C := RX2) (T := TX2) (N := 14) hx hb hts hinX2 hown hK hB 0 rfl rfl 0 rfl hq1 rfl rfl dX2_passTick_116 ?_
          refine g_get (C := RX0) (T := TX0) (N := 17) hx hb hts hinX0 hown hK hB 12 rfl rfl 5 rfl hq2 rfl rfl dX2_passTick_119 ?_
          refine lv_icmp_ge (tgt := 145) hx hb dX2_passTick_122 (by decide) (fun c62 => ?_) (fun c62 => ?_)
          · have hg56 := ite_t c62 hg56
            have hL55 := el1_l (inj1 hg56) hL55
            have e0 := inj1 hL55
            subst e0
            exact kE53 _ _ _ hB (lv_sub hl [2] rfl)
          · have hg56 := ite_f c62 hg56
            refine lv_iload_n hx hb dX2_passTick_125 rfl (lv_at hl 1 rfl) ?_
            refine lv_iload_n hx hb dX2_passTick_126 rfl (lv_at hl 0 rfl) ?_
            refine lv_ishr hx hb dX2_passTick_127 ?_
            refine lv_iconst (v := (1 : Int32)) hx hb dX2_passTick_128 (by decide) ?_
            refine lv_iand hx hb dX2_passTick_129 ?_
            refine lv_iconst (v := (1 : Int32)) hx hb dX2_passTick_130 (by decide) ?_
            obtain ⟨σ63, hJ64, hg56⟩ := ob1_s hg56
            have kJ65 : ∀ (H : Heap) (locs : List Loc) (ls : Array Slot), Bd (dC, dI) [(cyI, .int)] (va_A (cW cyI ad bd τ σ) s.heap.size) s (cW cyI ad bd τ σ63) H locs → lv_has ls 3 [(2, .int v59), (1, .int v20), (0, .ref (ad 0))] → W p l e (headSpec wsX2_passTick rmX2_passTick).room s m ([.ref (ad 0)] : List Value).toArray below meth c H locs 0 0 (MQ below (QvF (dC, dI) [(cyI, .int)] (cW cyI ad bd τ σ) (cW cyI ad bd τ σ_) s.heap.size) ([.ref (ad 0)] : List Value).toArray s 0 0 (va_A (cW cyI ad bd τ σ) s.heap.size)) (F0 m 139 ls []) := by
              intro H locs ls hB hl
              refine lv_iinc (v := (v59 + (1 : Int32))) (lv' := [(2, .int (v59 + (1 : Int32))), (1, .int v20), (0, .ref (ad 0))]) hx hb dX2_passTick_139 hl (k := 0) rfl rfl (by decide) rfl (fun ls hl => ?_)
              refine lv_goto (tgt := 114) hx hb dX2_passTick_142 (by decide) ?_
              have hL55 := el1_r (inj1 hg56) hL55
              exact ih9 _ _ _ _ _ hL55 hB (lv_sub hl [0, 1, 2] rfl)
            refine lv_icmp_ne (tgt := 139) hx hb dX2_passTick_131 (by decide) (fun c66 => ?_) (fun c66 => ?_)
            · have hJ64 := ite_f c66 hJ64
              have e0 := inj1 hJ64
              subst e0
              exact kJ65 _ _ _ hB (lv_sub hl [0, 1, 2] rfl)
            · have hJ64 := ite_t c66 hJ64
              refine lv_aload_n hx hb dX2_passTick_134 rfl (lv_at hl 2 rfl) ?_
              refine lv_iload_n hx hb dX2_passTick_135 rfl (lv_at hl 0 rfl) ?_
              obtain ⟨σ67, hc, hJ64⟩ := ob1_s hJ64
              refine g_callVv (As := [.int v59]) (rest := []) ⟨hx, hb, hml, hown, hts⟩ (kX2_undoLastStep l dC dI cyI ad bd H.size hc) (cwV 1 hts gX2_passTick_X2_undoLastStep rfl rfl rfl (by decide +kernel) ⟨Nat.le_of_ble_eq_true rfl, Nat.le_of_ble_eq_true rfl⟩) hK hB hA (g_recv (ci := 2) hK hB 0 rfl rfl rfl) rfl hl.1 rfl (Nat.le_of_ble_eq_true rfl) dX2_passTick_136 ⟨Nat.zero_le _, Nat.zero_le _⟩ (fun H locs hB => ?_)
              have e0 := inj1 hJ64
              subst e0
              exact kJ65 _ _ _ hB (lv_sub hl [0, 1, 2] rfl)
      exact key54 fu _ _ _ _ _ hL55 hB (lv_sub hl [0, 1, 2] rfl)
    have key39 : ∀ (n9 : Nat) (v69 : Int32) (σ70 : MS) (H : Heap) (locs : List Loc) (ls : Array Slot), loopM (fun st => mX2_passTick_L80 fu v20 τ st.1 st.2) n9 (v69, σ70) = some σ37 → Bd (dC, dI) [(cyI, .int)] (va_A (cW cyI ad bd τ σ) s.heap.size) s (cW cyI ad bd τ σ70) H locs → lv_has ls 3 [(2, .int v69), (1, .int v20), (0, .ref (ad 0))] → W p l e (headSpec wsX2_passTick rmX2_passTick).room s m ([.ref (ad 0)] : List Value).toArray below meth c H locs 0 0 (MQ below (QvF (dC, dI) [(cyI, .int)] (cW cyI ad bd τ σ) (cW cyI ad bd τ σ_) s.heap.size) ([.ref (ad 0)] : List Value).toArray s 0 0 (va_A (cW cyI ad bd τ σ) s.heap.size)) (F0 m 80 ls []) := by
      intro n9
      induction n9 with
      | zero => intro v69 σ70 H locs ls hL40; exact (loopM_z hL40).elim
      | succ n9 ih9 =>
        intro v69 σ70 H locs ls hL40 hB hl
        obtain ⟨o71, hg41, hL40⟩ := loopM_s hL40
        have hg41 : mX2_passTick_L80 fu v20 τ v69 σ70 = some o71 := hg41
        unfold mX2_passTick_L80 at hg41
        refine lv_iload_n hx hb dX2_passTick_80 rfl (lv_at hl 0 rfl) ?_
        refine lv_aload_n hx hb dX2_passTick_81 rfl (lv_at hl 2 rfl) ?_
        refine g_get (C := RX2) (T := TX2) (N := 14) hx hb hts hinX2 hown hK hB 0 rfl rfl 0 rfl hq1 rfl rfl dX2_passTick_82 ?_
        refine g_get (C := RX0) (T := TX0) (N := 17) hx hb hts hinX0 hown hK hB 12 rfl rfl 5 rfl hq2 rfl rfl dX2_passTick_85 ?_
        refine lv_icmp_ge (tgt := 112) hx hb dX2_passTick_88 (by decide) (fun c72 => ?_) (fun c72 => ?_)
        · have hg41 := ite_t c72 hg41
          have hL40 := el1_l (inj1 hg41) hL40
          have e0 := inj1 hL40
          subst e0
          exact kE38 _ _ _ hB (lv_sub hl [1, 2] rfl)
        · have hg41 := ite_f c72 hg41
          refine lv_aload_n hx hb dX2_passTick_91 rfl (lv_at hl 2 rfl) ?_
          refine g_get (C := RX2) (T := TX2) (N := 14) hx hb hts hinX2 hown hK hB 0 rfl rfl 5 rfl hq3 rfl rfl dX2_passTick_92 ?_
          refine lv_iload_n hx hb dX2_passTick_95 rfl (lv_at hl 0 rfl) ?_
          obtain ⟨x73, e9, hg41⟩ := ob1_s hg41
          refine g_iald hx hb hK hB 3 0 rfl rfl (rd_s e9) dX2_passTick_96 ?_
          refine lv_iconst (v := (1 : Int32)) hx hb dX2_passTick_97 (by decide) ?_
          obtain ⟨σ74, hJ75, hg41⟩ := ob1_s hg41
          have kJ76 : ∀ (H : Heap) (locs : List Loc) (ls : Array Slot), Bd (dC, dI) [(cyI, .int)] (va_A (cW cyI ad bd τ σ) s.heap.size) s (cW cyI ad bd τ σ74) H locs → lv_has ls 3 [(2, .int v69), (1, .int v20), (0, .ref (ad 0))] → W p l e (headSpec wsX2_passTick rmX2_passTick).room s m ([.ref (ad 0)] : List Value).toArray below meth c H locs 0 0 (MQ below (QvF (dC, dI) [(cyI, .int)] (cW cyI ad bd τ σ) (cW cyI ad bd τ σ_) s.heap.size) ([.ref (ad 0)] : List Value).toArray s 0 0 (va_A (cW cyI ad bd τ σ) s.heap.size)) (F0 m 106 ls []) := by
            intro H locs ls hB hl
            refine lv_iinc (v := (v69 + (1 : Int32))) (lv' := [(2, .int (v69 + (1 : Int32))), (1, .int v20), (0, .ref (ad 0))]) hx hb dX2_passTick_106 hl (k := 0) rfl rfl (by decide) rfl (fun ls hl => ?_)
            refine lv_goto (tgt := 80) hx hb dX2_passTick_109 (by decide) ?_
            have hL40 := el1_r (inj1 hg41) hL40
            exact ih9 _ _ _ _ _ hL40 hB (lv_sub hl [0, 1, 2] rfl)
          refine lv_icmp_ne (tgt := 106) hx hb dX2_passTick_98 (by decide) (fun c77 => ?_) (fun c77 => ?_)
          · have hJ75 := ite_f c77 hJ75
            have e0 := inj1 hJ75
            subst e0
            exact kJ76 _ _ _ hB (lv_sub hl [0, 1, 2] rfl)
          · have hJ75 := ite_t c77 hJ75
            refine lv_aload_n hx hb dX2_passTick_101 rfl (lv_at hl 2 rfl) ?_
            refine lv_iload_n hx hb dX2_passTick_102 rfl (lv_at hl 0 rfl) ?_
            obtain ⟨σ78, hc, hJ75⟩ := ob1_s hJ75
            refine g_callVv (As := [.int v69]) (rest := []) ⟨hx, hb, hml, hown, hts⟩ (kX2_moveForward l dC dI cyI ad bd H.size hc) (cwV 1 hts gX2_passTick_X2_moveForward rfl rfl rfl (by decide +kernel) ⟨Nat.le_of_ble_eq_true rfl, Nat.le_of_ble_eq_true rfl⟩) hK hB hA (g_recv (ci := 2) hK hB 0 rfl rfl rfl) rfl hl.1 rfl (Nat.le_of_ble_eq_true rfl) dX2_passTick_103 ⟨Nat.zero_le _, Nat.zero_le _⟩ (fun H locs hB => ?_)
            have e0 := inj1 hJ75
            subst e0
            exact kJ76 _ _ _ hB (lv_sub hl [0, 1, 2] rfl)
    exact key39 fu _ _ _ _ _ hL40 hB (lv_sub hl [0, 1, 2] rfl)
  have key23 : ∀ (n9 : Nat) (v80 : Int32) (v81 : Int32) (σ82 : MS) (H : Heap) (locs : List Loc) (ls : Array Slot), loopM (fun st => mX2_passTick_L4 fu τ st.1 st.2.1 st.2.2) n9 (v80, v81, σ82) = some (v20, σ21) → Bd (dC, dI) [(cyI, .int)] (va_A (cW cyI ad bd τ σ) s.heap.size) s (cW cyI ad bd τ σ82) H locs → lv_has ls 3 [(2, .int v80), (1, .int v81), (0, .ref (ad 0))] → W p l e (headSpec wsX2_passTick rmX2_passTick).room s m ([.ref (ad 0)] : List Value).toArray below meth c H locs 0 0 (MQ below (QvF (dC, dI) [(cyI, .int)] (cW cyI ad bd τ σ) (cW cyI ad bd τ σ_) s.heap.size) ([.ref (ad 0)] : List Value).toArray s 0 0 (va_A (cW cyI ad bd τ σ) s.heap.size)) (F0 m 4 ls []) := by
    intro n9
    induction n9 with
    | zero => intro v80 v81 σ82 H locs ls hL24; exact (loopM_z hL24).elim
    | succ n9 ih9 =>
      intro v80 v81 σ82 H locs ls hL24 hB hl
      obtain ⟨o83, hg25, hL24⟩ := loopM_s hL24
      have hg25 : mX2_passTick_L4 fu τ v80 v81 σ82 = some o83 := hg25
      unfold mX2_passTick_L4 at hg25
      refine lv_iload_n hx hb dX2_passTick_4 rfl (lv_at hl 0 rfl) ?_
      refine lv_aload_n hx hb dX2_passTick_5 rfl (lv_at hl 2 rfl) ?_
      refine g_get (C := RX2) (T := TX2) (N := 14) hx hb hts hinX2 hown hK hB 0 rfl rfl 0 rfl hq1 rfl rfl dX2_passTick_6 ?_
      refine g_get (C := RX0) (T := TX0) (N := 17) hx hb hts hinX0 hown hK hB 12 rfl rfl 5 rfl hq2 rfl rfl dX2_passTick_9 ?_
      refine lv_icmp_ge (tgt := 78) hx hb dX2_passTick_12 (by decide) (fun c84 => ?_) (fun c84 => ?_)
      · have hg25 := ite_t c84 hg25
        have hL24 := el1_l (inj1 hg25) hL24
        obtain ⟨e0, e1⟩ := inj2 hL24
        subst e0
        subst e1
        exact kE22 _ _ _ hB (lv_sub hl [1, 2] rfl)
      · have hg25 := ite_f c84 hg25
        refine lv_aload_n hx hb dX2_passTick_15 rfl (lv_at hl 2 rfl) ?_
        refine g_get (C := RX2) (T := TX2) (N := 14) hx hb hts hinX2 hown hK hB 0 rfl rfl 5 rfl hq3 rfl rfl dX2_passTick_16 ?_
        refine lv_iload_n hx hb dX2_passTick_19 rfl (lv_at hl 0 rfl) ?_
        obtain ⟨x85, e9, hg25⟩ := ob1_s hg25
        refine g_iald hx hb hK hB 3 0 rfl rfl (rd_s e9) dX2_passTick_20 ?_
        refine lv_iconst (v := (2 : Int32)) hx hb dX2_passTick_21 (by decide) ?_
        obtain ⟨v86, σ87, hJ88, hg25⟩ := ob2_s hg25
        have kJ89 : ∀ (H : Heap) (locs : List Loc) (ls : Array Slot), Bd (dC, dI) [(cyI, .int)] (va_A (cW cyI ad bd τ σ) s.heap.size) s (cW cyI ad bd τ σ87) H locs → lv_has ls 3 [(2, .int v80), (1, .int v86), (0, .ref (ad 0))] → W p l e (headSpec wsX2_passTick rmX2_passTick).room s m ([.ref (ad 0)] : List Value).toArray below meth c H locs 0 0 (MQ below (QvF (dC, dI) [(cyI, .int)] (cW cyI ad bd τ σ) (cW cyI ad bd τ σ_) s.heap.size) ([.ref (ad 0)] : List Value).toArray s 0 0 (va_A (cW cyI ad bd τ σ) s.heap.size)) (F0 m 72 ls []) := by
          intro H locs ls hB hl
          refine lv_iinc (v := (v80 + (1 : Int32))) (lv' := [(2, .int (v80 + (1 : Int32))), (1, .int v86), (0, .ref (ad 0))]) hx hb dX2_passTick_72 hl (k := 0) rfl rfl (by decide) rfl (fun ls hl => ?_)
          refine lv_goto (tgt := 4) hx hb dX2_passTick_75 (by decide) ?_
          have hL24 := el1_r (inj1 hg25) hL24
          exact ih9 _ _ _ _ _ _ hL24 hB (lv_sub hl [0, 1, 2] rfl)
        refine lv_icmp_ne (tgt := 34) hx hb dX2_passTick_22 (by decide) (fun c90 => ?_) (fun c90 => ?_)
        · have hJ88 := ite_f c90 hJ88
          refine lv_aload_n hx hb dX2_passTick_34 rfl (lv_at hl 2 rfl) ?_
          refine g_get (C := RX2) (T := TX2) (N := 14) hx hb hts hinX2 hown hK hB 0 rfl rfl 5 rfl hq3 rfl rfl dX2_passTick_35 ?_
          refine lv_iload_n hx hb dX2_passTick_38 rfl (lv_at hl 0 rfl) ?_
          obtain ⟨x91, e9, hJ88⟩ := ob1_s hJ88
          refine g_iald hx hb hK hB 3 0 rfl rfl (rd_s e9) dX2_passTick_39 ?_
          obtain ⟨t92, hD93, hJ88⟩ := ob1_s hJ88
          have kTt92 : t92 = true → ∀ (H : Heap) (locs : List Loc), Bd (dC, dI) [(cyI, .int)] (va_A (cW cyI ad bd τ σ) s.heap.size) s (cW cyI ad bd τ σ82) H locs → W p l e (headSpec wsX2_passTick rmX2_passTick).room s m ([.ref (ad 0)] : List Value).toArray below meth c H locs 0 0 (MQ below (QvF (dC, dI) [(cyI, .int)] (cW cyI ad bd τ σ) (cW cyI ad bd τ σ_) s.heap.size) ([.ref (ad 0)] : List Value).toArray s 0 0 (va_A (cW cyI ad bd τ σ) s.heap.size)) (F0 m 59 ls []) := by
            intro ht H locs hB
            have hJ88 := cnd_t ht hJ88
            refine lv_aload_n hx hb dX2_passTick_59 rfl (lv_at hl 2 rfl) ?_
            refine g_get (C := RX2) (T := TX2) (N := 14) hx hb hts hinX2 hown hK hB 0 rfl rfl 5 rfl hq3 rfl rfl dX2_passTick_60 ?_
            refine lv_iload_n hx hb dX2_passTick_63 rfl (lv_at hl 0 rfl) ?_
            refine lv_iconst (v := (1 : Int32)) hx hb dX2_passTick_64 (by decide) ?_
            obtain ⟨σ97, e9, hJ88⟩ := ob1_s hJ88
            obtain ⟨hi, e9⟩ := wra_s e9
            refine g_iast hx hb hK hB 3 0 rfl rfl hi rfl dX2_passTick_65 (w2 := (cW cyI ad bd τ σ97)) (by rw [← e9]; rfl) (fun H locs hB => ?_)
            refine lv_aload_n hx hb dX2_passTick_66 rfl (lv_at hl 2 rfl) ?_
            refine lv_iload_n hx hb dX2_passTick_67 rfl (lv_at hl 0 rfl) ?_
            refine lv_iconst (v := (0 : Int32)) hx hb dX2_passTick_68 (by decide) ?_
            obtain ⟨σ98, hc, hJ88⟩ := ob1_s hJ88
            refine g_callVv (As := [.int v80, .int (0 : Int32)]) (rest := []) ⟨hx, hb, hml, hown, hts⟩ (kX2_enterStage l dC dI cyI ad bd H.size hc) (cwV 2 hts gX2_passTick_X2_enterStage rfl rfl rfl (by decide +kernel) ⟨Nat.le_of_ble_eq_true rfl, Nat.le_of_ble_eq_true rfl⟩) hK hB hA (g_recv (ci := 2) hK hB 0 rfl rfl rfl) rfl hl.1 rfl (Nat.le_of_ble_eq_true rfl) dX2_passTick_69 ⟨Nat.zero_le _, Nat.zero_le _⟩ (fun H locs hB => ?_)
            obtain ⟨e0, e1⟩ := inj2 hJ88
            subst e0
            subst e1
            exact kJ89 _ _ _ hB (lv_sub hl [0, 1, 2] rfl)
          have kFt92 : t92 = false → ∀ (H : Heap) (locs : List Loc), Bd (dC, dI) [(cyI, .int)] (va_A (cW cyI ad bd τ σ) s.heap.size) s (cW cyI ad bd τ σ82) H locs → W p l e (headSpec wsX2_passTick rmX2_passTick).room s m ([.ref (ad 0)] : List Value).toArray below meth c H locs 0 0 (MQ below (QvF (dC, dI) [(cyI, .int)] (cW cyI ad bd τ σ) (cW cyI ad bd τ σ_) s.heap.size) ([.ref (ad 0)] : List Value).toArray s 0 0 (va_A (cW cyI ad bd τ σ) s.heap.size)) (F0 m 72 ls []) := by
            intro ht H locs hB
            have hJ88 := cnd_f ht hJ88
            obtain ⟨e0, e1⟩ := inj2 hJ88
            subst e0
            subst e1
            exact kJ89 _ _ _ hB (lv_sub hl [0, 1, 2] rfl)
          refine lv_if_ne (tgt := 72) hx hb dX2_passTick_40 (by decide) (fun c94 => ?_) (fun c94 => ?_)
          · have hD93 := ite_f c94 hD93
            have e0 := inj1 hD93
            exact kFt92 e0.symm _ _ hB
          · have hD93 := ite_t c94 hD93
            refine lv_aload_n hx hb dX2_passTick_43 rfl (lv_at hl 2 rfl) ?_
            refine g_get (C := RX2) (T := TX2) (N := 14) hx hb hts hinX2 hown hK hB 0 rfl rfl 0 rfl hq1 rfl rfl dX2_passTick_44 ?_
            refine g_get (C := RX0) (T := TX0) (N := 17) hx hb hts hinX0 hown hK hB 12 rfl rfl 6 rfl hq4 rfl rfl dX2_passTick_47 ?_
            refine lv_iload_n hx hb dX2_passTick_50 rfl (lv_at hl 0 rfl) ?_
            obtain ⟨x95, e9, hD93⟩ := ob1_s hD93
            refine g_iald hx hb hK hB 15 0 rfl rfl (rd_s e9) dX2_passTick_51 ?_
            refine lv_aload_n hx hb dX2_passTick_52 rfl (lv_at hl 2 rfl) ?_
            refine g_get (C := RX2) (T := TX2) (N := 14) hx hb hts hinX2 hown hK hB 0 rfl rfl 1 rfl hq5 rfl rfl dX2_passTick_53 ?_
            refine lv_icmp_ne (tgt := 72) hx hb dX2_passTick_56 (by decide) (fun c96 => ?_) (fun c96 => ?_)
            · have hD93 := ite_f c96 hD93
              have e0 := inj1 hD93
              exact kFt92 e0.symm _ _ hB
            · have hD93 := ite_t c96 hD93
              have e0 := inj1 hD93
              exact kTt92 e0.symm _ _ hB
        · have hJ88 := ite_t c90 hJ88
          refine lv_iload_n hx hb dX2_passTick_25 rfl (lv_at hl 1 rfl) ?_
          refine lv_iconst (v := (1 : Int32)) hx hb dX2_passTick_26 (by decide) ?_
          refine lv_iload_n hx hb dX2_passTick_27 rfl (lv_at hl 0 rfl) ?_
          refine lv_ishl hx hb dX2_passTick_28 ?_
          refine lv_ior hx hb dX2_passTick_29 ?_
          refine lv_istore_n (lv' := [(1, .int (v81 ||| ((1 : Int32) <<< (v80 &&& 31)))), (2, .int v80), (0, .ref (ad 0))]) hx hb dX2_passTick_30 rfl hl (by decide) rfl (fun ls hl => ?_)
          refine lv_goto (tgt := 72) hx hb dX2_passTick_31 (by decide) ?_
          obtain ⟨e0, e1⟩ := inj2 hJ88
          subst e0
          subst e1
          exact kJ89 _ _ _ hB (lv_sub hl [1, 0, 2] rfl)
  exact key23 fu _ _ _ _ _ _ hL24 hB (lv_sub hl [0, 1, 2] rfl)

abbrev rmX2_passTicks : Room := { frames := 5, cells := 0, slots := 0, locals := 118 }

set_option maxHeartbeats 4000000 in
set_option maxRecDepth 100000 in
theorem kX2_passTicks (l : Launch) (dC : Nat → ClassId) (dI : Nat → Nat → Nat) (cyI : ClassId) (ad bd : Nat → Nat) (sz : Nat) {fu : Nat} {τ : MS} {σ : MS} {i1 : Int32} {i2 : Int32} {σ_ : MS} (hf : mX2_passTicks fu τ σ i1 i2 = some σ_) : Met l yX2_passTicks wsX2_passTicks rmX2_passTicks (PcF (dC, dI) [(cyI, .int)] (cW cyI ad bd τ σ) sz [.ref (ad 0), .int i1, .int i2]) (QvF (dC, dI) [(cyI, .int)] (cW cyI ad bd τ σ) (cW cyI ad bd τ σ_) sz) 0 0 (va_A (cW cyI ad bd τ σ) sz) := by
  refine Met.ofW (cc := cX2_passTicks) (maxL := 5) (ret := none) (by decide) rfl ?_
  intro p e s m args below meth c s₁ B hml hv
  obtain ⟨rfl, hsz, hP, hK, hD0⟩ := hv
  have hx := B.exec
  have hb := B.bytes
  have hr := B.returns
  have hts := atoms_spec (ws := wsX2_passTicks) B.pre
  have hown : s.vm.findClass RX2 = some m.cls := findClass_of_methodNamed B.named
  have hlocks := B.notSynchronized
  subst hsz
  have hA : ∀ q : Nat, s.heap.size ≤ q → va_A (cW cyI ad bd τ σ) s.heap.size q := fun q h => Or.inr h
  have hB : Bd (dC, dI) [(cyI, .int)] (va_A (cW cyI ad bd τ σ) s.heap.size) s (cW cyI ad bd τ σ) s.heap [] := ⟨hP, hD0.self, va_S.rf⟩
  have hq1 : (Cond.fieldLink RX2 9 "UndoJourneys$World" "time" "I").before _ s = true := hts _ (List.mem_of_getElem? (i := 1) rfl)
  have hq2 : (Cond.methodLink RX2 159 Lib.Math.min.name).before _ s = true := hts _ (List.mem_of_getElem? (i := 2) rfl)
  have hq3 : (Cond.static Lib.Math.min.name).before _ s = true := hts _ (List.mem_of_getElem? (i := 3) rfl)
  have hq4 : (Cond.initialized "java/lang/Math").before _ s = true := hts _ (List.mem_of_getElem? (i := 4) rfl)
  have hq5 : (Cond.code Lib.Math.min.name Lib.Math.min.code 2 (some .int)).before _ s = true := hts _ (List.mem_of_getElem? (i := 5) rfl)
  have hinX0 : ∀ w ∈ wsX00, w ∈ wsX2_passTicks := fun w h => List.mem_cons_of_mem _ (List.mem_append_right _ h)
  have hinX2 : ∀ w ∈ wsX20, w ∈ wsX2_passTicks := fun w h => List.mem_cons_of_mem _ (List.mem_append_left _ (List.mem_append_right _ h))
  have hl := lv_entry [.ref (ad 0), .int i1, .int i2] (n := 5) (Nat.le_of_ble_eq_true rfl)
  rw [lg_entry_eq]
  generalize (lg_sl [.ref (ad 0), .int i1, .int i2] ++ List.replicate (5 - (lg_sl [.ref (ad 0), .int i1, .int i2]).length) Slot.unset).toArray = ls at hl ⊢
  have hl : lv_has ls 5 [(0, .ref (ad 0)), (1, .int i1), (2, .int i2)] := hl
  clear hP hD0
  suffices main : ∀ (H : Heap) (locs : List Loc), Bd (dC, dI) [(cyI, .int)] (va_A (cW cyI ad bd τ σ) s.heap.size) s (cW cyI ad bd τ σ) H locs → W p l e (headSpec wsX2_passTicks rmX2_passTicks).room s m ([.ref (ad 0), .int i1, .int i2] : List Value).toArray below meth c H locs 0 0 (MQ below (QvF (dC, dI) [(cyI, .int)] (cW cyI ad bd τ σ) (cW cyI ad bd τ σ_) s.heap.size) ([.ref (ad 0), .int i1, .int i2] : List Value).toArray s 0 0 (va_A (cW cyI ad bd τ σ) s.heap.size)) (F0 m 0 ls []) from main _ _ hB
  clear hB
  intro H locs hB
  unfold mX2_passTicks at hf
  refine lv_aload_n hx hb dX2_passTicks_0 rfl (lv_at hl 0 rfl) ?_
  refine g_get (C := RX2) (T := TX2) (N := 14) hx hb hts hinX2 hown hK hB 0 rfl rfl 1 rfl hq1 rfl rfl dX2_passTicks_1 ?_
  refine lv_iload_n hx hb dX2_passTicks_4 rfl (lv_at hl 1 rfl) ?_
  refine lv_iadd hx hb dX2_passTicks_5 ?_
  refine lv_istore_n (lv' := [(3, .int ((σ 1 0) + i1)), (0, .ref (ad 0)), (1, .int i1), (2, .int i2)]) hx hb dX2_passTicks_6 rfl hl (by decide) rfl (fun ls hl => ?_)
  refine lv_iconst (v := (0 : Int32)) hx hb dX2_passTicks_7 (by decide) ?_
  refine lv_istore (lv' := [(4, .int (0 : Int32)), (3, .int ((σ 1 0) + i1)), (0, .ref (ad 0)), (1, .int i1), (2, .int i2)]) hx hb dX2_passTicks_8 hl (by decide) rfl (fun ls hl => ?_)
  obtain ⟨b29, hL27, hf⟩ := ob1_s hf
  have kE25 : ∀ (σ24 : MS) (H : Heap) (locs : List Loc) (ls : Array Slot), Sum.inr σ24 = b29 → Bd (dC, dI) [(cyI, .int)] (va_A (cW cyI ad bd τ σ) s.heap.size) s (cW cyI ad bd τ σ24) H locs → lv_has ls 5 [] → W p l e (headSpec wsX2_passTicks rmX2_passTicks).room s m ([.ref (ad 0), .int i1, .int i2] : List Value).toArray below meth c H locs 0 0 (MQ below (QvF (dC, dI) [(cyI, .int)] (cW cyI ad bd τ σ) (cW cyI ad bd τ σ_) s.heap.size) ([.ref (ad 0), .int i1, .int i2] : List Value).toArray s 0 0 (va_A (cW cyI ad bd τ σ) s.heap.size)) (F0 m 67 ls []) := by
    intro σ24 H locs ls hb9 hB hl
    have hf := el1_r hb9 hf
    have e0 := inj1 hf
    subst e0
    exact g_vret hx hb hr hlocks hK hB dX2_passTicks_67
  have key26 : ∀ (n9 : Nat) (v30 : Int32) (σ31 : MS) (H : Heap) (locs : List Loc) (ls : Array Slot), loopM (fun st => mX2_passTicks_L10 fu ((σ 1 0) + i1) i1 i2 τ st.1 st.2) n9 (v30, σ31) = some b29 → Bd (dC, dI) [(cyI, .int)] (va_A (cW cyI ad bd τ σ) s.heap.size) s (cW cyI ad bd τ σ31) H locs → lv_has ls 5 [(4, .int v30), (3, .int ((σ 1 0) + i1)), (0, .ref (ad 0)), (1, .int i1), (2, .int i2)] → W p l e (headSpec wsX2_passTicks rmX2_passTicks).room s m ([.ref (ad 0), .int i1, .int i2] : List Value).toArray below meth c H locs 0 0 (MQ below (QvF (dC, dI) [(cyI, .int)] (cW cyI ad bd τ σ) (cW cyI ad bd τ σ_) s.heap.size) ([.ref (ad 0), .int i1, .int i2] : List Value).toArray s 0 0 (va_A (cW cyI ad bd τ σ) s.heap.size)) (F0 m 10 ls []) := by
    intro n9
    induction n9 with
    | zero => intro v30 σ31 H locs ls hL27; exact (loopM_z hL27).elim
    | succ n9 ih9 =>
      intro v30 σ31 H locs ls hL27 hB hl
      obtain ⟨o32, hg28, hL27⟩ := loopM_s hL27
      have hg28 : mX2_passTicks_L10 fu ((σ 1 0) + i1) i1 i2 τ v30 σ31 = some o32 := hg28
      unfold mX2_passTicks_L10 at hg28
      refine lv_iload hx hb dX2_passTicks_10 (lv_at hl 0 rfl) ?_
      refine lv_iload_n hx hb dX2_passTicks_12 rfl (lv_at hl 3 rfl) ?_
      obtain ⟨t33, hD34, hg28⟩ := ob1_s hg28
      have kTt33 : t33 = true → ∀ (H : Heap) (locs : List Loc), Bd (dC, dI) [(cyI, .int)] (va_A (cW cyI ad bd τ σ) s.heap.size) s (cW cyI ad bd τ σ31) H locs → W p l e (headSpec wsX2_passTicks rmX2_passTicks).room s m ([.ref (ad 0), .int i1, .int i2] : List Value).toArray below meth c H locs 0 0 (MQ below (QvF (dC, dI) [(cyI, .int)] (cW cyI ad bd τ σ) (cW cyI ad bd τ σ_) s.heap.size) ([.ref (ad 0), .int i1, .int i2] : List Value).toArray s 0 0 (va_A (cW cyI ad bd τ σ) s.heap.size)) (F0 m 24 ls []) := by
        intro ht H locs hB
        have hg28 := cnd_t ht hg28
        refine lv_iload_n hx hb dX2_passTicks_24 rfl (lv_at hl 4 rfl) ?_
        obtain ⟨t37, hD38, hg28⟩ := ob1_s hg28
        have kTt37 : t37 = true → ∀ (H : Heap) (locs : List Loc), Bd (dC, dI) [(cyI, .int)] (va_A (cW cyI ad bd τ σ) s.heap.size) s (cW cyI ad bd τ σ31) H locs → W p l e (headSpec wsX2_passTicks rmX2_passTicks).room s m ([.ref (ad 0), .int i1, .int i2] : List Value).toArray below meth c H locs 0 0 (MQ below (QvF (dC, dI) [(cyI, .int)] (cW cyI ad bd τ σ) (cW cyI ad bd τ σ_) s.heap.size) ([.ref (ad 0), .int i1, .int i2] : List Value).toArray s 0 0 (va_A (cW cyI ad bd τ σ) s.heap.size)) (F0 m 36 ls []) := by
          intro ht H locs hB
          have hg28 := cnd_t ht hg28
          have hL27 := el1_l (inj1 hg28) hL27
          have hf := el1_l (inj1 hL27) hf
          have e0 := inj1 hf
          subst e0
          exact g_vret hx hb hr hlocks hK hB dX2_passTicks_36
        have kFt37 : t37 = false → ∀ (H : Heap) (locs : List Loc), Bd (dC, dI) [(cyI, .int)] (va_A (cW cyI ad bd τ σ) s.heap.size) s (cW cyI ad bd τ σ31) H locs → W p l e (headSpec wsX2_passTicks rmX2_passTicks).room s m ([.ref (ad 0), .int i1, .int i2] : List Value).toArray below meth c H locs 0 0 (MQ below (QvF (dC, dI) [(cyI, .int)] (cW cyI ad bd τ σ) (cW cyI ad bd τ σ_) s.heap.size) ([.ref (ad 0), .int i1, .int i2] : List Value).toArray s 0 0 (va_A (cW cyI ad bd τ σ) s.heap.size)) (F0 m 37 ls []) := by
          intro ht H locs hB
          have hg28 := cnd_f ht hg28
          refine lv_aload_n hx hb dX2_passTicks_37 rfl (lv_at hl 2 rfl) ?_
          refine lv_iload_n hx hb dX2_passTicks_38 rfl (lv_at hl 1 rfl) ?_
          refine lv_aload_n hx hb dX2_passTicks_39 rfl (lv_at hl 2 rfl) ?_
          obtain ⟨r43, hc, hg28⟩ := ob1_s hg28
          refine g_callVi (As := []) (rest := [.int ((σ 1 0) + i1), .ref (ad 0)]) ⟨hx, hb, hml, hown, hts⟩ (kX2_nextEventTime l dC dI cyI ad bd H.size hc) (cwV 0 hts gX2_passTicks_X2_nextEventTime rfl rfl rfl (by decide +kernel) ⟨Nat.le_of_ble_eq_true rfl, Nat.le_of_ble_eq_true rfl⟩) hK hB hA (g_recv (ci := 2) hK hB 0 rfl rfl rfl) rfl hl.1 rfl (Nat.le_of_ble_eq_true rfl) dX2_passTicks_40 ⟨Nat.zero_le _, Nat.zero_le _⟩ (fun H locs hB => ?_)
          refine va_mmin hx hb (hml.trans hl.1.symm) hown hq2 hq3 hq4 hq5 (Nat.le_of_ble_eq_true rfl) (Nat.le_of_ble_eq_true rfl) (Nat.le_of_ble_eq_true rfl) (Nat.le_of_ble_eq_true rfl) dX2_passTicks_43 ?_
          obtain ⟨σ44, e9, hg28⟩ := ob1_s hg28
          have e9 := inj1 e9
          refine g_put (C := RX2) (T := TX2) (N := 14) hx hb hts hinX2 tyX2 tyX2_ok nmX2 hown hK hB 0 rfl rfl 1 rfl hq1 rfl rfl rfl rfl rfl rfl dX2_passTicks_46 (w2 := (cW cyI ad bd τ σ44)) (by rw [← e9]; rfl) (fun H locs hB => ?_)
          refine lv_aload_n hx hb dX2_passTicks_49 rfl (lv_at hl 2 rfl) ?_
          refine g_get (C := RX2) (T := TX2) (N := 14) hx hb hts hinX2 hown hK hB 0 rfl rfl 1 rfl hq1 rfl rfl dX2_passTicks_50 ?_
          refine lv_iload_n hx hb dX2_passTicks_53 rfl (lv_at hl 1 rfl) ?_
          obtain ⟨σ45, hJ46, hg28⟩ := ob1_s hg28
          have kJ47 : ∀ (H : Heap) (locs : List Loc) (ls : Array Slot), Bd (dC, dI) [(cyI, .int)] (va_A (cW cyI ad bd τ σ) s.heap.size) s (cW cyI ad bd τ σ45) H locs → lv_has ls 5 [(4, .int v30), (3, .int ((σ 1 0) + i1)), (0, .ref (ad 0)), (1, .int i1), (2, .int i2)] → W p l e (headSpec wsX2_passTicks rmX2_passTicks).room s m ([.ref (ad 0), .int i1, .int i2] : List Value).toArray below meth c H locs 0 0 (MQ below (QvF (dC, dI) [(cyI, .int)] (cW cyI ad bd τ σ) (cW cyI ad bd τ σ_) s.heap.size) ([.ref (ad 0), .int i1, .int i2] : List Value).toArray s 0 0 (va_A (cW cyI ad bd τ σ) s.heap.size)) (F0 m 61 ls []) := by
            intro H locs ls hB hl
            refine lv_iinc (v := (v30 + (1 : Int32))) (lv' := [(4, .int (v30 + (1 : Int32))), (3, .int ((σ 1 0) + i1)), (0, .ref (ad 0)), (1, .int i1), (2, .int i2)]) hx hb dX2_passTicks_61 hl (k := 0) rfl rfl (by decide) rfl (fun ls hl => ?_)
            refine lv_goto (tgt := 10) hx hb dX2_passTicks_64 (by decide) ?_
            have hL27 := el1_r (inj1 hg28) hL27
            exact ih9 _ _ _ _ _ hL27 hB (lv_sub hl [0, 1, 2, 3, 4] rfl)
          refine lv_icmp_ge (tgt := 61) hx hb dX2_passTicks_54 (by decide) (fun c48 => ?_) (fun c48 => ?_)
          · have hJ46 := ite_t c48 hJ46
            have e0 := inj1 hJ46
            subst e0
            exact kJ47 _ _ _ hB (lv_sub hl [0, 1, 2, 3, 4] rfl)
          · have hJ46 := ite_f c48 hJ46
            refine lv_aload_n hx hb dX2_passTicks_57 rfl (lv_at hl 2 rfl) ?_
            obtain ⟨σ49, hc, hJ46⟩ := ob1_s hJ46
            refine g_callVv (As := []) (rest := []) ⟨hx, hb, hml, hown, hts⟩ (kX2_passTick l dC dI cyI ad bd H.size hc) (cwV 0 hts gX2_passTicks_X2_passTick rfl rfl rfl (by decide +kernel) ⟨Nat.le_of_ble_eq_true rfl, Nat.le_of_ble_eq_true rfl⟩) hK hB hA (g_recv (ci := 2) hK hB 0 rfl rfl rfl) rfl hl.1 rfl (Nat.le_of_ble_eq_true rfl) dX2_passTicks_58 ⟨Nat.zero_le _, Nat.zero_le _⟩ (fun H locs hB => ?_)
            have e0 := inj1 hJ46
            subst e0
            exact kJ47 _ _ _ hB (lv_sub hl [0, 1, 2, 3, 4] rfl)
        refine lv_if_lt (tgt := 37) hx hb dX2_passTicks_25 (by decide) (fun c39 => ?_) (fun c39 => ?_)
        · have hD38 := ite_t c39 hD38
          have e0 := inj1 hD38
          exact kFt37 e0.symm _ _ hB
        · have hD38 := ite_f c39 hD38
          refine lv_aload_n hx hb dX2_passTicks_28 rfl (lv_at hl 2 rfl) ?_
          refine lv_iload_n hx hb dX2_passTicks_29 rfl (lv_at hl 4 rfl) ?_
          obtain ⟨r40, hc, hD38⟩ := ob1_s hD38
          refine g_callVz (As := [.int i2]) (rest := []) ⟨hx, hb, hml, hown, hts⟩ (kX2_rests l dC dI cyI ad bd H.size hc) (cwV 1 hts gX2_passTicks_X2_rests rfl rfl rfl (by decide +kernel) ⟨Nat.le_of_ble_eq_true rfl, Nat.le_of_ble_eq_true rfl⟩) hK hB hA (g_recv (ci := 2) hK hB 0 rfl rfl rfl) rfl hl.1 rfl (Nat.le_of_ble_eq_true rfl) dX2_passTicks_30 ⟨Nat.zero_le _, Nat.zero_le _⟩ (fun z41 H locs hB => ?_)
          refine lv_if_eq (tgt := 37) hx hb dX2_passTicks_33 (by decide) (fun c42 => ?_) (fun c42 => ?_)
          · have hD38 := ite_t c42 hD38
            have e0 := inj1 hD38
            exact kFt37 e0.symm _ _ hB
          · have hD38 := ite_f c42 hD38
            have e0 := inj1 hD38
            exact kTt37 e0.symm _ _ hB
      have kFt33 : t33 = false → ∀ (H : Heap) (locs : List Loc), Bd (dC, dI) [(cyI, .int)] (va_A (cW cyI ad bd τ σ) s.heap.size) s (cW cyI ad bd τ σ31) H locs → W p l e (headSpec wsX2_passTicks rmX2_passTicks).room s m ([.ref (ad 0), .int i1, .int i2] : List Value).toArray below meth c H locs 0 0 (MQ below (QvF (dC, dI) [(cyI, .int)] (cW cyI ad bd τ σ) (cW cyI ad bd τ σ_) s.heap.size) ([.ref (ad 0), .int i1, .int i2] : List Value).toArray s 0 0 (va_A (cW cyI ad bd τ σ) s.heap.size)) (F0 m 67 ls []) := by
        intro ht H locs hB
        have hg28 := cnd_f ht hg28
        have hL27 := el1_l (inj1 hg28) hL27
        exact kE25 _ _ _ _ (inj1 hL27) hB (lv_sub hl [] rfl)
      refine lv_icmp_ge (tgt := 67) hx hb dX2_passTicks_13 (by decide) (fun c35 => ?_) (fun c35 => ?_)
      · have hD34 := ite_t c35 hD34
        have e0 := inj1 hD34
        exact kFt33 e0.symm _ _ hB
      · have hD34 := ite_f c35 hD34
        refine lv_aload_n hx hb dX2_passTicks_16 rfl (lv_at hl 2 rfl) ?_
        refine g_get (C := RX2) (T := TX2) (N := 14) hx hb hts hinX2 hown hK hB 0 rfl rfl 1 rfl hq1 rfl rfl dX2_passTicks_17 ?_
        refine lv_iload_n hx hb dX2_passTicks_20 rfl (lv_at hl 1 rfl) ?_
        refine lv_icmp_ge (tgt := 67) hx hb dX2_passTicks_21 (by decide) (fun c36 => ?_) (fun c36 => ?_)
        · have hD34 := ite_t c36 hD34
          have e0 := inj1 hD34
          exact kFt33 e0.symm _ _ hB
        · have hD34 := ite_f c36 hD34
          have e0 := inj1 hD34
          exact kTt33 e0.symm _ _ hB
  exact key26 fu _ _ _ _ _ hL27 hB (lv_sub hl [0, 1, 2, 3, 4] rfl)

abbrev rmX2_putLastStepAway : Room := { frames := 1, cells := 0, slots := 0, locals := 24 }

set_option maxHeartbeats 4000000 in
set_option maxRecDepth 100000 in
theorem kX2_putLastStepAway (l : Launch) (dC : Nat → ClassId) (dI : Nat → Nat → Nat) (cyI : ClassId) (ad bd : Nat → Nat) (sz : Nat) {fu : Nat} {τ : MS} {σ : MS} {i1 : Int32} {i2 : Int32} {r : Int32} {σ_ : MS} (hf : mX2_putLastStepAway fu τ σ i1 i2 = some (r, σ_)) : Met l yX2_putLastStepAway wsX2_putLastStepAway rmX2_putLastStepAway (PcF (dC, dI) [(cyI, .int)] (cW cyI ad bd τ σ) sz [.ref (ad 0), .int i1, .int i2]) (QiF (dC, dI) [(cyI, .int)] (cW cyI ad bd τ σ) (cW cyI ad bd τ σ_) sz r) 0 0 (va_A (cW cyI ad bd τ σ) sz) := by
  refine Met.ofW (cc := cX2_putLastStepAway) (maxL := 4) (ret := (some .int)) (by decide) rfl ?_
  intro p e s m args below meth c s₁ B hml hv
  obtain ⟨rfl, hsz, hP, hK, hD0⟩ := hv
  have hx := B.exec
  have hb := B.bytes
  have hr := B.returns
  have hts := atoms_spec (ws := wsX2_putLastStepAway) B.pre
  have hown : s.vm.findClass RX2 = some m.cls := findClass_of_methodNamed B.named
  have hlocks := B.notSynchronized
  subst hsz
  have hA : ∀ q : Nat, s.heap.size ≤ q → va_A (cW cyI ad bd τ σ) s.heap.size q := fun q h => Or.inr h
  have hB : Bd (dC, dI) [(cyI, .int)] (va_A (cW cyI ad bd τ σ) s.heap.size) s (cW cyI ad bd τ σ) s.heap [] := ⟨hP, hD0.self, va_S.rf⟩
  have hq1 : (Cond.fieldLink RX2 25 "UndoJourneys$World" "journeyState" "[I").before _ s = true := hts _ (List.mem_of_getElem? (i := 1) rfl)
  have hq2 : (Cond.fieldLink RX2 52 "UndoJourneys$World" "setup" "LUndoJourneys$Setup;").before _ s = true := hts _ (List.mem_of_getElem? (i := 2) rfl)
  have hq3 : (Cond.fieldLink RX2 148 "UndoJourneys$Setup" "firstStep" "[I").before _ s = true := hts _ (List.mem_of_getElem? (i := 3) rfl)
  have hinX0 : ∀ w ∈ wsX00, w ∈ wsX2_putLastStepAway := fun w h => List.mem_cons_of_mem _ (List.mem_append_right _ h)
  have hinX2 : ∀ w ∈ wsX20, w ∈ wsX2_putLastStepAway := fun w h => List.mem_cons_of_mem _ (List.mem_append_left _ (List.mem_append_right _ h))
  have hl := lv_entry [.ref (ad 0), .int i1, .int i2] (n := 4) (Nat.le_of_ble_eq_true rfl)
  rw [lg_entry_eq]
  generalize (lg_sl [.ref (ad 0), .int i1, .int i2] ++ List.replicate (4 - (lg_sl [.ref (ad 0), .int i1, .int i2]).length) Slot.unset).toArray = ls at hl ⊢
  have hl : lv_has ls 4 [(0, .ref (ad 0)), (1, .int i1), (2, .int i2)] := hl
  clear hP hD0
  suffices main : ∀ (H : Heap) (locs : List Loc), Bd (dC, dI) [(cyI, .int)] (va_A (cW cyI ad bd τ σ) s.heap.size) s (cW cyI ad bd τ σ) H locs → W p l e (headSpec wsX2_putLastStepAway rmX2_putLastStepAway).room s m ([.ref (ad 0), .int i1, .int i2] : List Value).toArray below meth c H locs 0 0 (MQ below (QiF (dC, dI) [(cyI, .int)] (cW cyI ad bd τ σ) (cW cyI ad bd τ σ_) s.heap.size r) ([.ref (ad 0), .int i1, .int i2] : List Value).toArray s 0 0 (va_A (cW cyI ad bd τ σ) s.heap.size)) (F0 m 0 ls []) from main _ _ hB
  clear hB
  intro H locs hB
  unfold mX2_putLastStepAway at hf
  refine lv_aload_n hx hb dX2_putLastStepAway_0 rfl (lv_at hl 0 rfl) ?_
  refine lv_iload_n hx hb dX2_putLastStepAway_1 rfl (lv_at hl 1 rfl) ?_
  refine lv_iconst (v := (0 : Int32)) hx hb dX2_putLastStepAway_2 (by decide) ?_
  obtain ⟨r1, hc, hf⟩ := ob1_s hf
  refine g_callVi (As := [.int i1, .int (0 : Int32)]) (rest := []) ⟨hx, hb, hml, hown, hts⟩ (kX2_doneStepFromBehind l dC dI cyI ad bd H.size hc) (cwV 2 hts gX2_putLastStepAway_X2_doneStepFromBehind rfl rfl rfl (by decide +kernel) ⟨Nat.le_of_ble_eq_true rfl, Nat.le_of_ble_eq_true rfl⟩) hK hB hA (g_recv (ci := 2) hK hB 0 rfl rfl rfl) rfl hl.1 rfl (Nat.le_of_ble_eq_true rfl) dX2_putLastStepAway_3 ⟨Nat.zero_le _, Nat.zero_le _⟩ (fun H locs hB => ?_)
  refine lv_istore_n (lv' := [(3, .int r1), (0, .ref (ad 0)), (1, .int i1), (2, .int i2)]) hx hb dX2_putLastStepAway_6 rfl hl (by decide) rfl (fun ls hl => ?_)
  refine lv_iload_n hx hb dX2_putLastStepAway_7 rfl (lv_at hl 0 rfl) ?_
  refine lv_if_ge (tgt := 13) hx hb dX2_putLastStepAway_8 (by decide) (fun c2 => ?_) (fun c2 => ?_)
  · have hf := ite_t c2 hf
    refine lv_aload_n hx hb dX2_putLastStepAway_13 rfl (lv_at hl 1 rfl) ?_
    refine lv_iload_n hx hb dX2_putLastStepAway_14 rfl (lv_at hl 2 rfl) ?_
    refine lv_iload_n hx hb dX2_putLastStepAway_15 rfl (lv_at hl 0 rfl) ?_
    refine lv_iload_n hx hb dX2_putLastStepAway_16 rfl (lv_at hl 3 rfl) ?_
    obtain ⟨σ3, hc, hf⟩ := ob1_s hf
    refine g_callVv (As := [.int i1, .int r1, .int i2]) (rest := []) ⟨hx, hb, hml, hown, hts⟩ (kX2_putStepAway l dC dI cyI ad bd H.size hc) (cwV 3 hts gX2_putLastStepAway_X2_putStepAway rfl rfl rfl (by decide +kernel) ⟨Nat.le_of_ble_eq_true rfl, Nat.le_of_ble_eq_true rfl⟩) hK hB hA (g_recv (ci := 2) hK hB 0 rfl rfl rfl) rfl hl.1 rfl (Nat.le_of_ble_eq_true rfl) dX2_putLastStepAway_17 ⟨Nat.zero_le _, Nat.zero_le _⟩ (fun H locs hB => ?_)
    refine lv_aload_n hx hb dX2_putLastStepAway_20 rfl (lv_at hl 1 rfl) ?_
    refine g_get (C := RX2) (T := TX2) (N := 14) hx hb hts hinX2 hown hK hB 0 rfl rfl 5 rfl hq1 rfl rfl dX2_putLastStepAway_21 ?_
    refine lv_iload_n hx hb dX2_putLastStepAway_24 rfl (lv_at hl 2 rfl) ?_
    refine lv_iconst (v := (2 : Int32)) hx hb dX2_putLastStepAway_25 (by decide) ?_
    obtain ⟨σ4, e9, hf⟩ := ob1_s hf
    obtain ⟨hi, e9⟩ := wra_s e9
    refine g_iast hx hb hK hB 3 0 rfl rfl hi rfl dX2_putLastStepAway_26 (w2 := (cW cyI ad bd τ σ4)) (by rw [← e9]; rfl) (fun H locs hB => ?_)
    refine lv_iload_n hx hb dX2_putLastStepAway_27 rfl (lv_at hl 0 rfl) ?_
    refine lv_aload_n hx hb dX2_putLastStepAway_28 rfl (lv_at hl 1 rfl) ?_
    refine g_get (C := RX2) (T := TX2) (N := 14) hx hb hts hinX2 hown hK hB 0 rfl rfl 0 rfl hq2 rfl rfl dX2_putLastStepAway_29 ?_
    refine g_get (C := RX0) (T := TX0) (N := 17) hx hb hts hinX0 hown hK hB 12 rfl rfl 8 rfl hq3 rfl rfl dX2_putLastStepAway_32 ?_
    refine lv_iload_n hx hb dX2_putLastStepAway_35 rfl (lv_at hl 2 rfl) ?_
    obtain ⟨x5, e9, hf⟩ := ob1_s hf
    refine g_iald hx hb hK hB 17 0 rfl rfl (rd_s e9) dX2_putLastStepAway_36 ?_
    refine lv_isub hx hb dX2_putLastStepAway_37 ?_
    obtain ⟨e0, e1⟩ := inj2 hf
    subst e0
    subst e1
    exact g_iret hx hb hr hlocks hK hB dX2_putLastStepAway_38
  · have hf := ite_f c2 hf
    refine lv_iconst (v := (-1 : Int32)) hx hb dX2_putLastStepAway_11 (by decide) ?_
    obtain ⟨e0, e1⟩ := inj2 hf
    subst e0
    subst e1
    exact g_iret hx hb hr hlocks hK hB dX2_putLastStepAway_12

abbrev rmX2_firstOpenStage : Room := { frames := 1, cells := 0, slots := 0, locals := 21 }

set_option maxHeartbeats 4000000 in
set_option maxRecDepth 100000 in
theorem kX2_firstOpenStage (l : Launch) (dC : Nat → ClassId) (dI : Nat → Nat → Nat) (cyI : ClassId) (ad bd : Nat → Nat) (sz : Nat) {fu : Nat} {τ : MS} {σ : MS} {i1 : Int32} {r : Int32} (hf : mX2_firstOpenStage fu τ σ i1 = some r) : Met l yX2_firstOpenStage wsX2_firstOpenStage rmX2_firstOpenStage (PcF (dC, dI) [(cyI, .int)] (cW cyI ad bd τ σ) sz [.ref (ad 0), .int i1]) (QiF (dC, dI) [(cyI, .int)] (cW cyI ad bd τ σ) (cW cyI ad bd τ σ) sz r) 0 0 (va_A (cW cyI ad bd τ σ) sz) := by
  refine Met.ofW (cc := cX2_firstOpenStage) (maxL := 4) (ret := (some .int)) (by decide) rfl ?_
  intro p e s m args below meth c s₁ B hml hv
  obtain ⟨rfl, hsz, hP, hK, hD0⟩ := hv
  have hx := B.exec
  have hb := B.bytes
  have hr := B.returns
  have hts := atoms_spec (ws := wsX2_firstOpenStage) B.pre
  have hown : s.vm.findClass RX2 = some m.cls := findClass_of_methodNamed B.named
  have hlocks := B.notSynchronized
  subst hsz
  have hA : ∀ q : Nat, s.heap.size ≤ q → va_A (cW cyI ad bd τ σ) s.heap.size q := fun q h => Or.inr h
  have hB : Bd (dC, dI) [(cyI, .int)] (va_A (cW cyI ad bd τ σ) s.heap.size) s (cW cyI ad bd τ σ) s.heap [] := ⟨hP, hD0.self, va_S.rf⟩
  have hq1 : (Cond.fieldLink RX2 52 "UndoJourneys$World" "setup" "LUndoJourneys$Setup;").before _ s = true := hts _ (List.mem_of_getElem? (i := 1) rfl)
  have hq2 : (Cond.fieldLink RX2 145 "UndoJourneys$Setup" "endStep" "[I").before _ s = true := hts _ (List.mem_of_getElem? (i := 2) rfl)
  have hq3 : (Cond.fieldLink RX2 148 "UndoJourneys$Setup" "firstStep" "[I").before _ s = true := hts _ (List.mem_of_getElem? (i := 3) rfl)
  have hq4 : (Cond.fieldLink RX2 130 "UndoJourneys$Setup" "stageOf" "[I").before _ s = true := hts _ (List.mem_of_getElem? (i := 4) rfl)
  have hinX0 : ∀ w ∈ wsX00, w ∈ wsX2_firstOpenStage := fun w h => List.mem_cons_of_mem _ (List.mem_append_right _ h)
  have hinX2 : ∀ w ∈ wsX20, w ∈ wsX2_firstOpenStage := fun w h => List.mem_cons_of_mem _ (List.mem_append_left _ (List.mem_append_right _ h))
  have hl := lv_entry [.ref (ad 0), .int i1] (n := 4) (Nat.le_of_ble_eq_true rfl)
  rw [lg_entry_eq]
  generalize (lg_sl [.ref (ad 0), .int i1] ++ List.replicate (4 - (lg_sl [.ref (ad 0), .int i1]).length) Slot.unset).toArray = ls at hl ⊢
  have hl : lv_has ls 4 [(0, .ref (ad 0)), (1, .int i1)] := hl
  clear hP hD0
  suffices main : ∀ (H : Heap) (locs : List Loc), Bd (dC, dI) [(cyI, .int)] (va_A (cW cyI ad bd τ σ) s.heap.size) s (cW cyI ad bd τ σ) H locs → W p l e (headSpec wsX2_firstOpenStage rmX2_firstOpenStage).room s m ([.ref (ad 0), .int i1] : List Value).toArray below meth c H locs 0 0 (MQ below (QiF (dC, dI) [(cyI, .int)] (cW cyI ad bd τ σ) (cW cyI ad bd τ σ) s.heap.size r) ([.ref (ad 0), .int i1] : List Value).toArray s 0 0 (va_A (cW cyI ad bd τ σ) s.heap.size)) (F0 m 0 ls []) from main _ _ hB
  clear hB
  intro H locs hB
  unfold mX2_firstOpenStage at hf
  refine lv_aload_n hx hb dX2_firstOpenStage_0 rfl (lv_at hl 0 rfl) ?_
  refine g_get (C := RX2) (T := TX2) (N := 14) hx hb hts hinX2 hown hK hB 0 rfl rfl 0 rfl hq1 rfl rfl dX2_firstOpenStage_1 ?_
  refine g_get (C := RX0) (T := TX0) (N := 17) hx hb hts hinX0 hown hK hB 12 rfl rfl 9 rfl hq2 rfl rfl dX2_firstOpenStage_4 ?_
  refine lv_iload_n hx hb dX2_firstOpenStage_7 rfl (lv_at hl 1 rfl) ?_
  obtain ⟨x1, e9, hf⟩ := ob1_s hf
  refine g_iald hx hb hK hB 18 0 rfl rfl (rd_s e9) dX2_firstOpenStage_8 ?_
  refine lv_istore_n (lv' := [(2, .int x1), (0, .ref (ad 0)), (1, .int i1)]) hx hb dX2_firstOpenStage_9 rfl hl (by decide) rfl (fun ls hl => ?_)
  refine lv_aload_n hx hb dX2_firstOpenStage_10 rfl (lv_at hl 1 rfl) ?_
  refine g_get (C := RX2) (T := TX2) (N := 14) hx hb hts hinX2 hown hK hB 0 rfl rfl 0 rfl hq1 rfl rfl dX2_firstOpenStage_11 ?_
  refine g_get (C := RX0) (T := TX0) (N := 17) hx hb hts hinX0 hown hK hB 12 rfl rfl 8 rfl hq3 rfl rfl dX2_firstOpenStage_14 ?_
  refine lv_iload_n hx hb dX2_firstOpenStage_17 rfl (lv_at hl 2 rfl) ?_
  obtain ⟨x2, e9, hf⟩ := ob1_s hf
  refine g_iald hx hb hK hB 17 0 rfl rfl (rd_s e9) dX2_firstOpenStage_18 ?_
  refine lv_istore_n (lv' := [(3, .int x2), (2, .int x1), (0, .ref (ad 0)), (1, .int i1)]) hx hb dX2_firstOpenStage_19 rfl hl (by decide) rfl (fun ls hl => ?_)
  obtain ⟨b16, hL14, hf⟩ := ob1_s hf
  have kE12 : ∀ (H : Heap) (locs : List Loc) (ls : Array Slot), Sum.inr () = b16 → Bd (dC, dI) [(cyI, .int)] (va_A (cW cyI ad bd τ σ) s.heap.size) s (cW cyI ad bd τ σ) H locs → lv_has ls 4 [] → W p l e (headSpec wsX2_firstOpenStage rmX2_firstOpenStage).room s m ([.ref (ad 0), .int i1] : List Value).toArray below meth c H locs 0 0 (MQ below (QiF (dC, dI) [(cyI, .int)] (cW cyI ad bd τ σ) (cW cyI ad bd τ σ) s.heap.size r) ([.ref (ad 0), .int i1] : List Value).toArray s 0 0 (va_A (cW cyI ad bd τ σ) s.heap.size)) (F0 m 49 ls []) := by
    intro  H locs ls hb9 hB hl
    have hf := el1_r hb9 hf
    refine lv_iconst (v := (-1 : Int32)) hx hb dX2_firstOpenStage_49 (by decide) ?_
    have e0 := inj1 hf
    subst e0
    exact g_iret hx hb hr hlocks hK hB dX2_firstOpenStage_50
  have key13 : ∀ (n9 : Nat) (v17 : Int32) (H : Heap) (locs : List Loc) (ls : Array Slot), loopM (fun st => mX2_firstOpenStage_L20 fu x1 τ σ st) n9 v17 = some b16 → Bd (dC, dI) [(cyI, .int)] (va_A (cW cyI ad bd τ σ) s.heap.size) s (cW cyI ad bd τ σ) H locs → lv_has ls 4 [(3, .int v17), (2, .int x1), (0, .ref (ad 0))] → W p l e (headSpec wsX2_firstOpenStage rmX2_firstOpenStage).room s m ([.ref (ad 0), .int i1] : List Value).toArray below meth c H locs 0 0 (MQ below (QiF (dC, dI) [(cyI, .int)] (cW cyI ad bd τ σ) (cW cyI ad bd τ σ) s.heap.size r) ([.ref (ad 0), .int i1] : List Value).toArray s 0 0 (va_A (cW cyI ad bd τ σ) s.heap.size)) (F0 m 20 ls []) := by
    intro n9
    induction n9 with
    | zero => intro v17 H locs ls hL14; exact (loopM_z hL14).elim
    | succ n9 ih9 =>
      intro v17 H locs ls hL14 hB hl
      obtain ⟨o18, hg15, hL14⟩ := loopM_s hL14
      have hg15 : mX2_firstOpenStage_L20 fu x1 τ σ v17 = some o18 := hg15
      unfold mX2_firstOpenStage_L20 at hg15
      refine lv_iload_n hx hb dX2_firstOpenStage_20 rfl (lv_at hl 0 rfl) ?_
      refine lv_iload_n hx hb dX2_firstOpenStage_21 rfl (lv_at hl 1 rfl) ?_
      refine lv_icmp_ge (tgt := 49) hx hb dX2_firstOpenStage_22 (by decide) (fun c19 => ?_) (fun c19 => ?_)
      · have hg15 := ite_t c19 hg15
        have hL14 := el1_l (inj1 hg15) hL14
        exact kE12  _ _ _ (inj1 hL14) hB (lv_sub hl [] rfl)
      · have hg15 := ite_f c19 hg15
        refine lv_aload_n hx hb dX2_firstOpenStage_25 rfl (lv_at hl 2 rfl) ?_
        refine lv_iload_n hx hb dX2_firstOpenStage_26 rfl (lv_at hl 0 rfl) ?_
        obtain ⟨r20, hc, hg15⟩ := ob1_s hg15
        refine g_callVz (As := [.int v17]) (rest := []) ⟨hx, hb, hml, hown, hts⟩ (kX2_isOpen l dC dI cyI ad bd H.size hc) (cwV 1 hts gX2_firstOpenStage_X2_isOpen rfl rfl rfl (by decide +kernel) ⟨Nat.le_of_ble_eq_true rfl, Nat.le_of_ble_eq_true rfl⟩) hK hB hA (g_recv (ci := 2) hK hB 0 rfl rfl rfl) rfl hl.1 rfl (Nat.le_of_ble_eq_true rfl) dX2_firstOpenStage_27 ⟨Nat.zero_le _, Nat.zero_le _⟩ (fun z21 H locs hB => ?_)
        refine lv_if_eq (tgt := 43) hx hb dX2_firstOpenStage_30 (by decide) (fun c22 => ?_) (fun c22 => ?_)
        · have hg15 := ite_t c22 hg15
          refine lv_iinc (v := (v17 + (1 : Int32))) (lv' := [(3, .int (v17 + (1 : Int32))), (2, .int x1), (0, .ref (ad 0))]) hx hb dX2_firstOpenStage_43 hl (k := 0) rfl rfl (by decide) rfl (fun ls hl => ?_)
          refine lv_goto (tgt := 20) hx hb dX2_firstOpenStage_46 (by decide) ?_
          have hL14 := el1_r (inj1 hg15) hL14
          exact ih9 _ _ _ _ hL14 hB (lv_sub hl [0, 1, 2] rfl)
        · have hg15 := ite_f c22 hg15
          refine lv_aload_n hx hb dX2_firstOpenStage_33 rfl (lv_at hl 2 rfl) ?_
          refine g_get (C := RX2) (T := TX2) (N := 14) hx hb hts hinX2 hown hK hB 0 rfl rfl 0 rfl hq1 rfl rfl dX2_firstOpenStage_34 ?_
          refine g_get (C := RX0) (T := TX0) (N := 17) hx hb hts hinX0 hown hK hB 12 rfl rfl 11 rfl hq4 rfl rfl dX2_firstOpenStage_37 ?_
          refine lv_iload_n hx hb dX2_firstOpenStage_40 rfl (lv_at hl 0 rfl) ?_
          obtain ⟨x23, e9, hg15⟩ := ob1_s hg15
          refine g_iald hx hb hK hB 19 0 rfl rfl (rd_s e9) dX2_firstOpenStage_41 ?_
          have hL14 := el1_l (inj1 hg15) hL14
          have hf := el1_l (inj1 hL14) hf
          have e0 := inj1 hf
          subst e0
          exact g_iret hx hb hr hlocks hK hB dX2_firstOpenStage_42
  exact key13 fu _ _ _ _ hL14 hB (lv_sub hl [0, 1, 2] rfl)

abbrev rmX2_letGoForward : Room := { frames := 2, cells := 0, slots := 0, locals := 46 }

set_option maxHeartbeats 4000000 in
set_option maxRecDepth 100000 in
theorem kX2_letGoForward (l : Launch) (dC : Nat → ClassId) (dI : Nat → Nat → Nat) (cyI : ClassId) (ad bd : Nat → Nat) (sz : Nat) {fu : Nat} {τ : MS} {σ : MS} {i1 : Int32} {r : Int32} {σ_ : MS} (hf : mX2_letGoForward fu τ σ i1 = some (r, σ_)) : Met l yX2_letGoForward wsX2_letGoForward rmX2_letGoForward (PcF (dC, dI) [(cyI, .int)] (cW cyI ad bd τ σ) sz [.ref (ad 0), .int i1]) (QiF (dC, dI) [(cyI, .int)] (cW cyI ad bd τ σ) (cW cyI ad bd τ σ_) sz r) 0 0 (va_A (cW cyI ad bd τ σ) sz) := by
  refine Met.ofW (cc := cX2_letGoForward) (maxL := 5) (ret := (some .int)) (by decide) rfl ?_
  intro p e s m args below meth c s₁ B hml hv
  obtain ⟨rfl, hsz, hP, hK, hD0⟩ := hv
  have hx := B.exec
  have hb := B.bytes
  have hr := B.returns
  have hts := atoms_spec (ws := wsX2_letGoForward) B.pre
  have hown : s.vm.findClass RX2 = some m.cls := findClass_of_methodNamed B.named
  have hlocks := B.notSynchronized
  subst hsz
  have hA : ∀ q : Nat, s.heap.size ≤ q → va_A (cW cyI ad bd τ σ) s.heap.size q := fun q h => Or.inr h
  have hB : Bd (dC, dI) [(cyI, .int)] (va_A (cW cyI ad bd τ σ) s.heap.size) s (cW cyI ad bd τ σ) s.heap [] := ⟨hP, hD0.self, va_S.rf⟩
  have hq1 : (Cond.fieldLink RX2 52 "UndoJourneys$World" "setup" "LUndoJourneys$Setup;").before _ s = true := hts _ (List.mem_of_getElem? (i := 1) rfl)
  have hq2 : (Cond.fieldLink RX2 145 "UndoJourneys$Setup" "endStep" "[I").before _ s = true := hts _ (List.mem_of_getElem? (i := 2) rfl)
  have hq3 : (Cond.fieldLink RX2 148 "UndoJourneys$Setup" "firstStep" "[I").before _ s = true := hts _ (List.mem_of_getElem? (i := 3) rfl)
  have hq4 : (Cond.fieldLink RX2 37 "UndoJourneys$World" "stepState" "[I").before _ s = true := hts _ (List.mem_of_getElem? (i := 4) rfl)
  have hq5 : (Cond.fieldLink RX2 43 "UndoJourneys$World" "repeatsLeft" "[I").before _ s = true := hts _ (List.mem_of_getElem? (i := 5) rfl)
  have hq6 : (Cond.fieldLink RX2 76 "UndoJourneys$Setup" "repeats" "[I").before _ s = true := hts _ (List.mem_of_getElem? (i := 6) rfl)
  have hq7 : (Cond.fieldLink RX2 25 "UndoJourneys$World" "journeyState" "[I").before _ s = true := hts _ (List.mem_of_getElem? (i := 7) rfl)
  have hinX0 : ∀ w ∈ wsX00, w ∈ wsX2_letGoForward := fun w h => List.mem_cons_of_mem _ (List.mem_append_right _ h)
  have hinX2 : ∀ w ∈ wsX20, w ∈ wsX2_letGoForward := fun w h => List.mem_cons_of_mem _ (List.mem_append_left _ (List.mem_append_right _ h))
  have hl := lv_entry [.ref (ad 0), .int i1] (n := 5) (Nat.le_of_ble_eq_true rfl)
  rw [lg_entry_eq]
  generalize (lg_sl [.ref (ad 0), .int i1] ++ List.replicate (5 - (lg_sl [.ref (ad 0), .int i1]).length) Slot.unset).toArray = ls at hl ⊢
  have hl : lv_has ls 5 [(0, .ref (ad 0)), (1, .int i1)] := hl
  clear hP hD0
  suffices main : ∀ (H : Heap) (locs : List Loc), Bd (dC, dI) [(cyI, .int)] (va_A (cW cyI ad bd τ σ) s.heap.size) s (cW cyI ad bd τ σ) H locs → W p l e (headSpec wsX2_letGoForward rmX2_letGoForward).room s m ([.ref (ad 0), .int i1] : List Value).toArray below meth c H locs 0 0 (MQ below (QiF (dC, dI) [(cyI, .int)] (cW cyI ad bd τ σ) (cW cyI ad bd τ σ_) s.heap.size r) ([.ref (ad 0), .int i1] : List Value).toArray s 0 0 (va_A (cW cyI ad bd τ σ) s.heap.size)) (F0 m 0 ls []) from main _ _ hB
  clear hB
  intro H locs hB
  unfold mX2_letGoForward at hf
  refine lv_aload_n hx hb dX2_letGoForward_0 rfl (lv_at hl 0 rfl) ?_
  refine lv_iload_n hx hb dX2_letGoForward_1 rfl (lv_at hl 1 rfl) ?_
  obtain ⟨r1, hc, hf⟩ := ob1_s hf
  refine g_callVi (As := [.int i1]) (rest := []) ⟨hx, hb, hml, hown, hts⟩ (kX2_firstOpenStage l dC dI cyI ad bd H.size hc) (cwV 1 hts gX2_letGoForward_X2_firstOpenStage rfl rfl rfl (by decide +kernel) ⟨Nat.le_of_ble_eq_true rfl, Nat.le_of_ble_eq_true rfl⟩) hK hB hA (g_recv (ci := 2) hK hB 0 rfl rfl rfl) rfl hl.1 rfl (Nat.le_of_ble_eq_true rfl) dX2_letGoForward_2 ⟨Nat.zero_le _, Nat.zero_le _⟩ (fun H locs hB => ?_)
  refine lv_istore_n (lv' := [(2, .int r1), (0, .ref (ad 0)), (1, .int i1)]) hx hb dX2_letGoForward_5 rfl hl (by decide) rfl (fun ls hl => ?_)
  refine lv_iload_n hx hb dX2_letGoForward_6 rfl (lv_at hl 0 rfl) ?_
  refine lv_if_ge (tgt := 12) hx hb dX2_letGoForward_7 (by decide) (fun c2 => ?_) (fun c2 => ?_)
  · have hf := ite_t c2 hf
    refine lv_aload_n hx hb dX2_letGoForward_12 rfl (lv_at hl 1 rfl) ?_
    refine g_get (C := RX2) (T := TX2) (N := 14) hx hb hts hinX2 hown hK hB 0 rfl rfl 0 rfl hq1 rfl rfl dX2_letGoForward_13 ?_
    refine g_get (C := RX0) (T := TX0) (N := 17) hx hb hts hinX0 hown hK hB 12 rfl rfl 9 rfl hq2 rfl rfl dX2_letGoForward_16 ?_
    refine lv_iload_n hx hb dX2_letGoForward_19 rfl (lv_at hl 2 rfl) ?_
    obtain ⟨x3, e9, hf⟩ := ob1_s hf
    refine g_iald hx hb hK hB 18 0 rfl rfl (rd_s e9) dX2_letGoForward_20 ?_
    refine lv_istore_n (lv' := [(3, .int x3), (2, .int r1), (0, .ref (ad 0)), (1, .int i1)]) hx hb dX2_letGoForward_21 rfl hl (by decide) rfl (fun ls hl => ?_)
    refine lv_aload_n hx hb dX2_letGoForward_22 rfl (lv_at hl 2 rfl) ?_
    refine g_get (C := RX2) (T := TX2) (N := 14) hx hb hts hinX2 hown hK hB 0 rfl rfl 0 rfl hq1 rfl rfl dX2_letGoForward_23 ?_
    refine g_get (C := RX0) (T := TX0) (N := 17) hx hb hts hinX0 hown hK hB 12 rfl rfl 8 rfl hq3 rfl rfl dX2_letGoForward_26 ?_
    refine lv_iload_n hx hb dX2_letGoForward_29 rfl (lv_at hl 3 rfl) ?_
    obtain ⟨x4, e9, hf⟩ := ob1_s hf
    refine g_iald hx hb hK hB 17 0 rfl rfl (rd_s e9) dX2_letGoForward_30 ?_
    refine lv_istore (lv' := [(4, .int x4), (3, .int x3), (2, .int r1), (0, .ref (ad 0)), (1, .int i1)]) hx hb dX2_letGoForward_31 hl (by decide) rfl (fun ls hl => ?_)
    obtain ⟨σ21, hL24, hf⟩ := ob1_s hf
    have kE22 : ∀ (H : Heap) (locs : List Loc) (ls : Array Slot), Bd (dC, dI) [(cyI, .int)] (va_A (cW cyI ad bd τ σ) s.heap.size) s (cW cyI ad bd τ σ21) H locs → lv_has ls 5 [(2, .int r1), (0, .ref (ad 0)), (1, .int i1)] → W p l e (headSpec wsX2_letGoForward rmX2_letGoForward).room s m ([.ref (ad 0), .int i1] : List Value).toArray below meth c H locs 0 0 (MQ below (QiF (dC, dI) [(cyI, .int)] (cW cyI ad bd τ σ) (cW cyI ad bd τ σ_) s.heap.size r) ([.ref (ad 0), .int i1] : List Value).toArray s 0 0 (va_A (cW cyI ad bd τ σ) s.heap.size)) (F0 m 79 ls []) := by
      intro H locs ls hB hl
      refine lv_aload_n hx hb dX2_letGoForward_79 rfl (lv_at hl 1 rfl) ?_
      refine g_get (C := RX2) (T := TX2) (N := 14) hx hb hts hinX2 hown hK hB 0 rfl rfl 5 rfl hq7 rfl rfl dX2_letGoForward_80 ?_
      refine lv_iload_n hx hb dX2_letGoForward_83 rfl (lv_at hl 2 rfl) ?_
      refine lv_iconst (v := (1 : Int32)) hx hb dX2_letGoForward_84 (by decide) ?_
      obtain ⟨σ26, e9, hf⟩ := ob1_s hf
      obtain ⟨hi, e9⟩ := wra_s e9
      refine g_iast hx hb hK hB 3 0 rfl rfl hi rfl dX2_letGoForward_85 (w2 := (cW cyI ad bd τ σ26)) (by rw [← e9]; rfl) (fun H locs hB => ?_)
      refine lv_aload_n hx hb dX2_letGoForward_86 rfl (lv_at hl 1 rfl) ?_
      refine lv_iload_n hx hb dX2_letGoForward_87 rfl (lv_at hl 2 rfl) ?_
      refine lv_iload_n hx hb dX2_letGoForward_88 rfl (lv_at hl 0 rfl) ?_
      obtain ⟨σ27, hc, hf⟩ := ob1_s hf
      refine g_callVv (As := [.int i1, .int r1]) (rest := []) ⟨hx, hb, hml, hown, hts⟩ (kX2_enterStage l dC dI cyI ad bd H.size hc) (cwV 2 hts gX2_letGoForward_X2_enterStage rfl rfl rfl (by decide +kernel) ⟨Nat.le_of_ble_eq_true rfl, Nat.le_of_ble_eq_true rfl⟩) hK hB hA (g_recv (ci := 2) hK hB 0 rfl rfl rfl) rfl hl.1 rfl (Nat.le_of_ble_eq_true rfl) dX2_letGoForward_89 ⟨Nat.zero_le _, Nat.zero_le _⟩ (fun H locs hB => ?_)
      refine lv_iload_n hx hb dX2_letGoForward_92 rfl (lv_at hl 0 rfl) ?_
      obtain ⟨e0, e1⟩ := inj2 hf
      subst e0
      subst e1
      exact g_iret hx hb hr hlocks hK hB dX2_letGoForward_93
    have key23 : ∀ (n9 : Nat) (v29 : Int32) (σ30 : MS) (H : Heap) (locs : List Loc) (ls : Array Slot), loopM (fun st => mX2_letGoForward_L33 fu x3 r1 i1 τ st.1 st.2) n9 (v29, σ30) = some σ21 → Bd (dC, dI) [(cyI, .int)] (va_A (cW cyI ad bd τ σ) s.heap.size) s (cW cyI ad bd τ σ30) H locs → lv_has ls 5 [(4, .int v29), (3, .int x3), (2, .int r1), (0, .ref (ad 0)), (1, .int i1)] → W p l e (headSpec wsX2_letGoForward rmX2_letGoForward).room s m ([.ref (ad 0), .int i1] : List Value).toArray below meth c H locs 0 0 (MQ below (QiF (dC, dI) [(cyI, .int)] (cW cyI ad bd τ σ) (cW cyI ad bd τ σ_) s.heap.size r) ([.ref (ad 0), .int i1] : List Value).toArray s 0 0 (va_A (cW cyI ad bd τ σ) s.heap.size)) (F0 m 33 ls []) := by
      intro n9
      induction n9 with
      | zero => intro v29 σ30 H locs ls hL24; exact (loopM_z hL24).elim
      | succ n9 ih9 =>
        intro v29 σ30 H locs ls hL24 hB hl
        obtain ⟨o31, hg25, hL24⟩ := loopM_s hL24
        have hg25 : mX2_letGoForward_L33 fu x3 r1 i1 τ v29 σ30 = some o31 := hg25
        unfold mX2_letGoForward_L33 at hg25
        refine lv_iload hx hb dX2_letGoForward_33 (lv_at hl 0 rfl) ?_
        refine lv_iload_n hx hb dX2_letGoForward_35 rfl (lv_at hl 1 rfl) ?_
        refine lv_icmp_ge (tgt := 79) hx hb dX2_letGoForward_36 (by decide) (fun c32 => ?_) (fun c32 => ?_)
        · have hg25 := ite_t c32 hg25
          have hL24 := el1_l (inj1 hg25) hL24
          have e0 := inj1 hL24
          subst e0
          exact kE22 _ _ _ hB (lv_sub hl [2, 3, 4] rfl)
        · have hg25 := ite_f c32 hg25
          refine lv_aload_n hx hb dX2_letGoForward_39 rfl (lv_at hl 3 rfl) ?_
          refine lv_iload hx hb dX2_letGoForward_40 (lv_at hl 0 rfl) ?_
          obtain ⟨r33, hc, hg25⟩ := ob1_s hg25
          refine g_callVz (As := [.int v29]) (rest := []) ⟨hx, hb, hml, hown, hts⟩ (kX2_isOpen l dC dI cyI ad bd H.size hc) (cwV 1 hts gX2_letGoForward_X2_isOpen rfl rfl rfl (by decide +kernel) ⟨Nat.le_of_ble_eq_true rfl, Nat.le_of_ble_eq_true rfl⟩) hK hB hA (g_recv (ci := 2) hK hB 0 rfl rfl rfl) rfl hl.1 rfl (Nat.le_of_ble_eq_true rfl) dX2_letGoForward_42 ⟨Nat.zero_le _, Nat.zero_le _⟩ (fun z34 H locs hB => ?_)
          obtain ⟨σ35, hJ36, hg25⟩ := ob1_s hg25
          have kJ37 : ∀ (H : Heap) (locs : List Loc) (ls : Array Slot), Bd (dC, dI) [(cyI, .int)] (va_A (cW cyI ad bd τ σ) s.heap.size) s (cW cyI ad bd τ σ35) H locs → lv_has ls 5 [(4, .int v29), (3, .int x3), (2, .int r1), (0, .ref (ad 0)), (1, .int i1)] → W p l e (headSpec wsX2_letGoForward rmX2_letGoForward).room s m ([.ref (ad 0), .int i1] : List Value).toArray below meth c H locs 0 0 (MQ below (QiF (dC, dI) [(cyI, .int)] (cW cyI ad bd τ σ) (cW cyI ad bd τ σ_) s.heap.size r) ([.ref (ad 0), .int i1] : List Value).toArray s 0 0 (va_A (cW cyI ad bd τ σ) s.heap.size)) (F0 m 73 ls []) := by
            intro H locs ls hB hl
            refine lv_iinc (v := (v29 + (1 : Int32))) (lv' := [(4, .int (v29 + (1 : Int32))), (3, .int x3), (2, .int r1), (0, .ref (ad 0)), (1, .int i1)]) hx hb dX2_letGoForward_73 hl (k := 0) rfl rfl (by decide) rfl (fun ls hl => ?_)
            refine lv_goto (tgt := 33) hx hb dX2_letGoForward_76 (by decide) ?_
            have hL24 := el1_r (inj1 hg25) hL24
            exact ih9 _ _ _ _ _ hL24 hB (lv_sub hl [0, 1, 2, 3, 4] rfl)
          refine lv_if_eq (tgt := 73) hx hb dX2_letGoForward_45 (by decide) (fun c38 => ?_) (fun c38 => ?_)
          · have hJ36 := ite_t c38 hJ36
            have e0 := inj1 hJ36
            subst e0
            exact kJ37 _ _ _ hB (lv_sub hl [0, 1, 2, 3, 4] rfl)
          · have hJ36 := ite_f c38 hJ36
            refine lv_aload_n hx hb dX2_letGoForward_48 rfl (lv_at hl 3 rfl) ?_
            refine g_get (C := RX2) (T := TX2) (N := 14) hx hb hts hinX2 hown hK hB 0 rfl rfl 9 rfl hq4 rfl rfl dX2_letGoForward_49 ?_
            refine lv_iload hx hb dX2_letGoForward_52 (lv_at hl 0 rfl) ?_
            refine lv_iconst (v := (0 : Int32)) hx hb dX2_letGoForward_54 (by decide) ?_
            obtain ⟨σ39, e9, hJ36⟩ := ob1_s hJ36
            obtain ⟨hi, e9⟩ := wra_s e9
            refine g_iast hx hb hK hB 7 0 rfl rfl hi rfl dX2_letGoForward_55 (w2 := (cW cyI ad bd τ σ39)) (by rw [← e9]; rfl) (fun H locs hB => ?_)
            refine lv_aload_n hx hb dX2_letGoForward_56 rfl (lv_at hl 3 rfl) ?_
            refine g_get (C := RX2) (T := TX2) (N := 14) hx hb hts hinX2 hown hK hB 0 rfl rfl 11 rfl hq5 rfl rfl dX2_letGoForward_57 ?_
            refine lv_iload hx hb dX2_letGoForward_60 (lv_at hl 0 rfl) ?_
            refine lv_aload_n hx hb dX2_letGoForward_62 rfl (lv_at hl 3 rfl) ?_
            refine g_get (C := RX2) (T := TX2) (N := 14) hx hb hts hinX2 hown hK hB 0 rfl rfl 0 rfl hq1 rfl rfl dX2_letGoForward_63 ?_
            refine g_get (C := RX0) (T := TX0) (N := 17) hx hb hts hinX0 hown hK hB 12 rfl rfl 16 rfl hq6 rfl rfl dX2_letGoForward_66 ?_
            refine lv_iload hx hb dX2_letGoForward_69 (lv_at hl 0 rfl) ?_
            obtain ⟨x40, e9, hJ36⟩ := ob1_s hJ36
            refine g_iald hx hb hK hB 24 0 rfl rfl (rd_s e9) dX2_letGoForward_71 ?_
            obtain ⟨σ41, e9, hJ36⟩ := ob1_s hJ36
            obtain ⟨hi, e9⟩ := wra_s e9
            refine g_iast hx hb hK hB 9 0 rfl rfl hi rfl dX2_letGoForward_72 (w2 := (cW cyI ad bd τ σ41)) (by rw [← e9]; rfl) (fun H locs hB => ?_)
            have e0 := inj1 hJ36
            subst e0
            exact kJ37 _ _ _ hB (lv_sub hl [0, 1, 2, 3, 4] rfl)
    exact key23 fu _ _ _ _ _ hL24 hB (lv_sub hl [0, 1, 2, 3, 4] rfl)
  · have hf := ite_f c2 hf
    refine lv_iconst (v := (-1 : Int32)) hx hb dX2_letGoForward_10 (by decide) ?_
    obtain ⟨e0, e1⟩ := inj2 hf
    subst e0
    subst e1
    exact g_iret hx hb hr hlocks hK hB dX2_letGoForward_11

