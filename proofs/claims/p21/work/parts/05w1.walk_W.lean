abbrev rmX2_numberOfStep : Room := { frames := 0, cells := 0, slots := 0, locals := 0 }

set_option maxHeartbeats 4000000 in
set_option maxRecDepth 100000 in
theorem kX2_numberOfStep (l : Launch) (dC : Nat → ClassId) (dI : Nat → Nat → Nat) (cyI : ClassId) (ad bd : Nat → Nat) (sz : Nat) {fu : Nat} {τ : MS} {σ : MS} {i1 : Int32} {i2 : Int32} {r : Int32} (hf : mX2_numberOfStep fu τ σ i1 i2 = some r) : Met l yX2_numberOfStep wsX2_numberOfStep rmX2_numberOfStep (PcF (dC, dI) [(cyI, .int)] (cW cyI ad bd τ σ) sz [.ref (ad 0), .int i1, .int i2]) (QiF (dC, dI) [(cyI, .int)] (cW cyI ad bd τ σ) (cW cyI ad bd τ σ) sz r) 0 0 (va_A (cW cyI ad bd τ σ) sz) := by
  refine Met.ofW (cc := cX2_numberOfStep) (maxL := 3) (ret := (some .int)) (by decide) rfl ?_
  intro p e s m args below meth c s₁ B hml hv
  obtain ⟨rfl, hsz, hP, hK, hD0⟩ := hv
  have hx := B.exec
  have hb := B.bytes
  have hr := B.returns
  have hts := atoms_spec (ws := wsX2_numberOfStep) B.pre
  have hown : s.vm.findClass RX2 = some m.cls := findClass_of_methodNamed B.named
  have hlocks := B.notSynchronized
  subst hsz
  have hA : ∀ q : Nat, s.heap.size ≤ q → va_A (cW cyI ad bd τ σ) s.heap.size q := fun q h => Or.inr h
  have hB : Bd (dC, dI) [(cyI, .int)] (va_A (cW cyI ad bd τ σ) s.heap.size) s (cW cyI ad bd τ σ) s.heap [] := ⟨hP, hD0.self, va_S.rf⟩
  have hq1 : (Cond.fieldLink RX2 52 "UndoJourneys$World" "setup" "LUndoJourneys$Setup;").before _ s = true := hts _ (List.mem_of_getElem? (i := 1) rfl)
  have hq2 : (Cond.fieldLink RX2 130 "UndoJourneys$Setup" "stageOf" "[I").before _ s = true := hts _ (List.mem_of_getElem? (i := 2) rfl)
  have hq3 : (Cond.fieldLink RX2 133 "UndoJourneys$Setup" "stockOf" "[I").before _ s = true := hts _ (List.mem_of_getElem? (i := 3) rfl)
  have hq4 : (Cond.fieldLink RX2 136 "UndoJourneys$Setup" "amount" "[I").before _ s = true := hts _ (List.mem_of_getElem? (i := 4) rfl)
  have hq5 : (Cond.fieldLink RX2 139 "UndoJourneys$Setup" "duration" "[I").before _ s = true := hts _ (List.mem_of_getElem? (i := 5) rfl)
  have hq6 : (Cond.fieldLink RX2 37 "UndoJourneys$World" "stepState" "[I").before _ s = true := hts _ (List.mem_of_getElem? (i := 6) rfl)
  have hq7 : (Cond.fieldLink RX2 40 "UndoJourneys$World" "failuresLeft" "[I").before _ s = true := hts _ (List.mem_of_getElem? (i := 7) rfl)
  have hq8 : (Cond.fieldLink RX2 43 "UndoJourneys$World" "repeatsLeft" "[I").before _ s = true := hts _ (List.mem_of_getElem? (i := 8) rfl)
  have hinX0 : ∀ w ∈ wsX00, w ∈ wsX2_numberOfStep := fun w h => List.mem_cons_of_mem _ (List.mem_append_right _ h)
  have hinX2 : ∀ w ∈ wsX20, w ∈ wsX2_numberOfStep := fun w h => List.mem_cons_of_mem _ (List.mem_append_left _ (List.mem_append_right _ h))
  have hl := lv_entry [.ref (ad 0), .int i1, .int i2] (n := 3) (Nat.le_of_ble_eq_true rfl)
  rw [lg_entry_eq]
  generalize (lg_sl [.ref (ad 0), .int i1, .int i2] ++ List.replicate (3 - (lg_sl [.ref (ad 0), .int i1, .int i2]).length) Slot.unset).toArray = ls at hl ⊢
  have hl : lv_has ls 3 [(0, .ref (ad 0)), (1, .int i1), (2, .int i2)] := hl
  clear hP hD0
  suffices main : ∀ (H : Heap) (locs : List Loc), Bd (dC, dI) [(cyI, .int)] (va_A (cW cyI ad bd τ σ) s.heap.size) s (cW cyI ad bd τ σ) H locs → W p l e (headSpec wsX2_numberOfStep rmX2_numberOfStep).room s m ([.ref (ad 0), .int i1, .int i2] : List Value).toArray below meth c H locs 0 0 (MQ below (QiF (dC, dI) [(cyI, .int)] (cW cyI ad bd τ σ) (cW cyI ad bd τ σ) s.heap.size r) ([.ref (ad 0), .int i1, .int i2] : List Value).toArray s 0 0 (va_A (cW cyI ad bd τ σ) s.heap.size)) (F0 m 0 ls []) from main _ _ hB
  clear hB
  intro H locs hB
  unfold mX2_numberOfStep at hf
  refine lv_iload_n hx hb dX2_numberOfStep_0 rfl (lv_at hl 2 rfl) ?_
  by_cases c1 : i2 = 0
  · have hf := ite_t c1 hf
    refine lv_tableIn (tgt := 40) (off := 39) hx hb dX2_numberOfStep_1 (by rw [c1]; decide) (by rw [c1]; decide) (by rw [c1]; rfl) (by decide) ?_
    refine lv_aload_n hx hb dX2_numberOfStep_40 rfl (lv_at hl 0 rfl) ?_
    refine g_get (C := RX2) (T := TX2) (N := 14) hx hb hts hinX2 hown hK hB 0 rfl rfl 0 rfl hq1 rfl rfl dX2_numberOfStep_41 ?_
    refine g_get (C := RX0) (T := TX0) (N := 17) hx hb hts hinX0 hown hK hB 12 rfl rfl 11 rfl hq2 rfl rfl dX2_numberOfStep_44 ?_
    refine lv_iload_n hx hb dX2_numberOfStep_47 rfl (lv_at hl 1 rfl) ?_
    obtain ⟨x2, e9, hf⟩ := ob1_s hf
    refine g_iald hx hb hK hB 19 0 rfl rfl (rd_s e9) dX2_numberOfStep_48 ?_
    have e0 := inj1 hf
    subst e0
    exact g_iret hx hb hr hlocks hK hB dX2_numberOfStep_49
  · have hf := ite_f c1 hf
    by_cases c3 : i2 = 1
    · have hf := ite_t c3 hf
      refine lv_tableIn (tgt := 50) (off := 49) hx hb dX2_numberOfStep_1 (by rw [c3]; decide) (by rw [c3]; decide) (by rw [c3]; rfl) (by decide) ?_
      refine lv_aload_n hx hb dX2_numberOfStep_50 rfl (lv_at hl 0 rfl) ?_
      refine g_get (C := RX2) (T := TX2) (N := 14) hx hb hts hinX2 hown hK hB 0 rfl rfl 0 rfl hq1 rfl rfl dX2_numberOfStep_51 ?_
      refine g_get (C := RX0) (T := TX0) (N := 17) hx hb hts hinX0 hown hK hB 12 rfl rfl 12 rfl hq3 rfl rfl dX2_numberOfStep_54 ?_
      refine lv_iload_n hx hb dX2_numberOfStep_57 rfl (lv_at hl 1 rfl) ?_
      obtain ⟨x4, e9, hf⟩ := ob1_s hf
      refine g_iald hx hb hK hB 20 0 rfl rfl (rd_s e9) dX2_numberOfStep_58 ?_
      have e0 := inj1 hf
      subst e0
      exact g_iret hx hb hr hlocks hK hB dX2_numberOfStep_59
    · have hf := ite_f c3 hf
      by_cases c5 : i2 = 2
      · have hf := ite_t c5 hf
        refine lv_tableIn (tgt := 60) (off := 59) hx hb dX2_numberOfStep_1 (by rw [c5]; decide) (by rw [c5]; decide) (by rw [c5]; rfl) (by decide) ?_
        refine lv_aload_n hx hb dX2_numberOfStep_60 rfl (lv_at hl 0 rfl) ?_
        refine g_get (C := RX2) (T := TX2) (N := 14) hx hb hts hinX2 hown hK hB 0 rfl rfl 0 rfl hq1 rfl rfl dX2_numberOfStep_61 ?_
        refine g_get (C := RX0) (T := TX0) (N := 17) hx hb hts hinX0 hown hK hB 12 rfl rfl 13 rfl hq4 rfl rfl dX2_numberOfStep_64 ?_
        refine lv_iload_n hx hb dX2_numberOfStep_67 rfl (lv_at hl 1 rfl) ?_
        obtain ⟨x6, e9, hf⟩ := ob1_s hf
        refine g_iald hx hb hK hB 21 0 rfl rfl (rd_s e9) dX2_numberOfStep_68 ?_
        have e0 := inj1 hf
        subst e0
        exact g_iret hx hb hr hlocks hK hB dX2_numberOfStep_69
      · have hf := ite_f c5 hf
        by_cases c7 : i2 = 3
        · have hf := ite_t c7 hf
          refine lv_tableIn (tgt := 70) (off := 69) hx hb dX2_numberOfStep_1 (by rw [c7]; decide) (by rw [c7]; decide) (by rw [c7]; rfl) (by decide) ?_
          refine lv_aload_n hx hb dX2_numberOfStep_70 rfl (lv_at hl 0 rfl) ?_
          refine g_get (C := RX2) (T := TX2) (N := 14) hx hb hts hinX2 hown hK hB 0 rfl rfl 0 rfl hq1 rfl rfl dX2_numberOfStep_71 ?_
          refine g_get (C := RX0) (T := TX0) (N := 17) hx hb hts hinX0 hown hK hB 12 rfl rfl 14 rfl hq5 rfl rfl dX2_numberOfStep_74 ?_
          refine lv_iload_n hx hb dX2_numberOfStep_77 rfl (lv_at hl 1 rfl) ?_
          obtain ⟨x8, e9, hf⟩ := ob1_s hf
          refine g_iald hx hb hK hB 22 0 rfl rfl (rd_s e9) dX2_numberOfStep_78 ?_
          have e0 := inj1 hf
          subst e0
          exact g_iret hx hb hr hlocks hK hB dX2_numberOfStep_79
        · have hf := ite_f c7 hf
          by_cases c9 : i2 = 4
          · have hf := ite_t c9 hf
            refine lv_tableIn (tgt := 80) (off := 79) hx hb dX2_numberOfStep_1 (by rw [c9]; decide) (by rw [c9]; decide) (by rw [c9]; rfl) (by decide) ?_
            refine lv_aload_n hx hb dX2_numberOfStep_80 rfl (lv_at hl 0 rfl) ?_
            refine g_get (C := RX2) (T := TX2) (N := 14) hx hb hts hinX2 hown hK hB 0 rfl rfl 9 rfl hq6 rfl rfl dX2_numberOfStep_81 ?_
            refine lv_iload_n hx hb dX2_numberOfStep_84 rfl (lv_at hl 1 rfl) ?_
            obtain ⟨x10, e9, hf⟩ := ob1_s hf
            refine g_iald hx hb hK hB 7 0 rfl rfl (rd_s e9) dX2_numberOfStep_85 ?_
            have e0 := inj1 hf
            subst e0
            exact g_iret hx hb hr hlocks hK hB dX2_numberOfStep_86
          · have hf := ite_f c9 hf
            by_cases c11 : i2 = 5
            · have hf := ite_t c11 hf
              refine lv_tableIn (tgt := 87) (off := 86) hx hb dX2_numberOfStep_1 (by rw [c11]; decide) (by rw [c11]; decide) (by rw [c11]; rfl) (by decide) ?_
              refine lv_aload_n hx hb dX2_numberOfStep_87 rfl (lv_at hl 0 rfl) ?_
              refine g_get (C := RX2) (T := TX2) (N := 14) hx hb hts hinX2 hown hK hB 0 rfl rfl 10 rfl hq7 rfl rfl dX2_numberOfStep_88 ?_
              refine lv_iload_n hx hb dX2_numberOfStep_91 rfl (lv_at hl 1 rfl) ?_
              obtain ⟨x12, e9, hf⟩ := ob1_s hf
              refine g_iald hx hb hK hB 8 0 rfl rfl (rd_s e9) dX2_numberOfStep_92 ?_
              have e0 := inj1 hf
              subst e0
              exact g_iret hx hb hr hlocks hK hB dX2_numberOfStep_93
            · have hf := ite_f c11 hf
              refine lv_tableOut (tgt := 94) hx hb dX2_numberOfStep_1 (sw_out (n := 5) (by decide) (fun k hk q => by
                  rcases (show k = 0 ∨ k = 1 ∨ k = 2 ∨ k = 3 ∨ k = 4 ∨ k = 5 by omega) with rfl | rfl | rfl | rfl | rfl | rfl
                  · exact c1 (q.trans rfl)
                  · exact c3 (q.trans rfl)
                  · exact c5 (q.trans rfl)
                  · exact c7 (q.trans rfl)
                  · exact c9 (q.trans rfl)
                  · exact c11 (q.trans rfl)))
                (by decide) ?_
              refine lv_aload_n hx hb dX2_numberOfStep_94 rfl (lv_at hl 0 rfl) ?_
              refine g_get (C := RX2) (T := TX2) (N := 14) hx hb hts hinX2 hown hK hB 0 rfl rfl 11 rfl hq8 rfl rfl dX2_numberOfStep_95 ?_
              refine lv_iload_n hx hb dX2_numberOfStep_98 rfl (lv_at hl 1 rfl) ?_
              obtain ⟨x13, e9, hf⟩ := ob1_s hf
              refine g_iald hx hb hK hB 9 0 rfl rfl (rd_s e9) dX2_numberOfStep_99 ?_
              have e0 := inj1 hf
              subst e0
              exact g_iret hx hb hr hlocks hK hB dX2_numberOfStep_100

abbrev rmX2_endedJourneys : Room := { frames := 1, cells := 0, slots := 0, locals := 23 }

set_option maxHeartbeats 4000000 in
set_option maxRecDepth 100000 in
theorem kX2_endedJourneys (l : Launch) (dC : Nat → ClassId) (dI : Nat → Nat → Nat) (cyI : ClassId) (ad bd : Nat → Nat) (sz : Nat) {fu : Nat} {τ : MS} {σ : MS} {r : Int32} (hf : mX2_endedJourneys fu τ σ = some r) : Met l yX2_endedJourneys wsX2_endedJourneys rmX2_endedJourneys (PcF (dC, dI) [(cyI, .int)] (cW cyI ad bd τ σ) sz [.ref (ad 0)]) (QiF (dC, dI) [(cyI, .int)] (cW cyI ad bd τ σ) (cW cyI ad bd τ σ) sz r) 0 0 (va_A (cW cyI ad bd τ σ) sz) := by
  refine Met.ofW (cc := cX2_endedJourneys) (maxL := 1) (ret := (some .int)) (by decide) rfl ?_
  intro p e s m args below meth c s₁ B hml hv
  obtain ⟨rfl, hsz, hP, hK, hD0⟩ := hv
  have hx := B.exec
  have hb := B.bytes
  have hr := B.returns
  have hts := atoms_spec (ws := wsX2_endedJourneys) B.pre
  have hown : s.vm.findClass RX2 = some m.cls := findClass_of_methodNamed B.named
  have hlocks := B.notSynchronized
  subst hsz
  have hA : ∀ q : Nat, s.heap.size ≤ q → va_A (cW cyI ad bd τ σ) s.heap.size q := fun q h => Or.inr h
  have hB : Bd (dC, dI) [(cyI, .int)] (va_A (cW cyI ad bd τ σ) s.heap.size) s (cW cyI ad bd τ σ) s.heap [] := ⟨hP, hD0.self, va_S.rf⟩
  have hinX0 : ∀ w ∈ wsX00, w ∈ wsX2_endedJourneys := fun w h => List.mem_cons_of_mem _ (List.mem_append_right _ h)
  have hinX2 : ∀ w ∈ wsX20, w ∈ wsX2_endedJourneys := fun w h => List.mem_cons_of_mem _ (List.mem_append_left _ (List.mem_append_right _ h))
  have hl := lv_entry [.ref (ad 0)] (n := 1) (Nat.le_of_ble_eq_true rfl)
  rw [lg_entry_eq]
  generalize (lg_sl [.ref (ad 0)] ++ List.replicate (1 - (lg_sl [.ref (ad 0)]).length) Slot.unset).toArray = ls at hl ⊢
  have hl : lv_has ls 1 [(0, .ref (ad 0))] := hl
  clear hP hD0
  suffices main : ∀ (H : Heap) (locs : List Loc), Bd (dC, dI) [(cyI, .int)] (va_A (cW cyI ad bd τ σ) s.heap.size) s (cW cyI ad bd τ σ) H locs → W p l e (headSpec wsX2_endedJourneys rmX2_endedJourneys).room s m ([.ref (ad 0)] : List Value).toArray below meth c H locs 0 0 (MQ below (QiF (dC, dI) [(cyI, .int)] (cW cyI ad bd τ σ) (cW cyI ad bd τ σ) s.heap.size r) ([.ref (ad 0)] : List Value).toArray s 0 0 (va_A (cW cyI ad bd τ σ) s.heap.size)) (F0 m 0 ls []) from main _ _ hB
  clear hB
  intro H locs hB
  unfold mX2_endedJourneys at hf
  refine lv_aload_n hx hb dX2_endedJourneys_0 rfl (lv_at hl 0 rfl) ?_
  refine lv_iconst (v := (3 : Int32)) hx hb dX2_endedJourneys_1 (by decide) ?_
  obtain ⟨r1, hc, hf⟩ := ob1_s hf
  refine g_callVi (As := [.int (3 : Int32)]) (rest := []) ⟨hx, hb, hml, hown, hts⟩ (kX2_journeysIn l dC dI cyI ad bd H.size hc) (cwV 1 hts gX2_endedJourneys_X2_journeysIn rfl rfl rfl (by decide +kernel) ⟨Nat.le_of_ble_eq_true rfl, Nat.le_of_ble_eq_true rfl⟩) hK hB hA (g_recv (ci := 2) hK hB 0 rfl rfl rfl) rfl hl.1 rfl (Nat.le_of_ble_eq_true rfl) dX2_endedJourneys_2 ⟨Nat.zero_le _, Nat.zero_le _⟩ (fun H locs hB => ?_)
  refine lv_aload_n hx hb dX2_endedJourneys_5 rfl (lv_at hl 0 rfl) ?_
  refine lv_iconst (v := (4 : Int32)) hx hb dX2_endedJourneys_6 (by decide) ?_
  obtain ⟨r2, hc, hf⟩ := ob1_s hf
  refine g_callVi (As := [.int (4 : Int32)]) (rest := [.int r1]) ⟨hx, hb, hml, hown, hts⟩ (kX2_journeysIn l dC dI cyI ad bd H.size hc) (cwV 1 hts gX2_endedJourneys_X2_journeysIn rfl rfl rfl (by decide +kernel) ⟨Nat.le_of_ble_eq_true rfl, Nat.le_of_ble_eq_true rfl⟩) hK hB hA (g_recv (ci := 2) hK hB 0 rfl rfl rfl) rfl hl.1 rfl (Nat.le_of_ble_eq_true rfl) dX2_endedJourneys_7 ⟨Nat.zero_le _, Nat.zero_le _⟩ (fun H locs hB => ?_)
  refine lv_iadd hx hb dX2_endedJourneys_10 ?_
  have e0 := inj1 hf
  subst e0
  exact g_iret hx hb hr hlocks hK hB dX2_endedJourneys_11

abbrev rmX2_doneStepFromBehind : Room := { frames := 0, cells := 0, slots := 0, locals := 0 }

set_option maxHeartbeats 4000000 in
set_option maxRecDepth 100000 in
theorem kX2_doneStepFromBehind (l : Launch) (dC : Nat → ClassId) (dI : Nat → Nat → Nat) (cyI : ClassId) (ad bd : Nat → Nat) (sz : Nat) {fu : Nat} {τ : MS} {σ : MS} {i1 : Int32} {i2 : Int32} {r : Int32} (hf : mX2_doneStepFromBehind fu τ σ i1 i2 = some r) : Met l yX2_doneStepFromBehind wsX2_doneStepFromBehind rmX2_doneStepFromBehind (PcF (dC, dI) [(cyI, .int)] (cW cyI ad bd τ σ) sz [.ref (ad 0), .int i1, .int i2]) (QiF (dC, dI) [(cyI, .int)] (cW cyI ad bd τ σ) (cW cyI ad bd τ σ) sz r) 0 0 (va_A (cW cyI ad bd τ σ) sz) := by
  refine Met.ofW (cc := cX2_doneStepFromBehind) (maxL := 5) (ret := (some .int)) (by decide) rfl ?_
  intro p e s m args below meth c s₁ B hml hv
  obtain ⟨rfl, hsz, hP, hK, hD0⟩ := hv
  have hx := B.exec
  have hb := B.bytes
  have hr := B.returns
  have hts := atoms_spec (ws := wsX2_doneStepFromBehind) B.pre
  have hown : s.vm.findClass RX2 = some m.cls := findClass_of_methodNamed B.named
  have hlocks := B.notSynchronized
  subst hsz
  have hA : ∀ q : Nat, s.heap.size ≤ q → va_A (cW cyI ad bd τ σ) s.heap.size q := fun q h => Or.inr h
  have hB : Bd (dC, dI) [(cyI, .int)] (va_A (cW cyI ad bd τ σ) s.heap.size) s (cW cyI ad bd τ σ) s.heap [] := ⟨hP, hD0.self, va_S.rf⟩
  have hq1 : (Cond.fieldLink RX2 52 "UndoJourneys$World" "setup" "LUndoJourneys$Setup;").before _ s = true := hts _ (List.mem_of_getElem? (i := 1) rfl)
  have hq2 : (Cond.fieldLink RX2 145 "UndoJourneys$Setup" "endStep" "[I").before _ s = true := hts _ (List.mem_of_getElem? (i := 2) rfl)
  have hq3 : (Cond.fieldLink RX2 148 "UndoJourneys$Setup" "firstStep" "[I").before _ s = true := hts _ (List.mem_of_getElem? (i := 3) rfl)
  have hq4 : (Cond.fieldLink RX2 37 "UndoJourneys$World" "stepState" "[I").before _ s = true := hts _ (List.mem_of_getElem? (i := 4) rfl)
  have hinX0 : ∀ w ∈ wsX00, w ∈ wsX2_doneStepFromBehind := fun w h => List.mem_cons_of_mem _ (List.mem_append_right _ h)
  have hinX2 : ∀ w ∈ wsX20, w ∈ wsX2_doneStepFromBehind := fun w h => List.mem_cons_of_mem _ (List.mem_append_left _ (List.mem_append_right _ h))
  have hl := lv_entry [.ref (ad 0), .int i1, .int i2] (n := 5) (Nat.le_of_ble_eq_true rfl)
  rw [lg_entry_eq]
  generalize (lg_sl [.ref (ad 0), .int i1, .int i2] ++ List.replicate (5 - (lg_sl [.ref (ad 0), .int i1, .int i2]).length) Slot.unset).toArray = ls at hl ⊢
  have hl : lv_has ls 5 [(0, .ref (ad 0)), (1, .int i1), (2, .int i2)] := hl
  clear hP hD0
  suffices main : ∀ (H : Heap) (locs : List Loc), Bd (dC, dI) [(cyI, .int)] (va_A (cW cyI ad bd τ σ) s.heap.size) s (cW cyI ad bd τ σ) H locs → W p l e (headSpec wsX2_doneStepFromBehind rmX2_doneStepFromBehind).room s m ([.ref (ad 0), .int i1, .int i2] : List Value).toArray below meth c H locs 0 0 (MQ below (QiF (dC, dI) [(cyI, .int)] (cW cyI ad bd τ σ) (cW cyI ad bd τ σ) s.heap.size r) ([.ref (ad 0), .int i1, .int i2] : List Value).toArray s 0 0 (va_A (cW cyI ad bd τ σ) s.heap.size)) (F0 m 0 ls []) from main _ _ hB
  clear hB
  intro H locs hB
  unfold mX2_doneStepFromBehind at hf
  refine lv_iload_n hx hb dX2_doneStepFromBehind_0 rfl (lv_at hl 2 rfl) ?_
  refine lv_istore_n (lv' := [(3, .int i2), (0, .ref (ad 0)), (1, .int i1), (2, .int i2)]) hx hb dX2_doneStepFromBehind_1 rfl hl (by decide) rfl (fun ls hl => ?_)
  refine lv_aload_n hx hb dX2_doneStepFromBehind_2 rfl (lv_at hl 1 rfl) ?_
  refine g_get (C := RX2) (T := TX2) (N := 14) hx hb hts hinX2 hown hK hB 0 rfl rfl 0 rfl hq1 rfl rfl dX2_doneStepFromBehind_3 ?_
  refine g_get (C := RX0) (T := TX0) (N := 17) hx hb hts hinX0 hown hK hB 12 rfl rfl 9 rfl hq2 rfl rfl dX2_doneStepFromBehind_6 ?_
  refine lv_iload_n hx hb dX2_doneStepFromBehind_9 rfl (lv_at hl 2 rfl) ?_
  obtain ⟨x1, e9, hf⟩ := ob1_s hf
  refine g_iald hx hb hK hB 18 0 rfl rfl (rd_s e9) dX2_doneStepFromBehind_10 ?_
  refine lv_iconst (v := (1 : Int32)) hx hb dX2_doneStepFromBehind_11 (by decide) ?_
  refine lv_isub hx hb dX2_doneStepFromBehind_12 ?_
  refine lv_istore (lv' := [(4, .int (x1 - (1 : Int32))), (3, .int i2), (0, .ref (ad 0)), (1, .int i1), (2, .int i2)]) hx hb dX2_doneStepFromBehind_13 hl (by decide) rfl (fun ls hl => ?_)
  obtain ⟨b16, hL14, hf⟩ := ob1_s hf
  have kE12 : ∀ (H : Heap) (locs : List Loc) (ls : Array Slot), Sum.inr () = b16 → Bd (dC, dI) [(cyI, .int)] (va_A (cW cyI ad bd τ σ) s.heap.size) s (cW cyI ad bd τ σ) H locs → lv_has ls 5 [] → W p l e (headSpec wsX2_doneStepFromBehind rmX2_doneStepFromBehind).room s m ([.ref (ad 0), .int i1, .int i2] : List Value).toArray below meth c H locs 0 0 (MQ below (QiF (dC, dI) [(cyI, .int)] (cW cyI ad bd τ σ) (cW cyI ad bd τ σ) s.heap.size r) ([.ref (ad 0), .int i1, .int i2] : List Value).toArray s 0 0 (va_A (cW cyI ad bd τ σ) s.heap.size)) (F0 m 56 ls []) := by
    intro  H locs ls hb9 hB hl
    have hf := el1_r hb9 hf
    refine lv_iconst (v := (-1 : Int32)) hx hb dX2_doneStepFromBehind_56 (by decide) ?_
    have e0 := inj1 hf
    subst e0
    exact g_iret hx hb hr hlocks hK hB dX2_doneStepFromBehind_57
  have key13 : ∀ (n9 : Nat) (v17 : Int32) (v18 : Int32) (H : Heap) (locs : List Loc) (ls : Array Slot), loopM (fun st => mX2_doneStepFromBehind_L15 fu i1 τ σ st.1 st.2) n9 (v17, v18) = some b16 → Bd (dC, dI) [(cyI, .int)] (va_A (cW cyI ad bd τ σ) s.heap.size) s (cW cyI ad bd τ σ) H locs → lv_has ls 5 [(4, .int v17), (3, .int v18), (0, .ref (ad 0)), (1, .int i1)] → W p l e (headSpec wsX2_doneStepFromBehind rmX2_doneStepFromBehind).room s m ([.ref (ad 0), .int i1, .int i2] : List Value).toArray below meth c H locs 0 0 (MQ below (QiF (dC, dI) [(cyI, .int)] (cW cyI ad bd τ σ) (cW cyI ad bd τ σ) s.heap.size r) ([.ref (ad 0), .int i1, .int i2] : List Value).toArray s 0 0 (va_A (cW cyI ad bd τ σ) s.heap.size)) (F0 m 15 ls []) := by
    intro n9
    induction n9 with
    | zero => intro v17 v18 H locs ls hL14; exact (loopM_z hL14).elim
    | succ n9 ih9 =>
      intro v17 v18 H locs ls hL14 hB hl
      obtain ⟨o19, hg15, hL14⟩ := loopM_s hL14
      have hg15 : mX2_doneStepFromBehind_L15 fu i1 τ σ v17 v18 = some o19 := hg15
      unfold mX2_doneStepFromBehind_L15 at hg15
      refine lv_iload hx hb dX2_doneStepFromBehind_15 (lv_at hl 0 rfl) ?_
      refine lv_aload_n hx hb dX2_doneStepFromBehind_17 rfl (lv_at hl 2 rfl) ?_
      refine g_get (C := RX2) (T := TX2) (N := 14) hx hb hts hinX2 hown hK hB 0 rfl rfl 0 rfl hq1 rfl rfl dX2_doneStepFromBehind_18 ?_
      refine g_get (C := RX0) (T := TX0) (N := 17) hx hb hts hinX0 hown hK hB 12 rfl rfl 8 rfl hq3 rfl rfl dX2_doneStepFromBehind_21 ?_
      refine lv_iload_n hx hb dX2_doneStepFromBehind_24 rfl (lv_at hl 3 rfl) ?_
      obtain ⟨x20, e9, hg15⟩ := ob1_s hg15
      refine g_iald hx hb hK hB 17 0 rfl rfl (rd_s e9) dX2_doneStepFromBehind_25 ?_
      refine lv_icmp_lt (tgt := 56) hx hb dX2_doneStepFromBehind_26 (by decide) (fun c21 => ?_) (fun c21 => ?_)
      · have hg15 := ite_t c21 hg15
        have hL14 := el1_l (inj1 hg15) hL14
        exact kE12  _ _ _ (inj1 hL14) hB (lv_sub hl [] rfl)
      · have hg15 := ite_f c21 hg15
        refine lv_aload_n hx hb dX2_doneStepFromBehind_29 rfl (lv_at hl 2 rfl) ?_
        refine g_get (C := RX2) (T := TX2) (N := 14) hx hb hts hinX2 hown hK hB 0 rfl rfl 9 rfl hq4 rfl rfl dX2_doneStepFromBehind_30 ?_
        refine lv_iload hx hb dX2_doneStepFromBehind_33 (lv_at hl 0 rfl) ?_
        obtain ⟨x22, e9, hg15⟩ := ob1_s hg15
        refine g_iald hx hb hK hB 7 0 rfl rfl (rd_s e9) dX2_doneStepFromBehind_35 ?_
        refine lv_iconst (v := (3 : Int32)) hx hb dX2_doneStepFromBehind_36 (by decide) ?_
        refine lv_icmp_ne (tgt := 50) hx hb dX2_doneStepFromBehind_37 (by decide) (fun c23 => ?_) (fun c23 => ?_)
        · have hg15 := ite_f c23 hg15
          refine lv_iinc (v := (v17 + (-1 : Int32))) (lv' := [(4, .int (v17 + (-1 : Int32))), (3, .int v18), (0, .ref (ad 0)), (1, .int i1)]) hx hb dX2_doneStepFromBehind_50 hl (k := 0) rfl rfl (by decide) rfl (fun ls hl => ?_)
          refine lv_goto (tgt := 15) hx hb dX2_doneStepFromBehind_53 (by decide) ?_
          have hL14 := el1_r (inj1 hg15) hL14
          exact ih9 _ _ _ _ _ hL14 hB (lv_sub hl [0, 1, 2, 3] rfl)
        · have hg15 := ite_t c23 hg15
          refine lv_iload_n hx hb dX2_doneStepFromBehind_40 rfl (lv_at hl 1 rfl) ?_
          refine lv_if_ne (tgt := 47) hx hb dX2_doneStepFromBehind_41 (by decide) (fun c24 => ?_) (fun c24 => ?_)
          · have hg15 := ite_f c24 hg15
            refine lv_iinc (v := (v18 + (-1 : Int32))) (lv' := [(3, .int (v18 + (-1 : Int32))), (4, .int v17), (0, .ref (ad 0)), (1, .int i1)]) hx hb dX2_doneStepFromBehind_47 hl (k := 1) rfl rfl (by decide) rfl (fun ls hl => ?_)
            refine lv_iinc (v := (v17 + (-1 : Int32))) (lv' := [(4, .int (v17 + (-1 : Int32))), (3, .int (v18 + (-1 : Int32))), (0, .ref (ad 0)), (1, .int i1)]) hx hb dX2_doneStepFromBehind_50 hl (k := 1) rfl rfl (by decide) rfl (fun ls hl => ?_)
            refine lv_goto (tgt := 15) hx hb dX2_doneStepFromBehind_53 (by decide) ?_
            have hL14 := el1_r (inj1 hg15) hL14
            exact ih9 _ _ _ _ _ hL14 hB (lv_sub hl [0, 1, 2, 3] rfl)
          · have hg15 := ite_t c24 hg15
            refine lv_iload hx hb dX2_doneStepFromBehind_44 (lv_at hl 0 rfl) ?_
            have hL14 := el1_l (inj1 hg15) hL14
            have hf := el1_l (inj1 hL14) hf
            have e0 := inj1 hf
            subst e0
            exact g_iret hx hb hr hlocks hK hB dX2_doneStepFromBehind_46
  exact key13 fu _ _ _ _ _ hL14 hB (lv_sub hl [0, 1, 2, 3] rfl)

abbrev rmX2_isPresent : Room := { frames := 0, cells := 0, slots := 0, locals := 0 }

set_option maxHeartbeats 4000000 in
set_option maxRecDepth 100000 in
theorem kX2_isPresent (l : Launch) (dC : Nat → ClassId) (dI : Nat → Nat → Nat) (cyI : ClassId) (ad bd : Nat → Nat) (sz : Nat) {fu : Nat} {τ : MS} {σ : MS} {i1 : Int32} {i2 : Int32} {r : Int32} (hf : mX2_isPresent fu τ σ i1 i2 = some r) : Met l yX2_isPresent wsX2_isPresent rmX2_isPresent (PcF (dC, dI) [(cyI, .int)] (cW cyI ad bd τ σ) sz [.ref (ad 0), .int i1, .int i2]) (QzF (dC, dI) [(cyI, .int)] (cW cyI ad bd τ σ) (cW cyI ad bd τ σ) sz r) 0 0 (va_A (cW cyI ad bd τ σ) sz) := by
  refine Met.ofW (cc := cX2_isPresent) (maxL := 3) (ret := (some .boolean)) (by decide) rfl ?_
  intro p e s m args below meth c s₁ B hml hv
  obtain ⟨rfl, hsz, hP, hK, hD0⟩ := hv
  have hx := B.exec
  have hb := B.bytes
  have hr := B.returns
  have hts := atoms_spec (ws := wsX2_isPresent) B.pre
  have hown : s.vm.findClass RX2 = some m.cls := findClass_of_methodNamed B.named
  have hlocks := B.notSynchronized
  subst hsz
  have hA : ∀ q : Nat, s.heap.size ≤ q → va_A (cW cyI ad bd τ σ) s.heap.size q := fun q h => Or.inr h
  have hB : Bd (dC, dI) [(cyI, .int)] (va_A (cW cyI ad bd τ σ) s.heap.size) s (cW cyI ad bd τ σ) s.heap [] := ⟨hP, hD0.self, va_S.rf⟩
  have hq1 : (Cond.fieldLink RX2 52 "UndoJourneys$World" "setup" "LUndoJourneys$Setup;").before _ s = true := hts _ (List.mem_of_getElem? (i := 1) rfl)
  have hq2 : (Cond.fieldLink RX2 130 "UndoJourneys$Setup" "stageOf" "[I").before _ s = true := hts _ (List.mem_of_getElem? (i := 2) rfl)
  have hq3 : (Cond.fieldLink RX2 28 "UndoJourneys$World" "presentStage" "[I").before _ s = true := hts _ (List.mem_of_getElem? (i := 3) rfl)
  have hinX0 : ∀ w ∈ wsX00, w ∈ wsX2_isPresent := fun w h => List.mem_cons_of_mem _ (List.mem_append_right _ h)
  have hinX2 : ∀ w ∈ wsX20, w ∈ wsX2_isPresent := fun w h => List.mem_cons_of_mem _ (List.mem_append_left _ (List.mem_append_right _ h))
  have hl := lv_entry [.ref (ad 0), .int i1, .int i2] (n := 3) (Nat.le_of_ble_eq_true rfl)
  rw [lg_entry_eq]
  generalize (lg_sl [.ref (ad 0), .int i1, .int i2] ++ List.replicate (3 - (lg_sl [.ref (ad 0), .int i1, .int i2]).length) Slot.unset).toArray = ls at hl ⊢
  have hl : lv_has ls 3 [(0, .ref (ad 0)), (1, .int i1), (2, .int i2)] := hl
  clear hP hD0
  suffices main : ∀ (H : Heap) (locs : List Loc), Bd (dC, dI) [(cyI, .int)] (va_A (cW cyI ad bd τ σ) s.heap.size) s (cW cyI ad bd τ σ) H locs → W p l e (headSpec wsX2_isPresent rmX2_isPresent).room s m ([.ref (ad 0), .int i1, .int i2] : List Value).toArray below meth c H locs 0 0 (MQ below (QzF (dC, dI) [(cyI, .int)] (cW cyI ad bd τ σ) (cW cyI ad bd τ σ) s.heap.size r) ([.ref (ad 0), .int i1, .int i2] : List Value).toArray s 0 0 (va_A (cW cyI ad bd τ σ) s.heap.size)) (F0 m 0 ls []) from main _ _ hB
  clear hB
  intro H locs hB
  unfold mX2_isPresent at hf
  refine lv_aload_n hx hb dX2_isPresent_0 rfl (lv_at hl 0 rfl) ?_
  refine g_get (C := RX2) (T := TX2) (N := 14) hx hb hts hinX2 hown hK hB 0 rfl rfl 0 rfl hq1 rfl rfl dX2_isPresent_1 ?_
  refine g_get (C := RX0) (T := TX0) (N := 17) hx hb hts hinX0 hown hK hB 12 rfl rfl 11 rfl hq2 rfl rfl dX2_isPresent_4 ?_
  refine lv_iload_n hx hb dX2_isPresent_7 rfl (lv_at hl 2 rfl) ?_
  obtain ⟨x1, e9, hf⟩ := ob1_s hf
  refine g_iald hx hb hK hB 19 0 rfl rfl (rd_s e9) dX2_isPresent_8 ?_
  refine lv_aload_n hx hb dX2_isPresent_9 rfl (lv_at hl 0 rfl) ?_
  refine g_get (C := RX2) (T := TX2) (N := 14) hx hb hts hinX2 hown hK hB 0 rfl rfl 6 rfl hq3 rfl rfl dX2_isPresent_10 ?_
  refine lv_iload_n hx hb dX2_isPresent_13 rfl (lv_at hl 1 rfl) ?_
  obtain ⟨x2, e9, hf⟩ := ob1_s hf
  refine g_iald hx hb hK hB 4 0 rfl rfl (rd_s e9) dX2_isPresent_14 ?_
  obtain ⟨v3, hJ5, hf⟩ := ob1_s hf
  have kJ6 : (v3 = 0 ∨ v3 = 1) → ∀ (H : Heap) (locs : List Loc) (ls : Array Slot), Bd (dC, dI) [(cyI, .int)] (va_A (cW cyI ad bd τ σ) s.heap.size) s (cW cyI ad bd τ σ) H locs → lv_has ls 3 [] → W p l e (headSpec wsX2_isPresent rmX2_isPresent).room s m ([.ref (ad 0), .int i1, .int i2] : List Value).toArray below meth c H locs 0 0 (MQ below (QzF (dC, dI) [(cyI, .int)] (cW cyI ad bd τ σ) (cW cyI ad bd τ σ) s.heap.size r) ([.ref (ad 0), .int i1, .int i2] : List Value).toArray s 0 0 (va_A (cW cyI ad bd τ σ) s.heap.size)) (F0 m 23 ls [.int v3]) := by
    intro z4 H locs ls hB hl
    have e0 := inj1 hf
    subst e0
    exact g_zret hx hb hr hlocks hK hB z4 dX2_isPresent_23
  refine lv_icmp_ne (tgt := 22) hx hb dX2_isPresent_15 (by decide) (fun c7 => ?_) (fun c7 => ?_)
  · have hJ5 := ite_f c7 hJ5
    refine lv_iconst (v := (0 : Int32)) hx hb dX2_isPresent_22 (by decide) ?_
    have e0 := inj1 hJ5
    subst e0
    exact kJ6 (Or.inl rfl) _ _ _ hB (lv_sub hl [] rfl)
  · have hJ5 := ite_t c7 hJ5
    refine lv_iconst (v := (1 : Int32)) hx hb dX2_isPresent_18 (by decide) ?_
    refine lv_goto (tgt := 23) hx hb dX2_isPresent_19 (by decide) ?_
    have e0 := inj1 hJ5
    subst e0
    exact kJ6 (Or.inr rfl) _ _ _ hB (lv_sub hl [] rfl)

abbrev rmX2_nextEventTimeForward : Room := { frames := 1, cells := 0, slots := 0, locals := 22 }

set_option maxHeartbeats 4000000 in
set_option maxRecDepth 100000 in
theorem kX2_nextEventTimeForward (l : Launch) (dC : Nat → ClassId) (dI : Nat → Nat → Nat) (cyI : ClassId) (ad bd : Nat → Nat) (sz : Nat) {fu : Nat} {τ : MS} {σ : MS} {i1 : Int32} {r : Int32} (hf : mX2_nextEventTimeForward fu τ σ i1 = some r) : Met l yX2_nextEventTimeForward wsX2_nextEventTimeForward rmX2_nextEventTimeForward (PcF (dC, dI) [(cyI, .int)] (cW cyI ad bd τ σ) sz [.ref (ad 0), .int i1]) (QiF (dC, dI) [(cyI, .int)] (cW cyI ad bd τ σ) (cW cyI ad bd τ σ) sz r) 0 0 (va_A (cW cyI ad bd τ σ) sz) := by
  refine Met.ofW (cc := cX2_nextEventTimeForward) (maxL := 5) (ret := (some .int)) (by decide) rfl ?_
  intro p e s m args below meth c s₁ B hml hv
  obtain ⟨rfl, hsz, hP, hK, hD0⟩ := hv
  have hx := B.exec
  have hb := B.bytes
  have hr := B.returns
  have hts := atoms_spec (ws := wsX2_nextEventTimeForward) B.pre
  have hown : s.vm.findClass RX2 = some m.cls := findClass_of_methodNamed B.named
  have hlocks := B.notSynchronized
  subst hsz
  have hA : ∀ q : Nat, s.heap.size ≤ q → va_A (cW cyI ad bd τ σ) s.heap.size q := fun q h => Or.inr h
  have hB : Bd (dC, dI) [(cyI, .int)] (va_A (cW cyI ad bd τ σ) s.heap.size) s (cW cyI ad bd τ σ) s.heap [] := ⟨hP, hD0.self, va_S.rf⟩
  have hq1 : (Cond.constant RX2 79 (1000000)).before _ s = true := hts _ (List.mem_of_getElem? (i := 1) rfl)
  have hq2 : (Cond.fieldLink RX2 52 "UndoJourneys$World" "setup" "LUndoJourneys$Setup;").before _ s = true := hts _ (List.mem_of_getElem? (i := 2) rfl)
  have hq3 : (Cond.fieldLink RX2 145 "UndoJourneys$Setup" "endStep" "[I").before _ s = true := hts _ (List.mem_of_getElem? (i := 3) rfl)
  have hq4 : (Cond.fieldLink RX2 148 "UndoJourneys$Setup" "firstStep" "[I").before _ s = true := hts _ (List.mem_of_getElem? (i := 4) rfl)
  have hq5 : (Cond.fieldLink RX2 37 "UndoJourneys$World" "stepState" "[I").before _ s = true := hts _ (List.mem_of_getElem? (i := 5) rfl)
  have hq6 : (Cond.fieldLink RX2 9 "UndoJourneys$World" "time" "I").before _ s = true := hts _ (List.mem_of_getElem? (i := 6) rfl)
  have hq7 : (Cond.fieldLink RX2 46 "UndoJourneys$World" "beginTime" "[I").before _ s = true := hts _ (List.mem_of_getElem? (i := 7) rfl)
  have hq8 : (Cond.fieldLink RX2 139 "UndoJourneys$Setup" "duration" "[I").before _ s = true := hts _ (List.mem_of_getElem? (i := 8) rfl)
  have hq9 : (Cond.methodLink RX2 159 Lib.Math.min.name).before _ s = true := hts _ (List.mem_of_getElem? (i := 9) rfl)
  have hq10 : (Cond.static Lib.Math.min.name).before _ s = true := hts _ (List.mem_of_getElem? (i := 10) rfl)
  have hq11 : (Cond.initialized "java/lang/Math").before _ s = true := hts _ (List.mem_of_getElem? (i := 11) rfl)
  have hq12 : (Cond.code Lib.Math.min.name Lib.Math.min.code 2 (some .int)).before _ s = true := hts _ (List.mem_of_getElem? (i := 12) rfl)
  have hinX0 : ∀ w ∈ wsX00, w ∈ wsX2_nextEventTimeForward := fun w h => List.mem_cons_of_mem _ (List.mem_append_right _ h)
  have hinX2 : ∀ w ∈ wsX20, w ∈ wsX2_nextEventTimeForward := fun w h => List.mem_cons_of_mem _ (List.mem_append_left _ (List.mem_append_right _ h))
  have hl := lv_entry [.ref (ad 0), .int i1] (n := 5) (Nat.le_of_ble_eq_true rfl)
  rw [lg_entry_eq]
  generalize (lg_sl [.ref (ad 0), .int i1] ++ List.replicate (5 - (lg_sl [.ref (ad 0), .int i1]).length) Slot.unset).toArray = ls at hl ⊢
  have hl : lv_has ls 5 [(0, .ref (ad 0)), (1, .int i1)] := hl
  clear hP hD0
  suffices main : ∀ (H : Heap) (locs : List Loc), Bd (dC, dI) [(cyI, .int)] (va_A (cW cyI ad bd τ σ) s.heap.size) s (cW cyI ad bd τ σ) H locs → W p l e (headSpec wsX2_nextEventTimeForward rmX2_nextEventTimeForward).room s m ([.ref (ad 0), .int i1] : List Value).toArray below meth c H locs 0 0 (MQ below (QiF (dC, dI) [(cyI, .int)] (cW cyI ad bd τ σ) (cW cyI ad bd τ σ) s.heap.size r) ([.ref (ad 0), .int i1] : List Value).toArray s 0 0 (va_A (cW cyI ad bd τ σ) s.heap.size)) (F0 m 0 ls []) from main _ _ hB
  clear hB
  intro H locs hB
  unfold mX2_nextEventTimeForward at hf
  refine lv_ldc (v := (1000000 : Int32)) hx hb hown hq1 dX2_nextEventTimeForward_0 ?_
  refine lv_istore_n (lv' := [(2, .int (1000000 : Int32)), (0, .ref (ad 0)), (1, .int i1)]) hx hb dX2_nextEventTimeForward_2 rfl hl (by decide) rfl (fun ls hl => ?_)
  refine lv_aload_n hx hb dX2_nextEventTimeForward_3 rfl (lv_at hl 1 rfl) ?_
  refine g_get (C := RX2) (T := TX2) (N := 14) hx hb hts hinX2 hown hK hB 0 rfl rfl 0 rfl hq2 rfl rfl dX2_nextEventTimeForward_4 ?_
  refine g_get (C := RX0) (T := TX0) (N := 17) hx hb hts hinX0 hown hK hB 12 rfl rfl 9 rfl hq3 rfl rfl dX2_nextEventTimeForward_7 ?_
  refine lv_iload_n hx hb dX2_nextEventTimeForward_10 rfl (lv_at hl 2 rfl) ?_
  obtain ⟨x1, e9, hf⟩ := ob1_s hf
  refine g_iald hx hb hK hB 18 0 rfl rfl (rd_s e9) dX2_nextEventTimeForward_11 ?_
  refine lv_istore_n (lv' := [(3, .int x1), (2, .int (1000000 : Int32)), (0, .ref (ad 0)), (1, .int i1)]) hx hb dX2_nextEventTimeForward_12 rfl hl (by decide) rfl (fun ls hl => ?_)
  refine lv_aload_n hx hb dX2_nextEventTimeForward_13 rfl (lv_at hl 2 rfl) ?_
  refine g_get (C := RX2) (T := TX2) (N := 14) hx hb hts hinX2 hown hK hB 0 rfl rfl 0 rfl hq2 rfl rfl dX2_nextEventTimeForward_14 ?_
  refine g_get (C := RX0) (T := TX0) (N := 17) hx hb hts hinX0 hown hK hB 12 rfl rfl 8 rfl hq4 rfl rfl dX2_nextEventTimeForward_17 ?_
  refine lv_iload_n hx hb dX2_nextEventTimeForward_20 rfl (lv_at hl 3 rfl) ?_
  obtain ⟨x2, e9, hf⟩ := ob1_s hf
  refine g_iald hx hb hK hB 17 0 rfl rfl (rd_s e9) dX2_nextEventTimeForward_21 ?_
  refine lv_istore (lv' := [(4, .int x2), (3, .int x1), (2, .int (1000000 : Int32)), (0, .ref (ad 0)), (1, .int i1)]) hx hb dX2_nextEventTimeForward_22 hl (by decide) rfl (fun ls hl => ?_)
  obtain ⟨b38, hL32, hf⟩ := ob1_s hf
  have kE30 : ∀ (v29 : Int32) (H : Heap) (locs : List Loc) (ls : Array Slot), Sum.inr v29 = b38 → Bd (dC, dI) [(cyI, .int)] (va_A (cW cyI ad bd τ σ) s.heap.size) s (cW cyI ad bd τ σ) H locs → lv_has ls 5 [(2, .int v29), (0, .ref (ad 0))] → W p l e (headSpec wsX2_nextEventTimeForward rmX2_nextEventTimeForward).room s m ([.ref (ad 0), .int i1] : List Value).toArray below meth c H locs 0 0 (MQ below (QiF (dC, dI) [(cyI, .int)] (cW cyI ad bd τ σ) (cW cyI ad bd τ σ) s.heap.size r) ([.ref (ad 0), .int i1] : List Value).toArray s 0 0 (va_A (cW cyI ad bd τ σ) s.heap.size)) (F0 m 106 ls []) := by
    intro v29 H locs ls hb9 hB hl
    have hf := el1_r hb9 hf
    refine lv_iload_n hx hb dX2_nextEventTimeForward_106 rfl (lv_at hl 0 rfl) ?_
    refine lv_ldc (v := (1000000 : Int32)) hx hb hown hq1 dX2_nextEventTimeForward_107 ?_
    obtain ⟨v34, hJ35, hf⟩ := ob1_s hf
    have kJ36 : ∀ (H : Heap) (locs : List Loc) (ls : Array Slot), Bd (dC, dI) [(cyI, .int)] (va_A (cW cyI ad bd τ σ) s.heap.size) s (cW cyI ad bd τ σ) H locs → lv_has ls 5 [] → W p l e (headSpec wsX2_nextEventTimeForward rmX2_nextEventTimeForward).room s m ([.ref (ad 0), .int i1] : List Value).toArray below meth c H locs 0 0 (MQ below (QiF (dC, dI) [(cyI, .int)] (cW cyI ad bd τ σ) (cW cyI ad bd τ σ) s.heap.size r) ([.ref (ad 0), .int i1] : List Value).toArray s 0 0 (va_A (cW cyI ad bd τ σ) s.heap.size)) (F0 m 120 ls [.int v34]) := by
      intro H locs ls hB hl
      have e0 := inj1 hf
      subst e0
      exact g_iret hx hb hr hlocks hK hB dX2_nextEventTimeForward_120
    refine lv_icmp_ne (tgt := 119) hx hb dX2_nextEventTimeForward_109 (by decide) (fun c37 => ?_) (fun c37 => ?_)
    · have hJ35 := ite_f c37 hJ35
      refine lv_iload_n hx hb dX2_nextEventTimeForward_119 rfl (lv_at hl 0 rfl) ?_
      have e0 := inj1 hJ35
      subst e0
      exact kJ36 _ _ _ hB (lv_sub hl [] rfl)
    · have hJ35 := ite_t c37 hJ35
      refine lv_aload_n hx hb dX2_nextEventTimeForward_112 rfl (lv_at hl 1 rfl) ?_
      refine g_get (C := RX2) (T := TX2) (N := 14) hx hb hts hinX2 hown hK hB 0 rfl rfl 1 rfl hq6 rfl rfl dX2_nextEventTimeForward_113 ?_
      refine lv_goto (tgt := 120) hx hb dX2_nextEventTimeForward_116 (by decide) ?_
      have e0 := inj1 hJ35
      subst e0
      exact kJ36 _ _ _ hB (lv_sub hl [] rfl)
  have key31 : ∀ (n9 : Nat) (v39 : Int32) (v40 : Int32) (H : Heap) (locs : List Loc) (ls : Array Slot), loopM (fun st => mX2_nextEventTimeForward_L24 fu x1 i1 τ σ st.1 st.2) n9 (v39, v40) = some b38 → Bd (dC, dI) [(cyI, .int)] (va_A (cW cyI ad bd τ σ) s.heap.size) s (cW cyI ad bd τ σ) H locs → lv_has ls 5 [(4, .int v39), (3, .int x1), (2, .int v40), (0, .ref (ad 0)), (1, .int i1)] → W p l e (headSpec wsX2_nextEventTimeForward rmX2_nextEventTimeForward).room s m ([.ref (ad 0), .int i1] : List Value).toArray below meth c H locs 0 0 (MQ below (QiF (dC, dI) [(cyI, .int)] (cW cyI ad bd τ σ) (cW cyI ad bd τ σ) s.heap.size r) ([.ref (ad 0), .int i1] : List Value).toArray s 0 0 (va_A (cW cyI ad bd τ σ) s.heap.size)) (F0 m 24 ls []) := by
    intro n9
    induction n9 with
    | zero => intro v39 v40 H locs ls hL32; exact (loopM_z hL32).elim
    | succ n9 ih9 =>
      intro v39 v40 H locs ls hL32 hB hl
      obtain ⟨o41, hg33, hL32⟩ := loopM_s hL32
      have hg33 : mX2_nextEventTimeForward_L24 fu x1 i1 τ σ v39 v40 = some o41 := hg33
      unfold mX2_nextEventTimeForward_L24 at hg33
      refine lv_iload hx hb dX2_nextEventTimeForward_24 (lv_at hl 0 rfl) ?_
      refine lv_iload_n hx hb dX2_nextEventTimeForward_26 rfl (lv_at hl 1 rfl) ?_
      refine lv_icmp_ge (tgt := 106) hx hb dX2_nextEventTimeForward_27 (by decide) (fun c42 => ?_) (fun c42 => ?_)
      · have hg33 := ite_t c42 hg33
        have hL32 := el1_l (inj1 hg33) hL32
        exact kE30 _ _ _ _ (inj1 hL32) hB (lv_sub hl [2, 3] rfl)
      · have hg33 := ite_f c42 hg33
        refine lv_aload_n hx hb dX2_nextEventTimeForward_30 rfl (lv_at hl 3 rfl) ?_
        refine lv_iload_n hx hb dX2_nextEventTimeForward_31 rfl (lv_at hl 4 rfl) ?_
        refine lv_iload hx hb dX2_nextEventTimeForward_32 (lv_at hl 0 rfl) ?_
        obtain ⟨r43, hc, hg33⟩ := ob1_s hg33
        refine g_callVz (As := [.int i1, .int v39]) (rest := []) ⟨hx, hb, hml, hown, hts⟩ (kX2_isPresent l dC dI cyI ad bd H.size hc) (cwV 2 hts gX2_nextEventTimeForward_X2_isPresent rfl rfl rfl (by decide +kernel) ⟨Nat.le_of_ble_eq_true rfl, Nat.le_of_ble_eq_true rfl⟩) hK hB hA (g_recv (ci := 2) hK hB 0 rfl rfl rfl) rfl hl.1 rfl (Nat.le_of_ble_eq_true rfl) dX2_nextEventTimeForward_34 ⟨Nat.zero_le _, Nat.zero_le _⟩ (fun z44 H locs hB => ?_)
        obtain ⟨t45, hD46, hg33⟩ := ob1_s hg33
        have kTt45 : t45 = true → ∀ (H : Heap) (locs : List Loc), Bd (dC, dI) [(cyI, .int)] (va_A (cW cyI ad bd τ σ) s.heap.size) s (cW cyI ad bd τ σ) H locs → W p l e (headSpec wsX2_nextEventTimeForward rmX2_nextEventTimeForward).room s m ([.ref (ad 0), .int i1] : List Value).toArray below meth c H locs 0 0 (MQ below (QiF (dC, dI) [(cyI, .int)] (cW cyI ad bd τ σ) (cW cyI ad bd τ σ) s.heap.size r) ([.ref (ad 0), .int i1] : List Value).toArray s 0 0 (va_A (cW cyI ad bd τ σ) s.heap.size)) (F0 m 51 ls []) := by
          intro ht H locs hB
          have hg33 := cnd_t ht hg33
          refine lv_aload_n hx hb dX2_nextEventTimeForward_51 rfl (lv_at hl 3 rfl) ?_
          refine g_get (C := RX2) (T := TX2) (N := 14) hx hb hts hinX2 hown hK hB 0 rfl rfl 1 rfl hq6 rfl rfl dX2_nextEventTimeForward_52 ?_
          have hL32 := el1_l (inj1 hg33) hL32
          have hf := el1_l (inj1 hL32) hf
          have e0 := inj1 hf
          subst e0
          exact g_iret hx hb hr hlocks hK hB dX2_nextEventTimeForward_55
        have kFt45 : t45 = false → ∀ (H : Heap) (locs : List Loc), Bd (dC, dI) [(cyI, .int)] (va_A (cW cyI ad bd τ σ) s.heap.size) s (cW cyI ad bd τ σ) H locs → W p l e (headSpec wsX2_nextEventTimeForward rmX2_nextEventTimeForward).room s m ([.ref (ad 0), .int i1] : List Value).toArray below meth c H locs 0 0 (MQ below (QiF (dC, dI) [(cyI, .int)] (cW cyI ad bd τ σ) (cW cyI ad bd τ σ) s.heap.size r) ([.ref (ad 0), .int i1] : List Value).toArray s 0 0 (va_A (cW cyI ad bd τ σ) s.heap.size)) (F0 m 56 ls []) := by
          intro ht H locs hB
          have hg33 := cnd_f ht hg33
          refine lv_aload_n hx hb dX2_nextEventTimeForward_56 rfl (lv_at hl 3 rfl) ?_
          refine lv_iload_n hx hb dX2_nextEventTimeForward_57 rfl (lv_at hl 4 rfl) ?_
          refine lv_iload hx hb dX2_nextEventTimeForward_58 (lv_at hl 0 rfl) ?_
          obtain ⟨r50, hc, hg33⟩ := ob1_s hg33
          refine g_callVz (As := [.int i1, .int v39]) (rest := []) ⟨hx, hb, hml, hown, hts⟩ (kX2_isPresent l dC dI cyI ad bd H.size hc) (cwV 2 hts gX2_nextEventTimeForward_X2_isPresent rfl rfl rfl (by decide +kernel) ⟨Nat.le_of_ble_eq_true rfl, Nat.le_of_ble_eq_true rfl⟩) hK hB hA (g_recv (ci := 2) hK hB 0 rfl rfl rfl) rfl hl.1 rfl (Nat.le_of_ble_eq_true rfl) dX2_nextEventTimeForward_60 ⟨Nat.zero_le _, Nat.zero_le _⟩ (fun z51 H locs hB => ?_)
          obtain ⟨v52, hJ53, hg33⟩ := ob1_s hg33
          have kJ54 : ∀ (H : Heap) (locs : List Loc) (ls : Array Slot), Bd (dC, dI) [(cyI, .int)] (va_A (cW cyI ad bd τ σ) s.heap.size) s (cW cyI ad bd τ σ) H locs → lv_has ls 5 [(2, .int v52), (4, .int v39), (3, .int x1), (0, .ref (ad 0)), (1, .int i1)] → W p l e (headSpec wsX2_nextEventTimeForward rmX2_nextEventTimeForward).room s m ([.ref (ad 0), .int i1] : List Value).toArray below meth c H locs 0 0 (MQ below (QiF (dC, dI) [(cyI, .int)] (cW cyI ad bd τ σ) (cW cyI ad bd τ σ) s.heap.size r) ([.ref (ad 0), .int i1] : List Value).toArray s 0 0 (va_A (cW cyI ad bd τ σ) s.heap.size)) (F0 m 100 ls []) := by
            intro H locs ls hB hl
            refine lv_iinc (v := (v39 + (1 : Int32))) (lv' := [(4, .int (v39 + (1 : Int32))), (2, .int v52), (3, .int x1), (0, .ref (ad 0)), (1, .int i1)]) hx hb dX2_nextEventTimeForward_100 hl (k := 1) rfl rfl (by decide) rfl (fun ls hl => ?_)
            refine lv_goto (tgt := 24) hx hb dX2_nextEventTimeForward_103 (by decide) ?_
            have hL32 := el1_r (inj1 hg33) hL32
            exact ih9 _ _ _ _ _ hL32 hB (lv_sub hl [0, 2, 1, 3, 4] rfl)
          obtain ⟨t55, hD56, hJ53⟩ := ob1_s hJ53
          have kTt55 : t55 = true → ∀ (H : Heap) (locs : List Loc), Bd (dC, dI) [(cyI, .int)] (va_A (cW cyI ad bd τ σ) s.heap.size) s (cW cyI ad bd τ σ) H locs → W p l e (headSpec wsX2_nextEventTimeForward rmX2_nextEventTimeForward).room s m ([.ref (ad 0), .int i1] : List Value).toArray below meth c H locs 0 0 (MQ below (QiF (dC, dI) [(cyI, .int)] (cW cyI ad bd τ σ) (cW cyI ad bd τ σ) s.heap.size r) ([.ref (ad 0), .int i1] : List Value).toArray s 0 0 (va_A (cW cyI ad bd τ σ) s.heap.size)) (F0 m 77 ls []) := by
            intro ht H locs hB
            have hJ53 := cnd_t ht hJ53
            refine lv_iload_n hx hb dX2_nextEventTimeForward_77 rfl (lv_at hl 2 rfl) ?_
            refine lv_aload_n hx hb dX2_nextEventTimeForward_78 rfl (lv_at hl 3 rfl) ?_
            refine g_get (C := RX2) (T := TX2) (N := 14) hx hb hts hinX2 hown hK hB 0 rfl rfl 12 rfl hq7 rfl rfl dX2_nextEventTimeForward_79 ?_
            refine lv_iload hx hb dX2_nextEventTimeForward_82 (lv_at hl 0 rfl) ?_
            obtain ⟨x60, e9, hJ53⟩ := ob1_s hJ53
            refine g_iald hx hb hK hB 10 0 rfl rfl (rd_s e9) dX2_nextEventTimeForward_84 ?_
            refine lv_aload_n hx hb dX2_nextEventTimeForward_85 rfl (lv_at hl 3 rfl) ?_
            refine g_get (C := RX2) (T := TX2) (N := 14) hx hb hts hinX2 hown hK hB 0 rfl rfl 0 rfl hq2 rfl rfl dX2_nextEventTimeForward_86 ?_
            refine g_get (C := RX0) (T := TX0) (N := 17) hx hb hts hinX0 hown hK hB 12 rfl rfl 14 rfl hq8 rfl rfl dX2_nextEventTimeForward_89 ?_
            refine lv_iload hx hb dX2_nextEventTimeForward_92 (lv_at hl 0 rfl) ?_
            obtain ⟨x61, e9, hJ53⟩ := ob1_s hJ53
            refine g_iald hx hb hK hB 22 0 rfl rfl (rd_s e9) dX2_nextEventTimeForward_94 ?_
            refine lv_iadd hx hb dX2_nextEventTimeForward_95 ?_
            refine va_mmin hx hb (hml.trans hl.1.symm) hown hq9 hq10 hq11 hq12 (Nat.le_of_ble_eq_true rfl) (Nat.le_of_ble_eq_true rfl) (Nat.le_of_ble_eq_true rfl) (Nat.le_of_ble_eq_true rfl) dX2_nextEventTimeForward_96 ?_
            refine lv_istore_n (lv' := [(2, .int (if (x60 + x61) < v40 then (x60 + x61) else v40)), (4, .int v39), (3, .int x1), (0, .ref (ad 0)), (1, .int i1)]) hx hb dX2_nextEventTimeForward_99 rfl hl (by decide) rfl (fun ls hl => ?_)
            have e0 := inj1 hJ53
            subst e0
            exact kJ54 _ _ _ hB (lv_sub hl [0, 1, 2, 3, 4] rfl)
          have kFt55 : t55 = false → ∀ (H : Heap) (locs : List Loc), Bd (dC, dI) [(cyI, .int)] (va_A (cW cyI ad bd τ σ) s.heap.size) s (cW cyI ad bd τ σ) H locs → W p l e (headSpec wsX2_nextEventTimeForward rmX2_nextEventTimeForward).room s m ([.ref (ad 0), .int i1] : List Value).toArray below meth c H locs 0 0 (MQ below (QiF (dC, dI) [(cyI, .int)] (cW cyI ad bd τ σ) (cW cyI ad bd τ σ) s.heap.size r) ([.ref (ad 0), .int i1] : List Value).toArray s 0 0 (va_A (cW cyI ad bd τ σ) s.heap.size)) (F0 m 100 ls []) := by
            intro ht H locs hB
            have hJ53 := cnd_f ht hJ53
            have e0 := inj1 hJ53
            subst e0
            exact kJ54 _ _ _ hB (lv_sub hl [2, 0, 1, 3, 4] rfl)
          refine lv_if_eq (tgt := 100) hx hb dX2_nextEventTimeForward_63 (by decide) (fun c57 => ?_) (fun c57 => ?_)
          · have hD56 := ite_t c57 hD56
            have e0 := inj1 hD56
            exact kFt55 e0.symm _ _ hB
          · have hD56 := ite_f c57 hD56
            refine lv_aload_n hx hb dX2_nextEventTimeForward_66 rfl (lv_at hl 3 rfl) ?_
            refine g_get (C := RX2) (T := TX2) (N := 14) hx hb hts hinX2 hown hK hB 0 rfl rfl 9 rfl hq5 rfl rfl dX2_nextEventTimeForward_67 ?_
            refine lv_iload hx hb dX2_nextEventTimeForward_70 (lv_at hl 0 rfl) ?_
            obtain ⟨x58, e9, hD56⟩ := ob1_s hD56
            refine g_iald hx hb hK hB 7 0 rfl rfl (rd_s e9) dX2_nextEventTimeForward_72 ?_
            refine lv_iconst (v := (2 : Int32)) hx hb dX2_nextEventTimeForward_73 (by decide) ?_
            refine lv_icmp_ne (tgt := 100) hx hb dX2_nextEventTimeForward_74 (by decide) (fun c59 => ?_) (fun c59 => ?_)
            · have hD56 := ite_f c59 hD56
              have e0 := inj1 hD56
              exact kFt55 e0.symm _ _ hB
            · have hD56 := ite_t c59 hD56
              have e0 := inj1 hD56
              exact kTt55 e0.symm _ _ hB
        refine lv_if_eq (tgt := 56) hx hb dX2_nextEventTimeForward_37 (by decide) (fun c47 => ?_) (fun c47 => ?_)
        · have hD46 := ite_t c47 hD46
          have e0 := inj1 hD46
          exact kFt45 e0.symm _ _ hB
        · have hD46 := ite_f c47 hD46
          refine lv_aload_n hx hb dX2_nextEventTimeForward_40 rfl (lv_at hl 3 rfl) ?_
          refine g_get (C := RX2) (T := TX2) (N := 14) hx hb hts hinX2 hown hK hB 0 rfl rfl 9 rfl hq5 rfl rfl dX2_nextEventTimeForward_41 ?_
          refine lv_iload hx hb dX2_nextEventTimeForward_44 (lv_at hl 0 rfl) ?_
          obtain ⟨x48, e9, hD46⟩ := ob1_s hD46
          refine g_iald hx hb hK hB 7 0 rfl rfl (rd_s e9) dX2_nextEventTimeForward_46 ?_
          refine lv_iconst (v := (1 : Int32)) hx hb dX2_nextEventTimeForward_47 (by decide) ?_
          refine lv_icmp_ne (tgt := 56) hx hb dX2_nextEventTimeForward_48 (by decide) (fun c49 => ?_) (fun c49 => ?_)
          · have hD46 := ite_f c49 hD46
            have e0 := inj1 hD46
            exact kFt45 e0.symm _ _ hB
          · have hD46 := ite_t c49 hD46
            have e0 := inj1 hD46
            exact kTt45 e0.symm _ _ hB
  exact key31 fu _ _ _ _ _ hL32 hB (lv_sub hl [0, 1, 2, 3, 4] rfl)

abbrev rmX2_nextEventTimeOf : Room := { frames := 2, cells := 0, slots := 0, locals := 46 }

set_option maxHeartbeats 4000000 in
set_option maxRecDepth 100000 in
theorem kX2_nextEventTimeOf (l : Launch) (dC : Nat → ClassId) (dI : Nat → Nat → Nat) (cyI : ClassId) (ad bd : Nat → Nat) (sz : Nat) {fu : Nat} {τ : MS} {σ : MS} {i1 : Int32} {r : Int32} (hf : mX2_nextEventTimeOf fu τ σ i1 = some r) : Met l yX2_nextEventTimeOf wsX2_nextEventTimeOf rmX2_nextEventTimeOf (PcF (dC, dI) [(cyI, .int)] (cW cyI ad bd τ σ) sz [.ref (ad 0), .int i1]) (QiF (dC, dI) [(cyI, .int)] (cW cyI ad bd τ σ) (cW cyI ad bd τ σ) sz r) 0 0 (va_A (cW cyI ad bd τ σ) sz) := by
  refine Met.ofW (cc := cX2_nextEventTimeOf) (maxL := 2) (ret := (some .int)) (by decide) rfl ?_
  intro p e s m args below meth c s₁ B hml hv
  obtain ⟨rfl, hsz, hP, hK, hD0⟩ := hv
  have hx := B.exec
  have hb := B.bytes
  have hr := B.returns
  have hts := atoms_spec (ws := wsX2_nextEventTimeOf) B.pre
  have hown : s.vm.findClass RX2 = some m.cls := findClass_of_methodNamed B.named
  have hlocks := B.notSynchronized
  subst hsz
  have hA : ∀ q : Nat, s.heap.size ≤ q → va_A (cW cyI ad bd τ σ) s.heap.size q := fun q h => Or.inr h
  have hB : Bd (dC, dI) [(cyI, .int)] (va_A (cW cyI ad bd τ σ) s.heap.size) s (cW cyI ad bd τ σ) s.heap [] := ⟨hP, hD0.self, va_S.rf⟩
  have hq1 : (Cond.fieldLink RX2 25 "UndoJourneys$World" "journeyState" "[I").before _ s = true := hts _ (List.mem_of_getElem? (i := 1) rfl)
  have hq2 : (Cond.fieldLink RX2 52 "UndoJourneys$World" "setup" "LUndoJourneys$Setup;").before _ s = true := hts _ (List.mem_of_getElem? (i := 2) rfl)
  have hq3 : (Cond.fieldLink RX2 114 "UndoJourneys$Setup" "start" "[I").before _ s = true := hts _ (List.mem_of_getElem? (i := 3) rfl)
  have hq4 : (Cond.fieldLink RX2 9 "UndoJourneys$World" "time" "I").before _ s = true := hts _ (List.mem_of_getElem? (i := 4) rfl)
  have hq5 : (Cond.constant RX2 79 (1000000)).before _ s = true := hts _ (List.mem_of_getElem? (i := 5) rfl)
  have hinX0 : ∀ w ∈ wsX00, w ∈ wsX2_nextEventTimeOf := fun w h => List.mem_cons_of_mem _ (List.mem_append_right _ h)
  have hinX2 : ∀ w ∈ wsX20, w ∈ wsX2_nextEventTimeOf := fun w h => List.mem_cons_of_mem _ (List.mem_append_left _ (List.mem_append_right _ h))
  have hl := lv_entry [.ref (ad 0), .int i1] (n := 2) (Nat.le_of_ble_eq_true rfl)
  rw [lg_entry_eq]
  generalize (lg_sl [.ref (ad 0), .int i1] ++ List.replicate (2 - (lg_sl [.ref (ad 0), .int i1]).length) Slot.unset).toArray = ls at hl ⊢
  have hl : lv_has ls 2 [(0, .ref (ad 0)), (1, .int i1)] := hl
  clear hP hD0
  suffices main : ∀ (H : Heap) (locs : List Loc), Bd (dC, dI) [(cyI, .int)] (va_A (cW cyI ad bd τ σ) s.heap.size) s (cW cyI ad bd τ σ) H locs → W p l e (headSpec wsX2_nextEventTimeOf rmX2_nextEventTimeOf).room s m ([.ref (ad 0), .int i1] : List Value).toArray below meth c H locs 0 0 (MQ below (QiF (dC, dI) [(cyI, .int)] (cW cyI ad bd τ σ) (cW cyI ad bd τ σ) s.heap.size r) ([.ref (ad 0), .int i1] : List Value).toArray s 0 0 (va_A (cW cyI ad bd τ σ) s.heap.size)) (F0 m 0 ls []) from main _ _ hB
  clear hB
  intro H locs hB
  unfold mX2_nextEventTimeOf at hf
  refine lv_aload_n hx hb dX2_nextEventTimeOf_0 rfl (lv_at hl 0 rfl) ?_
  refine g_get (C := RX2) (T := TX2) (N := 14) hx hb hts hinX2 hown hK hB 0 rfl rfl 5 rfl hq1 rfl rfl dX2_nextEventTimeOf_1 ?_
  refine lv_iload_n hx hb dX2_nextEventTimeOf_4 rfl (lv_at hl 1 rfl) ?_
  obtain ⟨x1, e9, hf⟩ := ob1_s hf
  refine g_iald hx hb hK hB 3 0 rfl rfl (rd_s e9) dX2_nextEventTimeOf_5 ?_
  by_cases c2 : x1 = 0
  · have hf := ite_t c2 hf
    refine lv_tableIn (tgt := 32) (off := 26) hx hb dX2_nextEventTimeOf_6 (by rw [c2]; decide) (by rw [c2]; decide) (by rw [c2]; rfl) (by decide) ?_
    refine lv_aload_n hx hb dX2_nextEventTimeOf_32 rfl (lv_at hl 0 rfl) ?_
    refine g_get (C := RX2) (T := TX2) (N := 14) hx hb hts hinX2 hown hK hB 0 rfl rfl 0 rfl hq2 rfl rfl dX2_nextEventTimeOf_33 ?_
    refine g_get (C := RX0) (T := TX0) (N := 17) hx hb hts hinX0 hown hK hB 12 rfl rfl 6 rfl hq3 rfl rfl dX2_nextEventTimeOf_36 ?_
    refine lv_iload_n hx hb dX2_nextEventTimeOf_39 rfl (lv_at hl 1 rfl) ?_
    obtain ⟨x3, e9, hf⟩ := ob1_s hf
    refine g_iald hx hb hK hB 15 0 rfl rfl (rd_s e9) dX2_nextEventTimeOf_40 ?_
    have e0 := inj1 hf
    subst e0
    exact g_iret hx hb hr hlocks hK hB dX2_nextEventTimeOf_41
  · have hf := ite_f c2 hf
    by_cases c4 : x1 = 1
    · have hf := ite_t c4 hf
      refine lv_tableIn (tgt := 42) (off := 36) hx hb dX2_nextEventTimeOf_6 (by rw [c4]; decide) (by rw [c4]; decide) (by rw [c4]; rfl) (by decide) ?_
      refine lv_aload_n hx hb dX2_nextEventTimeOf_42 rfl (lv_at hl 0 rfl) ?_
      refine lv_iload_n hx hb dX2_nextEventTimeOf_43 rfl (lv_at hl 1 rfl) ?_
      obtain ⟨r5, hc, hf⟩ := ob1_s hf
      refine g_callVi (As := [.int i1]) (rest := []) ⟨hx, hb, hml, hown, hts⟩ (kX2_nextEventTimeForward l dC dI cyI ad bd H.size hc) (cwV 1 hts gX2_nextEventTimeOf_X2_nextEventTimeForward rfl rfl rfl (by decide +kernel) ⟨Nat.le_of_ble_eq_true rfl, Nat.le_of_ble_eq_true rfl⟩) hK hB hA (g_recv (ci := 2) hK hB 0 rfl rfl rfl) rfl hl.1 rfl (Nat.le_of_ble_eq_true rfl) dX2_nextEventTimeOf_44 ⟨Nat.zero_le _, Nat.zero_le _⟩ (fun H locs hB => ?_)
      have e0 := inj1 hf
      subst e0
      exact g_iret hx hb hr hlocks hK hB dX2_nextEventTimeOf_47
    · have hf := ite_f c4 hf
      by_cases c6 : x1 = 2
      · have hf := ite_t c6 hf
        refine lv_tableIn (tgt := 48) (off := 42) hx hb dX2_nextEventTimeOf_6 (by rw [c6]; decide) (by rw [c6]; decide) (by rw [c6]; rfl) (by decide) ?_
        refine lv_aload_n hx hb dX2_nextEventTimeOf_48 rfl (lv_at hl 0 rfl) ?_
        refine g_get (C := RX2) (T := TX2) (N := 14) hx hb hts hinX2 hown hK hB 0 rfl rfl 1 rfl hq4 rfl rfl dX2_nextEventTimeOf_49 ?_
        have e0 := inj1 hf
        subst e0
        exact g_iret hx hb hr hlocks hK hB dX2_nextEventTimeOf_52
      · have hf := ite_f c6 hf
        refine lv_tableOut (tgt := 53) hx hb dX2_nextEventTimeOf_6 (sw_out (n := 2) (by decide) (fun k hk q => by
            rcases (show k = 0 ∨ k = 1 ∨ k = 2 by omega) with rfl | rfl | rfl
            · exact c2 (q.trans rfl)
            · exact c4 (q.trans rfl)
            · exact c6 (q.trans rfl)))
          (by decide) ?_
        refine lv_ldc (v := (1000000 : Int32)) hx hb hown hq5 dX2_nextEventTimeOf_53 ?_
        have e0 := inj1 hf
        subst e0
        exact g_iret hx hb hr hlocks hK hB dX2_nextEventTimeOf_55

abbrev rmX2_nextEventTime : Room := { frames := 3, cells := 0, slots := 0, locals := 67 }

set_option maxHeartbeats 4000000 in
set_option maxRecDepth 100000 in
theorem kX2_nextEventTime (l : Launch) (dC : Nat → ClassId) (dI : Nat → Nat → Nat) (cyI : ClassId) (ad bd : Nat → Nat) (sz : Nat) {fu : Nat} {τ : MS} {σ : MS} {r : Int32} (hf : mX2_nextEventTime fu τ σ = some r) : Met l yX2_nextEventTime wsX2_nextEventTime rmX2_nextEventTime (PcF (dC, dI) [(cyI, .int)] (cW cyI ad bd τ σ) sz [.ref (ad 0)]) (QiF (dC, dI) [(cyI, .int)] (cW cyI ad bd τ σ) (cW cyI ad bd τ σ) sz r) 0 0 (va_A (cW cyI ad bd τ σ) sz) := by
  refine Met.ofW (cc := cX2_nextEventTime) (maxL := 3) (ret := (some .int)) (by decide) rfl ?_
  intro p e s m args below meth c s₁ B hml hv
  obtain ⟨rfl, hsz, hP, hK, hD0⟩ := hv
  have hx := B.exec
  have hb := B.bytes
  have hr := B.returns
  have hts := atoms_spec (ws := wsX2_nextEventTime) B.pre
  have hown : s.vm.findClass RX2 = some m.cls := findClass_of_methodNamed B.named
  have hlocks := B.notSynchronized
  subst hsz
  have hA : ∀ q : Nat, s.heap.size ≤ q → va_A (cW cyI ad bd τ σ) s.heap.size q := fun q h => Or.inr h
  have hB : Bd (dC, dI) [(cyI, .int)] (va_A (cW cyI ad bd τ σ) s.heap.size) s (cW cyI ad bd τ σ) s.heap [] := ⟨hP, hD0.self, va_S.rf⟩
  have hq1 : (Cond.constant RX2 79 (1000000)).before _ s = true := hts _ (List.mem_of_getElem? (i := 1) rfl)
  have hq2 : (Cond.fieldLink RX2 52 "UndoJourneys$World" "setup" "LUndoJourneys$Setup;").before _ s = true := hts _ (List.mem_of_getElem? (i := 2) rfl)
  have hq3 : (Cond.fieldLink RX2 83 "UndoJourneys$Setup" "journeys" "I").before _ s = true := hts _ (List.mem_of_getElem? (i := 3) rfl)
  have hq4 : (Cond.methodLink RX2 159 Lib.Math.min.name).before _ s = true := hts _ (List.mem_of_getElem? (i := 4) rfl)
  have hq5 : (Cond.static Lib.Math.min.name).before _ s = true := hts _ (List.mem_of_getElem? (i := 5) rfl)
  have hq6 : (Cond.initialized "java/lang/Math").before _ s = true := hts _ (List.mem_of_getElem? (i := 6) rfl)
  have hq7 : (Cond.code Lib.Math.min.name Lib.Math.min.code 2 (some .int)).before _ s = true := hts _ (List.mem_of_getElem? (i := 7) rfl)
  have hq8 : (Cond.fieldLink RX2 9 "UndoJourneys$World" "time" "I").before _ s = true := hts _ (List.mem_of_getElem? (i := 8) rfl)
  have hq9 : (Cond.methodLink RX2 170 Lib.Math.max.name).before _ s = true := hts _ (List.mem_of_getElem? (i := 9) rfl)
  have hq10 : (Cond.static Lib.Math.max.name).before _ s = true := hts _ (List.mem_of_getElem? (i := 10) rfl)
  have hq11 : (Cond.code Lib.Math.max.name Lib.Math.max.code 2 (some .int)).before _ s = true := hts _ (List.mem_of_getElem? (i := 11) rfl)
  have hinX0 : ∀ w ∈ wsX00, w ∈ wsX2_nextEventTime := fun w h => List.mem_cons_of_mem _ (List.mem_append_right _ h)
  have hinX2 : ∀ w ∈ wsX20, w ∈ wsX2_nextEventTime := fun w h => List.mem_cons_of_mem _ (List.mem_append_left _ (List.mem_append_right _ h))
  have hl := lv_entry [.ref (ad 0)] (n := 3) (Nat.le_of_ble_eq_true rfl)
  rw [lg_entry_eq]
  generalize (lg_sl [.ref (ad 0)] ++ List.replicate (3 - (lg_sl [.ref (ad 0)]).length) Slot.unset).toArray = ls at hl ⊢
  have hl : lv_has ls 3 [(0, .ref (ad 0))] := hl
  clear hP hD0
  suffices main : ∀ (H : Heap) (locs : List Loc), Bd (dC, dI) [(cyI, .int)] (va_A (cW cyI ad bd τ σ) s.heap.size) s (cW cyI ad bd τ σ) H locs → W p l e (headSpec wsX2_nextEventTime rmX2_nextEventTime).room s m ([.ref (ad 0)] : List Value).toArray below meth c H locs 0 0 (MQ below (QiF (dC, dI) [(cyI, .int)] (cW cyI ad bd τ σ) (cW cyI ad bd τ σ) s.heap.size r) ([.ref (ad 0)] : List Value).toArray s 0 0 (va_A (cW cyI ad bd τ σ) s.heap.size)) (F0 m 0 ls []) from main _ _ hB
  clear hB
  intro H locs hB
  unfold mX2_nextEventTime at hf
  refine lv_ldc (v := (1000000 : Int32)) hx hb hown hq1 dX2_nextEventTime_0 ?_
  refine lv_istore_n (lv' := [(1, .int (1000000 : Int32)), (0, .ref (ad 0))]) hx hb dX2_nextEventTime_2 rfl hl (by decide) rfl (fun ls hl => ?_)
  refine lv_iconst (v := (0 : Int32)) hx hb dX2_nextEventTime_3 (by decide) ?_
  refine lv_istore_n (lv' := [(2, .int (0 : Int32)), (1, .int (1000000 : Int32)), (0, .ref (ad 0))]) hx hb dX2_nextEventTime_4 rfl hl (by decide) rfl (fun ls hl => ?_)
  obtain ⟨v7, hL10, hf⟩ := ob1_s hf
  have kE8 : ∀ (H : Heap) (locs : List Loc) (ls : Array Slot), Bd (dC, dI) [(cyI, .int)] (va_A (cW cyI ad bd τ σ) s.heap.size) s (cW cyI ad bd τ σ) H locs → lv_has ls 3 [(1, .int v7), (0, .ref (ad 0))] → W p l e (headSpec wsX2_nextEventTime rmX2_nextEventTime).room s m ([.ref (ad 0)] : List Value).toArray below meth c H locs 0 0 (MQ below (QiF (dC, dI) [(cyI, .int)] (cW cyI ad bd τ σ) (cW cyI ad bd τ σ) s.heap.size r) ([.ref (ad 0)] : List Value).toArray s 0 0 (va_A (cW cyI ad bd τ σ) s.heap.size)) (F0 m 32 ls []) := by
    intro H locs ls hB hl
    refine lv_aload_n hx hb dX2_nextEventTime_32 rfl (lv_at hl 1 rfl) ?_
    refine g_get (C := RX2) (T := TX2) (N := 14) hx hb hts hinX2 hown hK hB 0 rfl rfl 1 rfl hq8 rfl rfl dX2_nextEventTime_33 ?_
    refine lv_iload_n hx hb dX2_nextEventTime_36 rfl (lv_at hl 0 rfl) ?_
    refine va_mmax hx hb (hml.trans hl.1.symm) hown hq9 hq10 hq6 hq11 (Nat.le_of_ble_eq_true rfl) (Nat.le_of_ble_eq_true rfl) (Nat.le_of_ble_eq_true rfl) (Nat.le_of_ble_eq_true rfl) dX2_nextEventTime_37 ?_
    have e0 := inj1 hf
    subst e0
    exact g_iret hx hb hr hlocks hK hB dX2_nextEventTime_40
  have key9 : ∀ (n9 : Nat) (v13 : Int32) (v14 : Int32) (H : Heap) (locs : List Loc) (ls : Array Slot), loopM (fun st => mX2_nextEventTime_L5 fu τ σ st.1 st.2) n9 (v13, v14) = some v7 → Bd (dC, dI) [(cyI, .int)] (va_A (cW cyI ad bd τ σ) s.heap.size) s (cW cyI ad bd τ σ) H locs → lv_has ls 3 [(2, .int v13), (1, .int v14), (0, .ref (ad 0))] → W p l e (headSpec wsX2_nextEventTime rmX2_nextEventTime).room s m ([.ref (ad 0)] : List Value).toArray below meth c H locs 0 0 (MQ below (QiF (dC, dI) [(cyI, .int)] (cW cyI ad bd τ σ) (cW cyI ad bd τ σ) s.heap.size r) ([.ref (ad 0)] : List Value).toArray s 0 0 (va_A (cW cyI ad bd τ σ) s.heap.size)) (F0 m 5 ls []) := by
    intro n9
    induction n9 with
    | zero => intro v13 v14 H locs ls hL10; exact (loopM_z hL10).elim
    | succ n9 ih9 =>
      intro v13 v14 H locs ls hL10 hB hl
      obtain ⟨o15, hg11, hL10⟩ := loopM_s hL10
      have hg11 : mX2_nextEventTime_L5 fu τ σ v13 v14 = some o15 := hg11
      unfold mX2_nextEventTime_L5 at hg11
      refine lv_iload_n hx hb dX2_nextEventTime_5 rfl (lv_at hl 0 rfl) ?_
      refine lv_aload_n hx hb dX2_nextEventTime_6 rfl (lv_at hl 2 rfl) ?_
      refine g_get (C := RX2) (T := TX2) (N := 14) hx hb hts hinX2 hown hK hB 0 rfl rfl 0 rfl hq2 rfl rfl dX2_nextEventTime_7 ?_
      refine g_get (C := RX0) (T := TX0) (N := 17) hx hb hts hinX0 hown hK hB 12 rfl rfl 5 rfl hq3 rfl rfl dX2_nextEventTime_10 ?_
      refine lv_icmp_ge (tgt := 32) hx hb dX2_nextEventTime_13 (by decide) (fun c16 => ?_) (fun c16 => ?_)
      · have hg11 := ite_t c16 hg11
        have hL10 := el1_l (inj1 hg11) hL10
        have e0 := inj1 hL10
        subst e0
        exact kE8 _ _ _ hB (lv_sub hl [1, 2] rfl)
      · have hg11 := ite_f c16 hg11
        refine lv_iload_n hx hb dX2_nextEventTime_16 rfl (lv_at hl 1 rfl) ?_
        refine lv_aload_n hx hb dX2_nextEventTime_17 rfl (lv_at hl 2 rfl) ?_
        refine lv_iload_n hx hb dX2_nextEventTime_18 rfl (lv_at hl 0 rfl) ?_
        obtain ⟨r17, hc, hg11⟩ := ob1_s hg11
        refine g_callVi (As := [.int v13]) (rest := [.int v14]) ⟨hx, hb, hml, hown, hts⟩ (kX2_nextEventTimeOf l dC dI cyI ad bd H.size hc) (cwV 1 hts gX2_nextEventTime_X2_nextEventTimeOf rfl rfl rfl (by decide +kernel) ⟨Nat.le_of_ble_eq_true rfl, Nat.le_of_ble_eq_true rfl⟩) hK hB hA (g_recv (ci := 2) hK hB 0 rfl rfl rfl) rfl hl.1 rfl (Nat.le_of_ble_eq_true rfl) dX2_nextEventTime_19 ⟨Nat.zero_le _, Nat.zero_le _⟩ (fun H locs hB => ?_)
        refine va_mmin hx hb (hml.trans hl.1.symm) hown hq4 hq5 hq6 hq7 (Nat.le_of_ble_eq_true rfl) (Nat.le_of_ble_eq_true rfl) (Nat.le_of_ble_eq_true rfl) (Nat.le_of_ble_eq_true rfl) dX2_nextEventTime_22 ?_
        refine lv_istore_n (lv' := [(1, .int (if r17 < v14 then r17 else v14)), (2, .int v13), (0, .ref (ad 0))]) hx hb dX2_nextEventTime_25 rfl hl (by decide) rfl (fun ls hl => ?_)
        refine lv_iinc (v := (v13 + (1 : Int32))) (lv' := [(2, .int (v13 + (1 : Int32))), (1, .int (if r17 < v14 then r17 else v14)), (0, .ref (ad 0))]) hx hb dX2_nextEventTime_26 hl (k := 1) rfl rfl (by decide) rfl (fun ls hl => ?_)
        refine lv_goto (tgt := 5) hx hb dX2_nextEventTime_29 (by decide) ?_
        have hL10 := el1_r (inj1 hg11) hL10
        exact ih9 _ _ _ _ _ hL10 hB (lv_sub hl [0, 1, 2] rfl)
  exact key9 fu _ _ _ _ _ hL10 hB (lv_sub hl [0, 1, 2] rfl)

abbrev rmX2_comeToRest : Room := { frames := 0, cells := 0, slots := 0, locals := 0 }

set_option maxHeartbeats 4000000 in
set_option maxRecDepth 100000 in
theorem kX2_comeToRest (l : Launch) (dC : Nat → ClassId) (dI : Nat → Nat → Nat) (cyI : ClassId) (ad bd : Nat → Nat) (sz : Nat) {fu : Nat} {τ : MS} {σ : MS} {i1 : Int32} {i2 : Int32} {σ_ : MS} (hf : mX2_comeToRest fu τ σ i1 i2 = some σ_) : Met l yX2_comeToRest wsX2_comeToRest rmX2_comeToRest (PcF (dC, dI) [(cyI, .int)] (cW cyI ad bd τ σ) sz [.ref (ad 0), .int i1, .int i2]) (QvF (dC, dI) [(cyI, .int)] (cW cyI ad bd τ σ) (cW cyI ad bd τ σ_) sz) 0 0 (va_A (cW cyI ad bd τ σ) sz) := by
  refine Met.ofW (cc := cX2_comeToRest) (maxL := 3) (ret := none) (by decide) rfl ?_
  intro p e s m args below meth c s₁ B hml hv
  obtain ⟨rfl, hsz, hP, hK, hD0⟩ := hv
  have hx := B.exec
  have hb := B.bytes
  have hr := B.returns
  have hts := atoms_spec (ws := wsX2_comeToRest) B.pre
  have hown : s.vm.findClass RX2 = some m.cls := findClass_of_methodNamed B.named
  have hlocks := B.notSynchronized
  subst hsz
  have hA : ∀ q : Nat, s.heap.size ≤ q → va_A (cW cyI ad bd τ σ) s.heap.size q := fun q h => Or.inr h
  have hB : Bd (dC, dI) [(cyI, .int)] (va_A (cW cyI ad bd τ σ) s.heap.size) s (cW cyI ad bd τ σ) s.heap [] := ⟨hP, hD0.self, va_S.rf⟩
  have hq1 : (Cond.fieldLink RX2 25 "UndoJourneys$World" "journeyState" "[I").before _ s = true := hts _ (List.mem_of_getElem? (i := 1) rfl)
  have hq2 : (Cond.fieldLink RX2 31 "UndoJourneys$World" "restTime" "[I").before _ s = true := hts _ (List.mem_of_getElem? (i := 2) rfl)
  have hq3 : (Cond.fieldLink RX2 9 "UndoJourneys$World" "time" "I").before _ s = true := hts _ (List.mem_of_getElem? (i := 3) rfl)
  have hinX2 : ∀ w ∈ wsX20, w ∈ wsX2_comeToRest := fun w h => List.mem_cons_of_mem _ (List.mem_append_right _ h)
  have hl := lv_entry [.ref (ad 0), .int i1, .int i2] (n := 3) (Nat.le_of_ble_eq_true rfl)
  rw [lg_entry_eq]
  generalize (lg_sl [.ref (ad 0), .int i1, .int i2] ++ List.replicate (3 - (lg_sl [.ref (ad 0), .int i1, .int i2]).length) Slot.unset).toArray = ls at hl ⊢
  have hl : lv_has ls 3 [(0, .ref (ad 0)), (1, .int i1), (2, .int i2)] := hl
  clear hP hD0
  suffices main : ∀ (H : Heap) (locs : List Loc), Bd (dC, dI) [(cyI, .int)] (va_A (cW cyI ad bd τ σ) s.heap.size) s (cW cyI ad bd τ σ) H locs → W p l e (headSpec wsX2_comeToRest rmX2_comeToRest).room s m ([.ref (ad 0), .int i1, .int i2] : List Value).toArray below meth c H locs 0 0 (MQ below (QvF (dC, dI) [(cyI, .int)] (cW cyI ad bd τ σ) (cW cyI ad bd τ σ_) s.heap.size) ([.ref (ad 0), .int i1, .int i2] : List Value).toArray s 0 0 (va_A (cW cyI ad bd τ σ) s.heap.size)) (F0 m 0 ls []) from main _ _ hB
  clear hB
  intro H locs hB
  unfold mX2_comeToRest at hf
  refine lv_aload_n hx hb dX2_comeToRest_0 rfl (lv_at hl 0 rfl) ?_
  refine g_get (C := RX2) (T := TX2) (N := 14) hx hb hts hinX2 hown hK hB 0 rfl rfl 5 rfl hq1 rfl rfl dX2_comeToRest_1 ?_
  refine lv_iload_n hx hb dX2_comeToRest_4 rfl (lv_at hl 1 rfl) ?_
  refine lv_iload_n hx hb dX2_comeToRest_5 rfl (lv_at hl 2 rfl) ?_
  obtain ⟨σ1, e9, hf⟩ := ob1_s hf
  obtain ⟨hi, e9⟩ := wra_s e9
  refine g_iast hx hb hK hB 3 0 rfl rfl hi rfl dX2_comeToRest_6 (w2 := (cW cyI ad bd τ σ1)) (by rw [← e9]; rfl) (fun H locs hB => ?_)
  refine lv_aload_n hx hb dX2_comeToRest_7 rfl (lv_at hl 0 rfl) ?_
  refine g_get (C := RX2) (T := TX2) (N := 14) hx hb hts hinX2 hown hK hB 0 rfl rfl 7 rfl hq2 rfl rfl dX2_comeToRest_8 ?_
  refine lv_iload_n hx hb dX2_comeToRest_11 rfl (lv_at hl 1 rfl) ?_
  refine lv_aload_n hx hb dX2_comeToRest_12 rfl (lv_at hl 0 rfl) ?_
  refine g_get (C := RX2) (T := TX2) (N := 14) hx hb hts hinX2 hown hK hB 0 rfl rfl 1 rfl hq3 rfl rfl dX2_comeToRest_13 ?_
  obtain ⟨σ2, e9, hf⟩ := ob1_s hf
  obtain ⟨hi, e9⟩ := wra_s e9
  refine g_iast hx hb hK hB 5 0 rfl rfl hi rfl dX2_comeToRest_16 (w2 := (cW cyI ad bd τ σ2)) (by rw [← e9]; rfl) (fun H locs hB => ?_)
  have e0 := inj1 hf
  subst e0
  exact g_vret hx hb hr hlocks hK hB dX2_comeToRest_17

abbrev rmX2_enterStage : Room := { frames := 1, cells := 0, slots := 0, locals := 22 }

set_option maxHeartbeats 4000000 in
set_option maxRecDepth 100000 in
theorem kX2_enterStage (l : Launch) (dC : Nat → ClassId) (dI : Nat → Nat → Nat) (cyI : ClassId) (ad bd : Nat → Nat) (sz : Nat) {fu : Nat} {τ : MS} {σ : MS} {i1 : Int32} {i2 : Int32} {σ_ : MS} (hf : mX2_enterStage fu τ σ i1 i2 = some σ_) : Met l yX2_enterStage wsX2_enterStage rmX2_enterStage (PcF (dC, dI) [(cyI, .int)] (cW cyI ad bd τ σ) sz [.ref (ad 0), .int i1, .int i2]) (QvF (dC, dI) [(cyI, .int)] (cW cyI ad bd τ σ) (cW cyI ad bd τ σ_) sz) 0 0 (va_A (cW cyI ad bd τ σ) sz) := by
  refine Met.ofW (cc := cX2_enterStage) (maxL := 5) (ret := none) (by decide) rfl ?_
  intro p e s m args below meth c s₁ B hml hv
  obtain ⟨rfl, hsz, hP, hK, hD0⟩ := hv
  have hx := B.exec
  have hb := B.bytes
  have hr := B.returns
  have hts := atoms_spec (ws := wsX2_enterStage) B.pre
  have hown : s.vm.findClass RX2 = some m.cls := findClass_of_methodNamed B.named
  have hlocks := B.notSynchronized
  subst hsz
  have hA : ∀ q : Nat, s.heap.size ≤ q → va_A (cW cyI ad bd τ σ) s.heap.size q := fun q h => Or.inr h
  have hB : Bd (dC, dI) [(cyI, .int)] (va_A (cW cyI ad bd τ σ) s.heap.size) s (cW cyI ad bd τ σ) s.heap [] := ⟨hP, hD0.self, va_S.rf⟩
  have hq1 : (Cond.fieldLink RX2 52 "UndoJourneys$World" "setup" "LUndoJourneys$Setup;").before _ s = true := hts _ (List.mem_of_getElem? (i := 1) rfl)
  have hq2 : (Cond.fieldLink RX2 117 "UndoJourneys$Setup" "stageCount" "[I").before _ s = true := hts _ (List.mem_of_getElem? (i := 2) rfl)
  have hq3 : (Cond.fieldLink RX2 28 "UndoJourneys$World" "presentStage" "[I").before _ s = true := hts _ (List.mem_of_getElem? (i := 3) rfl)
  have hq4 : (Cond.fieldLink RX2 145 "UndoJourneys$Setup" "endStep" "[I").before _ s = true := hts _ (List.mem_of_getElem? (i := 4) rfl)
  have hq5 : (Cond.fieldLink RX2 148 "UndoJourneys$Setup" "firstStep" "[I").before _ s = true := hts _ (List.mem_of_getElem? (i := 5) rfl)
  have hq6 : (Cond.fieldLink RX2 37 "UndoJourneys$World" "stepState" "[I").before _ s = true := hts _ (List.mem_of_getElem? (i := 6) rfl)
  have hq7 : (Cond.fieldLink RX2 49 "UndoJourneys$World" "ticksWaited" "[I").before _ s = true := hts _ (List.mem_of_getElem? (i := 7) rfl)
  have hinX0 : ∀ w ∈ wsX00, w ∈ wsX2_enterStage := fun w h => List.mem_cons_of_mem _ (List.mem_append_right _ h)
  have hinX2 : ∀ w ∈ wsX20, w ∈ wsX2_enterStage := fun w h => List.mem_cons_of_mem _ (List.mem_append_left _ (List.mem_append_right _ h))
  have hl := lv_entry [.ref (ad 0), .int i1, .int i2] (n := 5) (Nat.le_of_ble_eq_true rfl)
  rw [lg_entry_eq]
  generalize (lg_sl [.ref (ad 0), .int i1, .int i2] ++ List.replicate (5 - (lg_sl [.ref (ad 0), .int i1, .int i2]).length) Slot.unset).toArray = ls at hl ⊢
  have hl : lv_has ls 5 [(0, .ref (ad 0)), (1, .int i1), (2, .int i2)] := hl
  clear hP hD0
  suffices main : ∀ (H : Heap) (locs : List Loc), Bd (dC, dI) [(cyI, .int)] (va_A (cW cyI ad bd τ σ) s.heap.size) s (cW cyI ad bd τ σ) H locs → W p l e (headSpec wsX2_enterStage rmX2_enterStage).room s m ([.ref (ad 0), .int i1, .int i2] : List Value).toArray below meth c H locs 0 0 (MQ below (QvF (dC, dI) [(cyI, .int)] (cW cyI ad bd τ σ) (cW cyI ad bd τ σ_) s.heap.size) ([.ref (ad 0), .int i1, .int i2] : List Value).toArray s 0 0 (va_A (cW cyI ad bd τ σ) s.heap.size)) (F0 m 0 ls []) from main _ _ hB
  clear hB
  intro H locs hB
  unfold mX2_enterStage at hf
  refine lv_iload_n hx hb dX2_enterStage_0 rfl (lv_at hl 2 rfl) ?_
  refine lv_aload_n hx hb dX2_enterStage_1 rfl (lv_at hl 0 rfl) ?_
  refine g_get (C := RX2) (T := TX2) (N := 14) hx hb hts hinX2 hown hK hB 0 rfl rfl 0 rfl hq1 rfl rfl dX2_enterStage_2 ?_
  refine g_get (C := RX0) (T := TX0) (N := 17) hx hb hts hinX0 hown hK hB 12 rfl rfl 7 rfl hq2 rfl rfl dX2_enterStage_5 ?_
  refine lv_iload_n hx hb dX2_enterStage_8 rfl (lv_at hl 1 rfl) ?_
  obtain ⟨x1, e9, hf⟩ := ob1_s hf
  refine g_iald hx hb hK hB 16 0 rfl rfl (rd_s e9) dX2_enterStage_9 ?_
  refine lv_icmp_lt (tgt := 20) hx hb dX2_enterStage_10 (by decide) (fun c2 => ?_) (fun c2 => ?_)
  · have hf := ite_t c2 hf
    refine lv_aload_n hx hb dX2_enterStage_20 rfl (lv_at hl 0 rfl) ?_
    refine g_get (C := RX2) (T := TX2) (N := 14) hx hb hts hinX2 hown hK hB 0 rfl rfl 6 rfl hq3 rfl rfl dX2_enterStage_21 ?_
    refine lv_iload_n hx hb dX2_enterStage_24 rfl (lv_at hl 1 rfl) ?_
    refine lv_iload_n hx hb dX2_enterStage_25 rfl (lv_at hl 2 rfl) ?_
    obtain ⟨σ3, e9, hf⟩ := ob1_s hf
    obtain ⟨hi, e9⟩ := wra_s e9
    refine g_iast hx hb hK hB 4 0 rfl rfl hi rfl dX2_enterStage_26 (w2 := (cW cyI ad bd τ σ3)) (by rw [← e9]; rfl) (fun H locs hB => ?_)
    refine lv_aload_n hx hb dX2_enterStage_27 rfl (lv_at hl 0 rfl) ?_
    refine g_get (C := RX2) (T := TX2) (N := 14) hx hb hts hinX2 hown hK hB 0 rfl rfl 0 rfl hq1 rfl rfl dX2_enterStage_28 ?_
    refine g_get (C := RX0) (T := TX0) (N := 17) hx hb hts hinX0 hown hK hB 12 rfl rfl 9 rfl hq4 rfl rfl dX2_enterStage_31 ?_
    refine lv_iload_n hx hb dX2_enterStage_34 rfl (lv_at hl 1 rfl) ?_
    obtain ⟨x4, e9, hf⟩ := ob1_s hf
    refine g_iald hx hb hK hB 18 0 rfl rfl (rd_s e9) dX2_enterStage_35 ?_
    refine lv_istore_n (lv' := [(3, .int x4), (0, .ref (ad 0)), (1, .int i1), (2, .int i2)]) hx hb dX2_enterStage_36 rfl hl (by decide) rfl (fun ls hl => ?_)
    refine lv_aload_n hx hb dX2_enterStage_37 rfl (lv_at hl 1 rfl) ?_
    refine g_get (C := RX2) (T := TX2) (N := 14) hx hb hts hinX2 hown hK hB 0 rfl rfl 0 rfl hq1 rfl rfl dX2_enterStage_38 ?_
    refine g_get (C := RX0) (T := TX0) (N := 17) hx hb hts hinX0 hown hK hB 12 rfl rfl 8 rfl hq5 rfl rfl dX2_enterStage_41 ?_
    refine lv_iload_n hx hb dX2_enterStage_44 rfl (lv_at hl 2 rfl) ?_
    obtain ⟨x5, e9, hf⟩ := ob1_s hf
    refine g_iald hx hb hK hB 17 0 rfl rfl (rd_s e9) dX2_enterStage_45 ?_
    refine lv_istore (lv' := [(4, .int x5), (3, .int x4), (0, .ref (ad 0)), (1, .int i1), (2, .int i2)]) hx hb dX2_enterStage_46 hl (by decide) rfl (fun ls hl => ?_)
    obtain ⟨σ24, hL27, hf⟩ := ob1_s hf
    have kE25 : ∀ (H : Heap) (locs : List Loc) (ls : Array Slot), Bd (dC, dI) [(cyI, .int)] (va_A (cW cyI ad bd τ σ) s.heap.size) s (cW cyI ad bd τ σ24) H locs → lv_has ls 5 [] → W p l e (headSpec wsX2_enterStage rmX2_enterStage).room s m ([.ref (ad 0), .int i1, .int i2] : List Value).toArray below meth c H locs 0 0 (MQ below (QvF (dC, dI) [(cyI, .int)] (cW cyI ad bd τ σ) (cW cyI ad bd τ σ_) s.heap.size) ([.ref (ad 0), .int i1, .int i2] : List Value).toArray s 0 0 (va_A (cW cyI ad bd τ σ) s.heap.size)) (F0 m 96 ls []) := by
      intro H locs ls hB hl
      have e0 := inj1 hf
      subst e0
      exact g_vret hx hb hr hlocks hK hB dX2_enterStage_96
    have key26 : ∀ (n9 : Nat) (v30 : Int32) (σ31 : MS) (H : Heap) (locs : List Loc) (ls : Array Slot), loopM (fun st => mX2_enterStage_L48 fu x4 i1 τ st.1 st.2) n9 (v30, σ31) = some σ24 → Bd (dC, dI) [(cyI, .int)] (va_A (cW cyI ad bd τ σ) s.heap.size) s (cW cyI ad bd τ σ31) H locs → lv_has ls 5 [(4, .int v30), (3, .int x4), (0, .ref (ad 0)), (1, .int i1)] → W p l e (headSpec wsX2_enterStage rmX2_enterStage).room s m ([.ref (ad 0), .int i1, .int i2] : List Value).toArray below meth c H locs 0 0 (MQ below (QvF (dC, dI) [(cyI, .int)] (cW cyI ad bd τ σ) (cW cyI ad bd τ σ_) s.heap.size) ([.ref (ad 0), .int i1, .int i2] : List Value).toArray s 0 0 (va_A (cW cyI ad bd τ σ) s.heap.size)) (F0 m 48 ls []) := by
      intro n9
      induction n9 with
      | zero => intro v30 σ31 H locs ls hL27; exact (loopM_z hL27).elim
      | succ n9 ih9 =>
        intro v30 σ31 H locs ls hL27 hB hl
        obtain ⟨o32, hg28, hL27⟩ := loopM_s hL27
        have hg28 : mX2_enterStage_L48 fu x4 i1 τ v30 σ31 = some o32 := hg28
        unfold mX2_enterStage_L48 at hg28
        refine lv_iload hx hb dX2_enterStage_48 (lv_at hl 0 rfl) ?_
        refine lv_iload_n hx hb dX2_enterStage_50 rfl (lv_at hl 1 rfl) ?_
        refine lv_icmp_ge (tgt := 96) hx hb dX2_enterStage_51 (by decide) (fun c33 => ?_) (fun c33 => ?_)
        · have hg28 := ite_t c33 hg28
          have hL27 := el1_l (inj1 hg28) hL27
          have e0 := inj1 hL27
          subst e0
          exact kE25 _ _ _ hB (lv_sub hl [] rfl)
        · have hg28 := ite_f c33 hg28
          refine lv_aload_n hx hb dX2_enterStage_54 rfl (lv_at hl 2 rfl) ?_
          refine lv_iload_n hx hb dX2_enterStage_55 rfl (lv_at hl 3 rfl) ?_
          refine lv_iload hx hb dX2_enterStage_56 (lv_at hl 0 rfl) ?_
          obtain ⟨r34, hc, hg28⟩ := ob1_s hg28
          refine g_callVz (As := [.int i1, .int v30]) (rest := []) ⟨hx, hb, hml, hown, hts⟩ (kX2_isPresent l dC dI cyI ad bd H.size hc) (cwV 2 hts gX2_enterStage_X2_isPresent rfl rfl rfl (by decide +kernel) ⟨Nat.le_of_ble_eq_true rfl, Nat.le_of_ble_eq_true rfl⟩) hK hB hA (g_recv (ci := 2) hK hB 0 rfl rfl rfl) rfl hl.1 rfl (Nat.le_of_ble_eq_true rfl) dX2_enterStage_58 ⟨Nat.zero_le _, Nat.zero_le _⟩ (fun z35 H locs hB => ?_)
          obtain ⟨σ36, hJ37, hg28⟩ := ob1_s hg28
          have kJ38 : ∀ (H : Heap) (locs : List Loc) (ls : Array Slot), Bd (dC, dI) [(cyI, .int)] (va_A (cW cyI ad bd τ σ) s.heap.size) s (cW cyI ad bd τ σ36) H locs → lv_has ls 5 [(4, .int v30), (3, .int x4), (0, .ref (ad 0)), (1, .int i1)] → W p l e (headSpec wsX2_enterStage rmX2_enterStage).room s m ([.ref (ad 0), .int i1, .int i2] : List Value).toArray below meth c H locs 0 0 (MQ below (QvF (dC, dI) [(cyI, .int)] (cW cyI ad bd τ σ) (cW cyI ad bd τ σ_) s.heap.size) ([.ref (ad 0), .int i1, .int i2] : List Value).toArray s 0 0 (va_A (cW cyI ad bd τ σ) s.heap.size)) (F0 m 90 ls []) := by
            intro H locs ls hB hl
            refine lv_iinc (v := (v30 + (1 : Int32))) (lv' := [(4, .int (v30 + (1 : Int32))), (3, .int x4), (0, .ref (ad 0)), (1, .int i1)]) hx hb dX2_enterStage_90 hl (k := 0) rfl rfl (by decide) rfl (fun ls hl => ?_)
            refine lv_goto (tgt := 48) hx hb dX2_enterStage_93 (by decide) ?_
            have hL27 := el1_r (inj1 hg28) hL27
            exact ih9 _ _ _ _ _ hL27 hB (lv_sub hl [0, 1, 2, 3] rfl)
          obtain ⟨t39, hD40, hJ37⟩ := ob1_s hJ37
          have kTt39 : t39 = true → ∀ (H : Heap) (locs : List Loc), Bd (dC, dI) [(cyI, .int)] (va_A (cW cyI ad bd τ σ) s.heap.size) s (cW cyI ad bd τ σ31) H locs → W p l e (headSpec wsX2_enterStage rmX2_enterStage).room s m ([.ref (ad 0), .int i1, .int i2] : List Value).toArray below meth c H locs 0 0 (MQ below (QvF (dC, dI) [(cyI, .int)] (cW cyI ad bd τ σ) (cW cyI ad bd τ σ_) s.heap.size) ([.ref (ad 0), .int i1, .int i2] : List Value).toArray s 0 0 (va_A (cW cyI ad bd τ σ) s.heap.size)) (F0 m 74 ls []) := by
            intro ht H locs hB
            have hJ37 := cnd_t ht hJ37
            refine lv_aload_n hx hb dX2_enterStage_74 rfl (lv_at hl 2 rfl) ?_
            refine g_get (C := RX2) (T := TX2) (N := 14) hx hb hts hinX2 hown hK hB 0 rfl rfl 9 rfl hq6 rfl rfl dX2_enterStage_75 ?_
            refine lv_iload hx hb dX2_enterStage_78 (lv_at hl 0 rfl) ?_
            refine lv_iconst (v := (1 : Int32)) hx hb dX2_enterStage_80 (by decide) ?_
            obtain ⟨σ44, e9, hJ37⟩ := ob1_s hJ37
            obtain ⟨hi, e9⟩ := wra_s e9
            refine g_iast hx hb hK hB 7 0 rfl rfl hi rfl dX2_enterStage_81 (w2 := (cW cyI ad bd τ σ44)) (by rw [← e9]; rfl) (fun H locs hB => ?_)
            refine lv_aload_n hx hb dX2_enterStage_82 rfl (lv_at hl 2 rfl) ?_
            refine g_get (C := RX2) (T := TX2) (N := 14) hx hb hts hinX2 hown hK hB 0 rfl rfl 13 rfl hq7 rfl rfl dX2_enterStage_83 ?_
            refine lv_iload hx hb dX2_enterStage_86 (lv_at hl 0 rfl) ?_
            refine lv_iconst (v := (0 : Int32)) hx hb dX2_enterStage_88 (by decide) ?_
            obtain ⟨σ45, e9, hJ37⟩ := ob1_s hJ37
            obtain ⟨hi, e9⟩ := wra_s e9
            refine g_iast hx hb hK hB 11 0 rfl rfl hi rfl dX2_enterStage_89 (w2 := (cW cyI ad bd τ σ45)) (by rw [← e9]; rfl) (fun H locs hB => ?_)
            have e0 := inj1 hJ37
            subst e0
            exact kJ38 _ _ _ hB (lv_sub hl [0, 1, 2, 3] rfl)
          have kFt39 : t39 = false → ∀ (H : Heap) (locs : List Loc), Bd (dC, dI) [(cyI, .int)] (va_A (cW cyI ad bd τ σ) s.heap.size) s (cW cyI ad bd τ σ31) H locs → W p l e (headSpec wsX2_enterStage rmX2_enterStage).room s m ([.ref (ad 0), .int i1, .int i2] : List Value).toArray below meth c H locs 0 0 (MQ below (QvF (dC, dI) [(cyI, .int)] (cW cyI ad bd τ σ) (cW cyI ad bd τ σ_) s.heap.size) ([.ref (ad 0), .int i1, .int i2] : List Value).toArray s 0 0 (va_A (cW cyI ad bd τ σ) s.heap.size)) (F0 m 90 ls []) := by
            intro ht H locs hB
            have hJ37 := cnd_f ht hJ37
            have e0 := inj1 hJ37
            subst e0
            exact kJ38 _ _ _ hB (lv_sub hl [0, 1, 2, 3] rfl)
          refine lv_if_eq (tgt := 90) hx hb dX2_enterStage_61 (by decide) (fun c41 => ?_) (fun c41 => ?_)
          · have hD40 := ite_t c41 hD40
            have e0 := inj1 hD40
            exact kFt39 e0.symm _ _ hB
          · have hD40 := ite_f c41 hD40
            refine lv_aload_n hx hb dX2_enterStage_64 rfl (lv_at hl 2 rfl) ?_
            refine g_get (C := RX2) (T := TX2) (N := 14) hx hb hts hinX2 hown hK hB 0 rfl rfl 9 rfl hq6 rfl rfl dX2_enterStage_65 ?_
            refine lv_iload hx hb dX2_enterStage_68 (lv_at hl 0 rfl) ?_
            obtain ⟨x42, e9, hD40⟩ := ob1_s hD40
            refine g_iald hx hb hK hB 7 0 rfl rfl (rd_s e9) dX2_enterStage_70 ?_
            refine lv_if_ne (tgt := 90) hx hb dX2_enterStage_71 (by decide) (fun c43 => ?_) (fun c43 => ?_)
            · have hD40 := ite_f c43 hD40
              have e0 := inj1 hD40
              exact kFt39 e0.symm _ _ hB
            · have hD40 := ite_t c43 hD40
              have e0 := inj1 hD40
              exact kTt39 e0.symm _ _ hB
    exact key26 fu _ _ _ _ _ hL27 hB (lv_sub hl [0, 1, 2, 3] rfl)
  · have hf := ite_f c2 hf
    refine lv_aload_n hx hb dX2_enterStage_13 rfl (lv_at hl 0 rfl) ?_
    refine lv_iload_n hx hb dX2_enterStage_14 rfl (lv_at hl 1 rfl) ?_
    refine lv_iconst (v := (3 : Int32)) hx hb dX2_enterStage_15 (by decide) ?_
    obtain ⟨σ46, hc, hf⟩ := ob1_s hf
    refine g_callVv (As := [.int i1, .int (3 : Int32)]) (rest := []) ⟨hx, hb, hml, hown, hts⟩ (kX2_comeToRest l dC dI cyI ad bd H.size hc) (cwV 2 hts gX2_enterStage_X2_comeToRest rfl rfl rfl (by decide +kernel) ⟨Nat.le_of_ble_eq_true rfl, Nat.le_of_ble_eq_true rfl⟩) hK hB hA (g_recv (ci := 2) hK hB 0 rfl rfl rfl) rfl hl.1 rfl (Nat.le_of_ble_eq_true rfl) dX2_enterStage_16 ⟨Nat.zero_le _, Nat.zero_le _⟩ (fun H locs hB => ?_)
    have e0 := inj1 hf
    subst e0
    exact g_vret hx hb hr hlocks hK hB dX2_enterStage_19

abbrev rmX2_waitForGuard : Room := { frames := 0, cells := 0, slots := 0, locals := 0 }

set_option maxHeartbeats 4000000 in
set_option maxRecDepth 100000 in
theorem kX2_waitForGuard (l : Launch) (dC : Nat → ClassId) (dI : Nat → Nat → Nat) (cyI : ClassId) (ad bd : Nat → Nat) (sz : Nat) {fu : Nat} {τ : MS} {σ : MS} {i1 : Int32} {σ_ : MS} (hf : mX2_waitForGuard fu τ σ i1 = some σ_) : Met l yX2_waitForGuard wsX2_waitForGuard rmX2_waitForGuard (PcF (dC, dI) [(cyI, .int)] (cW cyI ad bd τ σ) sz [.ref (ad 0), .int i1]) (QvF (dC, dI) [(cyI, .int)] (cW cyI ad bd τ σ) (cW cyI ad bd τ σ_) sz) 0 0 (va_A (cW cyI ad bd τ σ) sz) := by
  refine Met.ofW (cc := cX2_waitForGuard) (maxL := 2) (ret := none) (by decide) rfl ?_
  intro p e s m args below meth c s₁ B hml hv
  obtain ⟨rfl, hsz, hP, hK, hD0⟩ := hv
  have hx := B.exec
  have hb := B.bytes
  have hr := B.returns
  have hts := atoms_spec (ws := wsX2_waitForGuard) B.pre
  have hown : s.vm.findClass RX2 = some m.cls := findClass_of_methodNamed B.named
  have hlocks := B.notSynchronized
  subst hsz
  have hA : ∀ q : Nat, s.heap.size ≤ q → va_A (cW cyI ad bd τ σ) s.heap.size q := fun q h => Or.inr h
  have hB : Bd (dC, dI) [(cyI, .int)] (va_A (cW cyI ad bd τ σ) s.heap.size) s (cW cyI ad bd τ σ) s.heap [] := ⟨hP, hD0.self, va_S.rf⟩
  have hq1 : (Cond.fieldLink RX2 49 "UndoJourneys$World" "ticksWaited" "[I").before _ s = true := hts _ (List.mem_of_getElem? (i := 1) rfl)
  have hq2 : (Cond.fieldLink RX2 52 "UndoJourneys$World" "setup" "LUndoJourneys$Setup;").before _ s = true := hts _ (List.mem_of_getElem? (i := 2) rfl)
  have hq3 : (Cond.fieldLink RX2 89 "UndoJourneys$Setup" "wait" "I").before _ s = true := hts _ (List.mem_of_getElem? (i := 3) rfl)
  have hq4 : (Cond.fieldLink RX2 37 "UndoJourneys$World" "stepState" "[I").before _ s = true := hts _ (List.mem_of_getElem? (i := 4) rfl)
  have hinX0 : ∀ w ∈ wsX00, w ∈ wsX2_waitForGuard := fun w h => List.mem_cons_of_mem _ (List.mem_append_right _ h)
  have hinX2 : ∀ w ∈ wsX20, w ∈ wsX2_waitForGuard := fun w h => List.mem_cons_of_mem _ (List.mem_append_left _ (List.mem_append_right _ h))
  have hl := lv_entry [.ref (ad 0), .int i1] (n := 2) (Nat.le_of_ble_eq_true rfl)
  rw [lg_entry_eq]
  generalize (lg_sl [.ref (ad 0), .int i1] ++ List.replicate (2 - (lg_sl [.ref (ad 0), .int i1]).length) Slot.unset).toArray = ls at hl ⊢
  have hl : lv_has ls 2 [(0, .ref (ad 0)), (1, .int i1)] := hl
  clear hP hD0
  suffices main : ∀ (H : Heap) (locs : List Loc), Bd (dC, dI) [(cyI, .int)] (va_A (cW cyI ad bd τ σ) s.heap.size) s (cW cyI ad bd τ σ) H locs → W p l e (headSpec wsX2_waitForGuard rmX2_waitForGuard).room s m ([.ref (ad 0), .int i1] : List Value).toArray below meth c H locs 0 0 (MQ below (QvF (dC, dI) [(cyI, .int)] (cW cyI ad bd τ σ) (cW cyI ad bd τ σ_) s.heap.size) ([.ref (ad 0), .int i1] : List Value).toArray s 0 0 (va_A (cW cyI ad bd τ σ) s.heap.size)) (F0 m 0 ls []) from main _ _ hB
  clear hB
  intro H locs hB
  unfold mX2_waitForGuard at hf
  refine lv_aload_n hx hb dX2_waitForGuard_0 rfl (lv_at hl 0 rfl) ?_
  refine g_get (C := RX2) (T := TX2) (N := 14) hx hb hts hinX2 hown hK hB 0 rfl rfl 13 rfl hq1 rfl rfl dX2_waitForGuard_1 ?_
  refine lv_iload_n hx hb dX2_waitForGuard_4 rfl (lv_at hl 1 rfl) ?_
  obtain ⟨x1, e9, hf⟩ := ob1_s hf
  refine g_iald hx hb hK hB 11 0 rfl rfl (rd_s e9) dX2_waitForGuard_5 ?_
  refine lv_aload_n hx hb dX2_waitForGuard_6 rfl (lv_at hl 0 rfl) ?_
  refine g_get (C := RX2) (T := TX2) (N := 14) hx hb hts hinX2 hown hK hB 0 rfl rfl 0 rfl hq2 rfl rfl dX2_waitForGuard_7 ?_
  refine g_get (C := RX0) (T := TX0) (N := 17) hx hb hts hinX0 hown hK hB 12 rfl rfl 0 rfl hq3 rfl rfl dX2_waitForGuard_10 ?_
  obtain ⟨σ2, hJ3, hf⟩ := ob1_s hf
  have kJ4 : ∀ (H : Heap) (locs : List Loc) (ls : Array Slot), Bd (dC, dI) [(cyI, .int)] (va_A (cW cyI ad bd τ σ) s.heap.size) s (cW cyI ad bd τ σ2) H locs → lv_has ls 2 [] → W p l e (headSpec wsX2_waitForGuard rmX2_waitForGuard).room s m ([.ref (ad 0), .int i1] : List Value).toArray below meth c H locs 0 0 (MQ below (QvF (dC, dI) [(cyI, .int)] (cW cyI ad bd τ σ) (cW cyI ad bd τ σ_) s.heap.size) ([.ref (ad 0), .int i1] : List Value).toArray s 0 0 (va_A (cW cyI ad bd τ σ) s.heap.size)) (F0 m 36 ls []) := by
    intro H locs ls hB hl
    have e0 := inj1 hf
    subst e0
    exact g_vret hx hb hr hlocks hK hB dX2_waitForGuard_36
  refine lv_icmp_lt (tgt := 26) hx hb dX2_waitForGuard_13 (by decide) (fun c5 => ?_) (fun c5 => ?_)
  · have hJ3 := ite_t c5 hJ3
    refine lv_aload_n hx hb dX2_waitForGuard_26 rfl (lv_at hl 0 rfl) ?_
    refine g_get (C := RX2) (T := TX2) (N := 14) hx hb hts hinX2 hown hK hB 0 rfl rfl 13 rfl hq1 rfl rfl dX2_waitForGuard_27 ?_
    refine lv_iload_n hx hb dX2_waitForGuard_30 rfl (lv_at hl 1 rfl) ?_
    refine lv_dup2_11 hx hb dX2_waitForGuard_31 rfl rfl ?_
    obtain ⟨x6, e9, hJ3⟩ := ob1_s hJ3
    refine g_iald hx hb hK hB 11 0 rfl rfl (rd_s e9) dX2_waitForGuard_32 ?_
    refine lv_iconst (v := (1 : Int32)) hx hb dX2_waitForGuard_33 (by decide) ?_
    refine lv_iadd hx hb dX2_waitForGuard_34 ?_
    obtain ⟨σ7, e9, hJ3⟩ := ob1_s hJ3
    obtain ⟨hi, e9⟩ := wra_s e9
    refine g_iast hx hb hK hB 11 0 rfl rfl hi rfl dX2_waitForGuard_35 (w2 := (cW cyI ad bd τ σ7)) (by rw [← e9]; rfl) (fun H locs hB => ?_)
    have e0 := inj1 hJ3
    subst e0
    exact kJ4 _ _ _ hB (lv_sub hl [] rfl)
  · have hJ3 := ite_f c5 hJ3
    refine lv_aload_n hx hb dX2_waitForGuard_16 rfl (lv_at hl 0 rfl) ?_
    refine g_get (C := RX2) (T := TX2) (N := 14) hx hb hts hinX2 hown hK hB 0 rfl rfl 9 rfl hq4 rfl rfl dX2_waitForGuard_17 ?_
    refine lv_iload_n hx hb dX2_waitForGuard_20 rfl (lv_at hl 1 rfl) ?_
    refine lv_iconst (v := (4 : Int32)) hx hb dX2_waitForGuard_21 (by decide) ?_
    obtain ⟨σ8, e9, hJ3⟩ := ob1_s hJ3
    obtain ⟨hi, e9⟩ := wra_s e9
    refine g_iast hx hb hK hB 7 0 rfl rfl hi rfl dX2_waitForGuard_22 (w2 := (cW cyI ad bd τ σ8)) (by rw [← e9]; rfl) (fun H locs hB => ?_)
    refine lv_goto (tgt := 36) hx hb dX2_waitForGuard_23 (by decide) ?_
    have e0 := inj1 hJ3
    subst e0
    exact kJ4 _ _ _ hB (lv_sub hl [] rfl)

abbrev rmX2_takeAmount : Room := { frames := 1, cells := 0, slots := 0, locals := 21 }

set_option maxHeartbeats 4000000 in
set_option maxRecDepth 100000 in
theorem kX2_takeAmount (l : Launch) (dC : Nat → ClassId) (dI : Nat → Nat → Nat) (cyI : ClassId) (ad bd : Nat → Nat) (sz : Nat) {fu : Nat} {τ : MS} {σ : MS} {i1 : Int32} {i2 : Int32} {σ_ : MS} (hf : mX2_takeAmount fu τ σ i1 i2 = some σ_) : Met l yX2_takeAmount wsX2_takeAmount rmX2_takeAmount (PcF (dC, dI) [(cyI, .int)] (cW cyI ad bd τ σ) sz [.ref (ad 0), .int i1, .int i2]) (QvF (dC, dI) [(cyI, .int)] (cW cyI ad bd τ σ) (cW cyI ad bd τ σ_) sz) 0 0 (va_A (cW cyI ad bd τ σ) sz) := by
  refine Met.ofW (cc := cX2_takeAmount) (maxL := 4) (ret := none) (by decide) rfl ?_
  intro p e s m args below meth c s₁ B hml hv
  obtain ⟨rfl, hsz, hP, hK, hD0⟩ := hv
  have hx := B.exec
  have hb := B.bytes
  have hr := B.returns
  have hts := atoms_spec (ws := wsX2_takeAmount) B.pre
  have hown : s.vm.findClass RX2 = some m.cls := findClass_of_methodNamed B.named
  have hlocks := B.notSynchronized
  subst hsz
  have hA : ∀ q : Nat, s.heap.size ≤ q → va_A (cW cyI ad bd τ σ) s.heap.size q := fun q h => Or.inr h
  have hB : Bd (dC, dI) [(cyI, .int)] (va_A (cW cyI ad bd τ σ) s.heap.size) s (cW cyI ad bd τ σ) s.heap [] := ⟨hP, hD0.self, va_S.rf⟩
  have hq1 : (Cond.fieldLink RX2 52 "UndoJourneys$World" "setup" "LUndoJourneys$Setup;").before _ s = true := hts _ (List.mem_of_getElem? (i := 1) rfl)
  have hq2 : (Cond.fieldLink RX2 136 "UndoJourneys$Setup" "amount" "[I").before _ s = true := hts _ (List.mem_of_getElem? (i := 2) rfl)
  have hq3 : (Cond.fieldLink RX2 18 "UndoJourneys$World" "level" "[I").before _ s = true := hts _ (List.mem_of_getElem? (i := 3) rfl)
  have hq4 : (Cond.fieldLink RX2 37 "UndoJourneys$World" "stepState" "[I").before _ s = true := hts _ (List.mem_of_getElem? (i := 4) rfl)
  have hq5 : (Cond.fieldLink RX2 46 "UndoJourneys$World" "beginTime" "[I").before _ s = true := hts _ (List.mem_of_getElem? (i := 5) rfl)
  have hq6 : (Cond.fieldLink RX2 9 "UndoJourneys$World" "time" "I").before _ s = true := hts _ (List.mem_of_getElem? (i := 6) rfl)
  have hq7 : (Cond.fieldLink RX2 22 "UndoJourneys$World" "leastLack" "[I").before _ s = true := hts _ (List.mem_of_getElem? (i := 7) rfl)
  have hq8 : (Cond.methodLink RX2 159 Lib.Math.min.name).before _ s = true := hts _ (List.mem_of_getElem? (i := 8) rfl)
  have hq9 : (Cond.static Lib.Math.min.name).before _ s = true := hts _ (List.mem_of_getElem? (i := 9) rfl)
  have hq10 : (Cond.initialized "java/lang/Math").before _ s = true := hts _ (List.mem_of_getElem? (i := 10) rfl)
  have hq11 : (Cond.code Lib.Math.min.name Lib.Math.min.code 2 (some .int)).before _ s = true := hts _ (List.mem_of_getElem? (i := 11) rfl)
  have hq12 : (Cond.fieldLink RX2 43 "UndoJourneys$World" "repeatsLeft" "[I").before _ s = true := hts _ (List.mem_of_getElem? (i := 12) rfl)
  have hinX0 : ∀ w ∈ wsX00, w ∈ wsX2_takeAmount := fun w h => List.mem_cons_of_mem _ (List.mem_append_right _ h)
  have hinX2 : ∀ w ∈ wsX20, w ∈ wsX2_takeAmount := fun w h => List.mem_cons_of_mem _ (List.mem_append_left _ (List.mem_append_right _ h))
  have hl := lv_entry [.ref (ad 0), .int i1, .int i2] (n := 4) (Nat.le_of_ble_eq_true rfl)
  rw [lg_entry_eq]
  generalize (lg_sl [.ref (ad 0), .int i1, .int i2] ++ List.replicate (4 - (lg_sl [.ref (ad 0), .int i1, .int i2]).length) Slot.unset).toArray = ls at hl ⊢
  have hl : lv_has ls 4 [(0, .ref (ad 0)), (1, .int i1), (2, .int i2)] := hl
  clear hP hD0
  suffices main : ∀ (H : Heap) (locs : List Loc), Bd (dC, dI) [(cyI, .int)] (va_A (cW cyI ad bd τ σ) s.heap.size) s (cW cyI ad bd τ σ) H locs → W p l e (headSpec wsX2_takeAmount rmX2_takeAmount).room s m ([.ref (ad 0), .int i1, .int i2] : List Value).toArray below meth c H locs 0 0 (MQ below (QvF (dC, dI) [(cyI, .int)] (cW cyI ad bd τ σ) (cW cyI ad bd τ σ_) s.heap.size) ([.ref (ad 0), .int i1, .int i2] : List Value).toArray s 0 0 (va_A (cW cyI ad bd τ σ) s.heap.size)) (F0 m 0 ls []) from main _ _ hB
  clear hB
  intro H locs hB
  unfold mX2_takeAmount at hf
  refine lv_aload_n hx hb dX2_takeAmount_0 rfl (lv_at hl 0 rfl) ?_
  refine g_get (C := RX2) (T := TX2) (N := 14) hx hb hts hinX2 hown hK hB 0 rfl rfl 0 rfl hq1 rfl rfl dX2_takeAmount_1 ?_
  refine g_get (C := RX0) (T := TX0) (N := 17) hx hb hts hinX0 hown hK hB 12 rfl rfl 13 rfl hq2 rfl rfl dX2_takeAmount_4 ?_
  refine lv_iload_n hx hb dX2_takeAmount_7 rfl (lv_at hl 1 rfl) ?_
  obtain ⟨x1, e9, hf⟩ := ob1_s hf
  refine g_iald hx hb hK hB 21 0 rfl rfl (rd_s e9) dX2_takeAmount_8 ?_
  refine lv_aload_n hx hb dX2_takeAmount_9 rfl (lv_at hl 0 rfl) ?_
  refine g_get (C := RX2) (T := TX2) (N := 14) hx hb hts hinX2 hown hK hB 0 rfl rfl 3 rfl hq3 rfl rfl dX2_takeAmount_10 ?_
  refine lv_iload_n hx hb dX2_takeAmount_13 rfl (lv_at hl 2 rfl) ?_
  obtain ⟨x2, e9, hf⟩ := ob1_s hf
  refine g_iald hx hb hK hB 1 0 rfl rfl (rd_s e9) dX2_takeAmount_14 ?_
  refine lv_isub hx hb dX2_takeAmount_15 ?_
  refine lv_istore_n (lv' := [(3, .int (x1 - x2)), (0, .ref (ad 0)), (1, .int i1), (2, .int i2)]) hx hb dX2_takeAmount_16 rfl hl (by decide) rfl (fun ls hl => ?_)
  refine lv_iload_n hx hb dX2_takeAmount_17 rfl (lv_at hl 0 rfl) ?_
  refine lv_if_gt (tgt := 57) hx hb dX2_takeAmount_18 (by decide) (fun c3 => ?_) (fun c3 => ?_)
  · have hf := ite_t c3 hf
    refine lv_aload_n hx hb dX2_takeAmount_57 rfl (lv_at hl 1 rfl) ?_
    refine g_get (C := RX2) (T := TX2) (N := 14) hx hb hts hinX2 hown hK hB 0 rfl rfl 4 rfl hq7 rfl rfl dX2_takeAmount_58 ?_
    refine lv_iload_n hx hb dX2_takeAmount_61 rfl (lv_at hl 3 rfl) ?_
    refine lv_aload_n hx hb dX2_takeAmount_62 rfl (lv_at hl 1 rfl) ?_
    refine g_get (C := RX2) (T := TX2) (N := 14) hx hb hts hinX2 hown hK hB 0 rfl rfl 4 rfl hq7 rfl rfl dX2_takeAmount_63 ?_
    refine lv_iload_n hx hb dX2_takeAmount_66 rfl (lv_at hl 3 rfl) ?_
    obtain ⟨x4, e9, hf⟩ := ob1_s hf
    refine g_iald hx hb hK hB 2 0 rfl rfl (rd_s e9) dX2_takeAmount_67 ?_
    refine lv_iload_n hx hb dX2_takeAmount_68 rfl (lv_at hl 0 rfl) ?_
    refine va_mmin hx hb (hml.trans hl.1.symm) hown hq8 hq9 hq10 hq11 (Nat.le_of_ble_eq_true rfl) (Nat.le_of_ble_eq_true rfl) (Nat.le_of_ble_eq_true rfl) (Nat.le_of_ble_eq_true rfl) dX2_takeAmount_69 ?_
    obtain ⟨σ5, e9, hf⟩ := ob1_s hf
    obtain ⟨hi, e9⟩ := wra_s e9
    refine g_iast hx hb hK hB 2 0 rfl rfl hi rfl dX2_takeAmount_72 (w2 := (cW cyI ad bd τ σ5)) (by rw [← e9]; rfl) (fun H locs hB => ?_)
    refine lv_aload_n hx hb dX2_takeAmount_73 rfl (lv_at hl 1 rfl) ?_
    refine g_get (C := RX2) (T := TX2) (N := 14) hx hb hts hinX2 hown hK hB 0 rfl rfl 11 rfl hq12 rfl rfl dX2_takeAmount_74 ?_
    refine lv_iload_n hx hb dX2_takeAmount_77 rfl (lv_at hl 2 rfl) ?_
    obtain ⟨x6, e9, hf⟩ := ob1_s hf
    refine g_iald hx hb hK hB 9 0 rfl rfl (rd_s e9) dX2_takeAmount_78 ?_
    obtain ⟨σ7, hJ8, hf⟩ := ob1_s hf
    have kJ9 : ∀ (H : Heap) (locs : List Loc) (ls : Array Slot), Bd (dC, dI) [(cyI, .int)] (va_A (cW cyI ad bd τ σ) s.heap.size) s (cW cyI ad bd τ σ7) H locs → lv_has ls 4 [] → W p l e (headSpec wsX2_takeAmount rmX2_takeAmount).room s m ([.ref (ad 0), .int i1, .int i2] : List Value).toArray below meth c H locs 0 0 (MQ below (QvF (dC, dI) [(cyI, .int)] (cW cyI ad bd τ σ) (cW cyI ad bd τ σ_) s.heap.size) ([.ref (ad 0), .int i1, .int i2] : List Value).toArray s 0 0 (va_A (cW cyI ad bd τ σ) s.heap.size)) (F0 m 102 ls []) := by
      intro H locs ls hB hl
      have e0 := inj1 hf
      subst e0
      exact g_vret hx hb hr hlocks hK hB dX2_takeAmount_102
    refine lv_if_le (tgt := 95) hx hb dX2_takeAmount_79 (by decide) (fun c10 => ?_) (fun c10 => ?_)
    · have hJ8 := ite_t c10 hJ8
      refine lv_aload_n hx hb dX2_takeAmount_95 rfl (lv_at hl 1 rfl) ?_
      refine g_get (C := RX2) (T := TX2) (N := 14) hx hb hts hinX2 hown hK hB 0 rfl rfl 9 rfl hq4 rfl rfl dX2_takeAmount_96 ?_
      refine lv_iload_n hx hb dX2_takeAmount_99 rfl (lv_at hl 2 rfl) ?_
      refine lv_iconst (v := (4 : Int32)) hx hb dX2_takeAmount_100 (by decide) ?_
      obtain ⟨σ11, e9, hJ8⟩ := ob1_s hJ8
      obtain ⟨hi, e9⟩ := wra_s e9
      refine g_iast hx hb hK hB 7 0 rfl rfl hi rfl dX2_takeAmount_101 (w2 := (cW cyI ad bd τ σ11)) (by rw [← e9]; rfl) (fun H locs hB => ?_)
      have e0 := inj1 hJ8
      subst e0
      exact kJ9 _ _ _ hB (lv_sub hl [] rfl)
    · have hJ8 := ite_f c10 hJ8
      refine lv_aload_n hx hb dX2_takeAmount_82 rfl (lv_at hl 1 rfl) ?_
      refine g_get (C := RX2) (T := TX2) (N := 14) hx hb hts hinX2 hown hK hB 0 rfl rfl 11 rfl hq12 rfl rfl dX2_takeAmount_83 ?_
      refine lv_iload_n hx hb dX2_takeAmount_86 rfl (lv_at hl 2 rfl) ?_
      refine lv_dup2_11 hx hb dX2_takeAmount_87 rfl rfl ?_
      obtain ⟨x12, e9, hJ8⟩ := ob1_s hJ8
      refine g_iald hx hb hK hB 9 0 rfl rfl (rd_s e9) dX2_takeAmount_88 ?_
      refine lv_iconst (v := (1 : Int32)) hx hb dX2_takeAmount_89 (by decide) ?_
      refine lv_isub hx hb dX2_takeAmount_90 ?_
      obtain ⟨σ13, e9, hJ8⟩ := ob1_s hJ8
      obtain ⟨hi, e9⟩ := wra_s e9
      refine g_iast hx hb hK hB 9 0 rfl rfl hi rfl dX2_takeAmount_91 (w2 := (cW cyI ad bd τ σ13)) (by rw [← e9]; rfl) (fun H locs hB => ?_)
      refine lv_goto (tgt := 102) hx hb dX2_takeAmount_92 (by decide) ?_
      have e0 := inj1 hJ8
      subst e0
      exact kJ9 _ _ _ hB (lv_sub hl [] rfl)
  · have hf := ite_f c3 hf
    refine lv_aload_n hx hb dX2_takeAmount_21 rfl (lv_at hl 1 rfl) ?_
    refine g_get (C := RX2) (T := TX2) (N := 14) hx hb hts hinX2 hown hK hB 0 rfl rfl 3 rfl hq3 rfl rfl dX2_takeAmount_22 ?_
    refine lv_iload_n hx hb dX2_takeAmount_25 rfl (lv_at hl 3 rfl) ?_
    refine lv_dup2_11 hx hb dX2_takeAmount_26 rfl rfl ?_
    obtain ⟨x14, e9, hf⟩ := ob1_s hf
    refine g_iald hx hb hK hB 1 0 rfl rfl (rd_s e9) dX2_takeAmount_27 ?_
    refine lv_aload_n hx hb dX2_takeAmount_28 rfl (lv_at hl 1 rfl) ?_
    refine g_get (C := RX2) (T := TX2) (N := 14) hx hb hts hinX2 hown hK hB 0 rfl rfl 0 rfl hq1 rfl rfl dX2_takeAmount_29 ?_
    refine g_get (C := RX0) (T := TX0) (N := 17) hx hb hts hinX0 hown hK hB 12 rfl rfl 13 rfl hq2 rfl rfl dX2_takeAmount_32 ?_
    refine lv_iload_n hx hb dX2_takeAmount_35 rfl (lv_at hl 2 rfl) ?_
    obtain ⟨x15, e9, hf⟩ := ob1_s hf
    refine g_iald hx hb hK hB 21 0 rfl rfl (rd_s e9) dX2_takeAmount_36 ?_
    refine lv_isub hx hb dX2_takeAmount_37 ?_
    obtain ⟨σ16, e9, hf⟩ := ob1_s hf
    obtain ⟨hi, e9⟩ := wra_s e9
    refine g_iast hx hb hK hB 1 0 rfl rfl hi rfl dX2_takeAmount_38 (w2 := (cW cyI ad bd τ σ16)) (by rw [← e9]; rfl) (fun H locs hB => ?_)
    refine lv_aload_n hx hb dX2_takeAmount_39 rfl (lv_at hl 1 rfl) ?_
    refine g_get (C := RX2) (T := TX2) (N := 14) hx hb hts hinX2 hown hK hB 0 rfl rfl 9 rfl hq4 rfl rfl dX2_takeAmount_40 ?_
    refine lv_iload_n hx hb dX2_takeAmount_43 rfl (lv_at hl 2 rfl) ?_
    refine lv_iconst (v := (2 : Int32)) hx hb dX2_takeAmount_44 (by decide) ?_
    obtain ⟨σ17, e9, hf⟩ := ob1_s hf
    obtain ⟨hi, e9⟩ := wra_s e9
    refine g_iast hx hb hK hB 7 0 rfl rfl hi rfl dX2_takeAmount_45 (w2 := (cW cyI ad bd τ σ17)) (by rw [← e9]; rfl) (fun H locs hB => ?_)
    refine lv_aload_n hx hb dX2_takeAmount_46 rfl (lv_at hl 1 rfl) ?_
    refine g_get (C := RX2) (T := TX2) (N := 14) hx hb hts hinX2 hown hK hB 0 rfl rfl 12 rfl hq5 rfl rfl dX2_takeAmount_47 ?_
    refine lv_iload_n hx hb dX2_takeAmount_50 rfl (lv_at hl 2 rfl) ?_
    refine lv_aload_n hx hb dX2_takeAmount_51 rfl (lv_at hl 1 rfl) ?_
    refine g_get (C := RX2) (T := TX2) (N := 14) hx hb hts hinX2 hown hK hB 0 rfl rfl 1 rfl hq6 rfl rfl dX2_takeAmount_52 ?_
    obtain ⟨σ18, e9, hf⟩ := ob1_s hf
    obtain ⟨hi, e9⟩ := wra_s e9
    refine g_iast hx hb hK hB 10 0 rfl rfl hi rfl dX2_takeAmount_55 (w2 := (cW cyI ad bd τ σ18)) (by rw [← e9]; rfl) (fun H locs hB => ?_)
    have e0 := inj1 hf
    subst e0
    exact g_vret hx hb hr hlocks hK hB dX2_takeAmount_56

abbrev rmX2_moveStep : Room := { frames := 2, cells := 0, slots := 0, locals := 49 }

set_option maxHeartbeats 4000000 in
set_option maxRecDepth 100000 in
theorem kX2_moveStep (l : Launch) (dC : Nat → ClassId) (dI : Nat → Nat → Nat) (cyI : ClassId) (ad bd : Nat → Nat) (sz : Nat) {fu : Nat} {τ : MS} {σ : MS} {i1 : Int32} {i2 : Int32} {σ_ : MS} (hf : mX2_moveStep fu τ σ i1 i2 = some σ_) : Met l yX2_moveStep wsX2_moveStep rmX2_moveStep (PcF (dC, dI) [(cyI, .int)] (cW cyI ad bd τ σ) sz [.ref (ad 0), .int i1, .int i2]) (QvF (dC, dI) [(cyI, .int)] (cW cyI ad bd τ σ) (cW cyI ad bd τ σ_) sz) 0 0 (va_A (cW cyI ad bd τ σ) sz) := by
  refine Met.ofW (cc := cX2_moveStep) (maxL := 5) (ret := none) (by decide) rfl ?_
  intro p e s m args below meth c s₁ B hml hv
  obtain ⟨rfl, hsz, hP, hK, hD0⟩ := hv
  have hx := B.exec
  have hb := B.bytes
  have hr := B.returns
  have hts := atoms_spec (ws := wsX2_moveStep) B.pre
  have hown : s.vm.findClass RX2 = some m.cls := findClass_of_methodNamed B.named
  have hlocks := B.notSynchronized
  subst hsz
  have hA : ∀ q : Nat, s.heap.size ≤ q → va_A (cW cyI ad bd τ σ) s.heap.size q := fun q h => Or.inr h
  have hB : Bd (dC, dI) [(cyI, .int)] (va_A (cW cyI ad bd τ σ) s.heap.size) s (cW cyI ad bd τ σ) s.heap [] := ⟨hP, hD0.self, va_S.rf⟩
  have hq1 : (Cond.fieldLink RX2 37 "UndoJourneys$World" "stepState" "[I").before _ s = true := hts _ (List.mem_of_getElem? (i := 1) rfl)
  have hq2 : (Cond.fieldLink RX2 9 "UndoJourneys$World" "time" "I").before _ s = true := hts _ (List.mem_of_getElem? (i := 2) rfl)
  have hq3 : (Cond.fieldLink RX2 46 "UndoJourneys$World" "beginTime" "[I").before _ s = true := hts _ (List.mem_of_getElem? (i := 3) rfl)
  have hq4 : (Cond.fieldLink RX2 52 "UndoJourneys$World" "setup" "LUndoJourneys$Setup;").before _ s = true := hts _ (List.mem_of_getElem? (i := 4) rfl)
  have hq5 : (Cond.fieldLink RX2 139 "UndoJourneys$Setup" "duration" "[I").before _ s = true := hts _ (List.mem_of_getElem? (i := 5) rfl)
  have hq6 : (Cond.fieldLink RX2 133 "UndoJourneys$Setup" "stockOf" "[I").before _ s = true := hts _ (List.mem_of_getElem? (i := 6) rfl)
  have hq7 : (Cond.fieldLink RX2 99 "UndoJourneys$Setup" "guard" "[I").before _ s = true := hts _ (List.mem_of_getElem? (i := 7) rfl)
  have hinX0 : ∀ w ∈ wsX00, w ∈ wsX2_moveStep := fun w h => List.mem_cons_of_mem _ (List.mem_append_right _ h)
  have hinX2 : ∀ w ∈ wsX20, w ∈ wsX2_moveStep := fun w h => List.mem_cons_of_mem _ (List.mem_append_left _ (List.mem_append_right _ h))
  have hl := lv_entry [.ref (ad 0), .int i1, .int i2] (n := 5) (Nat.le_of_ble_eq_true rfl)
  rw [lg_entry_eq]
  generalize (lg_sl [.ref (ad 0), .int i1, .int i2] ++ List.replicate (5 - (lg_sl [.ref (ad 0), .int i1, .int i2]).length) Slot.unset).toArray = ls at hl ⊢
  have hl : lv_has ls 5 [(0, .ref (ad 0)), (1, .int i1), (2, .int i2)] := hl
  clear hP hD0
  suffices main : ∀ (H : Heap) (locs : List Loc), Bd (dC, dI) [(cyI, .int)] (va_A (cW cyI ad bd τ σ) s.heap.size) s (cW cyI ad bd τ σ) H locs → W p l e (headSpec wsX2_moveStep rmX2_moveStep).room s m ([.ref (ad 0), .int i1, .int i2] : List Value).toArray below meth c H locs 0 0 (MQ below (QvF (dC, dI) [(cyI, .int)] (cW cyI ad bd τ σ) (cW cyI ad bd τ σ_) s.heap.size) ([.ref (ad 0), .int i1, .int i2] : List Value).toArray s 0 0 (va_A (cW cyI ad bd τ σ) s.heap.size)) (F0 m 0 ls []) from main _ _ hB
  clear hB
  intro H locs hB
  unfold mX2_moveStep at hf
  refine lv_aload_n hx hb dX2_moveStep_0 rfl (lv_at hl 0 rfl) ?_
  refine g_get (C := RX2) (T := TX2) (N := 14) hx hb hts hinX2 hown hK hB 0 rfl rfl 9 rfl hq1 rfl rfl dX2_moveStep_1 ?_
  refine lv_iload_n hx hb dX2_moveStep_4 rfl (lv_at hl 2 rfl) ?_
  obtain ⟨x1, e9, hf⟩ := ob1_s hf
  refine g_iald hx hb hK hB 7 0 rfl rfl (rd_s e9) dX2_moveStep_5 ?_
  refine lv_iconst (v := (2 : Int32)) hx hb dX2_moveStep_6 (by decide) ?_
  obtain ⟨σ2, hJ3, hf⟩ := ob1_s hf
  have kJ4 : ∀ (H : Heap) (locs : List Loc) (ls : Array Slot), Bd (dC, dI) [(cyI, .int)] (va_A (cW cyI ad bd τ σ) s.heap.size) s (cW cyI ad bd τ σ2) H locs → lv_has ls 5 [] → W p l e (headSpec wsX2_moveStep rmX2_moveStep).room s m ([.ref (ad 0), .int i1, .int i2] : List Value).toArray below meth c H locs 0 0 (MQ below (QvF (dC, dI) [(cyI, .int)] (cW cyI ad bd τ σ) (cW cyI ad bd τ σ_) s.heap.size) ([.ref (ad 0), .int i1, .int i2] : List Value).toArray s 0 0 (va_A (cW cyI ad bd τ σ) s.heap.size)) (F0 m 115 ls []) := by
    intro H locs ls hB hl
    have e0 := inj1 hf
    subst e0
    exact g_vret hx hb hr hlocks hK hB dX2_moveStep_115
  refine lv_icmp_ne (tgt := 43) hx hb dX2_moveStep_7 (by decide) (fun c5 => ?_) (fun c5 => ?_)
  · have hJ3 := ite_f c5 hJ3
    refine lv_aload_n hx hb dX2_moveStep_43 rfl (lv_at hl 0 rfl) ?_
    refine g_get (C := RX2) (T := TX2) (N := 14) hx hb hts hinX2 hown hK hB 0 rfl rfl 9 rfl hq1 rfl rfl dX2_moveStep_44 ?_
    refine lv_iload_n hx hb dX2_moveStep_47 rfl (lv_at hl 2 rfl) ?_
    obtain ⟨x6, e9, hJ3⟩ := ob1_s hJ3
    refine g_iald hx hb hK hB 7 0 rfl rfl (rd_s e9) dX2_moveStep_48 ?_
    refine lv_iconst (v := (1 : Int32)) hx hb dX2_moveStep_49 (by decide) ?_
    refine lv_icmp_ne (tgt := 115) hx hb dX2_moveStep_50 (by decide) (fun c7 => ?_) (fun c7 => ?_)
    · have hJ3 := ite_f c7 hJ3
      have e0 := inj1 hJ3
      subst e0
      exact kJ4 _ _ _ hB (lv_sub hl [] rfl)
    · have hJ3 := ite_t c7 hJ3
      refine lv_aload_n hx hb dX2_moveStep_53 rfl (lv_at hl 0 rfl) ?_
      refine g_get (C := RX2) (T := TX2) (N := 14) hx hb hts hinX2 hown hK hB 0 rfl rfl 0 rfl hq4 rfl rfl dX2_moveStep_54 ?_
      refine g_get (C := RX0) (T := TX0) (N := 17) hx hb hts hinX0 hown hK hB 12 rfl rfl 12 rfl hq6 rfl rfl dX2_moveStep_57 ?_
      refine lv_iload_n hx hb dX2_moveStep_60 rfl (lv_at hl 2 rfl) ?_
      obtain ⟨x8, e9, hJ3⟩ := ob1_s hJ3
      refine g_iald hx hb hK hB 20 0 rfl rfl (rd_s e9) dX2_moveStep_61 ?_
      refine lv_istore_n (lv' := [(3, .int x8), (0, .ref (ad 0)), (1, .int i1), (2, .int i2)]) hx hb dX2_moveStep_62 rfl hl (by decide) rfl (fun ls hl => ?_)
      refine lv_aload_n hx hb dX2_moveStep_63 rfl (lv_at hl 1 rfl) ?_
      refine lv_iload_n hx hb dX2_moveStep_64 rfl (lv_at hl 2 rfl) ?_
      refine lv_iload_n hx hb dX2_moveStep_65 rfl (lv_at hl 0 rfl) ?_
      obtain ⟨r9, hc, hJ3⟩ := ob1_s hJ3
      refine g_callVi (As := [.int i1, .int x8]) (rest := []) ⟨hx, hb, hml, hown, hts⟩ (kX2_amountTakenBy l dC dI cyI ad bd H.size hc) (cwV 2 hts gX2_moveStep_X2_amountTakenBy rfl rfl rfl (by decide +kernel) ⟨Nat.le_of_ble_eq_true rfl, Nat.le_of_ble_eq_true rfl⟩) hK hB hA (g_recv (ci := 2) hK hB 0 rfl rfl rfl) rfl hl.1 rfl (Nat.le_of_ble_eq_true rfl) dX2_moveStep_66 ⟨Nat.zero_le _, Nat.zero_le _⟩ (fun H locs hB => ?_)
      obtain ⟨v10, hJ12, hJ3⟩ := ob1_s hJ3
      have kJ13 : (v10 = 0 ∨ v10 = 1) → ∀ (H : Heap) (locs : List Loc) (ls : Array Slot), Bd (dC, dI) [(cyI, .int)] (va_A (cW cyI ad bd τ σ) s.heap.size) s (cW cyI ad bd τ σ) H locs → lv_has ls 5 [(3, .int x8), (0, .ref (ad 0)), (2, .int i2)] → W p l e (headSpec wsX2_moveStep rmX2_moveStep).room s m ([.ref (ad 0), .int i1, .int i2] : List Value).toArray below meth c H locs 0 0 (MQ below (QvF (dC, dI) [(cyI, .int)] (cW cyI ad bd τ σ) (cW cyI ad bd τ σ_) s.heap.size) ([.ref (ad 0), .int i1, .int i2] : List Value).toArray s 0 0 (va_A (cW cyI ad bd τ σ) s.heap.size)) (F0 m 77 ls [.int v10]) := by
        intro z11 H locs ls hB hl
        refine lv_istore (lv' := [(4, .int v10), (3, .int x8), (0, .ref (ad 0)), (2, .int i2)]) hx hb dX2_moveStep_77 hl (by decide) rfl (fun ls hl => ?_)
        refine lv_iload hx hb dX2_moveStep_79 (lv_at hl 0 rfl) ?_
        obtain ⟨t15, hD16, hJ3⟩ := ob1_s hJ3
        have kTt15 : t15 = true → ∀ (H : Heap) (locs : List Loc), Bd (dC, dI) [(cyI, .int)] (va_A (cW cyI ad bd τ σ) s.heap.size) s (cW cyI ad bd τ σ) H locs → W p l e (headSpec wsX2_moveStep rmX2_moveStep).room s m ([.ref (ad 0), .int i1, .int i2] : List Value).toArray below meth c H locs 0 0 (MQ below (QvF (dC, dI) [(cyI, .int)] (cW cyI ad bd τ σ) (cW cyI ad bd τ σ_) s.heap.size) ([.ref (ad 0), .int i1, .int i2] : List Value).toArray s 0 0 (va_A (cW cyI ad bd τ σ) s.heap.size)) (F0 m 101 ls []) := by
          intro ht H locs hB
          have hJ3 := cnd_t ht hJ3
          refine lv_aload_n hx hb dX2_moveStep_101 rfl (lv_at hl 2 rfl) ?_
          refine lv_iload_n hx hb dX2_moveStep_102 rfl (lv_at hl 3 rfl) ?_
          obtain ⟨σ21, hc, hJ3⟩ := ob1_s hJ3
          refine g_callVv (As := [.int i2]) (rest := []) ⟨hx, hb, hml, hown, hts⟩ (kX2_waitForGuard l dC dI cyI ad bd H.size hc) (cwV 1 hts gX2_moveStep_X2_waitForGuard rfl rfl rfl (by decide +kernel) ⟨Nat.le_of_ble_eq_true rfl, Nat.le_of_ble_eq_true rfl⟩) hK hB hA (g_recv (ci := 2) hK hB 0 rfl rfl rfl) rfl hl.1 rfl (Nat.le_of_ble_eq_true rfl) dX2_moveStep_103 ⟨Nat.zero_le _, Nat.zero_le _⟩ (fun H locs hB => ?_)
          refine lv_goto (tgt := 115) hx hb dX2_moveStep_106 (by decide) ?_
          have e0 := inj1 hJ3
          subst e0
          exact kJ4 _ _ _ hB (lv_sub hl [] rfl)
        have kFt15 : t15 = false → ∀ (H : Heap) (locs : List Loc), Bd (dC, dI) [(cyI, .int)] (va_A (cW cyI ad bd τ σ) s.heap.size) s (cW cyI ad bd τ σ) H locs → W p l e (headSpec wsX2_moveStep rmX2_moveStep).room s m ([.ref (ad 0), .int i1, .int i2] : List Value).toArray below meth c H locs 0 0 (MQ below (QvF (dC, dI) [(cyI, .int)] (cW cyI ad bd τ σ) (cW cyI ad bd τ σ_) s.heap.size) ([.ref (ad 0), .int i1, .int i2] : List Value).toArray s 0 0 (va_A (cW cyI ad bd τ σ) s.heap.size)) (F0 m 109 ls []) := by
          intro ht H locs hB
          have hJ3 := cnd_f ht hJ3
          refine lv_aload_n hx hb dX2_moveStep_109 rfl (lv_at hl 2 rfl) ?_
          refine lv_iload_n hx hb dX2_moveStep_110 rfl (lv_at hl 3 rfl) ?_
          refine lv_iload_n hx hb dX2_moveStep_111 rfl (lv_at hl 1 rfl) ?_
          obtain ⟨σ22, hc, hJ3⟩ := ob1_s hJ3
          refine g_callVv (As := [.int i2, .int x8]) (rest := []) ⟨hx, hb, hml, hown, hts⟩ (kX2_takeAmount l dC dI cyI ad bd H.size hc) (cwV 2 hts gX2_moveStep_X2_takeAmount rfl rfl rfl (by decide +kernel) ⟨Nat.le_of_ble_eq_true rfl, Nat.le_of_ble_eq_true rfl⟩) hK hB hA (g_recv (ci := 2) hK hB 0 rfl rfl rfl) rfl hl.1 rfl (Nat.le_of_ble_eq_true rfl) dX2_moveStep_112 ⟨Nat.zero_le _, Nat.zero_le _⟩ (fun H locs hB => ?_)
          have e0 := inj1 hJ3
          subst e0
          exact kJ4 _ _ _ hB (lv_sub hl [] rfl)
        refine lv_if_ne (tgt := 109) hx hb dX2_moveStep_81 (by decide) (fun c17 => ?_) (fun c17 => ?_)
        · have hD16 := ite_f c17 hD16
          have e0 := inj1 hD16
          exact kFt15 e0.symm _ _ hB
        · have hD16 := ite_t c17 hD16
          refine lv_aload_n hx hb dX2_moveStep_84 rfl (lv_at hl 2 rfl) ?_
          refine lv_iload_n hx hb dX2_moveStep_85 rfl (lv_at hl 1 rfl) ?_
          obtain ⟨r18, hc, hD16⟩ := ob1_s hD16
          refine g_callVi (As := [.int x8]) (rest := []) ⟨hx, hb, hml, hown, hts⟩ (kX2_holdersOf l dC dI cyI ad bd H.size hc) (cwV 1 hts gX2_moveStep_X2_holdersOf rfl rfl rfl (by decide +kernel) ⟨Nat.le_of_ble_eq_true rfl, Nat.le_of_ble_eq_true rfl⟩) hK hB hA (g_recv (ci := 2) hK hB 0 rfl rfl rfl) rfl hl.1 rfl (Nat.le_of_ble_eq_true rfl) dX2_moveStep_86 ⟨Nat.zero_le _, Nat.zero_le _⟩ (fun H locs hB => ?_)
          refine lv_aload_n hx hb dX2_moveStep_89 rfl (lv_at hl 2 rfl) ?_
          refine g_get (C := RX2) (T := TX2) (N := 14) hx hb hts hinX2 hown hK hB 0 rfl rfl 0 rfl hq4 rfl rfl dX2_moveStep_90 ?_
          refine g_get (C := RX0) (T := TX0) (N := 17) hx hb hts hinX0 hown hK hB 12 rfl rfl 4 rfl hq7 rfl rfl dX2_moveStep_93 ?_
          refine lv_iload_n hx hb dX2_moveStep_96 rfl (lv_at hl 1 rfl) ?_
          obtain ⟨x19, e9, hD16⟩ := ob1_s hD16
          refine g_iald hx hb hK hB 14 0 rfl rfl (rd_s e9) dX2_moveStep_97 ?_
          refine lv_icmp_lt (tgt := 109) hx hb dX2_moveStep_98 (by decide) (fun c20 => ?_) (fun c20 => ?_)
          · have hD16 := ite_t c20 hD16
            have e0 := inj1 hD16
            exact kFt15 e0.symm _ _ hB
          · have hD16 := ite_f c20 hD16
            have e0 := inj1 hD16
            exact kTt15 e0.symm _ _ hB
      refine lv_if_le (tgt := 76) hx hb dX2_moveStep_69 (by decide) (fun c14 => ?_) (fun c14 => ?_)
      · have hJ12 := ite_t c14 hJ12
        refine lv_iconst (v := (0 : Int32)) hx hb dX2_moveStep_76 (by decide) ?_
        have e0 := inj1 hJ12
        subst e0
        exact kJ13 (Or.inl rfl) _ _ _ hB (lv_sub hl [0, 1, 3] rfl)
      · have hJ12 := ite_f c14 hJ12
        refine lv_iconst (v := (1 : Int32)) hx hb dX2_moveStep_72 (by decide) ?_
        refine lv_goto (tgt := 77) hx hb dX2_moveStep_73 (by decide) ?_
        have e0 := inj1 hJ12
        subst e0
        exact kJ13 (Or.inr rfl) _ _ _ hB (lv_sub hl [0, 1, 3] rfl)
  · have hJ3 := ite_t c5 hJ3
    refine lv_aload_n hx hb dX2_moveStep_10 rfl (lv_at hl 0 rfl) ?_
    refine g_get (C := RX2) (T := TX2) (N := 14) hx hb hts hinX2 hown hK hB 0 rfl rfl 1 rfl hq2 rfl rfl dX2_moveStep_11 ?_
    refine lv_aload_n hx hb dX2_moveStep_14 rfl (lv_at hl 0 rfl) ?_
    refine g_get (C := RX2) (T := TX2) (N := 14) hx hb hts hinX2 hown hK hB 0 rfl rfl 12 rfl hq3 rfl rfl dX2_moveStep_15 ?_
    refine lv_iload_n hx hb dX2_moveStep_18 rfl (lv_at hl 2 rfl) ?_
    obtain ⟨x23, e9, hJ3⟩ := ob1_s hJ3
    refine g_iald hx hb hK hB 10 0 rfl rfl (rd_s e9) dX2_moveStep_19 ?_
    refine lv_isub hx hb dX2_moveStep_20 ?_
    refine lv_aload_n hx hb dX2_moveStep_21 rfl (lv_at hl 0 rfl) ?_
    refine g_get (C := RX2) (T := TX2) (N := 14) hx hb hts hinX2 hown hK hB 0 rfl rfl 0 rfl hq4 rfl rfl dX2_moveStep_22 ?_
    refine g_get (C := RX0) (T := TX0) (N := 17) hx hb hts hinX0 hown hK hB 12 rfl rfl 14 rfl hq5 rfl rfl dX2_moveStep_25 ?_
    refine lv_iload_n hx hb dX2_moveStep_28 rfl (lv_at hl 2 rfl) ?_
    obtain ⟨x24, e9, hJ3⟩ := ob1_s hJ3
    refine g_iald hx hb hK hB 22 0 rfl rfl (rd_s e9) dX2_moveStep_29 ?_
    refine lv_icmp_lt (tgt := 115) hx hb dX2_moveStep_30 (by decide) (fun c25 => ?_) (fun c25 => ?_)
    · have hJ3 := ite_t c25 hJ3
      have e0 := inj1 hJ3
      subst e0
      exact kJ4 _ _ _ hB (lv_sub hl [] rfl)
    · have hJ3 := ite_f c25 hJ3
      refine lv_aload_n hx hb dX2_moveStep_33 rfl (lv_at hl 0 rfl) ?_
      refine g_get (C := RX2) (T := TX2) (N := 14) hx hb hts hinX2 hown hK hB 0 rfl rfl 9 rfl hq1 rfl rfl dX2_moveStep_34 ?_
      refine lv_iload_n hx hb dX2_moveStep_37 rfl (lv_at hl 2 rfl) ?_
      refine lv_iconst (v := (3 : Int32)) hx hb dX2_moveStep_38 (by decide) ?_
      obtain ⟨σ26, e9, hJ3⟩ := ob1_s hJ3
      obtain ⟨hi, e9⟩ := wra_s e9
      refine g_iast hx hb hK hB 7 0 rfl rfl hi rfl dX2_moveStep_39 (w2 := (cW cyI ad bd τ σ26)) (by rw [← e9]; rfl) (fun H locs hB => ?_)
      refine lv_goto (tgt := 115) hx hb dX2_moveStep_40 (by decide) ?_
      have e0 := inj1 hJ3
      subst e0
      exact kJ4 _ _ _ hB (lv_sub hl [] rfl)

