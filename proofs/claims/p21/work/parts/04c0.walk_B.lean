abbrev rmX2_begin : Room := { frames := 1, cells := 0, slots := 0, locals := 40 }

set_option maxHeartbeats 4000000 in
set_option maxRecDepth 100000 in
theorem kX2_begin (l : Launch) (dC : Nat → ClassId) (dI : Nat → Nat → Nat) (cyI : ClassId) (ad bd : Nat → Nat) (sz : Nat) {fu : Nat} {bs : Nat} {τ : MS} {σ : MS} {σ_ : MS} (hf : mX2_begin fu τ σ = some σ_) : Met l yX2_begin wsX2_begin rmX2_begin (PcF (dC, dI) [(cyI, .int)] (cB cyI ad bd bs τ σ) sz [.ref (ad 0), .ref (bd 0)]) (QvF (dC, dI) [(cyI, .int)] (cB cyI ad bd bs τ σ) (cB cyI ad bd (bd 0) τ σ_) sz) 0 0 (va_A (cB cyI ad bd bs τ σ) sz) := by
  refine Met.ofW (cc := cX2_begin) (maxL := 2) (ret := none) (by decide) rfl ?_
  intro p e s m args below meth c s₁ B hml hv
  obtain ⟨rfl, hsz, hP, hK, hD0⟩ := hv
  have hx := B.exec
  have hb := B.bytes
  have hr := B.returns
  have hts := atoms_spec (ws := wsX2_begin) B.pre
  have hown : s.vm.findClass RX2 = some m.cls := findClass_of_methodNamed B.named
  have hlocks := B.notSynchronized
  subst hsz
  have hA : ∀ q : Nat, s.heap.size ≤ q → va_A (cB cyI ad bd bs τ σ) s.heap.size q := fun q h => Or.inr h
  have hB : Bd (dC, dI) [(cyI, .int)] (va_A (cB cyI ad bd bs τ σ) s.heap.size) s (cB cyI ad bd bs τ σ) s.heap [] := ⟨hP, hD0.self, va_S.rf⟩
  have hq1 : (Cond.fieldLink RX2 52 "UndoJourneys$World" "setup" "LUndoJourneys$Setup;").before _ s = true := hts _ (List.mem_of_getElem? (i := 1) rfl)
  have hq2 : (Cond.fieldLink RX2 9 "UndoJourneys$World" "time" "I").before _ s = true := hts _ (List.mem_of_getElem? (i := 2) rfl)
  have hq3 : (Cond.fieldLink RX2 15 "UndoJourneys$World" "failedUndos" "I").before _ s = true := hts _ (List.mem_of_getElem? (i := 3) rfl)
  have hq4 : (Cond.fieldLink RX2 56 "UndoJourneys$Setup" "firstLevel" "[I").before _ s = true := hts _ (List.mem_of_getElem? (i := 4) rfl)
  have hq5 : (Cond.fieldLink RX2 18 "UndoJourneys$World" "level" "[I").before _ s = true := hts _ (List.mem_of_getElem? (i := 5) rfl)
  have hq6 : (Cond.methodLink RX2 61 arraycopyName).before _ s = true := hts _ (List.mem_of_getElem? (i := 6) rfl)
  have hq7 : (Cond.native arraycopyName).before _ s = true := hts _ (List.mem_of_getElem? (i := 7) rfl)
  have hq8 : (Cond.static arraycopyName).before _ s = true := hts _ (List.mem_of_getElem? (i := 8) rfl)
  have hq9 : (Cond.initialized "java/lang/System").before _ s = true := hts _ (List.mem_of_getElem? (i := 9) rfl)
  have hq10 : (Cond.fieldLink RX2 25 "UndoJourneys$World" "journeyState" "[I").before _ s = true := hts _ (List.mem_of_getElem? (i := 10) rfl)
  have hq11 : (Cond.fieldLink RX2 28 "UndoJourneys$World" "presentStage" "[I").before _ s = true := hts _ (List.mem_of_getElem? (i := 11) rfl)
  have hq12 : (Cond.fieldLink RX2 31 "UndoJourneys$World" "restTime" "[I").before _ s = true := hts _ (List.mem_of_getElem? (i := 12) rfl)
  have hq13 : (Cond.fieldLink RX2 34 "UndoJourneys$World" "undoFails" "[I").before _ s = true := hts _ (List.mem_of_getElem? (i := 13) rfl)
  have hq14 : (Cond.fieldLink RX2 37 "UndoJourneys$World" "stepState" "[I").before _ s = true := hts _ (List.mem_of_getElem? (i := 14) rfl)
  have hq15 : (Cond.fieldLink RX2 73 "UndoJourneys$Setup" "failures" "[I").before _ s = true := hts _ (List.mem_of_getElem? (i := 15) rfl)
  have hq16 : (Cond.fieldLink RX2 40 "UndoJourneys$World" "failuresLeft" "[I").before _ s = true := hts _ (List.mem_of_getElem? (i := 16) rfl)
  have hq17 : (Cond.fieldLink RX2 76 "UndoJourneys$Setup" "repeats" "[I").before _ s = true := hts _ (List.mem_of_getElem? (i := 17) rfl)
  have hq18 : (Cond.fieldLink RX2 43 "UndoJourneys$World" "repeatsLeft" "[I").before _ s = true := hts _ (List.mem_of_getElem? (i := 18) rfl)
  have hq19 : (Cond.fieldLink RX2 46 "UndoJourneys$World" "beginTime" "[I").before _ s = true := hts _ (List.mem_of_getElem? (i := 19) rfl)
  have hq20 : (Cond.fieldLink RX2 49 "UndoJourneys$World" "ticksWaited" "[I").before _ s = true := hts _ (List.mem_of_getElem? (i := 20) rfl)
  have hinX0 : ∀ w ∈ wsX00, w ∈ wsX2_begin := fun w h => List.mem_cons_of_mem _ (List.mem_append_right _ h)
  have hinX2 : ∀ w ∈ wsX20, w ∈ wsX2_begin := fun w h => List.mem_cons_of_mem _ (List.mem_append_left _ (List.mem_append_right _ h))
  have hl := lv_entry [.ref (ad 0), .ref (bd 0)] (n := 2) (Nat.le_of_ble_eq_true rfl)
  rw [lg_entry_eq]
  generalize (lg_sl [.ref (ad 0), .ref (bd 0)] ++ List.replicate (2 - (lg_sl [.ref (ad 0), .ref (bd 0)]).length) Slot.unset).toArray = ls at hl ⊢
  have hl : lv_has ls 2 [(0, .ref (ad 0)), (1, .ref (bd 0))] := hl
  clear hP hD0
  suffices main : ∀ (H : Heap) (locs : List Loc), Bd (dC, dI) [(cyI, .int)] (va_A (cB cyI ad bd bs τ σ) s.heap.size) s (cB cyI ad bd bs τ σ) H locs → W p l e (headSpec wsX2_begin rmX2_begin).room s m ([.ref (ad 0), .ref (bd 0)] : List Value).toArray below meth c H locs 0 0 (MQ below (QvF (dC, dI) [(cyI, .int)] (cB cyI ad bd bs τ σ) (cB cyI ad bd (bd 0) τ σ_) s.heap.size) ([.ref (ad 0), .ref (bd 0)] : List Value).toArray s 0 0 (va_A (cB cyI ad bd bs τ σ) s.heap.size)) (F0 m 0 ls []) from main _ _ hB
  clear hB
  intro H locs hB
  unfold mX2_begin at hf
  refine lv_aload_n hx hb dX2_begin_0 rfl (lv_at hl 0 rfl) ?_
  refine lv_aload_n hx hb dX2_begin_1 rfl (lv_at hl 1 rfl) ?_
  refine g_put (C := RX2) (T := TX2) (N := 14) hx hb hts hinX2 tyX2 tyX2_ok nmX2 hown hK hB 0 rfl rfl 0 rfl hq1 rfl rfl rfl rfl rfl rfl dX2_begin_2 (w2 := (cB cyI ad bd (bd 0) τ σ)) rfl (fun H locs hB => ?_)
  refine lv_aload_n hx hb dX2_begin_5 rfl (lv_at hl 0 rfl) ?_
  refine lv_iconst (v := (0 : Int32)) hx hb dX2_begin_6 (by decide) ?_
  obtain ⟨σ1, e9, hf⟩ := ob1_s hf
  have e9 := inj1 e9
  refine g_put (C := RX2) (T := TX2) (N := 14) hx hb hts hinX2 tyX2 tyX2_ok nmX2 hown hK hB 0 rfl rfl 1 rfl hq2 rfl rfl rfl rfl rfl rfl dX2_begin_7 (w2 := (cB cyI ad bd (bd 0) τ σ1)) (by rw [← e9]; rfl) (fun H locs hB => ?_)
  refine lv_aload_n hx hb dX2_begin_10 rfl (lv_at hl 0 rfl) ?_
  refine lv_iconst (v := (0 : Int32)) hx hb dX2_begin_11 (by decide) ?_
  obtain ⟨σ2, e9, hf⟩ := ob1_s hf
  have e9 := inj1 e9
  refine g_put (C := RX2) (T := TX2) (N := 14) hx hb hts hinX2 tyX2 tyX2_ok nmX2 hown hK hB 0 rfl rfl 2 rfl hq3 rfl rfl rfl rfl rfl rfl dX2_begin_12 (w2 := (cB cyI ad bd (bd 0) τ σ2)) (by rw [← e9]; rfl) (fun H locs hB => ?_)
  refine lv_aload_n hx hb dX2_begin_15 rfl (lv_at hl 0 rfl) ?_
  refine g_get (C := RX2) (T := TX2) (N := 14) hx hb hts hinX2 hown hK hB 0 rfl rfl 0 rfl hq1 rfl rfl dX2_begin_16 ?_
  refine g_get (C := RX0) (T := TX0) (N := 17) hx hb hts hinX0 hown hK hB 12 rfl rfl 3 rfl hq4 rfl rfl dX2_begin_19 ?_
  refine lv_iconst (v := (0 : Int32)) hx hb dX2_begin_22 (by decide) ?_
  refine lv_aload_n hx hb dX2_begin_23 rfl (lv_at hl 0 rfl) ?_
  refine g_get (C := RX2) (T := TX2) (N := 14) hx hb hts hinX2 hown hK hB 0 rfl rfl 3 rfl hq5 rfl rfl dX2_begin_24 ?_
  refine lv_iconst (v := (0 : Int32)) hx hb dX2_begin_27 (by decide) ?_
  refine lv_bipush (v := (6 : Int32)) hx hb dX2_begin_28 (by decide) ?_
  obtain ⟨σ3, e9, hf⟩ := ob1_s hf
  have e9 := inj1 e9
  refine g_acopy hx hb (hml.trans hl.1.symm) hown hq6 hq7 hq8 hq9 hK hB 13 1 rfl rfl rfl (by decide) (by decide) (Nat.le_of_ble_eq_true rfl) (Nat.le_of_ble_eq_true rfl) dX2_begin_30 (w2 := (cB cyI ad bd (bd 0) τ σ3)) (by rw [← e9]; rfl) (fun H locs hB => ?_)
  refine lv_aload_n hx hb dX2_begin_33 rfl (lv_at hl 0 rfl) ?_
  refine g_get (C := RX2) (T := TX2) (N := 14) hx hb hts hinX2 hown hK hB 0 rfl rfl 5 rfl hq10 rfl rfl dX2_begin_34 ?_
  refine lv_iconst (v := (0 : Int32)) hx hb dX2_begin_37 (by decide) ?_
  obtain ⟨σ4, e9, hf⟩ := ob1_s hf
  have e9 := inj1 e9
  refine g_fill (n := 8) hx hb hml hown hts (va_cwS 2 hts gX2_begin_J7_fill_53178 rfl rfl rfl (by decide +kernel) ⟨Nat.le_of_ble_eq_true rfl, Nat.le_of_ble_eq_true rfl⟩) hK rfl hB hA 3 rfl (by decide) (w2 := (cB cyI ad bd (bd 0) τ σ4)) (by rw [← e9]; rfl) hl.1 (Nat.le_of_ble_eq_true rfl) dX2_begin_38 ⟨Nat.zero_le _, Nat.zero_le _⟩ (fun H locs hB => ?_)
  refine lv_aload_n hx hb dX2_begin_41 rfl (lv_at hl 0 rfl) ?_
  refine g_get (C := RX2) (T := TX2) (N := 14) hx hb hts hinX2 hown hK hB 0 rfl rfl 6 rfl hq11 rfl rfl dX2_begin_42 ?_
  refine lv_iconst (v := (0 : Int32)) hx hb dX2_begin_45 (by decide) ?_
  obtain ⟨σ5, e9, hf⟩ := ob1_s hf
  have e9 := inj1 e9
  refine g_fill (n := 8) hx hb hml hown hts (va_cwS 2 hts gX2_begin_J7_fill_53178 rfl rfl rfl (by decide +kernel) ⟨Nat.le_of_ble_eq_true rfl, Nat.le_of_ble_eq_true rfl⟩) hK rfl hB hA 4 rfl (by decide) (w2 := (cB cyI ad bd (bd 0) τ σ5)) (by rw [← e9]; rfl) hl.1 (Nat.le_of_ble_eq_true rfl) dX2_begin_46 ⟨Nat.zero_le _, Nat.zero_le _⟩ (fun H locs hB => ?_)
  refine lv_aload_n hx hb dX2_begin_49 rfl (lv_at hl 0 rfl) ?_
  refine g_get (C := RX2) (T := TX2) (N := 14) hx hb hts hinX2 hown hK hB 0 rfl rfl 7 rfl hq12 rfl rfl dX2_begin_50 ?_
  refine lv_iconst (v := (0 : Int32)) hx hb dX2_begin_53 (by decide) ?_
  obtain ⟨σ6, e9, hf⟩ := ob1_s hf
  have e9 := inj1 e9
  refine g_fill (n := 8) hx hb hml hown hts (va_cwS 2 hts gX2_begin_J7_fill_53178 rfl rfl rfl (by decide +kernel) ⟨Nat.le_of_ble_eq_true rfl, Nat.le_of_ble_eq_true rfl⟩) hK rfl hB hA 5 rfl (by decide) (w2 := (cB cyI ad bd (bd 0) τ σ6)) (by rw [← e9]; rfl) hl.1 (Nat.le_of_ble_eq_true rfl) dX2_begin_54 ⟨Nat.zero_le _, Nat.zero_le _⟩ (fun H locs hB => ?_)
  refine lv_aload_n hx hb dX2_begin_57 rfl (lv_at hl 0 rfl) ?_
  refine g_get (C := RX2) (T := TX2) (N := 14) hx hb hts hinX2 hown hK hB 0 rfl rfl 8 rfl hq13 rfl rfl dX2_begin_58 ?_
  refine lv_iconst (v := (0 : Int32)) hx hb dX2_begin_61 (by decide) ?_
  obtain ⟨σ7, e9, hf⟩ := ob1_s hf
  have e9 := inj1 e9
  refine g_fill (n := 8) hx hb hml hown hts (va_cwS 2 hts gX2_begin_J7_fill_53178 rfl rfl rfl (by decide +kernel) ⟨Nat.le_of_ble_eq_true rfl, Nat.le_of_ble_eq_true rfl⟩) hK rfl hB hA 6 rfl (by decide) (w2 := (cB cyI ad bd (bd 0) τ σ7)) (by rw [← e9]; rfl) hl.1 (Nat.le_of_ble_eq_true rfl) dX2_begin_62 ⟨Nat.zero_le _, Nat.zero_le _⟩ (fun H locs hB => ?_)
  refine lv_aload_n hx hb dX2_begin_65 rfl (lv_at hl 0 rfl) ?_
  refine g_get (C := RX2) (T := TX2) (N := 14) hx hb hts hinX2 hown hK hB 0 rfl rfl 9 rfl hq14 rfl rfl dX2_begin_66 ?_
  refine lv_iconst (v := (0 : Int32)) hx hb dX2_begin_69 (by decide) ?_
  obtain ⟨σ8, e9, hf⟩ := ob1_s hf
  have e9 := inj1 e9
  refine g_fill (n := 40) hx hb hml hown hts (va_cwS 2 hts gX2_begin_J7_fill_53178 rfl rfl rfl (by decide +kernel) ⟨Nat.le_of_ble_eq_true rfl, Nat.le_of_ble_eq_true rfl⟩) hK rfl hB hA 7 rfl (by decide) (w2 := (cB cyI ad bd (bd 0) τ σ8)) (by rw [← e9]; rfl) hl.1 (Nat.le_of_ble_eq_true rfl) dX2_begin_70 ⟨Nat.zero_le _, Nat.zero_le _⟩ (fun H locs hB => ?_)
  refine lv_aload_n hx hb dX2_begin_73 rfl (lv_at hl 0 rfl) ?_
  refine g_get (C := RX2) (T := TX2) (N := 14) hx hb hts hinX2 hown hK hB 0 rfl rfl 0 rfl hq1 rfl rfl dX2_begin_74 ?_
  refine g_get (C := RX0) (T := TX0) (N := 17) hx hb hts hinX0 hown hK hB 12 rfl rfl 15 rfl hq15 rfl rfl dX2_begin_77 ?_
  refine lv_iconst (v := (0 : Int32)) hx hb dX2_begin_80 (by decide) ?_
  refine lv_aload_n hx hb dX2_begin_81 rfl (lv_at hl 0 rfl) ?_
  refine g_get (C := RX2) (T := TX2) (N := 14) hx hb hts hinX2 hown hK hB 0 rfl rfl 10 rfl hq16 rfl rfl dX2_begin_82 ?_
  refine lv_iconst (v := (0 : Int32)) hx hb dX2_begin_85 (by decide) ?_
  refine lv_bipush (v := (40 : Int32)) hx hb dX2_begin_86 (by decide) ?_
  obtain ⟨σ9, e9, hf⟩ := ob1_s hf
  have e9 := inj1 e9
  refine g_acopy hx hb (hml.trans hl.1.symm) hown hq6 hq7 hq8 hq9 hK hB 23 8 rfl rfl rfl (by decide) (by decide) (Nat.le_of_ble_eq_true rfl) (Nat.le_of_ble_eq_true rfl) dX2_begin_88 (w2 := (cB cyI ad bd (bd 0) τ σ9)) (by rw [← e9]; rfl) (fun H locs hB => ?_)
  refine lv_aload_n hx hb dX2_begin_91 rfl (lv_at hl 0 rfl) ?_
  refine g_get (C := RX2) (T := TX2) (N := 14) hx hb hts hinX2 hown hK hB 0 rfl rfl 0 rfl hq1 rfl rfl dX2_begin_92 ?_
  refine g_get (C := RX0) (T := TX0) (N := 17) hx hb hts hinX0 hown hK hB 12 rfl rfl 16 rfl hq17 rfl rfl dX2_begin_95 ?_
  refine lv_iconst (v := (0 : Int32)) hx hb dX2_begin_98 (by decide) ?_
  refine lv_aload_n hx hb dX2_begin_99 rfl (lv_at hl 0 rfl) ?_
  refine g_get (C := RX2) (T := TX2) (N := 14) hx hb hts hinX2 hown hK hB 0 rfl rfl 11 rfl hq18 rfl rfl dX2_begin_100 ?_
  refine lv_iconst (v := (0 : Int32)) hx hb dX2_begin_103 (by decide) ?_
  refine lv_bipush (v := (40 : Int32)) hx hb dX2_begin_104 (by decide) ?_
  obtain ⟨σ10, e9, hf⟩ := ob1_s hf
  have e9 := inj1 e9
  refine g_acopy hx hb (hml.trans hl.1.symm) hown hq6 hq7 hq8 hq9 hK hB 24 9 rfl rfl rfl (by decide) (by decide) (Nat.le_of_ble_eq_true rfl) (Nat.le_of_ble_eq_true rfl) dX2_begin_106 (w2 := (cB cyI ad bd (bd 0) τ σ10)) (by rw [← e9]; rfl) (fun H locs hB => ?_)
  refine lv_aload_n hx hb dX2_begin_109 rfl (lv_at hl 0 rfl) ?_
  refine g_get (C := RX2) (T := TX2) (N := 14) hx hb hts hinX2 hown hK hB 0 rfl rfl 12 rfl hq19 rfl rfl dX2_begin_110 ?_
  refine lv_iconst (v := (0 : Int32)) hx hb dX2_begin_113 (by decide) ?_
  obtain ⟨σ11, e9, hf⟩ := ob1_s hf
  have e9 := inj1 e9
  refine g_fill (n := 40) hx hb hml hown hts (va_cwS 2 hts gX2_begin_J7_fill_53178 rfl rfl rfl (by decide +kernel) ⟨Nat.le_of_ble_eq_true rfl, Nat.le_of_ble_eq_true rfl⟩) hK rfl hB hA 10 rfl (by decide) (w2 := (cB cyI ad bd (bd 0) τ σ11)) (by rw [← e9]; rfl) hl.1 (Nat.le_of_ble_eq_true rfl) dX2_begin_114 ⟨Nat.zero_le _, Nat.zero_le _⟩ (fun H locs hB => ?_)
  refine lv_aload_n hx hb dX2_begin_117 rfl (lv_at hl 0 rfl) ?_
  refine g_get (C := RX2) (T := TX2) (N := 14) hx hb hts hinX2 hown hK hB 0 rfl rfl 13 rfl hq20 rfl rfl dX2_begin_118 ?_
  refine lv_iconst (v := (0 : Int32)) hx hb dX2_begin_121 (by decide) ?_
  obtain ⟨σ12, e9, hf⟩ := ob1_s hf
  have e9 := inj1 e9
  refine g_fill (n := 40) hx hb hml hown hts (va_cwS 2 hts gX2_begin_J7_fill_53178 rfl rfl rfl (by decide +kernel) ⟨Nat.le_of_ble_eq_true rfl, Nat.le_of_ble_eq_true rfl⟩) hK rfl hB hA 11 rfl (by decide) (w2 := (cB cyI ad bd (bd 0) τ σ12)) (by rw [← e9]; rfl) hl.1 (Nat.le_of_ble_eq_true rfl) dX2_begin_122 ⟨Nat.zero_le _, Nat.zero_le _⟩ (fun H locs hB => ?_)
  have e0 := inj1 hf
  subst e0
  exact g_vret hx hb hr hlocks hK hB dX2_begin_125

