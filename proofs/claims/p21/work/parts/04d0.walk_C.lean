abbrev rmX2_copyFrom : Room := { frames := 1, cells := 0, slots := 0, locals := 40 }

set_option maxHeartbeats 4000000 in
set_option maxRecDepth 100000 in
theorem kX2_copyFrom (l : Launch) (dC : Nat → ClassId) (dI : Nat → Nat → Nat) (cyI : ClassId) (ad ae : Nat → Nat) (bo : Nat) (sz : Nat) {fu : Nat} {bs : Nat} {σo : MS} {σ : MS} {σ_ : MS} (hf : mX2_copyFrom fu σo σ = some σ_) : Met l yX2_copyFrom wsX2_copyFrom rmX2_copyFrom (PcF (dC, dI) [(cyI, .int)] (cC cyI ad ae bo bs σo σ) sz [.ref (ad 0), .ref (ae 0)]) (QvF (dC, dI) [(cyI, .int)] (cC cyI ad ae bo bs σo σ) (cC cyI ad ae bo bo σo σ_) sz) 0 0 (va_A (cC cyI ad ae bo bs σo σ) sz) := by
  refine Met.ofW (cc := cX2_copyFrom) (maxL := 2) (ret := none) (by decide) rfl ?_
  intro p e s m args below meth c s₁ B hml hv
  obtain ⟨rfl, hsz, hP, hK, hD0⟩ := hv
  have hx := B.exec
  have hb := B.bytes
  have hr := B.returns
  have hts := atoms_spec (ws := wsX2_copyFrom) B.pre
  have hown : s.vm.findClass RX2 = some m.cls := findClass_of_methodNamed B.named
  have hlocks := B.notSynchronized
  subst hsz
  have hA : ∀ q : Nat, s.heap.size ≤ q → va_A (cC cyI ad ae bo bs σo σ) s.heap.size q := fun q h => Or.inr h
  have hB : Bd (dC, dI) [(cyI, .int)] (va_A (cC cyI ad ae bo bs σo σ) s.heap.size) s (cC cyI ad ae bo bs σo σ) s.heap [] := ⟨hP, hD0.self, va_S.rf⟩
  have hq1 : (Cond.fieldLink RX2 52 "UndoJourneys$World" "setup" "LUndoJourneys$Setup;").before _ s = true := hts _ (List.mem_of_getElem? (i := 1) rfl)
  have hq2 : (Cond.fieldLink RX2 9 "UndoJourneys$World" "time" "I").before _ s = true := hts _ (List.mem_of_getElem? (i := 2) rfl)
  have hq3 : (Cond.fieldLink RX2 15 "UndoJourneys$World" "failedUndos" "I").before _ s = true := hts _ (List.mem_of_getElem? (i := 3) rfl)
  have hq4 : (Cond.fieldLink RX2 18 "UndoJourneys$World" "level" "[I").before _ s = true := hts _ (List.mem_of_getElem? (i := 4) rfl)
  have hq5 : (Cond.methodLink RX2 61 arraycopyName).before _ s = true := hts _ (List.mem_of_getElem? (i := 5) rfl)
  have hq6 : (Cond.native arraycopyName).before _ s = true := hts _ (List.mem_of_getElem? (i := 6) rfl)
  have hq7 : (Cond.static arraycopyName).before _ s = true := hts _ (List.mem_of_getElem? (i := 7) rfl)
  have hq8 : (Cond.initialized "java/lang/System").before _ s = true := hts _ (List.mem_of_getElem? (i := 8) rfl)
  have hq9 : (Cond.fieldLink RX2 22 "UndoJourneys$World" "leastLack" "[I").before _ s = true := hts _ (List.mem_of_getElem? (i := 9) rfl)
  have hq10 : (Cond.constant RX2 79 (1000000)).before _ s = true := hts _ (List.mem_of_getElem? (i := 10) rfl)
  have hq11 : (Cond.fieldLink RX2 25 "UndoJourneys$World" "journeyState" "[I").before _ s = true := hts _ (List.mem_of_getElem? (i := 11) rfl)
  have hq12 : (Cond.fieldLink RX2 28 "UndoJourneys$World" "presentStage" "[I").before _ s = true := hts _ (List.mem_of_getElem? (i := 12) rfl)
  have hq13 : (Cond.fieldLink RX2 31 "UndoJourneys$World" "restTime" "[I").before _ s = true := hts _ (List.mem_of_getElem? (i := 13) rfl)
  have hq14 : (Cond.fieldLink RX2 34 "UndoJourneys$World" "undoFails" "[I").before _ s = true := hts _ (List.mem_of_getElem? (i := 14) rfl)
  have hq15 : (Cond.fieldLink RX2 37 "UndoJourneys$World" "stepState" "[I").before _ s = true := hts _ (List.mem_of_getElem? (i := 15) rfl)
  have hq16 : (Cond.fieldLink RX2 40 "UndoJourneys$World" "failuresLeft" "[I").before _ s = true := hts _ (List.mem_of_getElem? (i := 16) rfl)
  have hq17 : (Cond.fieldLink RX2 43 "UndoJourneys$World" "repeatsLeft" "[I").before _ s = true := hts _ (List.mem_of_getElem? (i := 17) rfl)
  have hq18 : (Cond.fieldLink RX2 46 "UndoJourneys$World" "beginTime" "[I").before _ s = true := hts _ (List.mem_of_getElem? (i := 18) rfl)
  have hq19 : (Cond.fieldLink RX2 49 "UndoJourneys$World" "ticksWaited" "[I").before _ s = true := hts _ (List.mem_of_getElem? (i := 19) rfl)
  have hinX2 : ∀ w ∈ wsX20, w ∈ wsX2_copyFrom := fun w h => List.mem_cons_of_mem _ (List.mem_append_right _ h)
  have hl := lv_entry [.ref (ad 0), .ref (ae 0)] (n := 2) (Nat.le_of_ble_eq_true rfl)
  rw [lg_entry_eq]
  generalize (lg_sl [.ref (ad 0), .ref (ae 0)] ++ List.replicate (2 - (lg_sl [.ref (ad 0), .ref (ae 0)]).length) Slot.unset).toArray = ls at hl ⊢
  have hl : lv_has ls 2 [(0, .ref (ad 0)), (1, .ref (ae 0))] := hl
  clear hP hD0
  suffices main : ∀ (H : Heap) (locs : List Loc), Bd (dC, dI) [(cyI, .int)] (va_A (cC cyI ad ae bo bs σo σ) s.heap.size) s (cC cyI ad ae bo bs σo σ) H locs → W p l e (headSpec wsX2_copyFrom rmX2_copyFrom).room s m ([.ref (ad 0), .ref (ae 0)] : List Value).toArray below meth c H locs 0 0 (MQ below (QvF (dC, dI) [(cyI, .int)] (cC cyI ad ae bo bs σo σ) (cC cyI ad ae bo bo σo σ_) s.heap.size) ([.ref (ad 0), .ref (ae 0)] : List Value).toArray s 0 0 (va_A (cC cyI ad ae bo bs σo σ) s.heap.size)) (F0 m 0 ls []) from main _ _ hB
  clear hB
  intro H locs hB
  unfold mX2_copyFrom at hf
  refine lv_aload_n hx hb dX2_copyFrom_0 rfl (lv_at hl 0 rfl) ?_
  refine lv_aload_n hx hb dX2_copyFrom_1 rfl (lv_at hl 1 rfl) ?_
  refine g_get (C := RX2) (T := TX2) (N := 14) hx hb hts hinX2 hown hK hB 12 rfl rfl 0 rfl hq1 rfl rfl dX2_copyFrom_2 ?_
  refine g_put (C := RX2) (T := TX2) (N := 14) hx hb hts hinX2 tyX2 tyX2_ok nmX2 hown hK hB 0 rfl rfl 0 rfl hq1 rfl rfl rfl rfl rfl rfl dX2_copyFrom_5 (w2 := (cC cyI ad ae bo bo σo σ)) rfl (fun H locs hB => ?_)
  refine lv_aload_n hx hb dX2_copyFrom_8 rfl (lv_at hl 0 rfl) ?_
  refine lv_aload_n hx hb dX2_copyFrom_9 rfl (lv_at hl 1 rfl) ?_
  refine g_get (C := RX2) (T := TX2) (N := 14) hx hb hts hinX2 hown hK hB 12 rfl rfl 1 rfl hq2 rfl rfl dX2_copyFrom_10 ?_
  obtain ⟨σ1, e9, hf⟩ := ob1_s hf
  have e9 := inj1 e9
  refine g_put (C := RX2) (T := TX2) (N := 14) hx hb hts hinX2 tyX2 tyX2_ok nmX2 hown hK hB 0 rfl rfl 1 rfl hq2 rfl rfl rfl rfl rfl rfl dX2_copyFrom_13 (w2 := (cC cyI ad ae bo bo σo σ1)) (by rw [← e9]; rfl) (fun H locs hB => ?_)
  refine lv_aload_n hx hb dX2_copyFrom_16 rfl (lv_at hl 0 rfl) ?_
  refine lv_aload_n hx hb dX2_copyFrom_17 rfl (lv_at hl 1 rfl) ?_
  refine g_get (C := RX2) (T := TX2) (N := 14) hx hb hts hinX2 hown hK hB 12 rfl rfl 2 rfl hq3 rfl rfl dX2_copyFrom_18 ?_
  obtain ⟨σ2, e9, hf⟩ := ob1_s hf
  have e9 := inj1 e9
  refine g_put (C := RX2) (T := TX2) (N := 14) hx hb hts hinX2 tyX2 tyX2_ok nmX2 hown hK hB 0 rfl rfl 2 rfl hq3 rfl rfl rfl rfl rfl rfl dX2_copyFrom_21 (w2 := (cC cyI ad ae bo bo σo σ2)) (by rw [← e9]; rfl) (fun H locs hB => ?_)
  refine lv_aload_n hx hb dX2_copyFrom_24 rfl (lv_at hl 1 rfl) ?_
  refine g_get (C := RX2) (T := TX2) (N := 14) hx hb hts hinX2 hown hK hB 12 rfl rfl 3 rfl hq4 rfl rfl dX2_copyFrom_25 ?_
  refine lv_iconst (v := (0 : Int32)) hx hb dX2_copyFrom_28 (by decide) ?_
  refine lv_aload_n hx hb dX2_copyFrom_29 rfl (lv_at hl 0 rfl) ?_
  refine g_get (C := RX2) (T := TX2) (N := 14) hx hb hts hinX2 hown hK hB 0 rfl rfl 3 rfl hq4 rfl rfl dX2_copyFrom_30 ?_
  refine lv_iconst (v := (0 : Int32)) hx hb dX2_copyFrom_33 (by decide) ?_
  refine lv_bipush (v := (6 : Int32)) hx hb dX2_copyFrom_34 (by decide) ?_
  obtain ⟨σ3, e9, hf⟩ := ob1_s hf
  have e9 := inj1 e9
  refine g_acopy hx hb (hml.trans hl.1.symm) hown hq5 hq6 hq7 hq8 hK hB 13 1 rfl rfl rfl (by decide) (by decide) (Nat.le_of_ble_eq_true rfl) (Nat.le_of_ble_eq_true rfl) dX2_copyFrom_36 (w2 := (cC cyI ad ae bo bo σo σ3)) (by rw [← e9]; rfl) (fun H locs hB => ?_)
  refine lv_aload_n hx hb dX2_copyFrom_39 rfl (lv_at hl 0 rfl) ?_
  refine g_get (C := RX2) (T := TX2) (N := 14) hx hb hts hinX2 hown hK hB 0 rfl rfl 4 rfl hq9 rfl rfl dX2_copyFrom_40 ?_
  refine lv_ldc (v := (1000000 : Int32)) hx hb hown hq10 dX2_copyFrom_43 ?_
  obtain ⟨σ4, e9, hf⟩ := ob1_s hf
  have e9 := inj1 e9
  refine g_fill (n := 6) hx hb hml hown hts (va_cwS 2 hts gX2_copyFrom_J7_fill_53178 rfl rfl rfl (by decide +kernel) ⟨Nat.le_of_ble_eq_true rfl, Nat.le_of_ble_eq_true rfl⟩) hK rfl hB hA 2 rfl (by decide) (w2 := (cC cyI ad ae bo bo σo σ4)) (by rw [← e9]; rfl) hl.1 (Nat.le_of_ble_eq_true rfl) dX2_copyFrom_45 ⟨Nat.zero_le _, Nat.zero_le _⟩ (fun H locs hB => ?_)
  refine lv_aload_n hx hb dX2_copyFrom_48 rfl (lv_at hl 1 rfl) ?_
  refine g_get (C := RX2) (T := TX2) (N := 14) hx hb hts hinX2 hown hK hB 12 rfl rfl 5 rfl hq11 rfl rfl dX2_copyFrom_49 ?_
  refine lv_iconst (v := (0 : Int32)) hx hb dX2_copyFrom_52 (by decide) ?_
  refine lv_aload_n hx hb dX2_copyFrom_53 rfl (lv_at hl 0 rfl) ?_
  refine g_get (C := RX2) (T := TX2) (N := 14) hx hb hts hinX2 hown hK hB 0 rfl rfl 5 rfl hq11 rfl rfl dX2_copyFrom_54 ?_
  refine lv_iconst (v := (0 : Int32)) hx hb dX2_copyFrom_57 (by decide) ?_
  refine lv_bipush (v := (8 : Int32)) hx hb dX2_copyFrom_58 (by decide) ?_
  obtain ⟨σ5, e9, hf⟩ := ob1_s hf
  have e9 := inj1 e9
  refine g_acopy hx hb (hml.trans hl.1.symm) hown hq5 hq6 hq7 hq8 hK hB 15 3 rfl rfl rfl (by decide) (by decide) (Nat.le_of_ble_eq_true rfl) (Nat.le_of_ble_eq_true rfl) dX2_copyFrom_60 (w2 := (cC cyI ad ae bo bo σo σ5)) (by rw [← e9]; rfl) (fun H locs hB => ?_)
  refine lv_aload_n hx hb dX2_copyFrom_63 rfl (lv_at hl 1 rfl) ?_
  refine g_get (C := RX2) (T := TX2) (N := 14) hx hb hts hinX2 hown hK hB 12 rfl rfl 6 rfl hq12 rfl rfl dX2_copyFrom_64 ?_
  refine lv_iconst (v := (0 : Int32)) hx hb dX2_copyFrom_67 (by decide) ?_
  refine lv_aload_n hx hb dX2_copyFrom_68 rfl (lv_at hl 0 rfl) ?_
  refine g_get (C := RX2) (T := TX2) (N := 14) hx hb hts hinX2 hown hK hB 0 rfl rfl 6 rfl hq12 rfl rfl dX2_copyFrom_69 ?_
  refine lv_iconst (v := (0 : Int32)) hx hb dX2_copyFrom_72 (by decide) ?_
  refine lv_bipush (v := (8 : Int32)) hx hb dX2_copyFrom_73 (by decide) ?_
  obtain ⟨σ6, e9, hf⟩ := ob1_s hf
  have e9 := inj1 e9
  refine g_acopy hx hb (hml.trans hl.1.symm) hown hq5 hq6 hq7 hq8 hK hB 16 4 rfl rfl rfl (by decide) (by decide) (Nat.le_of_ble_eq_true rfl) (Nat.le_of_ble_eq_true rfl) dX2_copyFrom_75 (w2 := (cC cyI ad ae bo bo σo σ6)) (by rw [← e9]; rfl) (fun H locs hB => ?_)
  refine lv_aload_n hx hb dX2_copyFrom_78 rfl (lv_at hl 1 rfl) ?_
  refine g_get (C := RX2) (T := TX2) (N := 14) hx hb hts hinX2 hown hK hB 12 rfl rfl 7 rfl hq13 rfl rfl dX2_copyFrom_79 ?_
  refine lv_iconst (v := (0 : Int32)) hx hb dX2_copyFrom_82 (by decide) ?_
  refine lv_aload_n hx hb dX2_copyFrom_83 rfl (lv_at hl 0 rfl) ?_
  refine g_get (C := RX2) (T := TX2) (N := 14) hx hb hts hinX2 hown hK hB 0 rfl rfl 7 rfl hq13 rfl rfl dX2_copyFrom_84 ?_
  refine lv_iconst (v := (0 : Int32)) hx hb dX2_copyFrom_87 (by decide) ?_
  refine lv_bipush (v := (8 : Int32)) hx hb dX2_copyFrom_88 (by decide) ?_
  obtain ⟨σ7, e9, hf⟩ := ob1_s hf
  have e9 := inj1 e9
  refine g_acopy hx hb (hml.trans hl.1.symm) hown hq5 hq6 hq7 hq8 hK hB 17 5 rfl rfl rfl (by decide) (by decide) (Nat.le_of_ble_eq_true rfl) (Nat.le_of_ble_eq_true rfl) dX2_copyFrom_90 (w2 := (cC cyI ad ae bo bo σo σ7)) (by rw [← e9]; rfl) (fun H locs hB => ?_)
  refine lv_aload_n hx hb dX2_copyFrom_93 rfl (lv_at hl 1 rfl) ?_
  refine g_get (C := RX2) (T := TX2) (N := 14) hx hb hts hinX2 hown hK hB 12 rfl rfl 8 rfl hq14 rfl rfl dX2_copyFrom_94 ?_
  refine lv_iconst (v := (0 : Int32)) hx hb dX2_copyFrom_97 (by decide) ?_
  refine lv_aload_n hx hb dX2_copyFrom_98 rfl (lv_at hl 0 rfl) ?_
  refine g_get (C := RX2) (T := TX2) (N := 14) hx hb hts hinX2 hown hK hB 0 rfl rfl 8 rfl hq14 rfl rfl dX2_copyFrom_99 ?_
  refine lv_iconst (v := (0 : Int32)) hx hb dX2_copyFrom_102 (by decide) ?_
  refine lv_bipush (v := (8 : Int32)) hx hb dX2_copyFrom_103 (by decide) ?_
  obtain ⟨σ8, e9, hf⟩ := ob1_s hf
  have e9 := inj1 e9
  refine g_acopy hx hb (hml.trans hl.1.symm) hown hq5 hq6 hq7 hq8 hK hB 18 6 rfl rfl rfl (by decide) (by decide) (Nat.le_of_ble_eq_true rfl) (Nat.le_of_ble_eq_true rfl) dX2_copyFrom_105 (w2 := (cC cyI ad ae bo bo σo σ8)) (by rw [← e9]; rfl) (fun H locs hB => ?_)
  refine lv_aload_n hx hb dX2_copyFrom_108 rfl (lv_at hl 1 rfl) ?_
  refine g_get (C := RX2) (T := TX2) (N := 14) hx hb hts hinX2 hown hK hB 12 rfl rfl 9 rfl hq15 rfl rfl dX2_copyFrom_109 ?_
  refine lv_iconst (v := (0 : Int32)) hx hb dX2_copyFrom_112 (by decide) ?_
  refine lv_aload_n hx hb dX2_copyFrom_113 rfl (lv_at hl 0 rfl) ?_
  refine g_get (C := RX2) (T := TX2) (N := 14) hx hb hts hinX2 hown hK hB 0 rfl rfl 9 rfl hq15 rfl rfl dX2_copyFrom_114 ?_
  refine lv_iconst (v := (0 : Int32)) hx hb dX2_copyFrom_117 (by decide) ?_
  refine lv_bipush (v := (40 : Int32)) hx hb dX2_copyFrom_118 (by decide) ?_
  obtain ⟨σ9, e9, hf⟩ := ob1_s hf
  have e9 := inj1 e9
  refine g_acopy hx hb (hml.trans hl.1.symm) hown hq5 hq6 hq7 hq8 hK hB 19 7 rfl rfl rfl (by decide) (by decide) (Nat.le_of_ble_eq_true rfl) (Nat.le_of_ble_eq_true rfl) dX2_copyFrom_120 (w2 := (cC cyI ad ae bo bo σo σ9)) (by rw [← e9]; rfl) (fun H locs hB => ?_)
  refine lv_aload_n hx hb dX2_copyFrom_123 rfl (lv_at hl 1 rfl) ?_
  refine g_get (C := RX2) (T := TX2) (N := 14) hx hb hts hinX2 hown hK hB 12 rfl rfl 10 rfl hq16 rfl rfl dX2_copyFrom_124 ?_
  refine lv_iconst (v := (0 : Int32)) hx hb dX2_copyFrom_127 (by decide) ?_
  refine lv_aload_n hx hb dX2_copyFrom_128 rfl (lv_at hl 0 rfl) ?_
  refine g_get (C := RX2) (T := TX2) (N := 14) hx hb hts hinX2 hown hK hB 0 rfl rfl 10 rfl hq16 rfl rfl dX2_copyFrom_129 ?_
  refine lv_iconst (v := (0 : Int32)) hx hb dX2_copyFrom_132 (by decide) ?_
  refine lv_bipush (v := (40 : Int32)) hx hb dX2_copyFrom_133 (by decide) ?_
  obtain ⟨σ10, e9, hf⟩ := ob1_s hf
  have e9 := inj1 e9
  refine g_acopy hx hb (hml.trans hl.1.symm) hown hq5 hq6 hq7 hq8 hK hB 20 8 rfl rfl rfl (by decide) (by decide) (Nat.le_of_ble_eq_true rfl) (Nat.le_of_ble_eq_true rfl) dX2_copyFrom_135 (w2 := (cC cyI ad ae bo bo σo σ10)) (by rw [← e9]; rfl) (fun H locs hB => ?_)
  refine lv_aload_n hx hb dX2_copyFrom_138 rfl (lv_at hl 1 rfl) ?_
  refine g_get (C := RX2) (T := TX2) (N := 14) hx hb hts hinX2 hown hK hB 12 rfl rfl 11 rfl hq17 rfl rfl dX2_copyFrom_139 ?_
  refine lv_iconst (v := (0 : Int32)) hx hb dX2_copyFrom_142 (by decide) ?_
  refine lv_aload_n hx hb dX2_copyFrom_143 rfl (lv_at hl 0 rfl) ?_
  refine g_get (C := RX2) (T := TX2) (N := 14) hx hb hts hinX2 hown hK hB 0 rfl rfl 11 rfl hq17 rfl rfl dX2_copyFrom_144 ?_
  refine lv_iconst (v := (0 : Int32)) hx hb dX2_copyFrom_147 (by decide) ?_
  refine lv_bipush (v := (40 : Int32)) hx hb dX2_copyFrom_148 (by decide) ?_
  obtain ⟨σ11, e9, hf⟩ := ob1_s hf
  have e9 := inj1 e9
  refine g_acopy hx hb (hml.trans hl.1.symm) hown hq5 hq6 hq7 hq8 hK hB 21 9 rfl rfl rfl (by decide) (by decide) (Nat.le_of_ble_eq_true rfl) (Nat.le_of_ble_eq_true rfl) dX2_copyFrom_150 (w2 := (cC cyI ad ae bo bo σo σ11)) (by rw [← e9]; rfl) (fun H locs hB => ?_)
  refine lv_aload_n hx hb dX2_copyFrom_153 rfl (lv_at hl 1 rfl) ?_
  refine g_get (C := RX2) (T := TX2) (N := 14) hx hb hts hinX2 hown hK hB 12 rfl rfl 12 rfl hq18 rfl rfl dX2_copyFrom_154 ?_
  refine lv_iconst (v := (0 : Int32)) hx hb dX2_copyFrom_157 (by decide) ?_
  refine lv_aload_n hx hb dX2_copyFrom_158 rfl (lv_at hl 0 rfl) ?_
  refine g_get (C := RX2) (T := TX2) (N := 14) hx hb hts hinX2 hown hK hB 0 rfl rfl 12 rfl hq18 rfl rfl dX2_copyFrom_159 ?_
  refine lv_iconst (v := (0 : Int32)) hx hb dX2_copyFrom_162 (by decide) ?_
  refine lv_bipush (v := (40 : Int32)) hx hb dX2_copyFrom_163 (by decide) ?_
  obtain ⟨σ12, e9, hf⟩ := ob1_s hf
  have e9 := inj1 e9
  refine g_acopy hx hb (hml.trans hl.1.symm) hown hq5 hq6 hq7 hq8 hK hB 22 10 rfl rfl rfl (by decide) (by decide) (Nat.le_of_ble_eq_true rfl) (Nat.le_of_ble_eq_true rfl) dX2_copyFrom_165 (w2 := (cC cyI ad ae bo bo σo σ12)) (by rw [← e9]; rfl) (fun H locs hB => ?_)
  refine lv_aload_n hx hb dX2_copyFrom_168 rfl (lv_at hl 1 rfl) ?_
  refine g_get (C := RX2) (T := TX2) (N := 14) hx hb hts hinX2 hown hK hB 12 rfl rfl 13 rfl hq19 rfl rfl dX2_copyFrom_169 ?_
  refine lv_iconst (v := (0 : Int32)) hx hb dX2_copyFrom_172 (by decide) ?_
  refine lv_aload_n hx hb dX2_copyFrom_173 rfl (lv_at hl 0 rfl) ?_
  refine g_get (C := RX2) (T := TX2) (N := 14) hx hb hts hinX2 hown hK hB 0 rfl rfl 13 rfl hq19 rfl rfl dX2_copyFrom_174 ?_
  refine lv_iconst (v := (0 : Int32)) hx hb dX2_copyFrom_177 (by decide) ?_
  refine lv_bipush (v := (40 : Int32)) hx hb dX2_copyFrom_178 (by decide) ?_
  obtain ⟨σ13, e9, hf⟩ := ob1_s hf
  have e9 := inj1 e9
  refine g_acopy hx hb (hml.trans hl.1.symm) hown hq5 hq6 hq7 hq8 hK hB 23 11 rfl rfl rfl (by decide) (by decide) (Nat.le_of_ble_eq_true rfl) (Nat.le_of_ble_eq_true rfl) dX2_copyFrom_180 (w2 := (cC cyI ad ae bo bo σo σ13)) (by rw [← e9]; rfl) (fun H locs hB => ?_)
  have e0 := inj1 hf
  subst e0
  exact g_vret hx hb hr hlocks hK hB dX2_copyFrom_183

