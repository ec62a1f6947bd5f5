abbrev rmX4_readStep : Room := { frames := 5, cells := 0, slots := 0, locals := 107 }

set_option maxHeartbeats 4000000 in
set_option maxRecDepth 100000 in
theorem kX4_readStep (l : Launch) (dC : Nat → ClassId) (dI : Nat → Nat → Nat) (cyI cyO : ClassId) (ad : Nat → Nat) (kS : Nat → Nat) (sz : Nat) {fu : Nat} {μ : MS} {i1 : Int32} {i2 : Int32} {μ_ : MS} (hf : mX4_readStep fu μ i1 i2 = some μ_) : Met l yX4_readStep wsX4_readStep rmX4_readStep (PcJ (dC, dI) [(cyI, .int), (cyO, .array .int)] kS (cM cyI cyO ad μ) sz [.ref (ad 0), .int i1, .int i2]) (QvF (dC, dI) [(cyI, .int), (cyO, .array .int)] (cM cyI cyO ad μ) (cM cyI cyO ad μ_) sz) 0 0 (va_A (cM cyI cyO ad μ) sz) := by
  refine Met.ofW (cc := cX4_readStep) (maxL := 9) (ret := none) (by decide) rfl ?_
  intro p e s m args below meth c s₁ B hml hv
  obtain ⟨rfl, ⟨hsz, hP, hK, hD0⟩, hJ⟩ := hv
  have hx := B.exec
  have hb := B.bytes
  have hr := B.returns
  have hts := atoms_spec (ws := wsX4_readStep) B.pre
  have hown : s.vm.findClass RX4 = some m.cls := findClass_of_methodNamed B.named
  have hlocks := B.notSynchronized
  subst hsz
  have hA : ∀ q : Nat, s.heap.size ≤ q → va_A (cM cyI cyO ad μ) s.heap.size q := fun q h => Or.inr h
  have hB : Bd (dC, dI) [(cyI, .int), (cyO, .array .int)] (va_A (cM cyI cyO ad μ) s.heap.size) s (cM cyI cyO ad μ) s.heap [] := ⟨hP, hD0.self, va_S.rf⟩
  have hq1 : (Cond.fieldLink RX4 20 "UndoJourneysModel" "draft" "[I").before _ s = true := hts _ (List.mem_of_getElem? (i := 1) rfl)
  have hq2 : (Cond.fieldLink RX4 86 "UndoJourneysModel" "numberStart" "I").before _ s = true := hts _ (List.mem_of_getElem? (i := 2) rfl)
  have hinX4 : ∀ w ∈ wsX40, w ∈ wsX4_readStep := fun w h => List.mem_cons_of_mem _ (List.mem_append_right _ h)
  have hl := lv_entry [.ref (ad 0), .int i1, .int i2] (n := 9) (Nat.le_of_ble_eq_true rfl)
  rw [lg_entry_eq]
  generalize (lg_sl [.ref (ad 0), .int i1, .int i2] ++ List.replicate (9 - (lg_sl [.ref (ad 0), .int i1, .int i2]).length) Slot.unset).toArray = ls at hl ⊢
  have hl : lv_has ls 9 [(0, .ref (ad 0)), (1, .int i1), (2, .int i2)] := hl
  clear hP hD0
  suffices main : ∀ (H : Heap) (locs : List Loc), Bd (dC, dI) [(cyI, .int), (cyO, .array .int)] (va_A (cM cyI cyO ad μ) s.heap.size) s (cM cyI cyO ad μ) H locs → W p l e (headSpec wsX4_readStep rmX4_readStep).room s m ([.ref (ad 0), .int i1, .int i2] : List Value).toArray below meth c H locs 0 0 (MQ below (QvF (dC, dI) [(cyI, .int), (cyO, .array .int)] (cM cyI cyO ad μ) (cM cyI cyO ad μ_) s.heap.size) ([.ref (ad 0), .int i1, .int i2] : List Value).toArray s 0 0 (va_A (cM cyI cyO ad μ) s.heap.size)) (F0 m 0 ls []) from main _ _ hB
  clear hB
  intro H locs hB
  unfold mX4_readStep at hf
  refine lv_aload_n hx hb dX4_readStep_0 rfl (lv_at hl 0 rfl) ?_
  refine lv_iconst (v := (0 : Int32)) hx hb dX4_readStep_1 (by decide) ?_
  refine lv_aload_n hx hb dX4_readStep_2 rfl (lv_at hl 0 rfl) ?_
  refine g_get (C := RX4) (T := TX4) (N := 15) hx hb hts hinX4 hown hK hB 0 rfl rfl 9 rfl hq1 rfl rfl dX4_readStep_3 ?_
  refine lv_iconst (v := (1 : Int32)) hx hb dX4_readStep_6 (by decide) ?_
  obtain ⟨x1, e9, hf⟩ := ob1_s hf
  refine g_iald hx hb hK hB 3 0 rfl rfl (rd_s e9) dX4_readStep_7 ?_
  refine lv_iconst (v := (1 : Int32)) hx hb dX4_readStep_8 (by decide) ?_
  refine lv_isub hx hb dX4_readStep_9 ?_
  obtain ⟨r2, μ3, hc, hf⟩ := ob2_s hf
  refine g_callVi (As := [.int (0 : Int32), .int (x1 - (1 : Int32))]) (rest := []) ⟨hx, hb, hml, hown, hts⟩ (kX4_number l dC dI cyI cyO ad H.size hc) (cwV 2 hts gX4_readStep_X4_number rfl rfl rfl (by decide +kernel) ⟨Nat.le_of_ble_eq_true rfl, Nat.le_of_ble_eq_true rfl⟩) hK hB hA (g_recv (ci := 4) hK hB 0 rfl rfl rfl) rfl hl.1 rfl (Nat.le_of_ble_eq_true rfl) dX4_readStep_10 ⟨Nat.zero_le _, Nat.zero_le _⟩ (fun H locs hB => ?_)
  refine lv_istore_n (lv' := [(3, .int r2), (0, .ref (ad 0)), (1, .int i1), (2, .int i2)]) hx hb dX4_readStep_13 rfl hl (by decide) rfl (fun ls hl => ?_)
  refine lv_aload_n hx hb dX4_readStep_14 rfl (lv_at hl 1 rfl) ?_
  obtain ⟨r4, hc, hf⟩ := ob1_s hf
  refine g_callVz (As := []) (rest := []) ⟨hx, hb, hml, hown, hts⟩ (kX4_isGood l dC dI cyI cyO ad H.size hc) (cwV 0 hts gX4_readStep_X4_isGood rfl rfl rfl (by decide +kernel) ⟨Nat.le_of_ble_eq_true rfl, Nat.le_of_ble_eq_true rfl⟩) hK hB hA (g_recv (ci := 4) hK hB 0 rfl rfl rfl) rfl hl.1 rfl (Nat.le_of_ble_eq_true rfl) dX4_readStep_15 ⟨Nat.zero_le _, Nat.zero_le _⟩ (fun z5 H locs hB => ?_)
  obtain ⟨μ6, hJ7, hf⟩ := ob1_s hf
  have kJ8 : ∀ (H : Heap) (locs : List Loc) (ls : Array Slot), Bd (dC, dI) [(cyI, .int), (cyO, .array .int)] (va_A (cM cyI cyO ad μ) s.heap.size) s (cM cyI cyO ad μ6) H locs → lv_has ls 9 [(3, .int r2), (0, .ref (ad 0)), (1, .int i1), (2, .int i2)] → W p l e (headSpec wsX4_readStep rmX4_readStep).room s m ([.ref (ad 0), .int i1, .int i2] : List Value).toArray below meth c H locs 0 0 (MQ below (QvF (dC, dI) [(cyI, .int), (cyO, .array .int)] (cM cyI cyO ad μ) (cM cyI cyO ad μ_) s.heap.size) ([.ref (ad 0), .int i1, .int i2] : List Value).toArray s 0 0 (va_A (cM cyI cyO ad μ) s.heap.size)) (F0 m 42 ls []) := by
    intro H locs ls hB hl
    refine lv_aload_n hx hb dX4_readStep_42 rfl (lv_at hl 1 rfl) ?_
    refine lv_bipush (v := (42 : Int32)) hx hb dX4_readStep_43 (by decide) ?_
    obtain ⟨μ15, hc, hf⟩ := ob1_s hf
    refine g_callVv (As := [.int (42 : Int32)]) (rest := []) ⟨hx, hb, hml, hown, hts⟩ (kX4_expect l dC dI cyI cyO ad H.size hc) (cwV 1 hts gX4_readStep_X4_expect rfl rfl rfl (by decide +kernel) ⟨Nat.le_of_ble_eq_true rfl, Nat.le_of_ble_eq_true rfl⟩) hK hB hA (g_recv (ci := 4) hK hB 0 rfl rfl rfl) rfl hl.1 rfl (Nat.le_of_ble_eq_true rfl) dX4_readStep_45 ⟨Nat.zero_le _, Nat.zero_le _⟩ (fun H locs hB => ?_)
    refine lv_aload_n hx hb dX4_readStep_48 rfl (lv_at hl 1 rfl) ?_
    refine lv_iconst (v := (1 : Int32)) hx hb dX4_readStep_49 (by decide) ?_
    refine lv_sipush (v := (999 : Int32)) hx hb dX4_readStep_50 (by decide) ?_
    obtain ⟨r16, μ17, hc, hf⟩ := ob2_s hf
    refine g_callVi (As := [.int (1 : Int32), .int (999 : Int32)]) (rest := []) ⟨hx, hb, hml, hown, hts⟩ (kX4_number l dC dI cyI cyO ad H.size hc) (cwV 2 hts gX4_readStep_X4_number rfl rfl rfl (by decide +kernel) ⟨Nat.le_of_ble_eq_true rfl, Nat.le_of_ble_eq_true rfl⟩) hK hB hA (g_recv (ci := 4) hK hB 0 rfl rfl rfl) rfl hl.1 rfl (Nat.le_of_ble_eq_true rfl) dX4_readStep_53 ⟨Nat.zero_le _, Nat.zero_le _⟩ (fun H locs hB => ?_)
    refine lv_istore (lv' := [(4, .int r16), (3, .int r2), (0, .ref (ad 0)), (1, .int i1), (2, .int i2)]) hx hb dX4_readStep_56 hl (by decide) rfl (fun ls hl => ?_)
    refine lv_aload_n hx hb dX4_readStep_58 rfl (lv_at hl 2 rfl) ?_
    refine lv_bipush (v := (58 : Int32)) hx hb dX4_readStep_59 (by decide) ?_
    obtain ⟨μ18, hc, hf⟩ := ob1_s hf
    refine g_callVv (As := [.int (58 : Int32)]) (rest := []) ⟨hx, hb, hml, hown, hts⟩ (kX4_expect l dC dI cyI cyO ad H.size hc) (cwV 1 hts gX4_readStep_X4_expect rfl rfl rfl (by decide +kernel) ⟨Nat.le_of_ble_eq_true rfl, Nat.le_of_ble_eq_true rfl⟩) hK hB hA (g_recv (ci := 4) hK hB 0 rfl rfl rfl) rfl hl.1 rfl (Nat.le_of_ble_eq_true rfl) dX4_readStep_61 ⟨Nat.zero_le _, Nat.zero_le _⟩ (fun H locs hB => ?_)
    refine lv_aload_n hx hb dX4_readStep_64 rfl (lv_at hl 2 rfl) ?_
    refine lv_iconst (v := (1 : Int32)) hx hb dX4_readStep_65 (by decide) ?_
    refine lv_bipush (v := (99 : Int32)) hx hb dX4_readStep_66 (by decide) ?_
    obtain ⟨r19, μ20, hc, hf⟩ := ob2_s hf
    refine g_callVi (As := [.int (1 : Int32), .int (99 : Int32)]) (rest := []) ⟨hx, hb, hml, hown, hts⟩ (kX4_number l dC dI cyI cyO ad H.size hc) (cwV 2 hts gX4_readStep_X4_number rfl rfl rfl (by decide +kernel) ⟨Nat.le_of_ble_eq_true rfl, Nat.le_of_ble_eq_true rfl⟩) hK hB hA (g_recv (ci := 4) hK hB 0 rfl rfl rfl) rfl hl.1 rfl (Nat.le_of_ble_eq_true rfl) dX4_readStep_68 ⟨Nat.zero_le _, Nat.zero_le _⟩ (fun H locs hB => ?_)
    refine lv_istore (lv' := [(5, .int r19), (4, .int r16), (3, .int r2), (0, .ref (ad 0)), (1, .int i1), (2, .int i2)]) hx hb dX4_readStep_71 hl (by decide) rfl (fun ls hl => ?_)
    refine lv_aload_n hx hb dX4_readStep_73 rfl (lv_at hl 3 rfl) ?_
    refine g_ldcS hx hb hown hJ 9 rfl dX4_readStep_74 ?_
    obtain ⟨r21, μ22, hc, hf⟩ := ob2_s hf
    refine g_jcallVz (As := [.ref (kS 16)]) (rest := []) ⟨hx, hb, hml, hown, hts⟩ hJ (kX4_takeWord l dC dI cyI cyO ad kS H.size (by decide) hc) (cwV 1 hts gX4_readStep_X4_takeWord rfl rfl rfl (by decide +kernel) ⟨Nat.le_of_ble_eq_true rfl, Nat.le_of_ble_eq_true rfl⟩) hK hB hA (g_recv (ci := 4) hK hB 0 rfl rfl rfl) rfl hl.1 rfl (Nat.le_of_ble_eq_true rfl) dX4_readStep_76 ⟨Nat.zero_le _, Nat.zero_le _⟩ (fun z23 H locs hB => ?_)
    obtain ⟨v24, μ25, hJ26, hf⟩ := ob2_s hf
    have kJ27 : ∀ (H : Heap) (locs : List Loc) (ls : Array Slot), Bd (dC, dI) [(cyI, .int), (cyO, .array .int)] (va_A (cM cyI cyO ad μ) s.heap.size) s (cM cyI cyO ad μ25) H locs → lv_has ls 9 [(5, .int r19), (4, .int r16), (3, .int r2), (0, .ref (ad 0)), (1, .int i1), (2, .int i2)] → W p l e (headSpec wsX4_readStep rmX4_readStep).room s m ([.ref (ad 0), .int i1, .int i2] : List Value).toArray below meth c H locs 0 0 (MQ below (QvF (dC, dI) [(cyI, .int), (cyO, .array .int)] (cM cyI cyO ad μ) (cM cyI cyO ad μ_) s.heap.size) ([.ref (ad 0), .int i1, .int i2] : List Value).toArray s 0 0 (va_A (cM cyI cyO ad μ) s.heap.size)) (F0 m 93 ls [.int v24]) := by
      intro H locs ls hB hl
      refine lv_istore (lv' := [(6, .int v24), (5, .int r19), (4, .int r16), (3, .int r2), (0, .ref (ad 0)), (1, .int i1), (2, .int i2)]) hx hb dX4_readStep_93 hl (by decide) rfl (fun ls hl => ?_)
      refine lv_aload_n hx hb dX4_readStep_95 rfl (lv_at hl 4 rfl) ?_
      refine g_ldcS hx hb hown hJ 10 rfl dX4_readStep_96 ?_
      obtain ⟨r31, μ32, hc, hf⟩ := ob2_s hf
      refine g_jcallVz (As := [.ref (kS 17)]) (rest := []) ⟨hx, hb, hml, hown, hts⟩ hJ (kX4_takeWord l dC dI cyI cyO ad kS H.size (by decide) hc) (cwV 1 hts gX4_readStep_X4_takeWord rfl rfl rfl (by decide +kernel) ⟨Nat.le_of_ble_eq_true rfl, Nat.le_of_ble_eq_true rfl⟩) hK hB hA (g_recv (ci := 4) hK hB 0 rfl rfl rfl) rfl hl.1 rfl (Nat.le_of_ble_eq_true rfl) dX4_readStep_98 ⟨Nat.zero_le _, Nat.zero_le _⟩ (fun z33 H locs hB => ?_)
      obtain ⟨v34, μ35, hJ36, hf⟩ := ob2_s hf
      have kJ37 : ∀ (H : Heap) (locs : List Loc) (ls : Array Slot), Bd (dC, dI) [(cyI, .int), (cyO, .array .int)] (va_A (cM cyI cyO ad μ) s.heap.size) s (cM cyI cyO ad μ35) H locs → lv_has ls 9 [(6, .int v24), (5, .int r19), (4, .int r16), (3, .int r2), (0, .ref (ad 0)), (1, .int i1), (2, .int i2)] → W p l e (headSpec wsX4_readStep rmX4_readStep).room s m ([.ref (ad 0), .int i1, .int i2] : List Value).toArray below meth c H locs 0 0 (MQ below (QvF (dC, dI) [(cyI, .int), (cyO, .array .int)] (cM cyI cyO ad μ) (cM cyI cyO ad μ_) s.heap.size) ([.ref (ad 0), .int i1, .int i2] : List Value).toArray s 0 0 (va_A (cM cyI cyO ad μ) s.heap.size)) (F0 m 115 ls [.int v34]) := by
        intro H locs ls hB hl
        refine lv_istore (lv' := [(7, .int v34), (6, .int v24), (5, .int r19), (4, .int r16), (3, .int r2), (0, .ref (ad 0)), (1, .int i1), (2, .int i2)]) hx hb dX4_readStep_115 hl (by decide) rfl (fun ls hl => ?_)
        refine lv_aload_n hx hb dX4_readStep_117 rfl (lv_at hl 5 rfl) ?_
        obtain ⟨r41, hc, hf⟩ := ob1_s hf
        refine g_callVz (As := []) (rest := []) ⟨hx, hb, hml, hown, hts⟩ (kX4_isGood l dC dI cyI cyO ad H.size hc) (cwV 0 hts gX4_readStep_X4_isGood rfl rfl rfl (by decide +kernel) ⟨Nat.le_of_ble_eq_true rfl, Nat.le_of_ble_eq_true rfl⟩) hK hB hA (g_recv (ci := 4) hK hB 0 rfl rfl rfl) rfl hl.1 rfl (Nat.le_of_ble_eq_true rfl) dX4_readStep_118 ⟨Nat.zero_le _, Nat.zero_le _⟩ (fun z42 H locs hB => ?_)
        refine lv_if_ne (tgt := 125) hx hb dX4_readStep_121 (by decide) (fun c43 => ?_) (fun c43 => ?_)
        · have hf := ite_f c43 hf
          refine lv_bipush (v := (91 : Int32)) hx hb dX4_readStep_125 (by decide) ?_
          refine lv_bipush (v := (9 : Int32)) hx hb dX4_readStep_127 (by decide) ?_
          refine lv_aload_n hx hb dX4_readStep_129 rfl (lv_at hl 5 rfl) ?_
          refine g_get (C := RX4) (T := TX4) (N := 15) hx hb hts hinX4 hown hK hB 0 rfl rfl 9 rfl hq1 rfl rfl dX4_readStep_130 ?_
          refine lv_iconst (v := (3 : Int32)) hx hb dX4_readStep_133 (by decide) ?_
          obtain ⟨x44, e9, hf⟩ := ob1_s hf
          refine g_iald hx hb hK hB 3 0 rfl rfl (rd_s e9) dX4_readStep_134 ?_
          refine lv_imul hx hb dX4_readStep_135 ?_
          refine lv_iadd hx hb dX4_readStep_136 ?_
          refine lv_istore (lv' := [(8, .int ((91 : Int32) + ((9 : Int32) * x44))), (7, .int v34), (6, .int v24), (5, .int r19), (4, .int r16), (3, .int r2), (0, .ref (ad 0)), (1, .int i1), (2, .int i2)]) hx hb dX4_readStep_137 hl (by decide) rfl (fun ls hl => ?_)
          refine lv_aload_n hx hb dX4_readStep_139 rfl (lv_at hl 6 rfl) ?_
          refine g_get (C := RX4) (T := TX4) (N := 15) hx hb hts hinX4 hown hK hB 0 rfl rfl 9 rfl hq1 rfl rfl dX4_readStep_140 ?_
          refine lv_iload hx hb dX4_readStep_143 (lv_at hl 0 rfl) ?_
          refine lv_iconst (v := (0 : Int32)) hx hb dX4_readStep_145 (by decide) ?_
          refine lv_iadd hx hb dX4_readStep_146 ?_
          refine lv_iload_n hx hb dX4_readStep_147 rfl (lv_at hl 8 rfl) ?_
          obtain ⟨μ45, e9, hf⟩ := ob1_s hf
          obtain ⟨hi, e9⟩ := wra_s e9
          refine g_iast hx hb hK hB 3 0 rfl rfl hi rfl dX4_readStep_148 (w2 := (cM cyI cyO ad μ45)) (by rw [← e9]; rfl) (fun H locs hB => ?_)
          refine lv_aload_n hx hb dX4_readStep_149 rfl (lv_at hl 6 rfl) ?_
          refine g_get (C := RX4) (T := TX4) (N := 15) hx hb hts hinX4 hown hK hB 0 rfl rfl 9 rfl hq1 rfl rfl dX4_readStep_150 ?_
          refine lv_iload hx hb dX4_readStep_153 (lv_at hl 0 rfl) ?_
          refine lv_iconst (v := (1 : Int32)) hx hb dX4_readStep_155 (by decide) ?_
          refine lv_iadd hx hb dX4_readStep_156 ?_
          refine lv_iload_n hx hb dX4_readStep_157 rfl (lv_at hl 5 rfl) ?_
          obtain ⟨μ46, e9, hf⟩ := ob1_s hf
          obtain ⟨hi, e9⟩ := wra_s e9
          refine g_iast hx hb hK hB 3 0 rfl rfl hi rfl dX4_readStep_158 (w2 := (cM cyI cyO ad μ46)) (by rw [← e9]; rfl) (fun H locs hB => ?_)
          refine lv_aload_n hx hb dX4_readStep_159 rfl (lv_at hl 6 rfl) ?_
          refine g_get (C := RX4) (T := TX4) (N := 15) hx hb hts hinX4 hown hK hB 0 rfl rfl 9 rfl hq1 rfl rfl dX4_readStep_160 ?_
          refine lv_iload hx hb dX4_readStep_163 (lv_at hl 0 rfl) ?_
          refine lv_iconst (v := (2 : Int32)) hx hb dX4_readStep_165 (by decide) ?_
          refine lv_iadd hx hb dX4_readStep_166 ?_
          refine lv_iload hx hb dX4_readStep_167 (lv_at hl 4 rfl) ?_
          obtain ⟨μ47, e9, hf⟩ := ob1_s hf
          obtain ⟨hi, e9⟩ := wra_s e9
          refine g_iast hx hb hK hB 3 0 rfl rfl hi rfl dX4_readStep_169 (w2 := (cM cyI cyO ad μ47)) (by rw [← e9]; rfl) (fun H locs hB => ?_)
          refine lv_aload_n hx hb dX4_readStep_170 rfl (lv_at hl 6 rfl) ?_
          refine g_get (C := RX4) (T := TX4) (N := 15) hx hb hts hinX4 hown hK hB 0 rfl rfl 9 rfl hq1 rfl rfl dX4_readStep_171 ?_
          refine lv_iload hx hb dX4_readStep_174 (lv_at hl 0 rfl) ?_
          refine lv_iconst (v := (3 : Int32)) hx hb dX4_readStep_176 (by decide) ?_
          refine lv_iadd hx hb dX4_readStep_177 ?_
          refine lv_iload hx hb dX4_readStep_178 (lv_at hl 3 rfl) ?_
          obtain ⟨μ48, e9, hf⟩ := ob1_s hf
          obtain ⟨hi, e9⟩ := wra_s e9
          refine g_iast hx hb hK hB 3 0 rfl rfl hi rfl dX4_readStep_180 (w2 := (cM cyI cyO ad μ48)) (by rw [← e9]; rfl) (fun H locs hB => ?_)
          refine lv_aload_n hx hb dX4_readStep_181 rfl (lv_at hl 6 rfl) ?_
          refine g_get (C := RX4) (T := TX4) (N := 15) hx hb hts hinX4 hown hK hB 0 rfl rfl 9 rfl hq1 rfl rfl dX4_readStep_182 ?_
          refine lv_iload hx hb dX4_readStep_185 (lv_at hl 0 rfl) ?_
          refine lv_iconst (v := (4 : Int32)) hx hb dX4_readStep_187 (by decide) ?_
          refine lv_iadd hx hb dX4_readStep_188 ?_
          refine lv_iconst (v := (0 : Int32)) hx hb dX4_readStep_189 (by decide) ?_
          obtain ⟨μ49, e9, hf⟩ := ob1_s hf
          obtain ⟨hi, e9⟩ := wra_s e9
          refine g_iast hx hb hK hB 3 0 rfl rfl hi rfl dX4_readStep_190 (w2 := (cM cyI cyO ad μ49)) (by rw [← e9]; rfl) (fun H locs hB => ?_)
          refine lv_aload_n hx hb dX4_readStep_191 rfl (lv_at hl 6 rfl) ?_
          refine g_get (C := RX4) (T := TX4) (N := 15) hx hb hts hinX4 hown hK hB 0 rfl rfl 9 rfl hq1 rfl rfl dX4_readStep_192 ?_
          refine lv_iload hx hb dX4_readStep_195 (lv_at hl 0 rfl) ?_
          refine lv_iconst (v := (5 : Int32)) hx hb dX4_readStep_197 (by decide) ?_
          refine lv_iadd hx hb dX4_readStep_198 ?_
          refine lv_iload hx hb dX4_readStep_199 (lv_at hl 2 rfl) ?_
          obtain ⟨μ50, e9, hf⟩ := ob1_s hf
          obtain ⟨hi, e9⟩ := wra_s e9
          refine g_iast hx hb hK hB 3 0 rfl rfl hi rfl dX4_readStep_201 (w2 := (cM cyI cyO ad μ50)) (by rw [← e9]; rfl) (fun H locs hB => ?_)
          refine lv_aload_n hx hb dX4_readStep_202 rfl (lv_at hl 6 rfl) ?_
          refine g_get (C := RX4) (T := TX4) (N := 15) hx hb hts hinX4 hown hK hB 0 rfl rfl 9 rfl hq1 rfl rfl dX4_readStep_203 ?_
          refine lv_iload hx hb dX4_readStep_206 (lv_at hl 0 rfl) ?_
          refine lv_bipush (v := (6 : Int32)) hx hb dX4_readStep_208 (by decide) ?_
          refine lv_iadd hx hb dX4_readStep_210 ?_
          refine lv_iload hx hb dX4_readStep_211 (lv_at hl 1 rfl) ?_
          obtain ⟨μ51, e9, hf⟩ := ob1_s hf
          obtain ⟨hi, e9⟩ := wra_s e9
          refine g_iast hx hb hK hB 3 0 rfl rfl hi rfl dX4_readStep_213 (w2 := (cM cyI cyO ad μ51)) (by rw [← e9]; rfl) (fun H locs hB => ?_)
          refine lv_aload_n hx hb dX4_readStep_214 rfl (lv_at hl 6 rfl) ?_
          refine g_get (C := RX4) (T := TX4) (N := 15) hx hb hts hinX4 hown hK hB 0 rfl rfl 9 rfl hq1 rfl rfl dX4_readStep_215 ?_
          refine lv_iload hx hb dX4_readStep_218 (lv_at hl 0 rfl) ?_
          refine lv_bipush (v := (7 : Int32)) hx hb dX4_readStep_220 (by decide) ?_
          refine lv_iadd hx hb dX4_readStep_222 ?_
          refine lv_iload hx hb dX4_readStep_223 (lv_at hl 1 rfl) ?_
          obtain ⟨μ52, e9, hf⟩ := ob1_s hf
          obtain ⟨hi, e9⟩ := wra_s e9
          refine g_iast hx hb hK hB 3 0 rfl rfl hi rfl dX4_readStep_225 (w2 := (cM cyI cyO ad μ52)) (by rw [← e9]; rfl) (fun H locs hB => ?_)
          refine lv_aload_n hx hb dX4_readStep_226 rfl (lv_at hl 6 rfl) ?_
          refine g_get (C := RX4) (T := TX4) (N := 15) hx hb hts hinX4 hown hK hB 0 rfl rfl 9 rfl hq1 rfl rfl dX4_readStep_227 ?_
          refine lv_iload hx hb dX4_readStep_230 (lv_at hl 0 rfl) ?_
          refine lv_bipush (v := (8 : Int32)) hx hb dX4_readStep_232 (by decide) ?_
          refine lv_iadd hx hb dX4_readStep_234 ?_
          refine lv_iconst (v := (0 : Int32)) hx hb dX4_readStep_235 (by decide) ?_
          obtain ⟨μ53, e9, hf⟩ := ob1_s hf
          obtain ⟨hi, e9⟩ := wra_s e9
          refine g_iast hx hb hK hB 3 0 rfl rfl hi rfl dX4_readStep_236 (w2 := (cM cyI cyO ad μ53)) (by rw [← e9]; rfl) (fun H locs hB => ?_)
          refine lv_aload_n hx hb dX4_readStep_237 rfl (lv_at hl 6 rfl) ?_
          refine g_get (C := RX4) (T := TX4) (N := 15) hx hb hts hinX4 hown hK hB 0 rfl rfl 9 rfl hq1 rfl rfl dX4_readStep_238 ?_
          refine lv_iconst (v := (3 : Int32)) hx hb dX4_readStep_241 (by decide) ?_
          refine lv_dup2_11 hx hb dX4_readStep_242 rfl rfl ?_
          obtain ⟨x54, e9, hf⟩ := ob1_s hf
          refine g_iald hx hb hK hB 3 0 rfl rfl (rd_s e9) dX4_readStep_243 ?_
          refine lv_iconst (v := (1 : Int32)) hx hb dX4_readStep_244 (by decide) ?_
          refine lv_iadd hx hb dX4_readStep_245 ?_
          obtain ⟨μ55, e9, hf⟩ := ob1_s hf
          obtain ⟨hi, e9⟩ := wra_s e9
          refine g_iast hx hb hK hB 3 0 rfl rfl hi rfl dX4_readStep_246 (w2 := (cM cyI cyO ad μ55)) (by rw [← e9]; rfl) (fun H locs hB => ?_)
          refine lv_aload_n hx hb dX4_readStep_247 rfl (lv_at hl 6 rfl) ?_
          refine g_get (C := RX4) (T := TX4) (N := 15) hx hb hts hinX4 hown hK hB 0 rfl rfl 9 rfl hq1 rfl rfl dX4_readStep_248 ?_
          refine lv_bipush (v := (19 : Int32)) hx hb dX4_readStep_251 (by decide) ?_
          refine lv_bipush (v := (9 : Int32)) hx hb dX4_readStep_253 (by decide) ?_
          refine lv_iload_n hx hb dX4_readStep_255 rfl (lv_at hl 7 rfl) ?_
          refine lv_imul hx hb dX4_readStep_256 ?_
          refine lv_iadd hx hb dX4_readStep_257 ?_
          refine lv_iconst (v := (3 : Int32)) hx hb dX4_readStep_258 (by decide) ?_
          refine lv_iadd hx hb dX4_readStep_259 ?_
          refine lv_dup2_11 hx hb dX4_readStep_260 rfl rfl ?_
          obtain ⟨x56, e9, hf⟩ := ob1_s hf
          refine g_iald hx hb hK hB 3 0 rfl rfl (rd_s e9) dX4_readStep_261 ?_
          refine lv_iconst (v := (1 : Int32)) hx hb dX4_readStep_262 (by decide) ?_
          refine lv_iadd hx hb dX4_readStep_263 ?_
          obtain ⟨μ57, e9, hf⟩ := ob1_s hf
          obtain ⟨hi, e9⟩ := wra_s e9
          refine g_iast hx hb hK hB 3 0 rfl rfl hi rfl dX4_readStep_264 (w2 := (cM cyI cyO ad μ57)) (by rw [← e9]; rfl) (fun H locs hB => ?_)
          have e0 := inj1 hf
          subst e0
          exact g_vret hx hb hr hlocks hK hB dX4_readStep_265
        · have hf := ite_t c43 hf
          have e0 := inj1 hf
          subst e0
          exact g_vret hx hb hr hlocks hK hB dX4_readStep_124
      refine lv_if_eq (tgt := 114) hx hb dX4_readStep_101 (by decide) (fun c38 => ?_) (fun c38 => ?_)
      · have hJ36 := ite_t c38 hJ36
        refine lv_iconst (v := (0 : Int32)) hx hb dX4_readStep_114 (by decide) ?_
        obtain ⟨e0, e1⟩ := inj2 hJ36
        subst e0
        subst e1
        exact kJ37 _ _ _ hB (lv_sub hl [0, 1, 2, 3, 4, 5, 6] rfl)
      · have hJ36 := ite_f c38 hJ36
        refine lv_aload_n hx hb dX4_readStep_104 rfl (lv_at hl 4 rfl) ?_
        refine lv_iconst (v := (0 : Int32)) hx hb dX4_readStep_105 (by decide) ?_
        refine lv_bipush (v := (9 : Int32)) hx hb dX4_readStep_106 (by decide) ?_
        obtain ⟨r39, μ40, hc, hJ36⟩ := ob2_s hJ36
        refine g_callVi (As := [.int (0 : Int32), .int (9 : Int32)]) (rest := []) ⟨hx, hb, hml, hown, hts⟩ (kX4_number l dC dI cyI cyO ad H.size hc) (cwV 2 hts gX4_readStep_X4_number rfl rfl rfl (by decide +kernel) ⟨Nat.le_of_ble_eq_true rfl, Nat.le_of_ble_eq_true rfl⟩) hK hB hA (g_recv (ci := 4) hK hB 0 rfl rfl rfl) rfl hl.1 rfl (Nat.le_of_ble_eq_true rfl) dX4_readStep_108 ⟨Nat.zero_le _, Nat.zero_le _⟩ (fun H locs hB => ?_)
        refine lv_goto (tgt := 115) hx hb dX4_readStep_111 (by decide) ?_
        obtain ⟨e0, e1⟩ := inj2 hJ36
        subst e0
        subst e1
        exact kJ37 _ _ _ hB (lv_sub hl [0, 1, 2, 3, 4, 5, 6] rfl)
    refine lv_if_eq (tgt := 92) hx hb dX4_readStep_79 (by decide) (fun c28 => ?_) (fun c28 => ?_)
    · have hJ26 := ite_t c28 hJ26
      refine lv_iconst (v := (0 : Int32)) hx hb dX4_readStep_92 (by decide) ?_
      obtain ⟨e0, e1⟩ := inj2 hJ26
      subst e0
      subst e1
      exact kJ27 _ _ _ hB (lv_sub hl [0, 1, 2, 3, 4, 5] rfl)
    · have hJ26 := ite_f c28 hJ26
      refine lv_aload_n hx hb dX4_readStep_82 rfl (lv_at hl 3 rfl) ?_
      refine lv_iconst (v := (0 : Int32)) hx hb dX4_readStep_83 (by decide) ?_
      refine lv_bipush (v := (9 : Int32)) hx hb dX4_readStep_84 (by decide) ?_
      obtain ⟨r29, μ30, hc, hJ26⟩ := ob2_s hJ26
      refine g_callVi (As := [.int (0 : Int32), .int (9 : Int32)]) (rest := []) ⟨hx, hb, hml, hown, hts⟩ (kX4_number l dC dI cyI cyO ad H.size hc) (cwV 2 hts gX4_readStep_X4_number rfl rfl rfl (by decide +kernel) ⟨Nat.le_of_ble_eq_true rfl, Nat.le_of_ble_eq_true rfl⟩) hK hB hA (g_recv (ci := 4) hK hB 0 rfl rfl rfl) rfl hl.1 rfl (Nat.le_of_ble_eq_true rfl) dX4_readStep_86 ⟨Nat.zero_le _, Nat.zero_le _⟩ (fun H locs hB => ?_)
      refine lv_goto (tgt := 93) hx hb dX4_readStep_89 (by decide) ?_
      obtain ⟨e0, e1⟩ := inj2 hJ26
      subst e0
      subst e1
      exact kJ27 _ _ _ hB (lv_sub hl [0, 1, 2, 3, 4, 5] rfl)
  obtain ⟨t9, hD10, hJ7⟩ := ob1_s hJ7
  have kTt9 : t9 = true → ∀ (H : Heap) (locs : List Loc), Bd (dC, dI) [(cyI, .int), (cyO, .array .int)] (va_A (cM cyI cyO ad μ) s.heap.size) s (cM cyI cyO ad μ3) H locs → W p l e (headSpec wsX4_readStep rmX4_readStep).room s m ([.ref (ad 0), .int i1, .int i2] : List Value).toArray below meth c H locs 0 0 (MQ below (QvF (dC, dI) [(cyI, .int), (cyO, .array .int)] (cM cyI cyO ad μ) (cM cyI cyO ad μ_) s.heap.size) ([.ref (ad 0), .int i1, .int i2] : List Value).toArray s 0 0 (va_A (cM cyI cyO ad μ) s.heap.size)) (F0 m 32 ls []) := by
    intro ht H locs hB
    have hJ7 := cnd_t ht hJ7
    refine lv_aload_n hx hb dX4_readStep_32 rfl (lv_at hl 1 rfl) ?_
    refine lv_bipush (v := (-4 : Int32)) hx hb dX4_readStep_33 (by decide) ?_
    refine lv_aload_n hx hb dX4_readStep_35 rfl (lv_at hl 1 rfl) ?_
    refine g_get (C := RX4) (T := TX4) (N := 15) hx hb hts hinX4 hown hK hB 0 rfl rfl 13 rfl hq2 rfl rfl dX4_readStep_36 ?_
    obtain ⟨μ14, hc, hJ7⟩ := ob1_s hJ7
    refine g_callVv (As := [.int (-4 : Int32), .int (μ3 13 0)]) (rest := []) ⟨hx, hb, hml, hown, hts⟩ (kX4_report l dC dI cyI cyO ad H.size hc) (cwV 2 hts gX4_readStep_X4_report rfl rfl rfl (by decide +kernel) ⟨Nat.le_of_ble_eq_true rfl, Nat.le_of_ble_eq_true rfl⟩) hK hB hA (g_recv (ci := 4) hK hB 0 rfl rfl rfl) rfl hl.1 rfl (Nat.le_of_ble_eq_true rfl) dX4_readStep_39 ⟨Nat.zero_le _, Nat.zero_le _⟩ (fun H locs hB => ?_)
    have e0 := inj1 hJ7
    subst e0
    exact kJ8 _ _ _ hB (lv_sub hl [0, 1, 2, 3] rfl)
  have kFt9 : t9 = false → ∀ (H : Heap) (locs : List Loc), Bd (dC, dI) [(cyI, .int), (cyO, .array .int)] (va_A (cM cyI cyO ad μ) s.heap.size) s (cM cyI cyO ad μ3) H locs → W p l e (headSpec wsX4_readStep rmX4_readStep).room s m ([.ref (ad 0), .int i1, .int i2] : List Value).toArray below meth c H locs 0 0 (MQ below (QvF (dC, dI) [(cyI, .int), (cyO, .array .int)] (cM cyI cyO ad μ) (cM cyI cyO ad μ_) s.heap.size) ([.ref (ad 0), .int i1, .int i2] : List Value).toArray s 0 0 (va_A (cM cyI cyO ad μ) s.heap.size)) (F0 m 42 ls []) := by
    intro ht H locs hB
    have hJ7 := cnd_f ht hJ7
    have e0 := inj1 hJ7
    subst e0
    exact kJ8 _ _ _ hB (lv_sub hl [0, 1, 2, 3] rfl)
  refine lv_if_eq (tgt := 42) hx hb dX4_readStep_18 (by decide) (fun c11 => ?_) (fun c11 => ?_)
  · have hD10 := ite_t c11 hD10
    have e0 := inj1 hD10
    exact kFt9 e0.symm _ _ hB
  · have hD10 := ite_f c11 hD10
    refine lv_aload_n hx hb dX4_readStep_21 rfl (lv_at hl 1 rfl) ?_
    refine g_get (C := RX4) (T := TX4) (N := 15) hx hb hts hinX4 hown hK hB 0 rfl rfl 9 rfl hq1 rfl rfl dX4_readStep_22 ?_
    refine lv_iconst (v := (3 : Int32)) hx hb dX4_readStep_25 (by decide) ?_
    obtain ⟨x12, e9, hD10⟩ := ob1_s hD10
    refine g_iald hx hb hK hB 3 0 rfl rfl (rd_s e9) dX4_readStep_26 ?_
    refine lv_bipush (v := (40 : Int32)) hx hb dX4_readStep_27 (by decide) ?_
    refine lv_icmp_ne (tgt := 42) hx hb dX4_readStep_29 (by decide) (fun c13 => ?_) (fun c13 => ?_)
    · have hD10 := ite_f c13 hD10
      have e0 := inj1 hD10
      exact kFt9 e0.symm _ _ hB
    · have hD10 := ite_t c13 hD10
      have e0 := inj1 hD10
      exact kTt9 e0.symm _ _ hB

abbrev rmX4_readStage : Room := { frames := 6, cells := 0, slots := 0, locals := 135 }

set_option maxHeartbeats 4000000 in
set_option maxRecDepth 100000 in
theorem kX4_readStage (l : Launch) (dC : Nat → ClassId) (dI : Nat → Nat → Nat) (cyI cyO : ClassId) (ad : Nat → Nat) (kS : Nat → Nat) (sz : Nat) {fu : Nat} {μ : MS} {i1 : Int32} {i2 : Int32} {μ_ : MS} (hf : mX4_readStage fu μ i1 i2 = some μ_) : Met l yX4_readStage wsX4_readStage rmX4_readStage (PcJ (dC, dI) [(cyI, .int), (cyO, .array .int)] kS (cM cyI cyO ad μ) sz [.ref (ad 0), .int i1, .int i2]) (QvF (dC, dI) [(cyI, .int), (cyO, .array .int)] (cM cyI cyO ad μ) (cM cyI cyO ad μ_) sz) 0 0 (va_A (cM cyI cyO ad μ) sz) := by
  refine Met.ofW (cc := cX4_readStage) (maxL := 5) (ret := none) (by decide) rfl ?_
  intro p e s m args below meth c s₁ B hml hv
  obtain ⟨rfl, ⟨hsz, hP, hK, hD0⟩, hJ⟩ := hv
  have hx := B.exec
  have hb := B.bytes
  have hr := B.returns
  have hts := atoms_spec (ws := wsX4_readStage) B.pre
  have hown : s.vm.findClass RX4 = some m.cls := findClass_of_methodNamed B.named
  have hlocks := B.notSynchronized
  subst hsz
  have hA : ∀ q : Nat, s.heap.size ≤ q → va_A (cM cyI cyO ad μ) s.heap.size q := fun q h => Or.inr h
  have hB : Bd (dC, dI) [(cyI, .int), (cyO, .array .int)] (va_A (cM cyI cyO ad μ) s.heap.size) s (cM cyI cyO ad μ) s.heap [] := ⟨hP, hD0.self, va_S.rf⟩
  have hq1 : (Cond.fieldLink RX4 44 "UndoJourneysModel" "position" "I").before _ s = true := hts _ (List.mem_of_getElem? (i := 1) rfl)
  have hinX4 : ∀ w ∈ wsX40, w ∈ wsX4_readStage := fun w h => List.mem_cons_of_mem _ (List.mem_append_right _ h)
  have hl := lv_entry [.ref (ad 0), .int i1, .int i2] (n := 5) (Nat.le_of_ble_eq_true rfl)
  rw [lg_entry_eq]
  generalize (lg_sl [.ref (ad 0), .int i1, .int i2] ++ List.replicate (5 - (lg_sl [.ref (ad 0), .int i1, .int i2]).length) Slot.unset).toArray = ls at hl ⊢
  have hl : lv_has ls 5 [(0, .ref (ad 0)), (1, .int i1), (2, .int i2)] := hl
  clear hP hD0
  suffices main : ∀ (H : Heap) (locs : List Loc), Bd (dC, dI) [(cyI, .int), (cyO, .array .int)] (va_A (cM cyI cyO ad μ) s.heap.size) s (cM cyI cyO ad μ) H locs → W p l e (headSpec wsX4_readStage rmX4_readStage).room s m ([.ref (ad 0), .int i1, .int i2] : List Value).toArray below meth c H locs 0 0 (MQ below (QvF (dC, dI) [(cyI, .int), (cyO, .array .int)] (cM cyI cyO ad μ) (cM cyI cyO ad μ_) s.heap.size) ([.ref (ad 0), .int i1, .int i2] : List Value).toArray s 0 0 (va_A (cM cyI cyO ad μ) s.heap.size)) (F0 m 0 ls []) from main _ _ hB
  clear hB
  intro H locs hB
  unfold mX4_readStage at hf
  refine lv_aload_n hx hb dX4_readStage_0 rfl (lv_at hl 0 rfl) ?_
  refine lv_iload_n hx hb dX4_readStage_1 rfl (lv_at hl 1 rfl) ?_
  refine lv_iload_n hx hb dX4_readStage_2 rfl (lv_at hl 2 rfl) ?_
  obtain ⟨μ1, hc, hf⟩ := ob1_s hf
  refine g_jcallVv (As := [.int i1, .int i2]) (rest := []) ⟨hx, hb, hml, hown, hts⟩ hJ (kX4_readStep l dC dI cyI cyO ad kS H.size hc) (cwV 2 hts gX4_readStage_X4_readStep rfl rfl rfl (by decide +kernel) ⟨Nat.le_of_ble_eq_true rfl, Nat.le_of_ble_eq_true rfl⟩) hK hB hA (g_recv (ci := 4) hK hB 0 rfl rfl rfl) rfl hl.1 rfl (Nat.le_of_ble_eq_true rfl) dX4_readStage_3 ⟨Nat.zero_le _, Nat.zero_le _⟩ (fun H locs hB => ?_)
  refine lv_iconst (v := (1 : Int32)) hx hb dX4_readStage_6 (by decide) ?_
  refine lv_istore_n (lv' := [(3, .int (1 : Int32)), (0, .ref (ad 0)), (1, .int i1), (2, .int i2)]) hx hb dX4_readStage_7 rfl hl (by decide) rfl (fun ls hl => ?_)
  obtain ⟨b26, hL24, hf⟩ := ob1_s hf
  have kE22 : ∀ (μ21 : MS) (H : Heap) (locs : List Loc) (ls : Array Slot), Sum.inr μ21 = b26 → Bd (dC, dI) [(cyI, .int), (cyO, .array .int)] (va_A (cM cyI cyO ad μ) s.heap.size) s (cM cyI cyO ad μ21) H locs → lv_has ls 5 [] → W p l e (headSpec wsX4_readStage rmX4_readStage).room s m ([.ref (ad 0), .int i1, .int i2] : List Value).toArray below meth c H locs 0 0 (MQ below (QvF (dC, dI) [(cyI, .int), (cyO, .array .int)] (cM cyI cyO ad μ) (cM cyI cyO ad μ_) s.heap.size) ([.ref (ad 0), .int i1, .int i2] : List Value).toArray s 0 0 (va_A (cM cyI cyO ad μ) s.heap.size)) (F0 m 61 ls []) := by
    intro μ21 H locs ls hb9 hB hl
    have hf := el1_r hb9 hf
    have e0 := inj1 hf
    subst e0
    exact g_vret hx hb hr hlocks hK hB dX4_readStage_61
  have key23 : ∀ (n9 : Nat) (v27 : Int32) (μ28 : MS) (H : Heap) (locs : List Loc) (ls : Array Slot), loopM (fun st => mX4_readStage_L8 fu i1 i2 st.1 st.2) n9 (v27, μ28) = some b26 → Bd (dC, dI) [(cyI, .int), (cyO, .array .int)] (va_A (cM cyI cyO ad μ) s.heap.size) s (cM cyI cyO ad μ28) H locs → lv_has ls 5 [(3, .int v27), (0, .ref (ad 0)), (1, .int i1), (2, .int i2)] → W p l e (headSpec wsX4_readStage rmX4_readStage).room s m ([.ref (ad 0), .int i1, .int i2] : List Value).toArray below meth c H locs 0 0 (MQ below (QvF (dC, dI) [(cyI, .int), (cyO, .array .int)] (cM cyI cyO ad μ) (cM cyI cyO ad μ_) s.heap.size) ([.ref (ad 0), .int i1, .int i2] : List Value).toArray s 0 0 (va_A (cM cyI cyO ad μ) s.heap.size)) (F0 m 8 ls []) := by
    intro n9
    induction n9 with
    | zero => intro v27 μ28 H locs ls hL24; exact (loopM_z hL24).elim
    | succ n9 ih9 =>
      intro v27 μ28 H locs ls hL24 hB hl
      obtain ⟨o29, hg25, hL24⟩ := loopM_s hL24
      have hg25 : mX4_readStage_L8 fu i1 i2 v27 μ28 = some o29 := hg25
      unfold mX4_readStage_L8 at hg25
      refine lv_aload_n hx hb dX4_readStage_8 rfl (lv_at hl 1 rfl) ?_
      obtain ⟨r30, hc, hg25⟩ := ob1_s hg25
      refine g_callVz (As := []) (rest := []) ⟨hx, hb, hml, hown, hts⟩ (kX4_isGood l dC dI cyI cyO ad H.size hc) (cwV 0 hts gX4_readStage_X4_isGood rfl rfl rfl (by decide +kernel) ⟨Nat.le_of_ble_eq_true rfl, Nat.le_of_ble_eq_true rfl⟩) hK hB hA (g_recv (ci := 4) hK hB 0 rfl rfl rfl) rfl hl.1 rfl (Nat.le_of_ble_eq_true rfl) dX4_readStage_9 ⟨Nat.zero_le _, Nat.zero_le _⟩ (fun z31 H locs hB => ?_)
      refine lv_if_eq (tgt := 61) hx hb dX4_readStage_12 (by decide) (fun c32 => ?_) (fun c32 => ?_)
      · have hg25 := ite_t c32 hg25
        have hL24 := el1_l (inj1 hg25) hL24
        exact kE22 _ _ _ _ (inj1 hL24) hB (lv_sub hl [] rfl)
      · have hg25 := ite_f c32 hg25
        refine lv_aload_n hx hb dX4_readStage_15 rfl (lv_at hl 1 rfl) ?_
        obtain ⟨r33, μ34, hc, hg25⟩ := ob2_s hg25
        refine g_callVi (As := []) (rest := []) ⟨hx, hb, hml, hown, hts⟩ (kX4_next l dC dI cyI cyO ad H.size hc) (cwV 0 hts gX4_readStage_X4_next rfl rfl rfl (by decide +kernel) ⟨Nat.le_of_ble_eq_true rfl, Nat.le_of_ble_eq_true rfl⟩) hK hB hA (g_recv (ci := 4) hK hB 0 rfl rfl rfl) rfl hl.1 rfl (Nat.le_of_ble_eq_true rfl) dX4_readStage_16 ⟨Nat.zero_le _, Nat.zero_le _⟩ (fun H locs hB => ?_)
        refine lv_pop hx hb dX4_readStage_19 rfl ?_
        refine lv_aload_n hx hb dX4_readStage_20 rfl (lv_at hl 1 rfl) ?_
        refine g_get (C := RX4) (T := TX4) (N := 15) hx hb hts hinX4 hown hK hB 0 rfl rfl 4 rfl hq1 rfl rfl dX4_readStage_21 ?_
        refine lv_istore (lv' := [(4, .int (μ34 4 0)), (3, .int v27), (0, .ref (ad 0)), (1, .int i1), (2, .int i2)]) hx hb dX4_readStage_24 hl (by decide) rfl (fun ls hl => ?_)
        refine lv_aload_n hx hb dX4_readStage_26 rfl (lv_at hl 2 rfl) ?_
        refine g_ldcS hx hb hown hJ 11 rfl dX4_readStage_27 ?_
        obtain ⟨r35, μ36, hc, hg25⟩ := ob2_s hg25
        refine g_jcallVz (As := [.ref (kS 14)]) (rest := []) ⟨hx, hb, hml, hown, hts⟩ hJ (kX4_takeWord l dC dI cyI cyO ad kS H.size (by decide) hc) (cwV 1 hts gX4_readStage_X4_takeWord rfl rfl rfl (by decide +kernel) ⟨Nat.le_of_ble_eq_true rfl, Nat.le_of_ble_eq_true rfl⟩) hK hB hA (g_recv (ci := 4) hK hB 0 rfl rfl rfl) rfl hl.1 rfl (Nat.le_of_ble_eq_true rfl) dX4_readStage_29 ⟨Nat.zero_le _, Nat.zero_le _⟩ (fun z37 H locs hB => ?_)
        refine lv_if_ne (tgt := 36) hx hb dX4_readStage_32 (by decide) (fun c38 => ?_) (fun c38 => ?_)
        · have hg25 := ite_f c38 hg25
          refine lv_iload_n hx hb dX4_readStage_36 rfl (lv_at hl 1 rfl) ?_
          refine lv_iconst (v := (3 : Int32)) hx hb dX4_readStage_37 (by decide) ?_
          obtain ⟨μ39, hJ40, hg25⟩ := ob1_s hg25
          have kJ41 : ∀ (H : Heap) (locs : List Loc) (ls : Array Slot), Bd (dC, dI) [(cyI, .int), (cyO, .array .int)] (va_A (cM cyI cyO ad μ) s.heap.size) s (cM cyI cyO ad μ39) H locs → lv_has ls 5 [(3, .int v27), (0, .ref (ad 0)), (1, .int i1), (2, .int i2)] → W p l e (headSpec wsX4_readStage rmX4_readStage).room s m ([.ref (ad 0), .int i1, .int i2] : List Value).toArray below meth c H locs 0 0 (MQ below (QvF (dC, dI) [(cyI, .int), (cyO, .array .int)] (cM cyI cyO ad μ) (cM cyI cyO ad μ_) s.heap.size) ([.ref (ad 0), .int i1, .int i2] : List Value).toArray s 0 0 (va_A (cM cyI cyO ad μ) s.heap.size)) (F0 m 49 ls []) := by
            intro H locs ls hB hl
            refine lv_aload_n hx hb dX4_readStage_49 rfl (lv_at hl 1 rfl) ?_
            refine lv_iload_n hx hb dX4_readStage_50 rfl (lv_at hl 2 rfl) ?_
            refine lv_iload_n hx hb dX4_readStage_51 rfl (lv_at hl 3 rfl) ?_
            obtain ⟨μ44, hc, hg25⟩ := ob1_s hg25
            refine g_jcallVv (As := [.int i1, .int i2]) (rest := []) ⟨hx, hb, hml, hown, hts⟩ hJ (kX4_readStep l dC dI cyI cyO ad kS H.size hc) (cwV 2 hts gX4_readStage_X4_readStep rfl rfl rfl (by decide +kernel) ⟨Nat.le_of_ble_eq_true rfl, Nat.le_of_ble_eq_true rfl⟩) hK hB hA (g_recv (ci := 4) hK hB 0 rfl rfl rfl) rfl hl.1 rfl (Nat.le_of_ble_eq_true rfl) dX4_readStage_52 ⟨Nat.zero_le _, Nat.zero_le _⟩ (fun H locs hB => ?_)
            refine lv_iinc (v := (v27 + (1 : Int32))) (lv' := [(3, .int (v27 + (1 : Int32))), (0, .ref (ad 0)), (1, .int i1), (2, .int i2)]) hx hb dX4_readStage_55 hl (k := 0) rfl rfl (by decide) rfl (fun ls hl => ?_)
            refine lv_goto (tgt := 8) hx hb dX4_readStage_58 (by decide) ?_
            have hL24 := el1_r (inj1 hg25) hL24
            exact ih9 _ _ _ _ _ hL24 hB (lv_sub hl [0, 1, 2, 3] rfl)
          refine lv_icmp_ne (tgt := 49) hx hb dX4_readStage_38 (by decide) (fun c42 => ?_) (fun c42 => ?_)
          · have hJ40 := ite_f c42 hJ40
            have e0 := inj1 hJ40
            subst e0
            exact kJ41 _ _ _ hB (lv_sub hl [1, 2, 3, 4] rfl)
          · have hJ40 := ite_t c42 hJ40
            refine lv_aload_n hx hb dX4_readStage_41 rfl (lv_at hl 2 rfl) ?_
            refine lv_bipush (v := (-4 : Int32)) hx hb dX4_readStage_42 (by decide) ?_
            refine lv_iload hx hb dX4_readStage_44 (lv_at hl 0 rfl) ?_
            obtain ⟨μ43, hc, hJ40⟩ := ob1_s hJ40
            refine g_callVv (As := [.int (-4 : Int32), .int (μ34 4 0)]) (rest := []) ⟨hx, hb, hml, hown, hts⟩ (kX4_report l dC dI cyI cyO ad H.size hc) (cwV 2 hts gX4_readStage_X4_report rfl rfl rfl (by decide +kernel) ⟨Nat.le_of_ble_eq_true rfl, Nat.le_of_ble_eq_true rfl⟩) hK hB hA (g_recv (ci := 4) hK hB 0 rfl rfl rfl) rfl hl.1 rfl (Nat.le_of_ble_eq_true rfl) dX4_readStage_46 ⟨Nat.zero_le _, Nat.zero_le _⟩ (fun H locs hB => ?_)
            have e0 := inj1 hJ40
            subst e0
            exact kJ41 _ _ _ hB (lv_sub hl [1, 2, 3, 4] rfl)
        · have hg25 := ite_t c38 hg25
          have hL24 := el1_l (inj1 hg25) hL24
          have hf := el1_l (inj1 hL24) hf
          have e0 := inj1 hf
          subst e0
          exact g_vret hx hb hr hlocks hK hB dX4_readStage_35
  exact key23 fu _ _ _ _ _ hL24 hB (lv_sub hl [0, 1, 2, 3] rfl)

abbrev rmX4_readJourney : Room := { frames := 7, cells := 0, slots := 0, locals := 159 }

set_option maxHeartbeats 4000000 in
set_option maxRecDepth 100000 in
theorem kX4_readJourney (l : Launch) (dC : Nat → ClassId) (dI : Nat → Nat → Nat) (cyI cyO : ClassId) (ad : Nat → Nat) (kS : Nat → Nat) (sz : Nat) {fu : Nat} {μ : MS} {i1 : Int32} {μ_ : MS} (hf : mX4_readJourney fu μ i1 = some μ_) : Met l yX4_readJourney wsX4_readJourney rmX4_readJourney (PcJ (dC, dI) [(cyI, .int), (cyO, .array .int)] kS (cM cyI cyO ad μ) sz [.ref (ad 0), .int i1]) (QvF (dC, dI) [(cyI, .int), (cyO, .array .int)] (cM cyI cyO ad μ) (cM cyI cyO ad μ_) sz) 0 0 (va_A (cM cyI cyO ad μ) sz) := by
  refine Met.ofW (cc := cX4_readJourney) (maxL := 8) (ret := none) (by decide) rfl ?_
  intro p e s m args below meth c s₁ B hml hv
  obtain ⟨rfl, ⟨hsz, hP, hK, hD0⟩, hJ⟩ := hv
  have hx := B.exec
  have hb := B.bytes
  have hr := B.returns
  have hts := atoms_spec (ws := wsX4_readJourney) B.pre
  have hown : s.vm.findClass RX4 = some m.cls := findClass_of_methodNamed B.named
  have hlocks := B.notSynchronized
  subst hsz
  have hA : ∀ q : Nat, s.heap.size ≤ q → va_A (cM cyI cyO ad μ) s.heap.size q := fun q h => Or.inr h
  have hB : Bd (dC, dI) [(cyI, .int), (cyO, .array .int)] (va_A (cM cyI cyO ad μ) s.heap.size) s (cM cyI cyO ad μ) s.heap [] := ⟨hP, hD0.self, va_S.rf⟩
  have hq1 : (Cond.fieldLink RX4 20 "UndoJourneysModel" "draft" "[I").before _ s = true := hts _ (List.mem_of_getElem? (i := 1) rfl)
  have hq2 : (Cond.fieldLink RX4 44 "UndoJourneysModel" "position" "I").before _ s = true := hts _ (List.mem_of_getElem? (i := 2) rfl)
  have hinX4 : ∀ w ∈ wsX40, w ∈ wsX4_readJourney := fun w h => List.mem_cons_of_mem _ (List.mem_append_right _ h)
  have hl := lv_entry [.ref (ad 0), .int i1] (n := 8) (Nat.le_of_ble_eq_true rfl)
  rw [lg_entry_eq]
  generalize (lg_sl [.ref (ad 0), .int i1] ++ List.replicate (8 - (lg_sl [.ref (ad 0), .int i1]).length) Slot.unset).toArray = ls at hl ⊢
  have hl : lv_has ls 8 [(0, .ref (ad 0)), (1, .int i1)] := hl
  clear hP hD0
  suffices main : ∀ (H : Heap) (locs : List Loc), Bd (dC, dI) [(cyI, .int), (cyO, .array .int)] (va_A (cM cyI cyO ad μ) s.heap.size) s (cM cyI cyO ad μ) H locs → W p l e (headSpec wsX4_readJourney rmX4_readJourney).room s m ([.ref (ad 0), .int i1] : List Value).toArray below meth c H locs 0 0 (MQ below (QvF (dC, dI) [(cyI, .int), (cyO, .array .int)] (cM cyI cyO ad μ) (cM cyI cyO ad μ_) s.heap.size) ([.ref (ad 0), .int i1] : List Value).toArray s 0 0 (va_A (cM cyI cyO ad μ) s.heap.size)) (F0 m 0 ls []) from main _ _ hB
  clear hB
  intro H locs hB
  unfold mX4_readJourney at hf
  refine lv_aload_n hx hb dX4_readJourney_0 rfl (lv_at hl 0 rfl) ?_
  refine g_get (C := RX4) (T := TX4) (N := 15) hx hb hts hinX4 hown hK hB 0 rfl rfl 9 rfl hq1 rfl rfl dX4_readJourney_1 ?_
  refine lv_iconst (v := (2 : Int32)) hx hb dX4_readJourney_4 (by decide) ?_
  obtain ⟨x1, e9, hf⟩ := ob1_s hf
  refine g_iald hx hb hK hB 3 0 rfl rfl (rd_s e9) dX4_readJourney_5 ?_
  refine lv_bipush (v := (8 : Int32)) hx hb dX4_readJourney_6 (by decide) ?_
  obtain ⟨μ2, hJ3, hf⟩ := ob1_s hf
  have kJ4 : ∀ (H : Heap) (locs : List Loc) (ls : Array Slot), Bd (dC, dI) [(cyI, .int), (cyO, .array .int)] (va_A (cM cyI cyO ad μ) s.heap.size) s (cM cyI cyO ad μ2) H locs → lv_has ls 8 [(0, .ref (ad 0))] → W p l e (headSpec wsX4_readJourney rmX4_readJourney).room s m ([.ref (ad 0), .int i1] : List Value).toArray below meth c H locs 0 0 (MQ below (QvF (dC, dI) [(cyI, .int), (cyO, .array .int)] (cM cyI cyO ad μ) (cM cyI cyO ad μ_) s.heap.size) ([.ref (ad 0), .int i1] : List Value).toArray s 0 0 (va_A (cM cyI cyO ad μ) s.heap.size)) (F0 m 18 ls []) := by
    intro H locs ls hB hl
    refine lv_aload_n hx hb dX4_readJourney_18 rfl (lv_at hl 0 rfl) ?_
    refine g_get (C := RX4) (T := TX4) (N := 15) hx hb hts hinX4 hown hK hB 0 rfl rfl 9 rfl hq1 rfl rfl dX4_readJourney_19 ?_
    refine lv_iconst (v := (2 : Int32)) hx hb dX4_readJourney_22 (by decide) ?_
    obtain ⟨x7, e9, hf⟩ := ob1_s hf
    refine g_iald hx hb hK hB 3 0 rfl rfl (rd_s e9) dX4_readJourney_23 ?_
    refine lv_istore_n (lv' := [(2, .int x7), (0, .ref (ad 0))]) hx hb dX4_readJourney_24 rfl hl (by decide) rfl (fun ls hl => ?_)
    refine lv_aload_n hx hb dX4_readJourney_25 rfl (lv_at hl 1 rfl) ?_
    refine lv_iconst (v := (0 : Int32)) hx hb dX4_readJourney_26 (by decide) ?_
    refine lv_sipush (v := (999 : Int32)) hx hb dX4_readJourney_27 (by decide) ?_
    obtain ⟨r8, μ9, hc, hf⟩ := ob2_s hf
    refine g_callVi (As := [.int (0 : Int32), .int (999 : Int32)]) (rest := []) ⟨hx, hb, hml, hown, hts⟩ (kX4_number l dC dI cyI cyO ad H.size hc) (cwV 2 hts gX4_readJourney_X4_number rfl rfl rfl (by decide +kernel) ⟨Nat.le_of_ble_eq_true rfl, Nat.le_of_ble_eq_true rfl⟩) hK hB hA (g_recv (ci := 4) hK hB 0 rfl rfl rfl) rfl hl.1 rfl (Nat.le_of_ble_eq_true rfl) dX4_readJourney_30 ⟨Nat.zero_le _, Nat.zero_le _⟩ (fun H locs hB => ?_)
    refine lv_istore_n (lv' := [(3, .int r8), (2, .int x7), (0, .ref (ad 0))]) hx hb dX4_readJourney_33 rfl hl (by decide) rfl (fun ls hl => ?_)
    refine lv_aload_n hx hb dX4_readJourney_34 rfl (lv_at hl 2 rfl) ?_
    obtain ⟨r10, hc, hf⟩ := ob1_s hf
    refine g_callVz (As := []) (rest := []) ⟨hx, hb, hml, hown, hts⟩ (kX4_isGood l dC dI cyI cyO ad H.size hc) (cwV 0 hts gX4_readJourney_X4_isGood rfl rfl rfl (by decide +kernel) ⟨Nat.le_of_ble_eq_true rfl, Nat.le_of_ble_eq_true rfl⟩) hK hB hA (g_recv (ci := 4) hK hB 0 rfl rfl rfl) rfl hl.1 rfl (Nat.le_of_ble_eq_true rfl) dX4_readJourney_35 ⟨Nat.zero_le _, Nat.zero_le _⟩ (fun z11 H locs hB => ?_)
    refine lv_if_ne (tgt := 42) hx hb dX4_readJourney_38 (by decide) (fun c12 => ?_) (fun c12 => ?_)
    · have hf := ite_f c12 hf
      refine lv_bipush (v := (19 : Int32)) hx hb dX4_readJourney_42 (by decide) ?_
      refine lv_bipush (v := (9 : Int32)) hx hb dX4_readJourney_44 (by decide) ?_
      refine lv_iload_n hx hb dX4_readJourney_46 rfl (lv_at hl 1 rfl) ?_
      refine lv_imul hx hb dX4_readJourney_47 ?_
      refine lv_iadd hx hb dX4_readJourney_48 ?_
      refine lv_istore (lv' := [(4, .int ((19 : Int32) + ((9 : Int32) * x7))), (3, .int r8), (2, .int x7), (0, .ref (ad 0))]) hx hb dX4_readJourney_49 hl (by decide) rfl (fun ls hl => ?_)
      refine lv_aload_n hx hb dX4_readJourney_51 rfl (lv_at hl 3 rfl) ?_
      refine g_get (C := RX4) (T := TX4) (N := 15) hx hb hts hinX4 hown hK hB 0 rfl rfl 9 rfl hq1 rfl rfl dX4_readJourney_52 ?_
      refine lv_iload hx hb dX4_readJourney_55 (lv_at hl 0 rfl) ?_
      refine lv_iconst (v := (0 : Int32)) hx hb dX4_readJourney_57 (by decide) ?_
      refine lv_iadd hx hb dX4_readJourney_58 ?_
      refine lv_iconst (v := (0 : Int32)) hx hb dX4_readJourney_59 (by decide) ?_
      obtain ⟨μ13, e9, hf⟩ := ob1_s hf
      obtain ⟨hi, e9⟩ := wra_s e9
      refine g_iast hx hb hK hB 3 0 rfl rfl hi rfl dX4_readJourney_60 (w2 := (cM cyI cyO ad μ13)) (by rw [← e9]; rfl) (fun H locs hB => ?_)
      refine lv_aload_n hx hb dX4_readJourney_61 rfl (lv_at hl 3 rfl) ?_
      refine g_get (C := RX4) (T := TX4) (N := 15) hx hb hts hinX4 hown hK hB 0 rfl rfl 9 rfl hq1 rfl rfl dX4_readJourney_62 ?_
      refine lv_iload hx hb dX4_readJourney_65 (lv_at hl 0 rfl) ?_
      refine lv_iconst (v := (1 : Int32)) hx hb dX4_readJourney_67 (by decide) ?_
      refine lv_iadd hx hb dX4_readJourney_68 ?_
      refine lv_iload_n hx hb dX4_readJourney_69 rfl (lv_at hl 1 rfl) ?_
      obtain ⟨μ14, e9, hf⟩ := ob1_s hf
      obtain ⟨hi, e9⟩ := wra_s e9
      refine g_iast hx hb hK hB 3 0 rfl rfl hi rfl dX4_readJourney_70 (w2 := (cM cyI cyO ad μ14)) (by rw [← e9]; rfl) (fun H locs hB => ?_)
      refine lv_aload_n hx hb dX4_readJourney_71 rfl (lv_at hl 3 rfl) ?_
      refine g_get (C := RX4) (T := TX4) (N := 15) hx hb hts hinX4 hown hK hB 0 rfl rfl 9 rfl hq1 rfl rfl dX4_readJourney_72 ?_
      refine lv_iload hx hb dX4_readJourney_75 (lv_at hl 0 rfl) ?_
      refine lv_iconst (v := (4 : Int32)) hx hb dX4_readJourney_77 (by decide) ?_
      refine lv_iadd hx hb dX4_readJourney_78 ?_
      refine lv_iconst (v := (-1 : Int32)) hx hb dX4_readJourney_79 (by decide) ?_
      obtain ⟨μ15, e9, hf⟩ := ob1_s hf
      obtain ⟨hi, e9⟩ := wra_s e9
      refine g_iast hx hb hK hB 3 0 rfl rfl hi rfl dX4_readJourney_80 (w2 := (cM cyI cyO ad μ15)) (by rw [← e9]; rfl) (fun H locs hB => ?_)
      refine lv_aload_n hx hb dX4_readJourney_81 rfl (lv_at hl 3 rfl) ?_
      refine g_get (C := RX4) (T := TX4) (N := 15) hx hb hts hinX4 hown hK hB 0 rfl rfl 9 rfl hq1 rfl rfl dX4_readJourney_82 ?_
      refine lv_iload hx hb dX4_readJourney_85 (lv_at hl 0 rfl) ?_
      refine lv_iconst (v := (5 : Int32)) hx hb dX4_readJourney_87 (by decide) ?_
      refine lv_iadd hx hb dX4_readJourney_88 ?_
      refine lv_iconst (v := (-1 : Int32)) hx hb dX4_readJourney_89 (by decide) ?_
      obtain ⟨μ16, e9, hf⟩ := ob1_s hf
      obtain ⟨hi, e9⟩ := wra_s e9
      refine g_iast hx hb hK hB 3 0 rfl rfl hi rfl dX4_readJourney_90 (w2 := (cM cyI cyO ad μ16)) (by rw [← e9]; rfl) (fun H locs hB => ?_)
      refine lv_aload_n hx hb dX4_readJourney_91 rfl (lv_at hl 3 rfl) ?_
      refine g_get (C := RX4) (T := TX4) (N := 15) hx hb hts hinX4 hown hK hB 0 rfl rfl 9 rfl hq1 rfl rfl dX4_readJourney_92 ?_
      refine lv_iload hx hb dX4_readJourney_95 (lv_at hl 0 rfl) ?_
      refine lv_bipush (v := (6 : Int32)) hx hb dX4_readJourney_97 (by decide) ?_
      refine lv_iadd hx hb dX4_readJourney_99 ?_
      refine lv_aload_n hx hb dX4_readJourney_100 rfl (lv_at hl 3 rfl) ?_
      refine g_get (C := RX4) (T := TX4) (N := 15) hx hb hts hinX4 hown hK hB 0 rfl rfl 9 rfl hq1 rfl rfl dX4_readJourney_101 ?_
      refine lv_iconst (v := (3 : Int32)) hx hb dX4_readJourney_104 (by decide) ?_
      obtain ⟨x17, e9, hf⟩ := ob1_s hf
      refine g_iald hx hb hK hB 3 0 rfl rfl (rd_s e9) dX4_readJourney_105 ?_
      obtain ⟨μ18, e9, hf⟩ := ob1_s hf
      obtain ⟨hi, e9⟩ := wra_s e9
      refine g_iast hx hb hK hB 3 0 rfl rfl hi rfl dX4_readJourney_106 (w2 := (cM cyI cyO ad μ18)) (by rw [← e9]; rfl) (fun H locs hB => ?_)
      refine lv_iconst (v := (1 : Int32)) hx hb dX4_readJourney_107 (by decide) ?_
      refine lv_istore (lv' := [(5, .int (1 : Int32)), (4, .int ((19 : Int32) + ((9 : Int32) * x7))), (3, .int r8), (2, .int x7), (0, .ref (ad 0))]) hx hb dX4_readJourney_108 hl (by decide) rfl (fun ls hl => ?_)
      refine lv_iconst (v := (0 : Int32)) hx hb dX4_readJourney_110 (by decide) ?_
      refine lv_istore (lv' := [(6, .int (0 : Int32)), (5, .int (1 : Int32)), (4, .int ((19 : Int32) + ((9 : Int32) * x7))), (3, .int r8), (2, .int x7), (0, .ref (ad 0))]) hx hb dX4_readJourney_111 hl (by decide) rfl (fun ls hl => ?_)
      obtain ⟨μ45, hL48, hf⟩ := ob1_s hf
      have kE46 : ∀ (H : Heap) (locs : List Loc) (ls : Array Slot), Bd (dC, dI) [(cyI, .int), (cyO, .array .int)] (va_A (cM cyI cyO ad μ) s.heap.size) s (cM cyI cyO ad μ45) H locs → lv_has ls 8 [(0, .ref (ad 0))] → W p l e (headSpec wsX4_readJourney rmX4_readJourney).room s m ([.ref (ad 0), .int i1] : List Value).toArray below meth c H locs 0 0 (MQ below (QvF (dC, dI) [(cyI, .int), (cyO, .array .int)] (cM cyI cyO ad μ) (cM cyI cyO ad μ_) s.heap.size) ([.ref (ad 0), .int i1] : List Value).toArray s 0 0 (va_A (cM cyI cyO ad μ) s.heap.size)) (F0 m 191 ls []) := by
        intro H locs ls hB hl
        refine lv_aload_n hx hb dX4_readJourney_191 rfl (lv_at hl 0 rfl) ?_
        refine g_get (C := RX4) (T := TX4) (N := 15) hx hb hts hinX4 hown hK hB 0 rfl rfl 9 rfl hq1 rfl rfl dX4_readJourney_192 ?_
        refine lv_iconst (v := (2 : Int32)) hx hb dX4_readJourney_195 (by decide) ?_
        refine lv_dup2_11 hx hb dX4_readJourney_196 rfl rfl ?_
        obtain ⟨x50, e9, hf⟩ := ob1_s hf
        refine g_iald hx hb hK hB 3 0 rfl rfl (rd_s e9) dX4_readJourney_197 ?_
        refine lv_iconst (v := (1 : Int32)) hx hb dX4_readJourney_198 (by decide) ?_
        refine lv_iadd hx hb dX4_readJourney_199 ?_
        obtain ⟨μ51, e9, hf⟩ := ob1_s hf
        obtain ⟨hi, e9⟩ := wra_s e9
        refine g_iast hx hb hK hB 3 0 rfl rfl hi rfl dX4_readJourney_200 (w2 := (cM cyI cyO ad μ51)) (by rw [← e9]; rfl) (fun H locs hB => ?_)
        have e0 := inj1 hf
        subst e0
        exact g_vret hx hb hr hlocks hK hB dX4_readJourney_201
      have key47 : ∀ (n9 : Nat) (v53 : Int32) (v54 : Int32) (μ55 : MS) (H : Heap) (locs : List Loc) (ls : Array Slot), loopM (fun st => mX4_readJourney_L113 fu ((19 : Int32) + ((9 : Int32) * x7)) x7 st.1 st.2.1 st.2.2) n9 (v53, v54, μ55) = some μ45 → Bd (dC, dI) [(cyI, .int), (cyO, .array .int)] (va_A (cM cyI cyO ad μ) s.heap.size) s (cM cyI cyO ad μ55) H locs → lv_has ls 8 [(6, .int v53), (5, .int v54), (4, .int ((19 : Int32) + ((9 : Int32) * x7))), (2, .int x7), (0, .ref (ad 0))] → W p l e (headSpec wsX4_readJourney rmX4_readJourney).room s m ([.ref (ad 0), .int i1] : List Value).toArray below meth c H locs 0 0 (MQ below (QvF (dC, dI) [(cyI, .int), (cyO, .array .int)] (cM cyI cyO ad μ) (cM cyI cyO ad μ_) s.heap.size) ([.ref (ad 0), .int i1] : List Value).toArray s 0 0 (va_A (cM cyI cyO ad μ) s.heap.size)) (F0 m 113 ls []) := by
        intro n9
        induction n9 with
        | zero => intro v53 v54 μ55 H locs ls hL48; exact (loopM_z hL48).elim
        | succ n9 ih9 =>
          intro v53 v54 μ55 H locs ls hL48 hB hl
          obtain ⟨o56, hg49, hL48⟩ := loopM_s hL48
          have hg49 : mX4_readJourney_L113 fu ((19 : Int32) + ((9 : Int32) * x7)) x7 v53 v54 μ55 = some o56 := hg49
          unfold mX4_readJourney_L113 at hg49
          refine lv_aload_n hx hb dX4_readJourney_113 rfl (lv_at hl 4 rfl) ?_
          obtain ⟨r57, hc, hg49⟩ := ob1_s hg49
          refine g_callVz (As := []) (rest := []) ⟨hx, hb, hml, hown, hts⟩ (kX4_isGood l dC dI cyI cyO ad H.size hc) (cwV 0 hts gX4_readJourney_X4_isGood rfl rfl rfl (by decide +kernel) ⟨Nat.le_of_ble_eq_true rfl, Nat.le_of_ble_eq_true rfl⟩) hK hB hA (g_recv (ci := 4) hK hB 0 rfl rfl rfl) rfl hl.1 rfl (Nat.le_of_ble_eq_true rfl) dX4_readJourney_114 ⟨Nat.zero_le _, Nat.zero_le _⟩ (fun z58 H locs hB => ?_)
          obtain ⟨t59, hD60, hg49⟩ := ob1_s hg49
          have kTt59 : t59 = true → ∀ (H : Heap) (locs : List Loc), Bd (dC, dI) [(cyI, .int), (cyO, .array .int)] (va_A (cM cyI cyO ad μ) s.heap.size) s (cM cyI cyO ad μ55) H locs → W p l e (headSpec wsX4_readJourney rmX4_readJourney).room s m ([.ref (ad 0), .int i1] : List Value).toArray below meth c H locs 0 0 (MQ below (QvF (dC, dI) [(cyI, .int), (cyO, .array .int)] (cM cyI cyO ad μ) (cM cyI cyO ad μ_) s.heap.size) ([.ref (ad 0), .int i1] : List Value).toArray s 0 0 (va_A (cM cyI cyO ad μ) s.heap.size)) (F0 m 125 ls []) := by
            intro ht H locs hB
            have hg49 := cnd_t ht hg49
            refine lv_aload_n hx hb dX4_readJourney_125 rfl (lv_at hl 4 rfl) ?_
            refine lv_iload_n hx hb dX4_readJourney_126 rfl (lv_at hl 3 rfl) ?_
            refine lv_iload hx hb dX4_readJourney_127 (lv_at hl 0 rfl) ?_
            obtain ⟨μ63, hc, hg49⟩ := ob1_s hg49
            refine g_jcallVv (As := [.int x7, .int v53]) (rest := []) ⟨hx, hb, hml, hown, hts⟩ hJ (kX4_readStage l dC dI cyI cyO ad kS H.size hc) (cwV 2 hts gX4_readJourney_X4_readStage rfl rfl rfl (by decide +kernel) ⟨Nat.le_of_ble_eq_true rfl, Nat.le_of_ble_eq_true rfl⟩) hK hB hA (g_recv (ci := 4) hK hB 0 rfl rfl rfl) rfl hl.1 rfl (Nat.le_of_ble_eq_true rfl) dX4_readJourney_129 ⟨Nat.zero_le _, Nat.zero_le _⟩ (fun H locs hB => ?_)
            refine lv_aload_n hx hb dX4_readJourney_132 rfl (lv_at hl 4 rfl) ?_
            refine g_get (C := RX4) (T := TX4) (N := 15) hx hb hts hinX4 hown hK hB 0 rfl rfl 9 rfl hq1 rfl rfl dX4_readJourney_133 ?_
            refine lv_iload hx hb dX4_readJourney_136 (lv_at hl 2 rfl) ?_
            refine lv_iconst (v := (2 : Int32)) hx hb dX4_readJourney_138 (by decide) ?_
            refine lv_iadd hx hb dX4_readJourney_139 ?_
            refine lv_iload hx hb dX4_readJourney_140 (lv_at hl 0 rfl) ?_
            refine lv_iconst (v := (1 : Int32)) hx hb dX4_readJourney_142 (by decide) ?_
            refine lv_iadd hx hb dX4_readJourney_143 ?_
            obtain ⟨μ64, e9, hg49⟩ := ob1_s hg49
            obtain ⟨hi, e9⟩ := wra_s e9
            refine g_iast hx hb hK hB 3 0 rfl rfl hi rfl dX4_readJourney_144 (w2 := (cM cyI cyO ad μ64)) (by rw [← e9]; rfl) (fun H locs hB => ?_)
            refine lv_aload_n hx hb dX4_readJourney_145 rfl (lv_at hl 4 rfl) ?_
            obtain ⟨r65, μ66, hc, hg49⟩ := ob2_s hg49
            refine g_callVi (As := []) (rest := []) ⟨hx, hb, hml, hown, hts⟩ (kX4_next l dC dI cyI cyO ad H.size hc) (cwV 0 hts gX4_readJourney_X4_next rfl rfl rfl (by decide +kernel) ⟨Nat.le_of_ble_eq_true rfl, Nat.le_of_ble_eq_true rfl⟩) hK hB hA (g_recv (ci := 4) hK hB 0 rfl rfl rfl) rfl hl.1 rfl (Nat.le_of_ble_eq_true rfl) dX4_readJourney_146 ⟨Nat.zero_le _, Nat.zero_le _⟩ (fun H locs hB => ?_)
            refine lv_pop hx hb dX4_readJourney_149 rfl ?_
            refine lv_aload_n hx hb dX4_readJourney_150 rfl (lv_at hl 4 rfl) ?_
            refine g_get (C := RX4) (T := TX4) (N := 15) hx hb hts hinX4 hown hK hB 0 rfl rfl 4 rfl hq2 rfl rfl dX4_readJourney_151 ?_
            refine lv_istore (lv' := [(7, .int (μ66 4 0)), (6, .int v53), (5, .int v54), (4, .int ((19 : Int32) + ((9 : Int32) * x7))), (2, .int x7), (0, .ref (ad 0))]) hx hb dX4_readJourney_154 hl (by decide) rfl (fun ls hl => ?_)
            refine lv_aload_n hx hb dX4_readJourney_156 rfl (lv_at hl 5 rfl) ?_
            refine g_ldcS hx hb hown hJ 12 rfl dX4_readJourney_157 ?_
            obtain ⟨r67, μ68, hc, hg49⟩ := ob2_s hg49
            refine g_jcallVz (As := [.ref (kS 15)]) (rest := []) ⟨hx, hb, hml, hown, hts⟩ hJ (kX4_takeWord l dC dI cyI cyO ad kS H.size (by decide) hc) (cwV 1 hts gX4_readJourney_X4_takeWord rfl rfl rfl (by decide +kernel) ⟨Nat.le_of_ble_eq_true rfl, Nat.le_of_ble_eq_true rfl⟩) hK hB hA (g_recv (ci := 4) hK hB 0 rfl rfl rfl) rfl hl.1 rfl (Nat.le_of_ble_eq_true rfl) dX4_readJourney_159 ⟨Nat.zero_le _, Nat.zero_le _⟩ (fun z69 H locs hB => ?_)
            refine lv_istore (lv' := [(5, .int r67), (7, .int (μ66 4 0)), (6, .int v53), (4, .int ((19 : Int32) + ((9 : Int32) * x7))), (2, .int x7), (0, .ref (ad 0))]) hx hb dX4_readJourney_162 hl (by decide) rfl (fun ls hl => ?_)
            refine lv_iload hx hb dX4_readJourney_164 (lv_at hl 0 rfl) ?_
            obtain ⟨μ70, hJ71, hg49⟩ := ob1_s hg49
            have kJ72 : ∀ (H : Heap) (locs : List Loc) (ls : Array Slot), Bd (dC, dI) [(cyI, .int), (cyO, .array .int)] (va_A (cM cyI cyO ad μ) s.heap.size) s (cM cyI cyO ad μ70) H locs → lv_has ls 8 [(5, .int r67), (6, .int v53), (4, .int ((19 : Int32) + ((9 : Int32) * x7))), (2, .int x7), (0, .ref (ad 0))] → W p l e (headSpec wsX4_readJourney rmX4_readJourney).room s m ([.ref (ad 0), .int i1] : List Value).toArray below meth c H locs 0 0 (MQ below (QvF (dC, dI) [(cyI, .int), (cyO, .array .int)] (cM cyI cyO ad μ) (cM cyI cyO ad μ_) s.heap.size) ([.ref (ad 0), .int i1] : List Value).toArray s 0 0 (va_A (cM cyI cyO ad μ) s.heap.size)) (F0 m 185 ls []) := by
              intro H locs ls hB hl
              refine lv_iinc (v := (v53 + (1 : Int32))) (lv' := [(6, .int (v53 + (1 : Int32))), (5, .int r67), (4, .int ((19 : Int32) + ((9 : Int32) * x7))), (2, .int x7), (0, .ref (ad 0))]) hx hb dX4_readJourney_185 hl (k := 1) rfl rfl (by decide) rfl (fun ls hl => ?_)
              refine lv_goto (tgt := 113) hx hb dX4_readJourney_188 (by decide) ?_
              have hL48 := el1_r (inj1 hg49) hL48
              exact ih9 _ _ _ _ _ _ hL48 hB (lv_sub hl [0, 1, 2, 3, 4] rfl)
            obtain ⟨t73, hD74, hJ71⟩ := ob1_s hJ71
            have kTt73 : t73 = true → ∀ (H : Heap) (locs : List Loc), Bd (dC, dI) [(cyI, .int), (cyO, .array .int)] (va_A (cM cyI cyO ad μ) s.heap.size) s (cM cyI cyO ad μ68) H locs → W p l e (headSpec wsX4_readJourney rmX4_readJourney).room s m ([.ref (ad 0), .int i1] : List Value).toArray below meth c H locs 0 0 (MQ below (QvF (dC, dI) [(cyI, .int), (cyO, .array .int)] (cM cyI cyO ad μ) (cM cyI cyO ad μ_) s.heap.size) ([.ref (ad 0), .int i1] : List Value).toArray s 0 0 (va_A (cM cyI cyO ad μ) s.heap.size)) (F0 m 177 ls []) := by
              intro ht H locs hB
              have hJ71 := cnd_t ht hJ71
              refine lv_aload_n hx hb dX4_readJourney_177 rfl (lv_at hl 5 rfl) ?_
              refine lv_bipush (v := (-4 : Int32)) hx hb dX4_readJourney_178 (by decide) ?_
              refine lv_iload hx hb dX4_readJourney_180 (lv_at hl 1 rfl) ?_
              obtain ⟨μ77, hc, hJ71⟩ := ob1_s hJ71
              refine g_callVv (As := [.int (-4 : Int32), .int (μ66 4 0)]) (rest := []) ⟨hx, hb, hml, hown, hts⟩ (kX4_report l dC dI cyI cyO ad H.size hc) (cwV 2 hts gX4_readJourney_X4_report rfl rfl rfl (by decide +kernel) ⟨Nat.le_of_ble_eq_true rfl, Nat.le_of_ble_eq_true rfl⟩) hK hB hA (g_recv (ci := 4) hK hB 0 rfl rfl rfl) rfl hl.1 rfl (Nat.le_of_ble_eq_true rfl) dX4_readJourney_182 ⟨Nat.zero_le _, Nat.zero_le _⟩ (fun H locs hB => ?_)
              have e0 := inj1 hJ71
              subst e0
              exact kJ72 _ _ _ hB (lv_sub hl [0, 2, 3, 4, 5] rfl)
            have kFt73 : t73 = false → ∀ (H : Heap) (locs : List Loc), Bd (dC, dI) [(cyI, .int), (cyO, .array .int)] (va_A (cM cyI cyO ad μ) s.heap.size) s (cM cyI cyO ad μ68) H locs → W p l e (headSpec wsX4_readJourney rmX4_readJourney).room s m ([.ref (ad 0), .int i1] : List Value).toArray below meth c H locs 0 0 (MQ below (QvF (dC, dI) [(cyI, .int), (cyO, .array .int)] (cM cyI cyO ad μ) (cM cyI cyO ad μ_) s.heap.size) ([.ref (ad 0), .int i1] : List Value).toArray s 0 0 (va_A (cM cyI cyO ad μ) s.heap.size)) (F0 m 185 ls []) := by
              intro ht H locs hB
              have hJ71 := cnd_f ht hJ71
              have e0 := inj1 hJ71
              subst e0
              exact kJ72 _ _ _ hB (lv_sub hl [0, 2, 3, 4, 5] rfl)
            refine lv_if_eq (tgt := 185) hx hb dX4_readJourney_166 (by decide) (fun c75 => ?_) (fun c75 => ?_)
            · have hD74 := ite_t c75 hD74
              have e0 := inj1 hD74
              exact kFt73 e0.symm _ _ hB
            · have hD74 := ite_f c75 hD74
              refine lv_iload hx hb dX4_readJourney_169 (lv_at hl 2 rfl) ?_
              refine lv_iconst (v := (1 : Int32)) hx hb dX4_readJourney_171 (by decide) ?_
              refine lv_iadd hx hb dX4_readJourney_172 ?_
              refine lv_iconst (v := (5 : Int32)) hx hb dX4_readJourney_173 (by decide) ?_
              refine lv_icmp_ne (tgt := 185) hx hb dX4_readJourney_174 (by decide) (fun c76 => ?_) (fun c76 => ?_)
              · have hD74 := ite_f c76 hD74
                have e0 := inj1 hD74
                exact kFt73 e0.symm _ _ hB
              · have hD74 := ite_t c76 hD74
                have e0 := inj1 hD74
                exact kTt73 e0.symm _ _ hB
          have kFt59 : t59 = false → ∀ (H : Heap) (locs : List Loc), Bd (dC, dI) [(cyI, .int), (cyO, .array .int)] (va_A (cM cyI cyO ad μ) s.heap.size) s (cM cyI cyO ad μ55) H locs → W p l e (headSpec wsX4_readJourney rmX4_readJourney).room s m ([.ref (ad 0), .int i1] : List Value).toArray below meth c H locs 0 0 (MQ below (QvF (dC, dI) [(cyI, .int), (cyO, .array .int)] (cM cyI cyO ad μ) (cM cyI cyO ad μ_) s.heap.size) ([.ref (ad 0), .int i1] : List Value).toArray s 0 0 (va_A (cM cyI cyO ad μ) s.heap.size)) (F0 m 191 ls []) := by
            intro ht H locs hB
            have hg49 := cnd_f ht hg49
            have hL48 := el1_l (inj1 hg49) hL48
            have e0 := inj1 hL48
            subst e0
            exact kE46 _ _ _ hB (lv_sub hl [4] rfl)
          refine lv_if_eq (tgt := 191) hx hb dX4_readJourney_117 (by decide) (fun c61 => ?_) (fun c61 => ?_)
          · have hD60 := ite_t c61 hD60
            have e0 := inj1 hD60
            exact kFt59 e0.symm _ _ hB
          · have hD60 := ite_f c61 hD60
            refine lv_iload hx hb dX4_readJourney_120 (lv_at hl 1 rfl) ?_
            refine lv_if_eq (tgt := 191) hx hb dX4_readJourney_122 (by decide) (fun c62 => ?_) (fun c62 => ?_)
            · have hD60 := ite_t c62 hD60
              have e0 := inj1 hD60
              exact kFt59 e0.symm _ _ hB
            · have hD60 := ite_f c62 hD60
              have e0 := inj1 hD60
              exact kTt59 e0.symm _ _ hB
      exact key47 fu _ _ _ _ _ _ hL48 hB (lv_sub hl [0, 1, 2, 4, 5] rfl)
    · have hf := ite_t c12 hf
      have e0 := inj1 hf
      subst e0
      exact g_vret hx hb hr hlocks hK hB dX4_readJourney_41
  refine lv_icmp_ne (tgt := 18) hx hb dX4_readJourney_8 (by decide) (fun c5 => ?_) (fun c5 => ?_)
  · have hJ3 := ite_f c5 hJ3
    have e0 := inj1 hJ3
    subst e0
    exact kJ4 _ _ _ hB (lv_sub hl [0] rfl)
  · have hJ3 := ite_t c5 hJ3
    refine lv_aload_n hx hb dX4_readJourney_11 rfl (lv_at hl 0 rfl) ?_
    refine lv_bipush (v := (-4 : Int32)) hx hb dX4_readJourney_12 (by decide) ?_
    refine lv_iload_n hx hb dX4_readJourney_14 rfl (lv_at hl 1 rfl) ?_
    obtain ⟨μ6, hc, hJ3⟩ := ob1_s hJ3
    refine g_callVv (As := [.int (-4 : Int32), .int i1]) (rest := []) ⟨hx, hb, hml, hown, hts⟩ (kX4_report l dC dI cyI cyO ad H.size hc) (cwV 2 hts gX4_readJourney_X4_report rfl rfl rfl (by decide +kernel) ⟨Nat.le_of_ble_eq_true rfl, Nat.le_of_ble_eq_true rfl⟩) hK hB hA (g_recv (ci := 4) hK hB 0 rfl rfl rfl) rfl hl.1 rfl (Nat.le_of_ble_eq_true rfl) dX4_readJourney_15 ⟨Nat.zero_le _, Nat.zero_le _⟩ (fun H locs hB => ?_)
    have e0 := inj1 hJ3
    subst e0
    exact kJ4 _ _ _ hB (lv_sub hl [0] rfl)

abbrev rmX4_statement : Room := { frames := 8, cells := 0, slots := 0, locals := 186 }

set_option maxHeartbeats 4000000 in
set_option maxRecDepth 100000 in
theorem kX4_statement (l : Launch) (dC : Nat → ClassId) (dI : Nat → Nat → Nat) (cyI cyO : ClassId) (ad : Nat → Nat) (kS : Nat → Nat) (sz : Nat) {fu : Nat} {μ : MS} {μ_ : MS} (hf : mX4_statement fu μ = some μ_) : Met l yX4_statement wsX4_statement rmX4_statement (PcJ (dC, dI) [(cyI, .int), (cyO, .array .int)] kS (cM cyI cyO ad μ) sz [.ref (ad 0)]) (QvF (dC, dI) [(cyI, .int), (cyO, .array .int)] (cM cyI cyO ad μ) (cM cyI cyO ad μ_) sz) 0 0 (va_A (cM cyI cyO ad μ) sz) := by
  refine Met.ofW (cc := cX4_statement) (maxL := 2) (ret := none) (by decide) rfl ?_
  intro p e s m args below meth c s₁ B hml hv
  obtain ⟨rfl, ⟨hsz, hP, hK, hD0⟩, hJ⟩ := hv
  have hx := B.exec
  have hb := B.bytes
  have hr := B.returns
  have hts := atoms_spec (ws := wsX4_statement) B.pre
  have hown : s.vm.findClass RX4 = some m.cls := findClass_of_methodNamed B.named
  have hlocks := B.notSynchronized
  subst hsz
  have hA : ∀ q : Nat, s.heap.size ≤ q → va_A (cM cyI cyO ad μ) s.heap.size q := fun q h => Or.inr h
  have hB : Bd (dC, dI) [(cyI, .int), (cyO, .array .int)] (va_A (cM cyI cyO ad μ) s.heap.size) s (cM cyI cyO ad μ) s.heap [] := ⟨hP, hD0.self, va_S.rf⟩
  have hq1 : (Cond.fieldLink RX4 44 "UndoJourneysModel" "position" "I").before _ s = true := hts _ (List.mem_of_getElem? (i := 1) rfl)
  have hq2 : (Cond.fieldLink RX4 20 "UndoJourneysModel" "draft" "[I").before _ s = true := hts _ (List.mem_of_getElem? (i := 2) rfl)
  have hinX4 : ∀ w ∈ wsX40, w ∈ wsX4_statement := fun w h => List.mem_cons_of_mem _ (List.mem_append_right _ h)
  have hl := lv_entry [.ref (ad 0)] (n := 2) (Nat.le_of_ble_eq_true rfl)
  rw [lg_entry_eq]
  generalize (lg_sl [.ref (ad 0)] ++ List.replicate (2 - (lg_sl [.ref (ad 0)]).length) Slot.unset).toArray = ls at hl ⊢
  have hl : lv_has ls 2 [(0, .ref (ad 0))] := hl
  clear hP hD0
  suffices main : ∀ (H : Heap) (locs : List Loc), Bd (dC, dI) [(cyI, .int), (cyO, .array .int)] (va_A (cM cyI cyO ad μ) s.heap.size) s (cM cyI cyO ad μ) H locs → W p l e (headSpec wsX4_statement rmX4_statement).room s m ([.ref (ad 0)] : List Value).toArray below meth c H locs 0 0 (MQ below (QvF (dC, dI) [(cyI, .int), (cyO, .array .int)] (cM cyI cyO ad μ) (cM cyI cyO ad μ_) s.heap.size) ([.ref (ad 0)] : List Value).toArray s 0 0 (va_A (cM cyI cyO ad μ) s.heap.size)) (F0 m 0 ls []) from main _ _ hB
  clear hB
  intro H locs hB
  unfold mX4_statement at hf
  refine lv_aload_n hx hb dX4_statement_0 rfl (lv_at hl 0 rfl) ?_
  obtain ⟨r1, μ2, hc, hf⟩ := ob2_s hf
  refine g_callVi (As := []) (rest := []) ⟨hx, hb, hml, hown, hts⟩ (kX4_next l dC dI cyI cyO ad H.size hc) (cwV 0 hts gX4_statement_X4_next rfl rfl rfl (by decide +kernel) ⟨Nat.le_of_ble_eq_true rfl, Nat.le_of_ble_eq_true rfl⟩) hK hB hA (g_recv (ci := 4) hK hB 0 rfl rfl rfl) rfl hl.1 rfl (Nat.le_of_ble_eq_true rfl) dX4_statement_1 ⟨Nat.zero_le _, Nat.zero_le _⟩ (fun H locs hB => ?_)
  refine lv_pop hx hb dX4_statement_4 rfl ?_
  refine lv_aload_n hx hb dX4_statement_5 rfl (lv_at hl 0 rfl) ?_
  refine g_get (C := RX4) (T := TX4) (N := 15) hx hb hts hinX4 hown hK hB 0 rfl rfl 4 rfl hq1 rfl rfl dX4_statement_6 ?_
  refine lv_istore_n (lv' := [(1, .int (μ2 4 0)), (0, .ref (ad 0))]) hx hb dX4_statement_9 rfl hl (by decide) rfl (fun ls hl => ?_)
  refine lv_aload_n hx hb dX4_statement_10 rfl (lv_at hl 1 rfl) ?_
  refine g_ldcS hx hb hown hJ 13 rfl dX4_statement_11 ?_
  obtain ⟨r3, μ4, hc, hf⟩ := ob2_s hf
  refine g_jcallVz (As := [.ref (kS 10)]) (rest := []) ⟨hx, hb, hml, hown, hts⟩ hJ (kX4_takeWord l dC dI cyI cyO ad kS H.size (by decide) hc) (cwV 1 hts gX4_statement_X4_takeWord rfl rfl rfl (by decide +kernel) ⟨Nat.le_of_ble_eq_true rfl, Nat.le_of_ble_eq_true rfl⟩) hK hB hA (g_recv (ci := 4) hK hB 0 rfl rfl rfl) rfl hl.1 rfl (Nat.le_of_ble_eq_true rfl) dX4_statement_13 ⟨Nat.zero_le _, Nat.zero_le _⟩ (fun z5 H locs hB => ?_)
  obtain ⟨μ6, hJ7, hf⟩ := ob1_s hf
  have kJ8 : ∀ (H : Heap) (locs : List Loc) (ls : Array Slot), Bd (dC, dI) [(cyI, .int), (cyO, .array .int)] (va_A (cM cyI cyO ad μ) s.heap.size) s (cM cyI cyO ad μ6) H locs → lv_has ls 2 [(0, .ref (ad 0))] → W p l e (headSpec wsX4_statement rmX4_statement).room s m ([.ref (ad 0)] : List Value).toArray below meth c H locs 0 0 (MQ below (QvF (dC, dI) [(cyI, .int), (cyO, .array .int)] (cM cyI cyO ad μ) (cM cyI cyO ad μ_) s.heap.size) ([.ref (ad 0)] : List Value).toArray s 0 0 (va_A (cM cyI cyO ad μ) s.heap.size)) (F0 m 113 ls []) := by
    intro H locs ls hB hl
    refine lv_aload_n hx hb dX4_statement_113 rfl (lv_at hl 0 rfl) ?_
    refine lv_bipush (v := (59 : Int32)) hx hb dX4_statement_114 (by decide) ?_
    obtain ⟨μ33, hc, hf⟩ := ob1_s hf
    refine g_callVv (As := [.int (59 : Int32)]) (rest := []) ⟨hx, hb, hml, hown, hts⟩ (kX4_expect l dC dI cyI cyO ad H.size hc) (cwV 1 hts gX4_statement_X4_expect rfl rfl rfl (by decide +kernel) ⟨Nat.le_of_ble_eq_true rfl, Nat.le_of_ble_eq_true rfl⟩) hK hB hA (g_recv (ci := 4) hK hB 0 rfl rfl rfl) rfl hl.1 rfl (Nat.le_of_ble_eq_true rfl) dX4_statement_116 ⟨Nat.zero_le _, Nat.zero_le _⟩ (fun H locs hB => ?_)
    have e0 := inj1 hf
    subst e0
    exact g_vret hx hb hr hlocks hK hB dX4_statement_119
  refine lv_if_eq (tgt := 27) hx hb dX4_statement_16 (by decide) (fun c9 => ?_) (fun c9 => ?_)
  · have hJ7 := ite_t c9 hJ7
    refine lv_aload_n hx hb dX4_statement_27 rfl (lv_at hl 1 rfl) ?_
    refine g_ldcS hx hb hown hJ 14 rfl dX4_statement_28 ?_
    obtain ⟨r10, μ11, hc, hJ7⟩ := ob2_s hJ7
    refine g_jcallVz (As := [.ref (kS 11)]) (rest := []) ⟨hx, hb, hml, hown, hts⟩ hJ (kX4_takeWord l dC dI cyI cyO ad kS H.size (by decide) hc) (cwV 1 hts gX4_statement_X4_takeWord rfl rfl rfl (by decide +kernel) ⟨Nat.le_of_ble_eq_true rfl, Nat.le_of_ble_eq_true rfl⟩) hK hB hA (g_recv (ci := 4) hK hB 0 rfl rfl rfl) rfl hl.1 rfl (Nat.le_of_ble_eq_true rfl) dX4_statement_30 ⟨Nat.zero_le _, Nat.zero_le _⟩ (fun z12 H locs hB => ?_)
    refine lv_if_eq (tgt := 44) hx hb dX4_statement_33 (by decide) (fun c13 => ?_) (fun c13 => ?_)
    · have hJ7 := ite_t c13 hJ7
      refine lv_aload_n hx hb dX4_statement_44 rfl (lv_at hl 1 rfl) ?_
      refine g_ldcS hx hb hown hJ 15 rfl dX4_statement_45 ?_
      obtain ⟨r14, μ15, hc, hJ7⟩ := ob2_s hJ7
      refine g_jcallVz (As := [.ref (kS 12)]) (rest := []) ⟨hx, hb, hml, hown, hts⟩ hJ (kX4_takeWord l dC dI cyI cyO ad kS H.size (by decide) hc) (cwV 1 hts gX4_statement_X4_takeWord rfl rfl rfl (by decide +kernel) ⟨Nat.le_of_ble_eq_true rfl, Nat.le_of_ble_eq_true rfl⟩) hK hB hA (g_recv (ci := 4) hK hB 0 rfl rfl rfl) rfl hl.1 rfl (Nat.le_of_ble_eq_true rfl) dX4_statement_47 ⟨Nat.zero_le _, Nat.zero_le _⟩ (fun z16 H locs hB => ?_)
      refine lv_if_eq (tgt := 75) hx hb dX4_statement_50 (by decide) (fun c17 => ?_) (fun c17 => ?_)
      · have hJ7 := ite_t c17 hJ7
        refine lv_aload_n hx hb dX4_statement_75 rfl (lv_at hl 1 rfl) ?_
        refine g_ldcS hx hb hown hJ 16 rfl dX4_statement_76 ?_
        obtain ⟨r18, μ19, hc, hJ7⟩ := ob2_s hJ7
        refine g_jcallVz (As := [.ref (kS 13)]) (rest := []) ⟨hx, hb, hml, hown, hts⟩ hJ (kX4_takeWord l dC dI cyI cyO ad kS H.size (by decide) hc) (cwV 1 hts gX4_statement_X4_takeWord rfl rfl rfl (by decide +kernel) ⟨Nat.le_of_ble_eq_true rfl, Nat.le_of_ble_eq_true rfl⟩) hK hB hA (g_recv (ci := 4) hK hB 0 rfl rfl rfl) rfl hl.1 rfl (Nat.le_of_ble_eq_true rfl) dX4_statement_78 ⟨Nat.zero_le _, Nat.zero_le _⟩ (fun z20 H locs hB => ?_)
        refine lv_if_eq (tgt := 106) hx hb dX4_statement_81 (by decide) (fun c21 => ?_) (fun c21 => ?_)
        · have hJ7 := ite_t c21 hJ7
          refine lv_aload_n hx hb dX4_statement_106 rfl (lv_at hl 1 rfl) ?_
          refine lv_bipush (v := (-2 : Int32)) hx hb dX4_statement_107 (by decide) ?_
          refine lv_iload_n hx hb dX4_statement_109 rfl (lv_at hl 0 rfl) ?_
          obtain ⟨μ22, hc, hJ7⟩ := ob1_s hJ7
          refine g_callVv (As := [.int (-2 : Int32), .int (μ2 4 0)]) (rest := []) ⟨hx, hb, hml, hown, hts⟩ (kX4_report l dC dI cyI cyO ad H.size hc) (cwV 2 hts gX4_statement_X4_report rfl rfl rfl (by decide +kernel) ⟨Nat.le_of_ble_eq_true rfl, Nat.le_of_ble_eq_true rfl⟩) hK hB hA (g_recv (ci := 4) hK hB 0 rfl rfl rfl) rfl hl.1 rfl (Nat.le_of_ble_eq_true rfl) dX4_statement_110 ⟨Nat.zero_le _, Nat.zero_le _⟩ (fun H locs hB => ?_)
          have e0 := inj1 hJ7
          subst e0
          exact kJ8 _ _ _ hB (lv_sub hl [1] rfl)
        · have hJ7 := ite_f c21 hJ7
          refine lv_aload_n hx hb dX4_statement_84 rfl (lv_at hl 1 rfl) ?_
          refine lv_iconst (v := (1 : Int32)) hx hb dX4_statement_85 (by decide) ?_
          refine lv_iload_n hx hb dX4_statement_86 rfl (lv_at hl 0 rfl) ?_
          obtain ⟨μ23, hc, hJ7⟩ := ob1_s hJ7
          refine g_callVv (As := [.int (1 : Int32), .int (μ2 4 0)]) (rest := []) ⟨hx, hb, hml, hown, hts⟩ (kX4_once l dC dI cyI cyO ad H.size hc) (cwV 2 hts gX4_statement_X4_once rfl rfl rfl (by decide +kernel) ⟨Nat.le_of_ble_eq_true rfl, Nat.le_of_ble_eq_true rfl⟩) hK hB hA (g_recv (ci := 4) hK hB 0 rfl rfl rfl) rfl hl.1 rfl (Nat.le_of_ble_eq_true rfl) dX4_statement_87 ⟨Nat.zero_le _, Nat.zero_le _⟩ (fun H locs hB => ?_)
          refine lv_aload_n hx hb dX4_statement_90 rfl (lv_at hl 1 rfl) ?_
          refine g_get (C := RX4) (T := TX4) (N := 15) hx hb hts hinX4 hown hK hB 0 rfl rfl 9 rfl hq2 rfl rfl dX4_statement_91 ?_
          refine lv_iconst (v := (5 : Int32)) hx hb dX4_statement_94 (by decide) ?_
          refine lv_aload_n hx hb dX4_statement_95 rfl (lv_at hl 1 rfl) ?_
          refine lv_iconst (v := (1 : Int32)) hx hb dX4_statement_96 (by decide) ?_
          refine lv_bipush (v := (9 : Int32)) hx hb dX4_statement_97 (by decide) ?_
          obtain ⟨r24, μ25, hc, hJ7⟩ := ob2_s hJ7
          refine g_callVi (As := [.int (1 : Int32), .int (9 : Int32)]) (rest := [.int (5 : Int32), .ref (ad 9)]) ⟨hx, hb, hml, hown, hts⟩ (kX4_number l dC dI cyI cyO ad H.size hc) (cwV 2 hts gX4_statement_X4_number rfl rfl rfl (by decide +kernel) ⟨Nat.le_of_ble_eq_true rfl, Nat.le_of_ble_eq_true rfl⟩) hK hB hA (g_recv (ci := 4) hK hB 0 rfl rfl rfl) rfl hl.1 rfl (Nat.le_of_ble_eq_true rfl) dX4_statement_99 ⟨Nat.zero_le _, Nat.zero_le _⟩ (fun H locs hB => ?_)
          obtain ⟨μ26, e9, hJ7⟩ := ob1_s hJ7
          obtain ⟨hi, e9⟩ := wra_s e9
          refine g_iast hx hb hK hB 3 0 rfl rfl hi rfl dX4_statement_102 (w2 := (cM cyI cyO ad μ26)) (by rw [← e9]; rfl) (fun H locs hB => ?_)
          refine lv_goto (tgt := 113) hx hb dX4_statement_103 (by decide) ?_
          have e0 := inj1 hJ7
          subst e0
          exact kJ8 _ _ _ hB (lv_sub hl [1] rfl)
      · have hJ7 := ite_f c17 hJ7
        refine lv_aload_n hx hb dX4_statement_53 rfl (lv_at hl 1 rfl) ?_
        refine lv_iconst (v := (0 : Int32)) hx hb dX4_statement_54 (by decide) ?_
        refine lv_iload_n hx hb dX4_statement_55 rfl (lv_at hl 0 rfl) ?_
        obtain ⟨μ27, hc, hJ7⟩ := ob1_s hJ7
        refine g_callVv (As := [.int (0 : Int32), .int (μ2 4 0)]) (rest := []) ⟨hx, hb, hml, hown, hts⟩ (kX4_once l dC dI cyI cyO ad H.size hc) (cwV 2 hts gX4_statement_X4_once rfl rfl rfl (by decide +kernel) ⟨Nat.le_of_ble_eq_true rfl, Nat.le_of_ble_eq_true rfl⟩) hK hB hA (g_recv (ci := 4) hK hB 0 rfl rfl rfl) rfl hl.1 rfl (Nat.le_of_ble_eq_true rfl) dX4_statement_56 ⟨Nat.zero_le _, Nat.zero_le _⟩ (fun H locs hB => ?_)
        refine lv_aload_n hx hb dX4_statement_59 rfl (lv_at hl 1 rfl) ?_
        refine g_get (C := RX4) (T := TX4) (N := 15) hx hb hts hinX4 hown hK hB 0 rfl rfl 9 rfl hq2 rfl rfl dX4_statement_60 ?_
        refine lv_iconst (v := (4 : Int32)) hx hb dX4_statement_63 (by decide) ?_
        refine lv_aload_n hx hb dX4_statement_64 rfl (lv_at hl 1 rfl) ?_
        refine lv_iconst (v := (1 : Int32)) hx hb dX4_statement_65 (by decide) ?_
        refine lv_bipush (v := (99 : Int32)) hx hb dX4_statement_66 (by decide) ?_
        obtain ⟨r28, μ29, hc, hJ7⟩ := ob2_s hJ7
        refine g_callVi (As := [.int (1 : Int32), .int (99 : Int32)]) (rest := [.int (4 : Int32), .ref (ad 9)]) ⟨hx, hb, hml, hown, hts⟩ (kX4_number l dC dI cyI cyO ad H.size hc) (cwV 2 hts gX4_statement_X4_number rfl rfl rfl (by decide +kernel) ⟨Nat.le_of_ble_eq_true rfl, Nat.le_of_ble_eq_true rfl⟩) hK hB hA (g_recv (ci := 4) hK hB 0 rfl rfl rfl) rfl hl.1 rfl (Nat.le_of_ble_eq_true rfl) dX4_statement_68 ⟨Nat.zero_le _, Nat.zero_le _⟩ (fun H locs hB => ?_)
        obtain ⟨μ30, e9, hJ7⟩ := ob1_s hJ7
        obtain ⟨hi, e9⟩ := wra_s e9
        refine g_iast hx hb hK hB 3 0 rfl rfl hi rfl dX4_statement_71 (w2 := (cM cyI cyO ad μ30)) (by rw [← e9]; rfl) (fun H locs hB => ?_)
        refine lv_goto (tgt := 113) hx hb dX4_statement_72 (by decide) ?_
        have e0 := inj1 hJ7
        subst e0
        exact kJ8 _ _ _ hB (lv_sub hl [1] rfl)
    · have hJ7 := ite_f c13 hJ7
      refine lv_aload_n hx hb dX4_statement_36 rfl (lv_at hl 1 rfl) ?_
      refine lv_iload_n hx hb dX4_statement_37 rfl (lv_at hl 0 rfl) ?_
      obtain ⟨μ31, hc, hJ7⟩ := ob1_s hJ7
      refine g_jcallVv (As := [.int (μ2 4 0)]) (rest := []) ⟨hx, hb, hml, hown, hts⟩ hJ (kX4_readJourney l dC dI cyI cyO ad kS H.size hc) (cwV 1 hts gX4_statement_X4_readJourney rfl rfl rfl (by decide +kernel) ⟨Nat.le_of_ble_eq_true rfl, Nat.le_of_ble_eq_true rfl⟩) hK hB hA (g_recv (ci := 4) hK hB 0 rfl rfl rfl) rfl hl.1 rfl (Nat.le_of_ble_eq_true rfl) dX4_statement_38 ⟨Nat.zero_le _, Nat.zero_le _⟩ (fun H locs hB => ?_)
      refine lv_goto (tgt := 113) hx hb dX4_statement_41 (by decide) ?_
      have e0 := inj1 hJ7
      subst e0
      exact kJ8 _ _ _ hB (lv_sub hl [1] rfl)
  · have hJ7 := ite_f c9 hJ7
    refine lv_aload_n hx hb dX4_statement_19 rfl (lv_at hl 1 rfl) ?_
    refine lv_iload_n hx hb dX4_statement_20 rfl (lv_at hl 0 rfl) ?_
    obtain ⟨μ32, hc, hJ7⟩ := ob1_s hJ7
    refine g_callVv (As := [.int (μ2 4 0)]) (rest := []) ⟨hx, hb, hml, hown, hts⟩ (kX4_readStock l dC dI cyI cyO ad H.size hc) (cwV 1 hts gX4_statement_X4_readStock rfl rfl rfl (by decide +kernel) ⟨Nat.le_of_ble_eq_true rfl, Nat.le_of_ble_eq_true rfl⟩) hK hB hA (g_recv (ci := 4) hK hB 0 rfl rfl rfl) rfl hl.1 rfl (Nat.le_of_ble_eq_true rfl) dX4_statement_21 ⟨Nat.zero_le _, Nat.zero_le _⟩ (fun H locs hB => ?_)
    refine lv_goto (tgt := 113) hx hb dX4_statement_24 (by decide) ?_
    have e0 := inj1 hJ7
    subst e0
    exact kJ8 _ _ _ hB (lv_sub hl [1] rfl)

abbrev rmX4_remember : Room := { frames := 1, cells := 0, slots := 0, locals := 22 }

set_option maxHeartbeats 4000000 in
set_option maxRecDepth 100000 in
theorem kX4_remember (l : Launch) (dC : Nat → ClassId) (dI : Nat → Nat → Nat) (cyI cyO : ClassId) (ad : Nat → Nat) (sz : Nat) {fu : Nat} {μ : MS} {μ_ : MS} (hf : mX4_remember fu μ = some μ_) : Met l yX4_remember wsX4_remember rmX4_remember (PcF (dC, dI) [(cyI, .int), (cyO, .array .int)] (cM cyI cyO ad μ) sz [.ref (ad 0)]) (QvF (dC, dI) [(cyI, .int), (cyO, .array .int)] (cM cyI cyO ad μ) (cM cyI cyO ad μ_) sz) 0 0 (va_A (cM cyI cyO ad μ) sz) := by
  refine Met.ofW (cc := cX4_remember) (maxL := 2) (ret := none) (by decide) rfl ?_
  intro p e s m args below meth c s₁ B hml hv
  obtain ⟨rfl, hsz, hP, hK, hD0⟩ := hv
  have hx := B.exec
  have hb := B.bytes
  have hr := B.returns
  have hts := atoms_spec (ws := wsX4_remember) B.pre
  have hown : s.vm.findClass RX4 = some m.cls := findClass_of_methodNamed B.named
  have hlocks := B.notSynchronized
  subst hsz
  have hA : ∀ q : Nat, s.heap.size ≤ q → va_A (cM cyI cyO ad μ) s.heap.size q := fun q h => Or.inr h
  have hB : Bd (dC, dI) [(cyI, .int), (cyO, .array .int)] (va_A (cM cyI cyO ad μ) s.heap.size) s (cM cyI cyO ad μ) s.heap [] := ⟨hP, hD0.self, va_S.rf⟩
  have hq1 : (Cond.fieldLink RX4 250 "UndoJourneysModel" "undoDepth" "I").before _ s = true := hts _ (List.mem_of_getElem? (i := 1) rfl)
  have hq2 : (Cond.fieldLink RX4 28 "UndoJourneysModel" "history" "[[I").before _ s = true := hts _ (List.mem_of_getElem? (i := 2) rfl)
  have hq3 : (Cond.fieldLink RX4 17 "UndoJourneysModel" "data" "[I").before _ s = true := hts _ (List.mem_of_getElem? (i := 3) rfl)
  have hinX4 : ∀ w ∈ wsX40, w ∈ wsX4_remember := fun w h => List.mem_cons_of_mem _ (List.mem_append_right _ h)
  have hl := lv_entry [.ref (ad 0)] (n := 2) (Nat.le_of_ble_eq_true rfl)
  rw [lg_entry_eq]
  generalize (lg_sl [.ref (ad 0)] ++ List.replicate (2 - (lg_sl [.ref (ad 0)]).length) Slot.unset).toArray = ls at hl ⊢
  have hl : lv_has ls 2 [(0, .ref (ad 0))] := hl
  clear hP hD0
  suffices main : ∀ (H : Heap) (locs : List Loc), Bd (dC, dI) [(cyI, .int), (cyO, .array .int)] (va_A (cM cyI cyO ad μ) s.heap.size) s (cM cyI cyO ad μ) H locs → W p l e (headSpec wsX4_remember rmX4_remember).room s m ([.ref (ad 0)] : List Value).toArray below meth c H locs 0 0 (MQ below (QvF (dC, dI) [(cyI, .int), (cyO, .array .int)] (cM cyI cyO ad μ) (cM cyI cyO ad μ_) s.heap.size) ([.ref (ad 0)] : List Value).toArray s 0 0 (va_A (cM cyI cyO ad μ) s.heap.size)) (F0 m 0 ls []) from main _ _ hB
  clear hB
  intro H locs hB
  unfold mX4_remember at hf
  refine lv_aload_n hx hb dX4_remember_0 rfl (lv_at hl 0 rfl) ?_
  refine g_get (C := RX4) (T := TX4) (N := 15) hx hb hts hinX4 hown hK hB 0 rfl rfl 12 rfl hq1 rfl rfl dX4_remember_1 ?_
  refine lv_bipush (v := (8 : Int32)) hx hb dX4_remember_4 (by decide) ?_
  obtain ⟨μ1, hJ2, hf⟩ := ob1_s hf
  have kJ3 : ∀ (H : Heap) (locs : List Loc) (ls : Array Slot), Bd (dC, dI) [(cyI, .int), (cyO, .array .int)] (va_A (cM cyI cyO ad μ) s.heap.size) s (cM cyI cyO ad μ1) H locs → lv_has ls 2 [(0, .ref (ad 0))] → W p l e (headSpec wsX4_remember rmX4_remember).room s m ([.ref (ad 0)] : List Value).toArray below meth c H locs 0 0 (MQ below (QvF (dC, dI) [(cyI, .int), (cyO, .array .int)] (cM cyI cyO ad μ) (cM cyI cyO ad μ_) s.heap.size) ([.ref (ad 0)] : List Value).toArray s 0 0 (va_A (cM cyI cyO ad μ) s.heap.size)) (F0 m 50 ls []) := by
    intro H locs ls hB hl
    refine lv_aload_n hx hb dX4_remember_50 rfl (lv_at hl 0 rfl) ?_
    refine g_get (C := RX4) (T := TX4) (N := 15) hx hb hts hinX4 hown hK hB 0 rfl rfl 8 rfl hq3 rfl rfl dX4_remember_51 ?_
    refine lv_aload_n hx hb dX4_remember_54 rfl (lv_at hl 0 rfl) ?_
    refine g_get (C := RX4) (T := TX4) (N := 15) hx hb hts hinX4 hown hK hB 0 rfl rfl 11 rfl hq2 rfl rfl dX4_remember_55 ?_
    refine lv_aload_n hx hb dX4_remember_58 rfl (lv_at hl 0 rfl) ?_
    refine g_get (C := RX4) (T := TX4) (N := 15) hx hb hts hinX4 hown hK hB 0 rfl rfl 12 rfl hq1 rfl rfl dX4_remember_59 ?_
    obtain ⟨j27, e9, hf⟩ := ob1_s hf
    obtain ⟨hjj27, e9⟩ := hix_s e9
    refine g_aald hx hb hK hB 5 1 rfl rfl e9 dX4_remember_62 ?_
    obtain ⟨f28, hc, hf⟩ := ob1_s hf
    obtain ⟨μ29, e9, hf⟩ := ob1_s hf
    have e9 := inj1 e9
    refine g_copy (rest := []) hx hb hml hown hts hc (va_cwS 2 hts gX4_remember_X4_copy rfl rfl rfl (by decide +kernel) ⟨Nat.le_of_ble_eq_true rfl, Nat.le_of_ble_eq_true rfl⟩) hK rfl hB hA 2 (6 + j27) rfl (hM_at cyI cyO ad _ hjj27) (by omega) (w2 := (cM cyI cyO ad μ29)) (by rw [← e9]; exact hM_set cyI cyO ad _ hjj27 _) hl.1 rfl (Nat.le_of_ble_eq_true rfl) dX4_remember_63 ⟨Nat.zero_le _, Nat.zero_le _⟩ (fun H locs hB => ?_)
    refine lv_aload_n hx hb dX4_remember_66 rfl (lv_at hl 0 rfl) ?_
    refine lv_dup hx hb dX4_remember_67 rfl ?_
    refine g_get (C := RX4) (T := TX4) (N := 15) hx hb hts hinX4 hown hK hB 0 rfl rfl 12 rfl hq1 rfl rfl dX4_remember_68 ?_
    refine lv_iconst (v := (1 : Int32)) hx hb dX4_remember_71 (by decide) ?_
    refine lv_iadd hx hb dX4_remember_72 ?_
    obtain ⟨μ30, e9, hf⟩ := ob1_s hf
    have e9 := inj1 e9
    refine g_put (C := RX4) (T := TX4) (N := 15) hx hb hts hinX4 tyX4 tyX4_ok nmX4 hown hK hB 0 rfl rfl 12 rfl hq1 rfl rfl rfl rfl rfl rfl dX4_remember_73 (w2 := (cM cyI cyO ad μ30)) (by rw [← e9]; rfl) (fun H locs hB => ?_)
    have e0 := inj1 hf
    subst e0
    exact g_vret hx hb hr hlocks hK hB dX4_remember_76
  refine lv_icmp_ne (tgt := 50) hx hb dX4_remember_6 (by decide) (fun c4 => ?_) (fun c4 => ?_)
  · have hJ2 := ite_f c4 hJ2
    have e0 := inj1 hJ2
    subst e0
    exact kJ3 _ _ _ hB (lv_sub hl [0] rfl)
  · have hJ2 := ite_t c4 hJ2
    refine lv_iconst (v := (1 : Int32)) hx hb dX4_remember_9 (by decide) ?_
    refine lv_istore_n (lv' := [(1, .int (1 : Int32)), (0, .ref (ad 0))]) hx hb dX4_remember_10 rfl hl (by decide) rfl (fun ls hl => ?_)
    obtain ⟨μ12, hL15, hJ2⟩ := ob1_s hJ2
    have kE13 : ∀ (H : Heap) (locs : List Loc) (ls : Array Slot), Bd (dC, dI) [(cyI, .int), (cyO, .array .int)] (va_A (cM cyI cyO ad μ) s.heap.size) s (cM cyI cyO ad μ12) H locs → lv_has ls 2 [(0, .ref (ad 0))] → W p l e (headSpec wsX4_remember rmX4_remember).room s m ([.ref (ad 0)] : List Value).toArray below meth c H locs 0 0 (MQ below (QvF (dC, dI) [(cyI, .int), (cyO, .array .int)] (cM cyI cyO ad μ) (cM cyI cyO ad μ_) s.heap.size) ([.ref (ad 0)] : List Value).toArray s 0 0 (va_A (cM cyI cyO ad μ) s.heap.size)) (F0 m 40 ls []) := by
      intro H locs ls hB hl
      refine lv_aload_n hx hb dX4_remember_40 rfl (lv_at hl 0 rfl) ?_
      refine lv_dup hx hb dX4_remember_41 rfl ?_
      refine g_get (C := RX4) (T := TX4) (N := 15) hx hb hts hinX4 hown hK hB 0 rfl rfl 12 rfl hq1 rfl rfl dX4_remember_42 ?_
      refine lv_iconst (v := (1 : Int32)) hx hb dX4_remember_45 (by decide) ?_
      refine lv_isub hx hb dX4_remember_46 ?_
      obtain ⟨μ17, e9, hJ2⟩ := ob1_s hJ2
      have e9 := inj1 e9
      refine g_put (C := RX4) (T := TX4) (N := 15) hx hb hts hinX4 tyX4 tyX4_ok nmX4 hown hK hB 0 rfl rfl 12 rfl hq1 rfl rfl rfl rfl rfl rfl dX4_remember_47 (w2 := (cM cyI cyO ad μ17)) (by rw [← e9]; rfl) (fun H locs hB => ?_)
      have e0 := inj1 hJ2
      subst e0
      exact kJ3 _ _ _ hB (lv_sub hl [0] rfl)
    have key14 : ∀ (n9 : Nat) (v19 : Int32) (μ20 : MS) (H : Heap) (locs : List Loc) (ls : Array Slot), loopM (fun st => mX4_remember_L11 fu st.1 st.2) n9 (v19, μ20) = some μ12 → Bd (dC, dI) [(cyI, .int), (cyO, .array .int)] (va_A (cM cyI cyO ad μ) s.heap.size) s (cM cyI cyO ad μ20) H locs → lv_has ls 2 [(1, .int v19), (0, .ref (ad 0))] → W p l e (headSpec wsX4_remember rmX4_remember).room s m ([.ref (ad 0)] : List Value).toArray below meth c H locs 0 0 (MQ below (QvF (dC, dI) [(cyI, .int), (cyO, .array .int)] (cM cyI cyO ad μ) (cM cyI cyO ad μ_) s.heap.size) ([.ref (ad 0)] : List Value).toArray s 0 0 (va_A (cM cyI cyO ad μ) s.heap.size)) (F0 m 11 ls []) := by
      intro n9
      induction n9 with
      | zero => intro v19 μ20 H locs ls hL15; exact (loopM_z hL15).elim
      | succ n9 ih9 =>
        intro v19 μ20 H locs ls hL15 hB hl
        obtain ⟨o21, hg16, hL15⟩ := loopM_s hL15
        have hg16 : mX4_remember_L11 fu v19 μ20 = some o21 := hg16
        unfold mX4_remember_L11 at hg16
        refine lv_iload_n hx hb dX4_remember_11 rfl (lv_at hl 0 rfl) ?_
        refine lv_bipush (v := (8 : Int32)) hx hb dX4_remember_12 (by decide) ?_
        refine lv_icmp_ge (tgt := 40) hx hb dX4_remember_14 (by decide) (fun c22 => ?_) (fun c22 => ?_)
        · have hg16 := ite_t c22 hg16
          have hL15 := el1_l (inj1 hg16) hL15
          have e0 := inj1 hL15
          subst e0
          exact kE13 _ _ _ hB (lv_sub hl [1] rfl)
        · have hg16 := ite_f c22 hg16
          refine lv_aload_n hx hb dX4_remember_17 rfl (lv_at hl 1 rfl) ?_
          refine g_get (C := RX4) (T := TX4) (N := 15) hx hb hts hinX4 hown hK hB 0 rfl rfl 11 rfl hq2 rfl rfl dX4_remember_18 ?_
          refine lv_iload_n hx hb dX4_remember_21 rfl (lv_at hl 0 rfl) ?_
          obtain ⟨j23, e9, hg16⟩ := ob1_s hg16
          obtain ⟨hjj23, e9⟩ := hix_s e9
          refine g_aald hx hb hK hB 5 1 rfl rfl e9 dX4_remember_22 ?_
          refine lv_aload_n hx hb dX4_remember_23 rfl (lv_at hl 1 rfl) ?_
          refine g_get (C := RX4) (T := TX4) (N := 15) hx hb hts hinX4 hown hK hB 0 rfl rfl 11 rfl hq2 rfl rfl dX4_remember_24 ?_
          refine lv_iload_n hx hb dX4_remember_27 rfl (lv_at hl 0 rfl) ?_
          refine lv_iconst (v := (1 : Int32)) hx hb dX4_remember_28 (by decide) ?_
          refine lv_isub hx hb dX4_remember_29 ?_
          obtain ⟨j24, e9, hg16⟩ := ob1_s hg16
          obtain ⟨hjj24, e9⟩ := hix_s e9
          refine g_aald hx hb hK hB 5 1 rfl rfl e9 dX4_remember_30 ?_
          obtain ⟨f25, hc, hg16⟩ := ob1_s hg16
          obtain ⟨μ26, e9, hg16⟩ := ob1_s hg16
          have e9 := inj1 e9
          obtain ⟨hne, hc⟩ := ite_n hc
          refine g_copy (rest := []) hx hb hml hown hts hc (va_cwS 2 hts gX4_remember_X4_copy rfl rfl rfl (by decide +kernel) ⟨Nat.le_of_ble_eq_true rfl, Nat.le_of_ble_eq_true rfl⟩) hK rfl hB hA (6 + j23) (6 + j24) (hM_at cyI cyO ad _ hjj23) (hM_at cyI cyO ad _ hjj24) (fun q => hne (Nat.add_left_cancel q)) (w2 := (cM cyI cyO ad μ26)) (by rw [← e9]; exact hM_set cyI cyO ad _ hjj24 _) hl.1 rfl (Nat.le_of_ble_eq_true rfl) dX4_remember_31 ⟨Nat.zero_le _, Nat.zero_le _⟩ (fun H locs hB => ?_)
          refine lv_iinc (v := (v19 + (1 : Int32))) (lv' := [(1, .int (v19 + (1 : Int32))), (0, .ref (ad 0))]) hx hb dX4_remember_34 hl (k := 0) rfl rfl (by decide) rfl (fun ls hl => ?_)
          refine lv_goto (tgt := 11) hx hb dX4_remember_37 (by decide) ?_
          have hL15 := el1_r (inj1 hg16) hL15
          exact ih9 _ _ _ _ _ hL15 hB (lv_sub hl [0, 1] rfl)
    exact key14 fu _ _ _ _ _ hL15 hB (lv_sub hl [0, 1] rfl)

abbrev rmX4_load : Room := { frames := 9, cells := 0, slots := 0, locals := 207 }

set_option maxHeartbeats 4000000 in
set_option maxRecDepth 100000 in
theorem kX4_load (l : Launch) (dC : Nat → ClassId) (dI : Nat → Nat → Nat) (cyI cyO : ClassId) (ad : Nat → Nat) (kS : Nat → Nat) (sz : Nat) {fu : Nat} {μ : MS} {i1 : Int32} {r : Int32} {μ_ : MS} (hf : mX4_load fu μ i1 = some (r, μ_)) : Met l yX4_load wsX4_load rmX4_load (PcJ (dC, dI) [(cyI, .int), (cyO, .array .int)] kS (cM cyI cyO ad μ) sz [.ref (ad 0), .int i1]) (QiF (dC, dI) [(cyI, .int), (cyO, .array .int)] (cM cyI cyO ad μ) (cM cyI cyO ad μ_) sz r) 0 0 (va_A (cM cyI cyO ad μ) sz) := by
  refine Met.ofW (cc := cX4_load) (maxL := 2) (ret := (some .int)) (by decide) rfl ?_
  intro p e s m args below meth c s₁ B hml hv
  obtain ⟨rfl, ⟨hsz, hP, hK, hD0⟩, hJ⟩ := hv
  have hx := B.exec
  have hb := B.bytes
  have hr := B.returns
  have hts := atoms_spec (ws := wsX4_load) B.pre
  have hown : s.vm.findClass RX4 = some m.cls := findClass_of_methodNamed B.named
  have hlocks := B.notSynchronized
  subst hsz
  have hA : ∀ q : Nat, s.heap.size ≤ q → va_A (cM cyI cyO ad μ) s.heap.size q := fun q h => Or.inr h
  have hB : Bd (dC, dI) [(cyI, .int), (cyO, .array .int)] (va_A (cM cyI cyO ad μ) s.heap.size) s (cM cyI cyO ad μ) s.heap [] := ⟨hP, hD0.self, va_S.rf⟩
  have hq1 : (Cond.fieldLink RX4 35 "UndoJourneysModel" "thrown" "I").before _ s = true := hts _ (List.mem_of_getElem? (i := 1) rfl)
  have hq2 : (Cond.fieldLink RX4 38 "UndoJourneysModel" "bufferLength" "I").before _ s = true := hts _ (List.mem_of_getElem? (i := 2) rfl)
  have hq3 : (Cond.fieldLink RX4 41 "UndoJourneysModel" "textLength" "I").before _ s = true := hts _ (List.mem_of_getElem? (i := 3) rfl)
  have hq4 : (Cond.fieldLink RX4 44 "UndoJourneysModel" "position" "I").before _ s = true := hts _ (List.mem_of_getElem? (i := 4) rfl)
  have hq5 : (Cond.fieldLink RX4 51 "UndoJourneysModel" "error" "I").before _ s = true := hts _ (List.mem_of_getElem? (i := 5) rfl)
  have hq6 : (Cond.fieldLink RX4 54 "UndoJourneysModel" "errorAt" "I").before _ s = true := hts _ (List.mem_of_getElem? (i := 6) rfl)
  have hq7 : (Cond.fieldLink RX4 94 "UndoJourneysModel" "seen" "I").before _ s = true := hts _ (List.mem_of_getElem? (i := 7) rfl)
  have hq8 : (Cond.fieldLink RX4 20 "UndoJourneysModel" "draft" "[I").before _ s = true := hts _ (List.mem_of_getElem? (i := 8) rfl)
  have hq9 : (Cond.fieldLink RX4 13 "UndoJourneysModel" "errorOffset" "I").before _ s = true := hts _ (List.mem_of_getElem? (i := 9) rfl)
  have hq10 : (Cond.fieldLink RX4 17 "UndoJourneysModel" "data" "[I").before _ s = true := hts _ (List.mem_of_getElem? (i := 10) rfl)
  have hinX4 : ∀ w ∈ wsX40, w ∈ wsX4_load := fun w h => List.mem_cons_of_mem _ (List.mem_append_right _ h)
  have hl := lv_entry [.ref (ad 0), .int i1] (n := 2) (Nat.le_of_ble_eq_true rfl)
  rw [lg_entry_eq]
  generalize (lg_sl [.ref (ad 0), .int i1] ++ List.replicate (2 - (lg_sl [.ref (ad 0), .int i1]).length) Slot.unset).toArray = ls at hl ⊢
  have hl : lv_has ls 2 [(0, .ref (ad 0)), (1, .int i1)] := hl
  clear hP hD0
  suffices main : ∀ (H : Heap) (locs : List Loc), Bd (dC, dI) [(cyI, .int), (cyO, .array .int)] (va_A (cM cyI cyO ad μ) s.heap.size) s (cM cyI cyO ad μ) H locs → W p l e (headSpec wsX4_load rmX4_load).room s m ([.ref (ad 0), .int i1] : List Value).toArray below meth c H locs 0 0 (MQ below (QiF (dC, dI) [(cyI, .int), (cyO, .array .int)] (cM cyI cyO ad μ) (cM cyI cyO ad μ_) s.heap.size r) ([.ref (ad 0), .int i1] : List Value).toArray s 0 0 (va_A (cM cyI cyO ad μ) s.heap.size)) (F0 m 0 ls []) from main _ _ hB
  clear hB
  intro H locs hB
  unfold mX4_load at hf
  refine lv_aload_n hx hb dX4_load_0 rfl (lv_at hl 0 rfl) ?_
  refine lv_iconst (v := (0 : Int32)) hx hb dX4_load_1 (by decide) ?_
  obtain ⟨μ1, e9, hf⟩ := ob1_s hf
  have e9 := inj1 e9
  refine g_put (C := RX4) (T := TX4) (N := 15) hx hb hts hinX4 tyX4 tyX4_ok nmX4 hown hK hB 0 rfl rfl 0 rfl hq1 rfl rfl rfl rfl rfl rfl dX4_load_2 (w2 := (cM cyI cyO ad μ1)) (by rw [← e9]; rfl) (fun H locs hB => ?_)
  refine lv_aload_n hx hb dX4_load_5 rfl (lv_at hl 0 rfl) ?_
  refine lv_iload_n hx hb dX4_load_6 rfl (lv_at hl 1 rfl) ?_
  refine lv_iconst (v := (0 : Int32)) hx hb dX4_load_7 (by decide) ?_
  refine lv_aload_n hx hb dX4_load_8 rfl (lv_at hl 0 rfl) ?_
  refine g_get (C := RX4) (T := TX4) (N := 15) hx hb hts hinX4 hown hK hB 0 rfl rfl 2 rfl hq2 rfl rfl dX4_load_9 ?_
  obtain ⟨r2, hc, hf⟩ := ob1_s hf
  refine g_pcutSz (As := [.int i1, .int (0 : Int32), .int (μ1 2 0)]) (rest := [.ref (ad 0)]) (w2 := (cM cyI cyO ad μ1)) ⟨hx, hb, hml, hown, hts⟩ (kX4_in l dC dI [(cyI, .int), (cyO, .array .int)] H.size hc) (va_cwS 3 hts gX4_load_X4_in rfl rfl rfl (by decide +kernel) ⟨Nat.le_of_ble_eq_true rfl, Nat.le_of_ble_eq_true rfl⟩) hK hB hA (List.Perm.refl _) (List.Perm.refl _) rfl hl.1 rfl (Nat.le_of_ble_eq_true rfl) dX4_load_12 ⟨Nat.zero_le _, Nat.zero_le _⟩ (fun z3 H locs hB => ?_)
  obtain ⟨v4, hJ6, hf⟩ := ob1_s hf
  have kJ7 : (v4 = 0 ∨ v4 = 1) → ∀ (H : Heap) (locs : List Loc) (ls : Array Slot), Bd (dC, dI) [(cyI, .int), (cyO, .array .int)] (va_A (cM cyI cyO ad μ) s.heap.size) s (cM cyI cyO ad μ1) H locs → lv_has ls 2 [(0, .ref (ad 0)), (1, .int i1)] → W p l e (headSpec wsX4_load rmX4_load).room s m ([.ref (ad 0), .int i1] : List Value).toArray below meth c H locs 0 0 (MQ below (QiF (dC, dI) [(cyI, .int), (cyO, .array .int)] (cM cyI cyO ad μ) (cM cyI cyO ad μ_) s.heap.size r) ([.ref (ad 0), .int i1] : List Value).toArray s 0 0 (va_A (cM cyI cyO ad μ) s.heap.size)) (F0 m 23 ls [.int v4, .ref (ad 0)]) := by
    intro z5 H locs ls hB hl
    refine lv_iconst (v := (1 : Int32)) hx hb dX4_load_23 (by decide) ?_
    obtain ⟨r9, μ10, hc, hf⟩ := ob2_s hf
    refine g_callVz (As := [.int v4, .int (1 : Int32)]) (rest := []) ⟨hx, hb, hml, hown, hts⟩ (kX4_fails l dC dI cyI cyO ad H.size hc) (cwV 2 hts gX4_load_X4_fails rfl rfl rfl (by decide +kernel) ⟨Nat.le_of_ble_eq_true rfl, Nat.le_of_ble_eq_true rfl⟩) hK hB hA (g_recv (ci := 4) hK hB 0 rfl rfl rfl) rfl hl.1 rfl (Nat.le_of_ble_eq_true rfl) dX4_load_24 ⟨Nat.zero_le _, Nat.zero_le _⟩ (fun z11 H locs hB => ?_)
    refine lv_if_eq (tgt := 32) hx hb dX4_load_27 (by decide) (fun c12 => ?_) (fun c12 => ?_)
    · have hf := ite_t c12 hf
      refine lv_aload_n hx hb dX4_load_32 rfl (lv_at hl 0 rfl) ?_
      refine lv_iconst (v := (0 : Int32)) hx hb dX4_load_33 (by decide) ?_
      obtain ⟨μ13, e9, hf⟩ := ob1_s hf
      have e9 := inj1 e9
      refine g_put (C := RX4) (T := TX4) (N := 15) hx hb hts hinX4 tyX4 tyX4_ok nmX4 hown hK hB 0 rfl rfl 2 rfl hq2 rfl rfl rfl rfl rfl rfl dX4_load_34 (w2 := (cM cyI cyO ad μ13)) (by rw [← e9]; rfl) (fun H locs hB => ?_)
      refine lv_aload_n hx hb dX4_load_37 rfl (lv_at hl 0 rfl) ?_
      refine lv_iload_n hx hb dX4_load_38 rfl (lv_at hl 1 rfl) ?_
      obtain ⟨μ14, e9, hf⟩ := ob1_s hf
      have e9 := inj1 e9
      refine g_put (C := RX4) (T := TX4) (N := 15) hx hb hts hinX4 tyX4 tyX4_ok nmX4 hown hK hB 0 rfl rfl 3 rfl hq3 rfl rfl rfl rfl rfl rfl dX4_load_39 (w2 := (cM cyI cyO ad μ14)) (by rw [← e9]; rfl) (fun H locs hB => ?_)
      refine lv_aload_n hx hb dX4_load_42 rfl (lv_at hl 0 rfl) ?_
      refine lv_iconst (v := (0 : Int32)) hx hb dX4_load_43 (by decide) ?_
      obtain ⟨μ15, e9, hf⟩ := ob1_s hf
      have e9 := inj1 e9
      refine g_put (C := RX4) (T := TX4) (N := 15) hx hb hts hinX4 tyX4 tyX4_ok nmX4 hown hK hB 0 rfl rfl 4 rfl hq4 rfl rfl rfl rfl rfl rfl dX4_load_44 (w2 := (cM cyI cyO ad μ15)) (by rw [← e9]; rfl) (fun H locs hB => ?_)
      refine lv_aload_n hx hb dX4_load_47 rfl (lv_at hl 0 rfl) ?_
      refine lv_iconst (v := (0 : Int32)) hx hb dX4_load_48 (by decide) ?_
      obtain ⟨μ16, e9, hf⟩ := ob1_s hf
      have e9 := inj1 e9
      refine g_put (C := RX4) (T := TX4) (N := 15) hx hb hts hinX4 tyX4 tyX4_ok nmX4 hown hK hB 0 rfl rfl 5 rfl hq5 rfl rfl rfl rfl rfl rfl dX4_load_49 (w2 := (cM cyI cyO ad μ16)) (by rw [← e9]; rfl) (fun H locs hB => ?_)
      refine lv_aload_n hx hb dX4_load_52 rfl (lv_at hl 0 rfl) ?_
      refine lv_iconst (v := (-1 : Int32)) hx hb dX4_load_53 (by decide) ?_
      obtain ⟨μ17, e9, hf⟩ := ob1_s hf
      have e9 := inj1 e9
      refine g_put (C := RX4) (T := TX4) (N := 15) hx hb hts hinX4 tyX4 tyX4_ok nmX4 hown hK hB 0 rfl rfl 6 rfl hq6 rfl rfl rfl rfl rfl rfl dX4_load_54 (w2 := (cM cyI cyO ad μ17)) (by rw [← e9]; rfl) (fun H locs hB => ?_)
      refine lv_aload_n hx hb dX4_load_57 rfl (lv_at hl 0 rfl) ?_
      refine lv_iconst (v := (0 : Int32)) hx hb dX4_load_58 (by decide) ?_
      obtain ⟨μ18, e9, hf⟩ := ob1_s hf
      have e9 := inj1 e9
      refine g_put (C := RX4) (T := TX4) (N := 15) hx hb hts hinX4 tyX4 tyX4_ok nmX4 hown hK hB 0 rfl rfl 14 rfl hq7 rfl rfl rfl rfl rfl rfl dX4_load_59 (w2 := (cM cyI cyO ad μ18)) (by rw [← e9]; rfl) (fun H locs hB => ?_)
      refine lv_aload_n hx hb dX4_load_62 rfl (lv_at hl 0 rfl) ?_
      refine g_get (C := RX4) (T := TX4) (N := 15) hx hb hts hinX4 hown hK hB 0 rfl rfl 9 rfl hq8 rfl rfl dX4_load_63 ?_
      obtain ⟨f19, hc, hf⟩ := ob1_s hf
      obtain ⟨μ20, e9, hf⟩ := ob1_s hf
      have e9 := inj1 e9
      refine g_cutSv (As := [.ref (ad 9)]) (rest := []) (w2 := (cM cyI cyO ad μ20)) ⟨hx, hb, hml, hown, hts⟩ (kX4_layUsual l dC dI cyI (ad 9) H.size hc) (va_cwS 1 hts gX4_load_X4_layUsual rfl rfl rfl (by decide +kernel) ⟨Nat.le_of_ble_eq_true rfl, Nat.le_of_ble_eq_true rfl⟩) (hK.sub [0] rfl) hB hA [3] rfl rfl rfl (by rw [← e9]; rfl) rfl hl.1 rfl (Nat.le_of_ble_eq_true rfl) dX4_load_66 ⟨Nat.zero_le _, Nat.zero_le _⟩ (fun H locs hB => ?_)
      refine lv_aload_n hx hb dX4_load_69 rfl (lv_at hl 0 rfl) ?_
      refine g_ldcS hx hb hown hJ 17 rfl dX4_load_70 ?_
      obtain ⟨r21, μ22, hc, hf⟩ := ob2_s hf
      refine g_jcallVz (As := [.ref (kS 9)]) (rest := []) ⟨hx, hb, hml, hown, hts⟩ hJ (kX4_takeWord l dC dI cyI cyO ad kS H.size (by decide) hc) (cwV 1 hts gX4_load_X4_takeWord rfl rfl rfl (by decide +kernel) ⟨Nat.le_of_ble_eq_true rfl, Nat.le_of_ble_eq_true rfl⟩) hK hB hA (g_recv (ci := 4) hK hB 0 rfl rfl rfl) rfl hl.1 rfl (Nat.le_of_ble_eq_true rfl) dX4_load_72 ⟨Nat.zero_le _, Nat.zero_le _⟩ (fun z23 H locs hB => ?_)
      obtain ⟨μ24, hJ25, hf⟩ := ob1_s hf
      have kJ26 : ∀ (H : Heap) (locs : List Loc) (ls : Array Slot), Bd (dC, dI) [(cyI, .int), (cyO, .array .int)] (va_A (cM cyI cyO ad μ) s.heap.size) s (cM cyI cyO ad μ24) H locs → lv_has ls 2 [(0, .ref (ad 0))] → W p l e (headSpec wsX4_load rmX4_load).room s m ([.ref (ad 0), .int i1] : List Value).toArray below meth c H locs 0 0 (MQ below (QiF (dC, dI) [(cyI, .int), (cyO, .array .int)] (cM cyI cyO ad μ) (cM cyI cyO ad μ_) s.heap.size r) ([.ref (ad 0), .int i1] : List Value).toArray s 0 0 (va_A (cM cyI cyO ad μ) s.heap.size)) (F0 m 88 ls []) := by
        intro H locs ls hB hl
        refine lv_aload_n hx hb dX4_load_88 rfl (lv_at hl 0 rfl) ?_
        refine lv_bipush (v := (59 : Int32)) hx hb dX4_load_89 (by decide) ?_
        obtain ⟨μ29, hc, hf⟩ := ob1_s hf
        refine g_callVv (As := [.int (59 : Int32)]) (rest := []) ⟨hx, hb, hml, hown, hts⟩ (kX4_expect l dC dI cyI cyO ad H.size hc) (cwV 1 hts gX4_load_X4_expect rfl rfl rfl (by decide +kernel) ⟨Nat.le_of_ble_eq_true rfl, Nat.le_of_ble_eq_true rfl⟩) hK hB hA (g_recv (ci := 4) hK hB 0 rfl rfl rfl) rfl hl.1 rfl (Nat.le_of_ble_eq_true rfl) dX4_load_91 ⟨Nat.zero_le _, Nat.zero_le _⟩ (fun H locs hB => ?_)
        obtain ⟨μ41, hL44, hf⟩ := ob1_s hf
        have kE42 : ∀ (H : Heap) (locs : List Loc) (ls : Array Slot), Bd (dC, dI) [(cyI, .int), (cyO, .array .int)] (va_A (cM cyI cyO ad μ) s.heap.size) s (cM cyI cyO ad μ41) H locs → lv_has ls 2 [(0, .ref (ad 0))] → W p l e (headSpec wsX4_load rmX4_load).room s m ([.ref (ad 0), .int i1] : List Value).toArray below meth c H locs 0 0 (MQ below (QiF (dC, dI) [(cyI, .int), (cyO, .array .int)] (cM cyI cyO ad μ) (cM cyI cyO ad μ_) s.heap.size r) ([.ref (ad 0), .int i1] : List Value).toArray s 0 0 (va_A (cM cyI cyO ad μ) s.heap.size)) (F0 m 116 ls []) := by
          intro H locs ls hB hl
          refine lv_aload_n hx hb dX4_load_116 rfl (lv_at hl 0 rfl) ?_
          refine lv_aload_n hx hb dX4_load_117 rfl (lv_at hl 0 rfl) ?_
          refine g_get (C := RX4) (T := TX4) (N := 15) hx hb hts hinX4 hown hK hB 0 rfl rfl 6 rfl hq6 rfl rfl dX4_load_118 ?_
          obtain ⟨μ46, e9, hf⟩ := ob1_s hf
          have e9 := inj1 e9
          refine g_put (C := RX4) (T := TX4) (N := 15) hx hb hts hinX4 tyX4 tyX4_ok nmX4 hown hK hB 0 rfl rfl 7 rfl hq9 rfl rfl rfl rfl rfl rfl dX4_load_121 (w2 := (cM cyI cyO ad μ46)) (by rw [← e9]; rfl) (fun H locs hB => ?_)
          refine lv_aload_n hx hb dX4_load_124 rfl (lv_at hl 0 rfl) ?_
          obtain ⟨r47, hc, hf⟩ := ob1_s hf
          refine g_callVz (As := []) (rest := []) ⟨hx, hb, hml, hown, hts⟩ (kX4_isGood l dC dI cyI cyO ad H.size hc) (cwV 0 hts gX4_load_X4_isGood rfl rfl rfl (by decide +kernel) ⟨Nat.le_of_ble_eq_true rfl, Nat.le_of_ble_eq_true rfl⟩) hK hB hA (g_recv (ci := 4) hK hB 0 rfl rfl rfl) rfl hl.1 rfl (Nat.le_of_ble_eq_true rfl) dX4_load_125 ⟨Nat.zero_le _, Nat.zero_le _⟩ (fun z48 H locs hB => ?_)
          refine lv_if_ne (tgt := 136) hx hb dX4_load_128 (by decide) (fun c49 => ?_) (fun c49 => ?_)
          · have hf := ite_f c49 hf
            refine lv_aload_n hx hb dX4_load_136 rfl (lv_at hl 0 rfl) ?_
            obtain ⟨μ50, hc, hf⟩ := ob1_s hf
            refine g_callVv (As := []) (rest := []) ⟨hx, hb, hml, hown, hts⟩ (kX4_remember l dC dI cyI cyO ad H.size hc) (cwV 0 hts gX4_load_X4_remember rfl rfl rfl (by decide +kernel) ⟨Nat.le_of_ble_eq_true rfl, Nat.le_of_ble_eq_true rfl⟩) hK hB hA (g_recv (ci := 4) hK hB 0 rfl rfl rfl) rfl hl.1 rfl (Nat.le_of_ble_eq_true rfl) dX4_load_137 ⟨Nat.zero_le _, Nat.zero_le _⟩ (fun H locs hB => ?_)
            refine lv_aload_n hx hb dX4_load_140 rfl (lv_at hl 0 rfl) ?_
            refine g_get (C := RX4) (T := TX4) (N := 15) hx hb hts hinX4 hown hK hB 0 rfl rfl 9 rfl hq8 rfl rfl dX4_load_141 ?_
            refine lv_aload_n hx hb dX4_load_144 rfl (lv_at hl 0 rfl) ?_
            refine g_get (C := RX4) (T := TX4) (N := 15) hx hb hts hinX4 hown hK hB 0 rfl rfl 8 rfl hq10 rfl rfl dX4_load_145 ?_
            obtain ⟨f51, hc, hf⟩ := ob1_s hf
            obtain ⟨μ52, e9, hf⟩ := ob1_s hf
            have e9 := inj1 e9
            refine g_copy (rest := []) hx hb hml hown hts hc (va_cwS 2 hts gX4_load_X4_copy rfl rfl rfl (by decide +kernel) ⟨Nat.le_of_ble_eq_true rfl, Nat.le_of_ble_eq_true rfl⟩) hK rfl hB hA 3 2 rfl rfl (by decide) (w2 := (cM cyI cyO ad μ52)) (by rw [← e9]; rfl) hl.1 rfl (Nat.le_of_ble_eq_true rfl) dX4_load_148 ⟨Nat.zero_le _, Nat.zero_le _⟩ (fun H locs hB => ?_)
            refine lv_aload_n hx hb dX4_load_151 rfl (lv_at hl 0 rfl) ?_
            refine g_get (C := RX4) (T := TX4) (N := 15) hx hb hts hinX4 hown hK hB 0 rfl rfl 8 rfl hq10 rfl rfl dX4_load_152 ?_
            refine lv_iconst (v := (2 : Int32)) hx hb dX4_load_155 (by decide) ?_
            obtain ⟨x53, e9, hf⟩ := ob1_s hf
            refine g_iald hx hb hK hB 2 0 rfl rfl (rd_s e9) dX4_load_156 ?_
            obtain ⟨e0, e1⟩ := inj2 hf
            subst e0
            subst e1
            exact g_iret hx hb hr hlocks hK hB dX4_load_157
          · have hf := ite_t c49 hf
            refine lv_aload_n hx hb dX4_load_131 rfl (lv_at hl 0 rfl) ?_
            refine g_get (C := RX4) (T := TX4) (N := 15) hx hb hts hinX4 hown hK hB 0 rfl rfl 5 rfl hq5 rfl rfl dX4_load_132 ?_
            obtain ⟨e0, e1⟩ := inj2 hf
            subst e0
            subst e1
            exact g_iret hx hb hr hlocks hK hB dX4_load_135
        have key43 : ∀ (n9 : Nat) (μ55 : MS) (H : Heap) (locs : List Loc) (ls : Array Slot), loopM (fun st => mX4_load_L94 fu st) n9 μ55 = some μ41 → Bd (dC, dI) [(cyI, .int), (cyO, .array .int)] (va_A (cM cyI cyO ad μ) s.heap.size) s (cM cyI cyO ad μ55) H locs → lv_has ls 2 [(0, .ref (ad 0))] → W p l e (headSpec wsX4_load rmX4_load).room s m ([.ref (ad 0), .int i1] : List Value).toArray below meth c H locs 0 0 (MQ below (QiF (dC, dI) [(cyI, .int), (cyO, .array .int)] (cM cyI cyO ad μ) (cM cyI cyO ad μ_) s.heap.size r) ([.ref (ad 0), .int i1] : List Value).toArray s 0 0 (va_A (cM cyI cyO ad μ) s.heap.size)) (F0 m 94 ls []) := by
          intro n9
          induction n9 with
          | zero => intro μ55 H locs ls hL44; exact (loopM_z hL44).elim
          | succ n9 ih9 =>
            intro μ55 H locs ls hL44 hB hl
            obtain ⟨o56, hg45, hL44⟩ := loopM_s hL44
            have hg45 : mX4_load_L94 fu μ55 = some o56 := hg45
            unfold mX4_load_L94 at hg45
            refine lv_aload_n hx hb dX4_load_94 rfl (lv_at hl 0 rfl) ?_
            obtain ⟨r57, hc, hg45⟩ := ob1_s hg45
            refine g_callVz (As := []) (rest := []) ⟨hx, hb, hml, hown, hts⟩ (kX4_isGood l dC dI cyI cyO ad H.size hc) (cwV 0 hts gX4_load_X4_isGood rfl rfl rfl (by decide +kernel) ⟨Nat.le_of_ble_eq_true rfl, Nat.le_of_ble_eq_true rfl⟩) hK hB hA (g_recv (ci := 4) hK hB 0 rfl rfl rfl) rfl hl.1 rfl (Nat.le_of_ble_eq_true rfl) dX4_load_95 ⟨Nat.zero_le _, Nat.zero_le _⟩ (fun z58 H locs hB => ?_)
            obtain ⟨t59, μ60, hD61, hg45⟩ := ob2_s hg45
            have kTt59 : t59 = true → ∀ (H : Heap) (locs : List Loc), Bd (dC, dI) [(cyI, .int), (cyO, .array .int)] (va_A (cM cyI cyO ad μ) s.heap.size) s (cM cyI cyO ad μ60) H locs → W p l e (headSpec wsX4_load rmX4_load).room s m ([.ref (ad 0), .int i1] : List Value).toArray below meth c H locs 0 0 (MQ below (QiF (dC, dI) [(cyI, .int), (cyO, .array .int)] (cM cyI cyO ad μ) (cM cyI cyO ad μ_) s.heap.size r) ([.ref (ad 0), .int i1] : List Value).toArray s 0 0 (va_A (cM cyI cyO ad μ) s.heap.size)) (F0 m 109 ls []) := by
              intro ht H locs hB
              have hg45 := cnd_t ht hg45
              refine lv_aload_n hx hb dX4_load_109 rfl (lv_at hl 0 rfl) ?_
              obtain ⟨μ66, hc, hg45⟩ := ob1_s hg45
              refine g_jcallVv (As := []) (rest := []) ⟨hx, hb, hml, hown, hts⟩ hJ (kX4_statement l dC dI cyI cyO ad kS H.size hc) (cwV 0 hts gX4_load_X4_statement rfl rfl rfl (by decide +kernel) ⟨Nat.le_of_ble_eq_true rfl, Nat.le_of_ble_eq_true rfl⟩) hK hB hA (g_recv (ci := 4) hK hB 0 rfl rfl rfl) rfl hl.1 rfl (Nat.le_of_ble_eq_true rfl) dX4_load_110 ⟨Nat.zero_le _, Nat.zero_le _⟩ (fun H locs hB => ?_)
              refine lv_goto (tgt := 94) hx hb dX4_load_113 (by decide) ?_
              have hL44 := el1_r (inj1 hg45) hL44
              exact ih9 _ _ _ _ hL44 hB (lv_sub hl [0] rfl)
            have kFt59 : t59 = false → ∀ (H : Heap) (locs : List Loc), Bd (dC, dI) [(cyI, .int), (cyO, .array .int)] (va_A (cM cyI cyO ad μ) s.heap.size) s (cM cyI cyO ad μ60) H locs → W p l e (headSpec wsX4_load rmX4_load).room s m ([.ref (ad 0), .int i1] : List Value).toArray below meth c H locs 0 0 (MQ below (QiF (dC, dI) [(cyI, .int), (cyO, .array .int)] (cM cyI cyO ad μ) (cM cyI cyO ad μ_) s.heap.size r) ([.ref (ad 0), .int i1] : List Value).toArray s 0 0 (va_A (cM cyI cyO ad μ) s.heap.size)) (F0 m 116 ls []) := by
              intro ht H locs hB
              have hg45 := cnd_f ht hg45
              have hL44 := el1_l (inj1 hg45) hL44
              have e0 := inj1 hL44
              subst e0
              exact kE42 _ _ _ hB (lv_sub hl [0] rfl)
            refine lv_if_eq (tgt := 116) hx hb dX4_load_98 (by decide) (fun c62 => ?_) (fun c62 => ?_)
            · have hD61 := ite_t c62 hD61
              obtain ⟨e0, e1⟩ := inj2 hD61
              subst e1
              exact kFt59 e0.symm _ _ hB
            · have hD61 := ite_f c62 hD61
              refine lv_aload_n hx hb dX4_load_101 rfl (lv_at hl 0 rfl) ?_
              obtain ⟨r63, μ64, hc, hD61⟩ := ob2_s hD61
              refine g_callVi (As := []) (rest := []) ⟨hx, hb, hml, hown, hts⟩ (kX4_next l dC dI cyI cyO ad H.size hc) (cwV 0 hts gX4_load_X4_next rfl rfl rfl (by decide +kernel) ⟨Nat.le_of_ble_eq_true rfl, Nat.le_of_ble_eq_true rfl⟩) hK hB hA (g_recv (ci := 4) hK hB 0 rfl rfl rfl) rfl hl.1 rfl (Nat.le_of_ble_eq_true rfl) dX4_load_102 ⟨Nat.zero_le _, Nat.zero_le _⟩ (fun H locs hB => ?_)
              refine lv_iconst (v := (-1 : Int32)) hx hb dX4_load_105 (by decide) ?_
              refine lv_icmp_eq (tgt := 116) hx hb dX4_load_106 (by decide) (fun c65 => ?_) (fun c65 => ?_)
              · have hD61 := ite_t c65 hD61
                obtain ⟨e0, e1⟩ := inj2 hD61
                subst e1
                exact kFt59 e0.symm _ _ hB
              · have hD61 := ite_f c65 hD61
                obtain ⟨e0, e1⟩ := inj2 hD61
                subst e1
                exact kTt59 e0.symm _ _ hB
        exact key43 fu _ _ _ _ hL44 hB (lv_sub hl [0] rfl)
      refine lv_if_ne (tgt := 88) hx hb dX4_load_75 (by decide) (fun c27 => ?_) (fun c27 => ?_)
      · have hJ25 := ite_f c27 hJ25
        have e0 := inj1 hJ25
        subst e0
        exact kJ26 _ _ _ hB (lv_sub hl [0] rfl)
      · have hJ25 := ite_t c27 hJ25
        refine lv_aload_n hx hb dX4_load_78 rfl (lv_at hl 0 rfl) ?_
        refine lv_bipush (v := (-2 : Int32)) hx hb dX4_load_79 (by decide) ?_
        refine lv_aload_n hx hb dX4_load_81 rfl (lv_at hl 0 rfl) ?_
        refine g_get (C := RX4) (T := TX4) (N := 15) hx hb hts hinX4 hown hK hB 0 rfl rfl 4 rfl hq4 rfl rfl dX4_load_82 ?_
        obtain ⟨μ28, hc, hJ25⟩ := ob1_s hJ25
        refine g_callVv (As := [.int (-2 : Int32), .int (μ22 4 0)]) (rest := []) ⟨hx, hb, hml, hown, hts⟩ (kX4_report l dC dI cyI cyO ad H.size hc) (cwV 2 hts gX4_load_X4_report rfl rfl rfl (by decide +kernel) ⟨Nat.le_of_ble_eq_true rfl, Nat.le_of_ble_eq_true rfl⟩) hK hB hA (g_recv (ci := 4) hK hB 0 rfl rfl rfl) rfl hl.1 rfl (Nat.le_of_ble_eq_true rfl) dX4_load_85 ⟨Nat.zero_le _, Nat.zero_le _⟩ (fun H locs hB => ?_)
        have e0 := inj1 hJ25
        subst e0
        exact kJ26 _ _ _ hB (lv_sub hl [0] rfl)
    · have hf := ite_f c12 hf
      refine lv_iconst (v := (0 : Int32)) hx hb dX4_load_30 (by decide) ?_
      obtain ⟨e0, e1⟩ := inj2 hf
      subst e0
      subst e1
      exact g_iret hx hb hr hlocks hK hB dX4_load_31
  refine lv_if_ne (tgt := 22) hx hb dX4_load_15 (by decide) (fun c8 => ?_) (fun c8 => ?_)
  · have hJ6 := ite_f c8 hJ6
    refine lv_iconst (v := (0 : Int32)) hx hb dX4_load_22 (by decide) ?_
    have e0 := inj1 hJ6
    subst e0
    exact kJ7 (Or.inl rfl) _ _ _ hB (lv_sub hl [0, 1] rfl)
  · have hJ6 := ite_t c8 hJ6
    refine lv_iconst (v := (1 : Int32)) hx hb dX4_load_18 (by decide) ?_
    refine lv_goto (tgt := 23) hx hb dX4_load_19 (by decide) ?_
    have e0 := inj1 hJ6
    subst e0
    exact kJ7 (Or.inr rfl) _ _ _ hB (lv_sub hl [0, 1] rfl)

abbrev rmX4_errorOffset : Room := { frames := 0, cells := 0, slots := 0, locals := 0 }

set_option maxHeartbeats 4000000 in
set_option maxRecDepth 100000 in
theorem kX4_errorOffset (l : Launch) (dC : Nat → ClassId) (dI : Nat → Nat → Nat) (cyI cyO : ClassId) (ad : Nat → Nat) (sz : Nat) {fu : Nat} {μ : MS} {r : Int32} {μ_ : MS} (hf : mX4_errorOffset fu μ = some (r, μ_)) : Met l yX4_errorOffset wsX4_errorOffset rmX4_errorOffset (PcF (dC, dI) [(cyI, .int), (cyO, .array .int)] (cM cyI cyO ad μ) sz [.ref (ad 0)]) (QiF (dC, dI) [(cyI, .int), (cyO, .array .int)] (cM cyI cyO ad μ) (cM cyI cyO ad μ_) sz r) 0 0 (va_A (cM cyI cyO ad μ) sz) := by
  refine Met.ofW (cc := cX4_errorOffset) (maxL := 1) (ret := (some .int)) (by decide) rfl ?_
  intro p e s m args below meth c s₁ B hml hv
  obtain ⟨rfl, hsz, hP, hK, hD0⟩ := hv
  have hx := B.exec
  have hb := B.bytes
  have hr := B.returns
  have hts := atoms_spec (ws := wsX4_errorOffset) B.pre
  have hown : s.vm.findClass RX4 = some m.cls := findClass_of_methodNamed B.named
  have hlocks := B.notSynchronized
  subst hsz
  have hA : ∀ q : Nat, s.heap.size ≤ q → va_A (cM cyI cyO ad μ) s.heap.size q := fun q h => Or.inr h
  have hB : Bd (dC, dI) [(cyI, .int), (cyO, .array .int)] (va_A (cM cyI cyO ad μ) s.heap.size) s (cM cyI cyO ad μ) s.heap [] := ⟨hP, hD0.self, va_S.rf⟩
  have hq1 : (Cond.fieldLink RX4 35 "UndoJourneysModel" "thrown" "I").before _ s = true := hts _ (List.mem_of_getElem? (i := 1) rfl)
  have hq2 : (Cond.fieldLink RX4 13 "UndoJourneysModel" "errorOffset" "I").before _ s = true := hts _ (List.mem_of_getElem? (i := 2) rfl)
  have hinX4 : ∀ w ∈ wsX40, w ∈ wsX4_errorOffset := fun w h => List.mem_cons_of_mem _ (List.mem_append_right _ h)
  have hl := lv_entry [.ref (ad 0)] (n := 1) (Nat.le_of_ble_eq_true rfl)
  rw [lg_entry_eq]
  generalize (lg_sl [.ref (ad 0)] ++ List.replicate (1 - (lg_sl [.ref (ad 0)]).length) Slot.unset).toArray = ls at hl ⊢
  have hl : lv_has ls 1 [(0, .ref (ad 0))] := hl
  clear hP hD0
  suffices main : ∀ (H : Heap) (locs : List Loc), Bd (dC, dI) [(cyI, .int), (cyO, .array .int)] (va_A (cM cyI cyO ad μ) s.heap.size) s (cM cyI cyO ad μ) H locs → W p l e (headSpec wsX4_errorOffset rmX4_errorOffset).room s m ([.ref (ad 0)] : List Value).toArray below meth c H locs 0 0 (MQ below (QiF (dC, dI) [(cyI, .int), (cyO, .array .int)] (cM cyI cyO ad μ) (cM cyI cyO ad μ_) s.heap.size r) ([.ref (ad 0)] : List Value).toArray s 0 0 (va_A (cM cyI cyO ad μ) s.heap.size)) (F0 m 0 ls []) from main _ _ hB
  clear hB
  intro H locs hB
  unfold mX4_errorOffset at hf
  refine lv_aload_n hx hb dX4_errorOffset_0 rfl (lv_at hl 0 rfl) ?_
  refine lv_iconst (v := (0 : Int32)) hx hb dX4_errorOffset_1 (by decide) ?_
  obtain ⟨μ1, e9, hf⟩ := ob1_s hf
  have e9 := inj1 e9
  refine g_put (C := RX4) (T := TX4) (N := 15) hx hb hts hinX4 tyX4 tyX4_ok nmX4 hown hK hB 0 rfl rfl 0 rfl hq1 rfl rfl rfl rfl rfl rfl dX4_errorOffset_2 (w2 := (cM cyI cyO ad μ1)) (by rw [← e9]; rfl) (fun H locs hB => ?_)
  refine lv_aload_n hx hb dX4_errorOffset_5 rfl (lv_at hl 0 rfl) ?_
  refine g_get (C := RX4) (T := TX4) (N := 15) hx hb hts hinX4 hown hK hB 0 rfl rfl 7 rfl hq2 rfl rfl dX4_errorOffset_6 ?_
  obtain ⟨e0, e1⟩ := inj2 hf
  subst e0
  subst e1
  exact g_iret hx hb hr hlocks hK hB dX4_errorOffset_9

abbrev rmX4_ofJourney : Room := { frames := 1, cells := 0, slots := 0, locals := 20 }

set_option maxHeartbeats 4000000 in
set_option maxRecDepth 100000 in
theorem kX4_ofJourney (l : Launch) (dC : Nat → ClassId) (dI : Nat → Nat → Nat) (cyI cyO : ClassId) (ad : Nat → Nat) (sz : Nat) {fu : Nat} {μ : MS} {i1 : Int32} {i2 : Int32} {r : Int32} (hf : mX4_ofJourney fu μ i1 i2 = some r) : Met l yX4_ofJourney wsX4_ofJourney rmX4_ofJourney (PcF (dC, dI) [(cyI, .int), (cyO, .array .int)] (cM cyI cyO ad μ) sz [.ref (ad 0), .int i1, .int i2]) (QiF (dC, dI) [(cyI, .int), (cyO, .array .int)] (cM cyI cyO ad μ) (cM cyI cyO ad μ) sz r) 0 0 (va_A (cM cyI cyO ad μ) sz) := by
  refine Met.ofW (cc := cX4_ofJourney) (maxL := 3) (ret := (some .int)) (by decide) rfl ?_
  intro p e s m args below meth c s₁ B hml hv
  obtain ⟨rfl, hsz, hP, hK, hD0⟩ := hv
  have hx := B.exec
  have hb := B.bytes
  have hr := B.returns
  have hts := atoms_spec (ws := wsX4_ofJourney) B.pre
  have hown : s.vm.findClass RX4 = some m.cls := findClass_of_methodNamed B.named
  have hlocks := B.notSynchronized
  subst hsz
  have hA : ∀ q : Nat, s.heap.size ≤ q → va_A (cM cyI cyO ad μ) s.heap.size q := fun q h => Or.inr h
  have hB : Bd (dC, dI) [(cyI, .int), (cyO, .array .int)] (va_A (cM cyI cyO ad μ) s.heap.size) s (cM cyI cyO ad μ) s.heap [] := ⟨hP, hD0.self, va_S.rf⟩
  have hq1 : (Cond.fieldLink RX4 17 "UndoJourneysModel" "data" "[I").before _ s = true := hts _ (List.mem_of_getElem? (i := 1) rfl)
  have hinX4 : ∀ w ∈ wsX40, w ∈ wsX4_ofJourney := fun w h => List.mem_cons_of_mem _ (List.mem_append_right _ h)
  have hl := lv_entry [.ref (ad 0), .int i1, .int i2] (n := 3) (Nat.le_of_ble_eq_true rfl)
  rw [lg_entry_eq]
  generalize (lg_sl [.ref (ad 0), .int i1, .int i2] ++ List.replicate (3 - (lg_sl [.ref (ad 0), .int i1, .int i2]).length) Slot.unset).toArray = ls at hl ⊢
  have hl : lv_has ls 3 [(0, .ref (ad 0)), (1, .int i1), (2, .int i2)] := hl
  clear hP hD0
  suffices main : ∀ (H : Heap) (locs : List Loc), Bd (dC, dI) [(cyI, .int), (cyO, .array .int)] (va_A (cM cyI cyO ad μ) s.heap.size) s (cM cyI cyO ad μ) H locs → W p l e (headSpec wsX4_ofJourney rmX4_ofJourney).room s m ([.ref (ad 0), .int i1, .int i2] : List Value).toArray below meth c H locs 0 0 (MQ below (QiF (dC, dI) [(cyI, .int), (cyO, .array .int)] (cM cyI cyO ad μ) (cM cyI cyO ad μ) s.heap.size r) ([.ref (ad 0), .int i1, .int i2] : List Value).toArray s 0 0 (va_A (cM cyI cyO ad μ) s.heap.size)) (F0 m 0 ls []) from main _ _ hB
  clear hB
  intro H locs hB
  unfold mX4_ofJourney at hf
  refine lv_aload_n hx hb dX4_ofJourney_0 rfl (lv_at hl 0 rfl) ?_
  refine g_get (C := RX4) (T := TX4) (N := 15) hx hb hts hinX4 hown hK hB 0 rfl rfl 8 rfl hq1 rfl rfl dX4_ofJourney_1 ?_
  refine lv_iload_n hx hb dX4_ofJourney_4 rfl (lv_at hl 1 rfl) ?_
  obtain ⟨r1, hc, hf⟩ := ob1_s hf
  refine g_pcutSi (As := [.int i1]) (rest := [.ref (ad 8)]) (w2 := (cM cyI cyO ad μ)) ⟨hx, hb, hml, hown, hts⟩ (kX4_journeyAt l dC dI [(cyI, .int), (cyO, .array .int)] H.size hc) (va_cwS 1 hts gX4_ofJourney_X4_journeyAt rfl rfl rfl (by decide +kernel) ⟨Nat.le_of_ble_eq_true rfl, Nat.le_of_ble_eq_true rfl⟩) hK hB hA (List.Perm.refl _) (List.Perm.refl _) rfl hl.1 rfl (Nat.le_of_ble_eq_true rfl) dX4_ofJourney_5 ⟨Nat.zero_le _, Nat.zero_le _⟩ (fun H locs hB => ?_)
  refine lv_iload_n hx hb dX4_ofJourney_8 rfl (lv_at hl 2 rfl) ?_
  refine lv_iadd hx hb dX4_ofJourney_9 ?_
  obtain ⟨x2, e9, hf⟩ := ob1_s hf
  refine g_iald hx hb hK hB 2 0 rfl rfl (rd_s e9) dX4_ofJourney_10 ?_
  have e0 := inj1 hf
  subst e0
  exact g_iret hx hb hr hlocks hK hB dX4_ofJourney_11

abbrev rmX4_stepAt : Room := { frames := 2, cells := 0, slots := 0, locals := 42 }

set_option maxHeartbeats 4000000 in
set_option maxRecDepth 100000 in
theorem kX4_stepAt (l : Launch) (dC : Nat → ClassId) (dI : Nat → Nat → Nat) (cyI cyO : ClassId) (ad : Nat → Nat) (sz : Nat) {fu : Nat} {μ : MS} {i1 : Int32} {i2 : Int32} {r : Int32} (hf : mX4_stepAt fu μ i1 i2 = some r) : Met l yX4_stepAt wsX4_stepAt rmX4_stepAt (PcF (dC, dI) [(cyI, .int), (cyO, .array .int)] (cM cyI cyO ad μ) sz [.ref (ad 0), .int i1, .int i2]) (QiF (dC, dI) [(cyI, .int), (cyO, .array .int)] (cM cyI cyO ad μ) (cM cyI cyO ad μ) sz r) 0 0 (va_A (cM cyI cyO ad μ) sz) := by
  refine Met.ofW (cc := cX4_stepAt) (maxL := 3) (ret := (some .int)) (by decide) rfl ?_
  intro p e s m args below meth c s₁ B hml hv
  obtain ⟨rfl, hsz, hP, hK, hD0⟩ := hv
  have hx := B.exec
  have hb := B.bytes
  have hr := B.returns
  have hts := atoms_spec (ws := wsX4_stepAt) B.pre
  have hown : s.vm.findClass RX4 = some m.cls := findClass_of_methodNamed B.named
  have hlocks := B.notSynchronized
  subst hsz
  have hA : ∀ q : Nat, s.heap.size ≤ q → va_A (cM cyI cyO ad μ) s.heap.size q := fun q h => Or.inr h
  have hB : Bd (dC, dI) [(cyI, .int), (cyO, .array .int)] (va_A (cM cyI cyO ad μ) s.heap.size) s (cM cyI cyO ad μ) s.heap [] := ⟨hP, hD0.self, va_S.rf⟩
  have hinX4 : ∀ w ∈ wsX40, w ∈ wsX4_stepAt := fun w h => List.mem_cons_of_mem _ (List.mem_append_right _ h)
  have hl := lv_entry [.ref (ad 0), .int i1, .int i2] (n := 3) (Nat.le_of_ble_eq_true rfl)
  rw [lg_entry_eq]
  generalize (lg_sl [.ref (ad 0), .int i1, .int i2] ++ List.replicate (3 - (lg_sl [.ref (ad 0), .int i1, .int i2]).length) Slot.unset).toArray = ls at hl ⊢
  have hl : lv_has ls 3 [(0, .ref (ad 0)), (1, .int i1), (2, .int i2)] := hl
  clear hP hD0
  suffices main : ∀ (H : Heap) (locs : List Loc), Bd (dC, dI) [(cyI, .int), (cyO, .array .int)] (va_A (cM cyI cyO ad μ) s.heap.size) s (cM cyI cyO ad μ) H locs → W p l e (headSpec wsX4_stepAt rmX4_stepAt).room s m ([.ref (ad 0), .int i1, .int i2] : List Value).toArray below meth c H locs 0 0 (MQ below (QiF (dC, dI) [(cyI, .int), (cyO, .array .int)] (cM cyI cyO ad μ) (cM cyI cyO ad μ) s.heap.size r) ([.ref (ad 0), .int i1, .int i2] : List Value).toArray s 0 0 (va_A (cM cyI cyO ad μ) s.heap.size)) (F0 m 0 ls []) from main _ _ hB
  clear hB
  intro H locs hB
  unfold mX4_stepAt at hf
  refine lv_bipush (v := (91 : Int32)) hx hb dX4_stepAt_0 (by decide) ?_
  refine lv_bipush (v := (9 : Int32)) hx hb dX4_stepAt_2 (by decide) ?_
  refine lv_aload_n hx hb dX4_stepAt_4 rfl (lv_at hl 0 rfl) ?_
  refine lv_iload_n hx hb dX4_stepAt_5 rfl (lv_at hl 1 rfl) ?_
  refine lv_bipush (v := (6 : Int32)) hx hb dX4_stepAt_6 (by decide) ?_
  obtain ⟨r1, hc, hf⟩ := ob1_s hf
  refine g_callVi (As := [.int i1, .int (6 : Int32)]) (rest := [.int (9 : Int32), .int (91 : Int32)]) ⟨hx, hb, hml, hown, hts⟩ (kX4_ofJourney l dC dI cyI cyO ad H.size hc) (cwV 2 hts gX4_stepAt_X4_ofJourney rfl rfl rfl (by decide +kernel) ⟨Nat.le_of_ble_eq_true rfl, Nat.le_of_ble_eq_true rfl⟩) hK hB hA (g_recv (ci := 4) hK hB 0 rfl rfl rfl) rfl hl.1 rfl (Nat.le_of_ble_eq_true rfl) dX4_stepAt_8 ⟨Nat.zero_le _, Nat.zero_le _⟩ (fun H locs hB => ?_)
  refine lv_iload_n hx hb dX4_stepAt_11 rfl (lv_at hl 2 rfl) ?_
  refine lv_iadd hx hb dX4_stepAt_12 ?_
  refine lv_imul hx hb dX4_stepAt_13 ?_
  refine lv_iadd hx hb dX4_stepAt_14 ?_
  have e0 := inj1 hf
  subst e0
  exact g_iret hx hb hr hlocks hK hB dX4_stepAt_15

abbrev rmX4_stateOf : Room := { frames := 3, cells := 0, slots := 0, locals := 64 }

set_option maxHeartbeats 4000000 in
set_option maxRecDepth 100000 in
theorem kX4_stateOf (l : Launch) (dC : Nat → ClassId) (dI : Nat → Nat → Nat) (cyI cyO : ClassId) (ad : Nat → Nat) (sz : Nat) {fu : Nat} {μ : MS} {i1 : Int32} {i2 : Int32} {r : Int32} (hf : mX4_stateOf fu μ i1 i2 = some r) : Met l yX4_stateOf wsX4_stateOf rmX4_stateOf (PcF (dC, dI) [(cyI, .int), (cyO, .array .int)] (cM cyI cyO ad μ) sz [.ref (ad 0), .int i1, .int i2]) (QiF (dC, dI) [(cyI, .int), (cyO, .array .int)] (cM cyI cyO ad μ) (cM cyI cyO ad μ) sz r) 0 0 (va_A (cM cyI cyO ad μ) sz) := by
  refine Met.ofW (cc := cX4_stateOf) (maxL := 3) (ret := (some .int)) (by decide) rfl ?_
  intro p e s m args below meth c s₁ B hml hv
  obtain ⟨rfl, hsz, hP, hK, hD0⟩ := hv
  have hx := B.exec
  have hb := B.bytes
  have hr := B.returns
  have hts := atoms_spec (ws := wsX4_stateOf) B.pre
  have hown : s.vm.findClass RX4 = some m.cls := findClass_of_methodNamed B.named
  have hlocks := B.notSynchronized
  subst hsz
  have hA : ∀ q : Nat, s.heap.size ≤ q → va_A (cM cyI cyO ad μ) s.heap.size q := fun q h => Or.inr h
  have hB : Bd (dC, dI) [(cyI, .int), (cyO, .array .int)] (va_A (cM cyI cyO ad μ) s.heap.size) s (cM cyI cyO ad μ) s.heap [] := ⟨hP, hD0.self, va_S.rf⟩
  have hq1 : (Cond.fieldLink RX4 17 "UndoJourneysModel" "data" "[I").before _ s = true := hts _ (List.mem_of_getElem? (i := 1) rfl)
  have hinX4 : ∀ w ∈ wsX40, w ∈ wsX4_stateOf := fun w h => List.mem_cons_of_mem _ (List.mem_append_right _ h)
  have hl := lv_entry [.ref (ad 0), .int i1, .int i2] (n := 3) (Nat.le_of_ble_eq_true rfl)
  rw [lg_entry_eq]
  generalize (lg_sl [.ref (ad 0), .int i1, .int i2] ++ List.replicate (3 - (lg_sl [.ref (ad 0), .int i1, .int i2]).length) Slot.unset).toArray = ls at hl ⊢
  have hl : lv_has ls 3 [(0, .ref (ad 0)), (1, .int i1), (2, .int i2)] := hl
  clear hP hD0
  suffices main : ∀ (H : Heap) (locs : List Loc), Bd (dC, dI) [(cyI, .int), (cyO, .array .int)] (va_A (cM cyI cyO ad μ) s.heap.size) s (cM cyI cyO ad μ) H locs → W p l e (headSpec wsX4_stateOf rmX4_stateOf).room s m ([.ref (ad 0), .int i1, .int i2] : List Value).toArray below meth c H locs 0 0 (MQ below (QiF (dC, dI) [(cyI, .int), (cyO, .array .int)] (cM cyI cyO ad μ) (cM cyI cyO ad μ) s.heap.size r) ([.ref (ad 0), .int i1, .int i2] : List Value).toArray s 0 0 (va_A (cM cyI cyO ad μ) s.heap.size)) (F0 m 0 ls []) from main _ _ hB
  clear hB
  intro H locs hB
  unfold mX4_stateOf at hf
  refine lv_aload_n hx hb dX4_stateOf_0 rfl (lv_at hl 0 rfl) ?_
  refine g_get (C := RX4) (T := TX4) (N := 15) hx hb hts hinX4 hown hK hB 0 rfl rfl 8 rfl hq1 rfl rfl dX4_stateOf_1 ?_
  refine lv_aload_n hx hb dX4_stateOf_4 rfl (lv_at hl 0 rfl) ?_
  refine lv_iload_n hx hb dX4_stateOf_5 rfl (lv_at hl 1 rfl) ?_
  refine lv_iload_n hx hb dX4_stateOf_6 rfl (lv_at hl 2 rfl) ?_
  obtain ⟨r1, hc, hf⟩ := ob1_s hf
  refine g_callVi (As := [.int i1, .int i2]) (rest := [.ref (ad 8)]) ⟨hx, hb, hml, hown, hts⟩ (kX4_stepAt l dC dI cyI cyO ad H.size hc) (cwV 2 hts gX4_stateOf_X4_stepAt rfl rfl rfl (by decide +kernel) ⟨Nat.le_of_ble_eq_true rfl, Nat.le_of_ble_eq_true rfl⟩) hK hB hA (g_recv (ci := 4) hK hB 0 rfl rfl rfl) rfl hl.1 rfl (Nat.le_of_ble_eq_true rfl) dX4_stateOf_7 ⟨Nat.zero_le _, Nat.zero_le _⟩ (fun H locs hB => ?_)
  refine lv_iconst (v := (4 : Int32)) hx hb dX4_stateOf_10 (by decide) ?_
  refine lv_iadd hx hb dX4_stateOf_11 ?_
  obtain ⟨x2, e9, hf⟩ := ob1_s hf
  refine g_iald hx hb hK hB 2 0 rfl rfl (rd_s e9) dX4_stateOf_12 ?_
  have e0 := inj1 hf
  subst e0
  exact g_iret hx hb hr hlocks hK hB dX4_stateOf_13

abbrev rmX4_hasEnded : Room := { frames := 2, cells := 0, slots := 0, locals := 42 }

set_option maxHeartbeats 4000000 in
set_option maxRecDepth 100000 in
theorem kX4_hasEnded (l : Launch) (dC : Nat → ClassId) (dI : Nat → Nat → Nat) (cyI cyO : ClassId) (ad : Nat → Nat) (sz : Nat) {fu : Nat} {μ : MS} {i1 : Int32} {r : Int32} (hf : mX4_hasEnded fu μ i1 = some r) : Met l yX4_hasEnded wsX4_hasEnded rmX4_hasEnded (PcF (dC, dI) [(cyI, .int), (cyO, .array .int)] (cM cyI cyO ad μ) sz [.ref (ad 0), .int i1]) (QzF (dC, dI) [(cyI, .int), (cyO, .array .int)] (cM cyI cyO ad μ) (cM cyI cyO ad μ) sz r) 0 0 (va_A (cM cyI cyO ad μ) sz) := by
  refine Met.ofW (cc := cX4_hasEnded) (maxL := 2) (ret := (some .boolean)) (by decide) rfl ?_
  intro p e s m args below meth c s₁ B hml hv
  obtain ⟨rfl, hsz, hP, hK, hD0⟩ := hv
  have hx := B.exec
  have hb := B.bytes
  have hr := B.returns
  have hts := atoms_spec (ws := wsX4_hasEnded) B.pre
  have hown : s.vm.findClass RX4 = some m.cls := findClass_of_methodNamed B.named
  have hlocks := B.notSynchronized
  subst hsz
  have hA : ∀ q : Nat, s.heap.size ≤ q → va_A (cM cyI cyO ad μ) s.heap.size q := fun q h => Or.inr h
  have hB : Bd (dC, dI) [(cyI, .int), (cyO, .array .int)] (va_A (cM cyI cyO ad μ) s.heap.size) s (cM cyI cyO ad μ) s.heap [] := ⟨hP, hD0.self, va_S.rf⟩
  have hinX4 : ∀ w ∈ wsX40, w ∈ wsX4_hasEnded := fun w h => List.mem_cons_of_mem _ (List.mem_append_right _ h)
  have hl := lv_entry [.ref (ad 0), .int i1] (n := 2) (Nat.le_of_ble_eq_true rfl)
  rw [lg_entry_eq]
  generalize (lg_sl [.ref (ad 0), .int i1] ++ List.replicate (2 - (lg_sl [.ref (ad 0), .int i1]).length) Slot.unset).toArray = ls at hl ⊢
  have hl : lv_has ls 2 [(0, .ref (ad 0)), (1, .int i1)] := hl
  clear hP hD0
  suffices main : ∀ (H : Heap) (locs : List Loc), Bd (dC, dI) [(cyI, .int), (cyO, .array .int)] (va_A (cM cyI cyO ad μ) s.heap.size) s (cM cyI cyO ad μ) H locs → W p l e (headSpec wsX4_hasEnded rmX4_hasEnded).room s m ([.ref (ad 0), .int i1] : List Value).toArray below meth c H locs 0 0 (MQ below (QzF (dC, dI) [(cyI, .int), (cyO, .array .int)] (cM cyI cyO ad μ) (cM cyI cyO ad μ) s.heap.size r) ([.ref (ad 0), .int i1] : List Value).toArray s 0 0 (va_A (cM cyI cyO ad μ) s.heap.size)) (F0 m 0 ls []) from main _ _ hB
  clear hB
  intro H locs hB
  unfold mX4_hasEnded at hf
  refine lv_aload_n hx hb dX4_hasEnded_0 rfl (lv_at hl 0 rfl) ?_
  refine lv_iload_n hx hb dX4_hasEnded_1 rfl (lv_at hl 1 rfl) ?_
  refine lv_iconst (v := (0 : Int32)) hx hb dX4_hasEnded_2 (by decide) ?_
  obtain ⟨r1, hc, hf⟩ := ob1_s hf
  refine g_callVi (As := [.int i1, .int (0 : Int32)]) (rest := []) ⟨hx, hb, hml, hown, hts⟩ (kX4_ofJourney l dC dI cyI cyO ad H.size hc) (cwV 2 hts gX4_hasEnded_X4_ofJourney rfl rfl rfl (by decide +kernel) ⟨Nat.le_of_ble_eq_true rfl, Nat.le_of_ble_eq_true rfl⟩) hK hB hA (g_recv (ci := 4) hK hB 0 rfl rfl rfl) rfl hl.1 rfl (Nat.le_of_ble_eq_true rfl) dX4_hasEnded_3 ⟨Nat.zero_le _, Nat.zero_le _⟩ (fun H locs hB => ?_)
  refine lv_iconst (v := (3 : Int32)) hx hb dX4_hasEnded_6 (by decide) ?_
  obtain ⟨v2, hJ4, hf⟩ := ob1_s hf
  have kJ5 : (v2 = 0 ∨ v2 = 1) → ∀ (H : Heap) (locs : List Loc) (ls : Array Slot), Bd (dC, dI) [(cyI, .int), (cyO, .array .int)] (va_A (cM cyI cyO ad μ) s.heap.size) s (cM cyI cyO ad μ) H locs → lv_has ls 2 [] → W p l e (headSpec wsX4_hasEnded rmX4_hasEnded).room s m ([.ref (ad 0), .int i1] : List Value).toArray below meth c H locs 0 0 (MQ below (QzF (dC, dI) [(cyI, .int), (cyO, .array .int)] (cM cyI cyO ad μ) (cM cyI cyO ad μ) s.heap.size r) ([.ref (ad 0), .int i1] : List Value).toArray s 0 0 (va_A (cM cyI cyO ad μ) s.heap.size)) (F0 m 25 ls [.int v2]) := by
    intro z3 H locs ls hB hl
    have e0 := inj1 hf
    subst e0
    exact g_zret hx hb hr hlocks hK hB z3 dX4_hasEnded_25
  obtain ⟨t6, hD7, hJ4⟩ := ob1_s hJ4
  have kTt6 : t6 = true → ∀ (H : Heap) (locs : List Loc), Bd (dC, dI) [(cyI, .int), (cyO, .array .int)] (va_A (cM cyI cyO ad μ) s.heap.size) s (cM cyI cyO ad μ) H locs → W p l e (headSpec wsX4_hasEnded rmX4_hasEnded).room s m ([.ref (ad 0), .int i1] : List Value).toArray below meth c H locs 0 0 (MQ below (QzF (dC, dI) [(cyI, .int), (cyO, .array .int)] (cM cyI cyO ad μ) (cM cyI cyO ad μ) s.heap.size r) ([.ref (ad 0), .int i1] : List Value).toArray s 0 0 (va_A (cM cyI cyO ad μ) s.heap.size)) (F0 m 20 ls []) := by
    intro ht H locs hB
    have hJ4 := cnd_t ht hJ4
    refine lv_iconst (v := (1 : Int32)) hx hb dX4_hasEnded_20 (by decide) ?_
    refine lv_goto (tgt := 25) hx hb dX4_hasEnded_21 (by decide) ?_
    have e0 := inj1 hJ4
    subst e0
    exact kJ5 (Or.inr rfl) _ _ _ hB (lv_sub hl [] rfl)
  have kFt6 : t6 = false → ∀ (H : Heap) (locs : List Loc), Bd (dC, dI) [(cyI, .int), (cyO, .array .int)] (va_A (cM cyI cyO ad μ) s.heap.size) s (cM cyI cyO ad μ) H locs → W p l e (headSpec wsX4_hasEnded rmX4_hasEnded).room s m ([.ref (ad 0), .int i1] : List Value).toArray below meth c H locs 0 0 (MQ below (QzF (dC, dI) [(cyI, .int), (cyO, .array .int)] (cM cyI cyO ad μ) (cM cyI cyO ad μ) s.heap.size r) ([.ref (ad 0), .int i1] : List Value).toArray s 0 0 (va_A (cM cyI cyO ad μ) s.heap.size)) (F0 m 24 ls []) := by
    intro ht H locs hB
    have hJ4 := cnd_f ht hJ4
    refine lv_iconst (v := (0 : Int32)) hx hb dX4_hasEnded_24 (by decide) ?_
    have e0 := inj1 hJ4
    subst e0
    exact kJ5 (Or.inl rfl) _ _ _ hB (lv_sub hl [] rfl)
  refine lv_icmp_eq (tgt := 20) hx hb dX4_hasEnded_7 (by decide) (fun c8 => ?_) (fun c8 => ?_)
  · have hD7 := ite_t c8 hD7
    have e0 := inj1 hD7
    exact kTt6 e0.symm _ _ hB
  · have hD7 := ite_f c8 hD7
    refine lv_aload_n hx hb dX4_hasEnded_10 rfl (lv_at hl 0 rfl) ?_
    refine lv_iload_n hx hb dX4_hasEnded_11 rfl (lv_at hl 1 rfl) ?_
    refine lv_iconst (v := (0 : Int32)) hx hb dX4_hasEnded_12 (by decide) ?_
    obtain ⟨r9, hc, hD7⟩ := ob1_s hD7
    refine g_callVi (As := [.int i1, .int (0 : Int32)]) (rest := []) ⟨hx, hb, hml, hown, hts⟩ (kX4_ofJourney l dC dI cyI cyO ad H.size hc) (cwV 2 hts gX4_hasEnded_X4_ofJourney rfl rfl rfl (by decide +kernel) ⟨Nat.le_of_ble_eq_true rfl, Nat.le_of_ble_eq_true rfl⟩) hK hB hA (g_recv (ci := 4) hK hB 0 rfl rfl rfl) rfl hl.1 rfl (Nat.le_of_ble_eq_true rfl) dX4_hasEnded_13 ⟨Nat.zero_le _, Nat.zero_le _⟩ (fun H locs hB => ?_)
    refine lv_iconst (v := (4 : Int32)) hx hb dX4_hasEnded_16 (by decide) ?_
    refine lv_icmp_ne (tgt := 24) hx hb dX4_hasEnded_17 (by decide) (fun c10 => ?_) (fun c10 => ?_)
    · have hD7 := ite_f c10 hD7
      have e0 := inj1 hD7
      exact kFt6 e0.symm _ _ hB
    · have hD7 := ite_t c10 hD7
      have e0 := inj1 hD7
      exact kTt6 e0.symm _ _ hB

abbrev rmX4_isTaken : Room := { frames := 4, cells := 0, slots := 0, locals := 86 }

set_option maxHeartbeats 4000000 in
set_option maxRecDepth 100000 in
theorem kX4_isTaken (l : Launch) (dC : Nat → ClassId) (dI : Nat → Nat → Nat) (cyI cyO : ClassId) (ad : Nat → Nat) (sz : Nat) {fu : Nat} {μ : MS} {i1 : Int32} {i2 : Int32} {r : Int32} (hf : mX4_isTaken fu μ i1 i2 = some r) : Met l yX4_isTaken wsX4_isTaken rmX4_isTaken (PcF (dC, dI) [(cyI, .int), (cyO, .array .int)] (cM cyI cyO ad μ) sz [.ref (ad 0), .int i1, .int i2]) (QzF (dC, dI) [(cyI, .int), (cyO, .array .int)] (cM cyI cyO ad μ) (cM cyI cyO ad μ) sz r) 0 0 (va_A (cM cyI cyO ad μ) sz) := by
  refine Met.ofW (cc := cX4_isTaken) (maxL := 3) (ret := (some .boolean)) (by decide) rfl ?_
  intro p e s m args below meth c s₁ B hml hv
  obtain ⟨rfl, hsz, hP, hK, hD0⟩ := hv
  have hx := B.exec
  have hb := B.bytes
  have hr := B.returns
  have hts := atoms_spec (ws := wsX4_isTaken) B.pre
  have hown : s.vm.findClass RX4 = some m.cls := findClass_of_methodNamed B.named
  have hlocks := B.notSynchronized
  subst hsz
  have hA : ∀ q : Nat, s.heap.size ≤ q → va_A (cM cyI cyO ad μ) s.heap.size q := fun q h => Or.inr h
  have hB : Bd (dC, dI) [(cyI, .int), (cyO, .array .int)] (va_A (cM cyI cyO ad μ) s.heap.size) s (cM cyI cyO ad μ) s.heap [] := ⟨hP, hD0.self, va_S.rf⟩
  have hinX4 : ∀ w ∈ wsX40, w ∈ wsX4_isTaken := fun w h => List.mem_cons_of_mem _ (List.mem_append_right _ h)
  have hl := lv_entry [.ref (ad 0), .int i1, .int i2] (n := 3) (Nat.le_of_ble_eq_true rfl)
  rw [lg_entry_eq]
  generalize (lg_sl [.ref (ad 0), .int i1, .int i2] ++ List.replicate (3 - (lg_sl [.ref (ad 0), .int i1, .int i2]).length) Slot.unset).toArray = ls at hl ⊢
  have hl : lv_has ls 3 [(0, .ref (ad 0)), (1, .int i1), (2, .int i2)] := hl
  clear hP hD0
  suffices main : ∀ (H : Heap) (locs : List Loc), Bd (dC, dI) [(cyI, .int), (cyO, .array .int)] (va_A (cM cyI cyO ad μ) s.heap.size) s (cM cyI cyO ad μ) H locs → W p l e (headSpec wsX4_isTaken rmX4_isTaken).room s m ([.ref (ad 0), .int i1, .int i2] : List Value).toArray below meth c H locs 0 0 (MQ below (QzF (dC, dI) [(cyI, .int), (cyO, .array .int)] (cM cyI cyO ad μ) (cM cyI cyO ad μ) s.heap.size r) ([.ref (ad 0), .int i1, .int i2] : List Value).toArray s 0 0 (va_A (cM cyI cyO ad μ) s.heap.size)) (F0 m 0 ls []) from main _ _ hB
  clear hB
  intro H locs hB
  unfold mX4_isTaken at hf
  refine lv_aload_n hx hb dX4_isTaken_0 rfl (lv_at hl 0 rfl) ?_
  refine lv_iload_n hx hb dX4_isTaken_1 rfl (lv_at hl 1 rfl) ?_
  refine lv_iload_n hx hb dX4_isTaken_2 rfl (lv_at hl 2 rfl) ?_
  obtain ⟨r1, hc, hf⟩ := ob1_s hf
  refine g_callVi (As := [.int i1, .int i2]) (rest := []) ⟨hx, hb, hml, hown, hts⟩ (kX4_stateOf l dC dI cyI cyO ad H.size hc) (cwV 2 hts gX4_isTaken_X4_stateOf rfl rfl rfl (by decide +kernel) ⟨Nat.le_of_ble_eq_true rfl, Nat.le_of_ble_eq_true rfl⟩) hK hB hA (g_recv (ci := 4) hK hB 0 rfl rfl rfl) rfl hl.1 rfl (Nat.le_of_ble_eq_true rfl) dX4_isTaken_3 ⟨Nat.zero_le _, Nat.zero_le _⟩ (fun H locs hB => ?_)
  refine lv_iconst (v := (2 : Int32)) hx hb dX4_isTaken_6 (by decide) ?_
  obtain ⟨v2, hJ4, hf⟩ := ob1_s hf
  have kJ5 : (v2 = 0 ∨ v2 = 1) → ∀ (H : Heap) (locs : List Loc) (ls : Array Slot), Bd (dC, dI) [(cyI, .int), (cyO, .array .int)] (va_A (cM cyI cyO ad μ) s.heap.size) s (cM cyI cyO ad μ) H locs → lv_has ls 3 [] → W p l e (headSpec wsX4_isTaken rmX4_isTaken).room s m ([.ref (ad 0), .int i1, .int i2] : List Value).toArray below meth c H locs 0 0 (MQ below (QzF (dC, dI) [(cyI, .int), (cyO, .array .int)] (cM cyI cyO ad μ) (cM cyI cyO ad μ) s.heap.size r) ([.ref (ad 0), .int i1, .int i2] : List Value).toArray s 0 0 (va_A (cM cyI cyO ad μ) s.heap.size)) (F0 m 25 ls [.int v2]) := by
    intro z3 H locs ls hB hl
    have e0 := inj1 hf
    subst e0
    exact g_zret hx hb hr hlocks hK hB z3 dX4_isTaken_25
  obtain ⟨t6, hD7, hJ4⟩ := ob1_s hJ4
  have kTt6 : t6 = true → ∀ (H : Heap) (locs : List Loc), Bd (dC, dI) [(cyI, .int), (cyO, .array .int)] (va_A (cM cyI cyO ad μ) s.heap.size) s (cM cyI cyO ad μ) H locs → W p l e (headSpec wsX4_isTaken rmX4_isTaken).room s m ([.ref (ad 0), .int i1, .int i2] : List Value).toArray below meth c H locs 0 0 (MQ below (QzF (dC, dI) [(cyI, .int), (cyO, .array .int)] (cM cyI cyO ad μ) (cM cyI cyO ad μ) s.heap.size r) ([.ref (ad 0), .int i1, .int i2] : List Value).toArray s 0 0 (va_A (cM cyI cyO ad μ) s.heap.size)) (F0 m 20 ls []) := by
    intro ht H locs hB
    have hJ4 := cnd_t ht hJ4
    refine lv_iconst (v := (1 : Int32)) hx hb dX4_isTaken_20 (by decide) ?_
    refine lv_goto (tgt := 25) hx hb dX4_isTaken_21 (by decide) ?_
    have e0 := inj1 hJ4
    subst e0
    exact kJ5 (Or.inr rfl) _ _ _ hB (lv_sub hl [] rfl)
  have kFt6 : t6 = false → ∀ (H : Heap) (locs : List Loc), Bd (dC, dI) [(cyI, .int), (cyO, .array .int)] (va_A (cM cyI cyO ad μ) s.heap.size) s (cM cyI cyO ad μ) H locs → W p l e (headSpec wsX4_isTaken rmX4_isTaken).room s m ([.ref (ad 0), .int i1, .int i2] : List Value).toArray below meth c H locs 0 0 (MQ below (QzF (dC, dI) [(cyI, .int), (cyO, .array .int)] (cM cyI cyO ad μ) (cM cyI cyO ad μ) s.heap.size r) ([.ref (ad 0), .int i1, .int i2] : List Value).toArray s 0 0 (va_A (cM cyI cyO ad μ) s.heap.size)) (F0 m 24 ls []) := by
    intro ht H locs hB
    have hJ4 := cnd_f ht hJ4
    refine lv_iconst (v := (0 : Int32)) hx hb dX4_isTaken_24 (by decide) ?_
    have e0 := inj1 hJ4
    subst e0
    exact kJ5 (Or.inl rfl) _ _ _ hB (lv_sub hl [] rfl)
  refine lv_icmp_eq (tgt := 20) hx hb dX4_isTaken_7 (by decide) (fun c8 => ?_) (fun c8 => ?_)
  · have hD7 := ite_t c8 hD7
    have e0 := inj1 hD7
    exact kTt6 e0.symm _ _ hB
  · have hD7 := ite_f c8 hD7
    refine lv_aload_n hx hb dX4_isTaken_10 rfl (lv_at hl 0 rfl) ?_
    refine lv_iload_n hx hb dX4_isTaken_11 rfl (lv_at hl 1 rfl) ?_
    refine lv_iload_n hx hb dX4_isTaken_12 rfl (lv_at hl 2 rfl) ?_
    obtain ⟨r9, hc, hD7⟩ := ob1_s hD7
    refine g_callVi (As := [.int i1, .int i2]) (rest := []) ⟨hx, hb, hml, hown, hts⟩ (kX4_stateOf l dC dI cyI cyO ad H.size hc) (cwV 2 hts gX4_isTaken_X4_stateOf rfl rfl rfl (by decide +kernel) ⟨Nat.le_of_ble_eq_true rfl, Nat.le_of_ble_eq_true rfl⟩) hK hB hA (g_recv (ci := 4) hK hB 0 rfl rfl rfl) rfl hl.1 rfl (Nat.le_of_ble_eq_true rfl) dX4_isTaken_13 ⟨Nat.zero_le _, Nat.zero_le _⟩ (fun H locs hB => ?_)
    refine lv_iconst (v := (3 : Int32)) hx hb dX4_isTaken_16 (by decide) ?_
    refine lv_icmp_ne (tgt := 24) hx hb dX4_isTaken_17 (by decide) (fun c10 => ?_) (fun c10 => ?_)
    · have hD7 := ite_f c10 hD7
      have e0 := inj1 hD7
      exact kFt6 e0.symm _ _ hB
    · have hD7 := ite_t c10 hD7
      have e0 := inj1 hD7
      exact kTt6 e0.symm _ _ hB

