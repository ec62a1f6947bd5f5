set_option maxHeartbeats 4000000 in
set_option maxRecDepth 100000 in
theorem law_append {p : Program} {l : Launch} {e : Env} {s : State} {m : MethodId} {args : Array Value} {below : List Frame} {meth : Method} {c : Code} {H : Heap} {locs : List Loc} {Q : State → Prop} {b L : Nat} {xs : Nat → Int32} {dC : Nat → ClassId} {dI : Nat → Nat → Nat} {cyI cyB cyO cyL cyA : ClassId} {ua ub up oa : Nat} {aw as' : Nat → Nat → Nat} {ad kS : Nat → Nat} {fu : Nat} {I I1 : IT} {τs : WS} {n : Nat} {pa : PA} {β : FS} {υ : MS} {ω : WS} {sid : PA} {μ : MS} {lam : Nat → Int64} {j : Nat} {i : Int32} {ls : Array Slot} (hx : p.tables.exec = Jvm.exec) (hb : c.code = cL_law) (hml : c.maxLocals = 7) (hown : s.vm.findClass RL = some m.cls) (hts : ∀ w ∈ lw_tbl, w.before args s = true) (hX : va_X b L xs s s.heap) (hbl : b < s.heap.size) (hl0 : l.stackTraces = false) (hK : va_K (dC, dI) vwCl [(cyI, .int), (cyB, .byte), (cyO, .object "UndoJourneys$World"), (cyL, .long), (cyA, .array .int)] s) (hEX : EX (fun q => s.heap.size ≤ q) s s.heap) (hNC : NC s) (hJ : JS kS (fun q => s.heap.size ≤ q) s s.heap) (hNw : va_Nw (.methodLinkNest RX1 11 yX0_init RX3) s) (hj : j ≤ 511) (hvi : ∀ k : Int32, k = 0 ∨ k = 1 ∨ k = 2 ∨ k = 3 ∨ k = 4 ∨ k = 5 → vp_in (i + k) L) (hag : ag_append fu I I1) (hI : I τs n pa β υ ω sid μ) (hB : Bd (dC, dI) [(cyI, .int), (cyB, .byte), (cyO, .object "UndoJourneys$World"), (cyL, .long), (cyA, .array .int)] (fun q => s.heap.size ≤ q) s ((cU cyI cyB cyO ua ub up aw as' pa β υ ω sid τs n ++ cO cyL oa lam) ++ cM cyI cyA ad μ) H locs) (hl : lv_has ls 7 [(0, .ref b), (1, .ref ua), (2, .ref (ad 0)), (3, .ref oa), (4, .int i)]) (nxt : ∀ (τs : WS) (n : Nat) (pa : PA) (β : FS) (υ : MS) (ω : WS) (sid : PA) (μ : MS) (lam : Nat → Int64) (as' : Nat → Nat → Nat) (H : Heap) (locs : List Loc) (ls : Array Slot), I1 τs n pa β υ ω sid μ → Bd (dC, dI) [(cyI, .int), (cyB, .byte), (cyO, .object "UndoJourneys$World"), (cyL, .long), (cyA, .array .int)] (fun q => s.heap.size ≤ q) s ((cU cyI cyB cyO ua ub up aw as' pa β υ ω sid τs n ++ cO cyL oa lam) ++ cM cyI cyA ad μ) H locs → lv_has ls 7 [(0, .ref b), (1, .ref ua), (2, .ref (ad 0)), (3, .ref oa), (4, .int i)] → W p l e room_1 s m args below meth c H locs (214 + 14 * j) (10312 + 312 * j) Q (F0 m 1121 ls [])) : W p l e room_1 s m args below meth c H locs (200 + 14 * j) (10000 + 312 * j) Q (F0 m 128 ls []) := by
  have hA : ∀ q : Nat, s.heap.size ≤ q → (fun q : Nat => s.heap.size ≤ q) q := fun _ h => h
  have hbA : ¬ (fun q : Nat => s.heap.size ≤ q) b := Nat.not_le.mpr hbl
  obtain ⟨r9, β1, υ1, μ1, hf3, hf4, hI1⟩ := hag τs n pa β υ ω sid μ hI (xs (i + 1).toNatClampNeg) (xs (i + 2).toNatClampNeg) (xs (i + 3).toNatClampNeg) (xs (i + 4).toNatClampNeg) (xs (i + 5).toNatClampNeg)
  refine lv_aload_n hx hb dL_law_128 rfl (lv_at hl 1 rfl) ?_
  refine lv_aload_n hx hb dL_law_129 rfl (lv_at hl 0 rfl) ?_
  refine lv_iload hx hb dL_law_130 (lv_at hl 4 rfl) ?_
  refine lv_iconst (v := (1 : Int32)) hx hb dL_law_132 (by decide) ?_
  refine lv_iadd hx hb dL_law_133 ?_
  refine va_sld hx hb hX hbl hbA hB.2.2 (hvi _ (by decide)) dL_law_134 ?_
  refine lv_aload_n hx hb dL_law_135 rfl (lv_at hl 0 rfl) ?_
  refine lv_iload hx hb dL_law_136 (lv_at hl 4 rfl) ?_
  refine lv_iconst (v := (2 : Int32)) hx hb dL_law_138 (by decide) ?_
  refine lv_iadd hx hb dL_law_139 ?_
  refine va_sld hx hb hX hbl hbA hB.2.2 (hvi _ (by decide)) dL_law_140 ?_
  refine lv_aload_n hx hb dL_law_141 rfl (lv_at hl 0 rfl) ?_
  refine lv_iload hx hb dL_law_142 (lv_at hl 4 rfl) ?_
  refine lv_iconst (v := (3 : Int32)) hx hb dL_law_144 (by decide) ?_
  refine lv_iadd hx hb dL_law_145 ?_
  refine va_sld hx hb hX hbl hbA hB.2.2 (hvi _ (by decide)) dL_law_146 ?_
  refine lv_aload_n hx hb dL_law_147 rfl (lv_at hl 0 rfl) ?_
  refine lv_iload hx hb dL_law_148 (lv_at hl 4 rfl) ?_
  refine lv_iconst (v := (4 : Int32)) hx hb dL_law_150 (by decide) ?_
  refine lv_iadd hx hb dL_law_151 ?_
  refine va_sld hx hb hX hbl hbA hB.2.2 (hvi _ (by decide)) dL_law_152 ?_
  refine lv_aload_n hx hb dL_law_153 rfl (lv_at hl 0 rfl) ?_
  refine lv_iload hx hb dL_law_154 (lv_at hl 4 rfl) ?_
  refine lv_iconst (v := (5 : Int32)) hx hb dL_law_156 (by decide) ?_
  refine lv_iadd hx hb dL_law_157 ?_
  refine va_sld hx hb hX hbl hbA hB.2.2 (hvi _ (by decide)) dL_law_158 ?_
  refine g_vcut (As := [.int (xs (i + 1).toNatClampNeg), .int (xs (i + 2).toNatClampNeg), .int (xs (i + 3).toNatClampNeg), .int (xs (i + 4).toNatClampNeg), .int (xs (i + 5).toNatClampNeg)]) (rest := []) (wc := cU cyI cyB cyO ua ub up aw as' pa β υ ω sid τs n) (wr := cO cyL oa lam ++ cM cyI cyA ad μ) (w1 := fun _ : Unit => cU cyI cyB cyO ua ub up aw as' pa β1 υ1 ω sid τs n) ⟨hx, hb, hml, hown, hts⟩ (kX3_append l dC dI cyI cyB cyO ua ub up aw as' H.size hf3) (cwV 5 hts GTlaw_X3_append rfl rfl rfl (by decide +kernel) ⟨(Nat.le_of_ble_eq_true rfl), (Nat.le_of_ble_eq_true rfl)⟩) (pcut_pre (hB.perm (List.Perm.of_eq (List.append_assoc _ _ _))) (hK.sub [0, 1, 2] rfl) (.ref ua :: [.int (xs (i + 1).toNatClampNeg), .int (xs (i + 2).toNatClampNeg), .int (xs (i + 3).toNatClampNeg), .int (xs (i + 4).toNatClampNeg), .int (xs (i + 5).toNatClampNeg)])) hB hA (g_recv (ci := 3) hK hB 0 rfl rfl rfl) (List.Perm.of_eq (List.append_assoc _ _ _)) rfl hl.1 rfl (Nat.le_of_ble_eq_true rfl) dL_law_159 ⟨by show _ ≤ 601024; omega, by show _ ≤ 7293034; omega⟩ (fun r _ H locs hr9 hB => ?_)
  have hB := hB.perm (List.Perm.of_eq (List.append_assoc _ _ _).symm)
  rw [hr9]
  refine lv_aload_n hx hb dL_law_162 rfl (lv_at hl 2 rfl) ?_
  refine lv_aload_n hx hb dL_law_163 rfl (lv_at hl 0 rfl) ?_
  refine lv_iload hx hb dL_law_164 (lv_at hl 4 rfl) ?_
  refine lv_iconst (v := (1 : Int32)) hx hb dL_law_166 (by decide) ?_
  refine lv_iadd hx hb dL_law_167 ?_
  refine va_sld hx hb hX hbl hbA hB.2.2 (hvi _ (by decide)) dL_law_168 ?_
  refine lv_aload_n hx hb dL_law_169 rfl (lv_at hl 0 rfl) ?_
  refine lv_iload hx hb dL_law_170 (lv_at hl 4 rfl) ?_
  refine lv_iconst (v := (2 : Int32)) hx hb dL_law_172 (by decide) ?_
  refine lv_iadd hx hb dL_law_173 ?_
  refine va_sld hx hb hX hbl hbA hB.2.2 (hvi _ (by decide)) dL_law_174 ?_
  refine lv_aload_n hx hb dL_law_175 rfl (lv_at hl 0 rfl) ?_
  refine lv_iload hx hb dL_law_176 (lv_at hl 4 rfl) ?_
  refine lv_iconst (v := (3 : Int32)) hx hb dL_law_178 (by decide) ?_
  refine lv_iadd hx hb dL_law_179 ?_
  refine va_sld hx hb hX hbl hbA hB.2.2 (hvi _ (by decide)) dL_law_180 ?_
  refine lv_aload_n hx hb dL_law_181 rfl (lv_at hl 0 rfl) ?_
  refine lv_iload hx hb dL_law_182 (lv_at hl 4 rfl) ?_
  refine lv_iconst (v := (4 : Int32)) hx hb dL_law_184 (by decide) ?_
  refine lv_iadd hx hb dL_law_185 ?_
  refine va_sld hx hb hX hbl hbA hB.2.2 (hvi _ (by decide)) dL_law_186 ?_
  refine lv_aload_n hx hb dL_law_187 rfl (lv_at hl 0 rfl) ?_
  refine lv_iload hx hb dL_law_188 (lv_at hl 4 rfl) ?_
  refine lv_iconst (v := (5 : Int32)) hx hb dL_law_190 (by decide) ?_
  refine lv_iadd hx hb dL_law_191 ?_
  refine va_sld hx hb hX hbl hbA hB.2.2 (hvi _ (by decide)) dL_law_192 ?_
  refine g_vcut (As := [.int (xs (i + 1).toNatClampNeg), .int (xs (i + 2).toNatClampNeg), .int (xs (i + 3).toNatClampNeg), .int (xs (i + 4).toNatClampNeg), .int (xs (i + 5).toNatClampNeg)]) (rest := [.int r9]) (wc := cM cyI cyA ad μ) (w1 := fun _ : Unit => cM cyI cyA ad μ1) ⟨hx, hb, hml, hown, hts⟩ (kX4_append l dC dI cyI cyA ad H.size hf4) (cwV 5 hts GTlaw_X4_append rfl rfl rfl (by decide +kernel) ⟨(Nat.le_of_ble_eq_true rfl), (Nat.le_of_ble_eq_true rfl)⟩) (pcut_pre (hB.perm List.perm_append_comm) (hK.sub [0, 4] rfl) (.ref (ad 0) :: [.int (xs (i + 1).toNatClampNeg), .int (xs (i + 2).toNatClampNeg), .int (xs (i + 3).toNatClampNeg), .int (xs (i + 4).toNatClampNeg), .int (xs (i + 5).toNatClampNeg)])) hB hA (g_recv (ci := 4) hK (hB.perm List.perm_append_comm) 0 rfl rfl rfl) List.perm_append_comm rfl hl.1 rfl (Nat.le_of_ble_eq_true rfl) dL_law_193 ⟨by show _ ≤ 601024; omega, by show _ ≤ 7293034; omega⟩ (fun r _ H locs hr9 hB => ?_)
  have hB := hB.perm List.perm_append_comm
  rw [hr9]
  refine lv_icmp_eq (tgt := 1121) hx hb dL_law_196 (by decide) (fun _ => ?_) (fun c9 => absurd rfl c9)
  refine W.widen (k := 214 + 14 * j) (n := 10312 + 312 * j) (by omega) (by omega) ?_
  exact nxt _ _ _ _ _ _ _ _ _ as' _ _ _ hI1 hB (lv_sub hl [0, 1, 2, 3, 4] rfl)

set_option maxHeartbeats 4000000 in
set_option maxRecDepth 100000 in
theorem law_load {p : Program} {l : Launch} {e : Env} {s : State} {m : MethodId} {args : Array Value} {below : List Frame} {meth : Method} {c : Code} {H : Heap} {locs : List Loc} {Q : State → Prop} {b L : Nat} {xs : Nat → Int32} {dC : Nat → ClassId} {dI : Nat → Nat → Nat} {cyI cyB cyO cyL cyA : ClassId} {ua ub up oa : Nat} {aw as' : Nat → Nat → Nat} {ad kS : Nat → Nat} {fu : Nat} {I I1 : IT} {τs : WS} {n : Nat} {pa : PA} {β : FS} {υ : MS} {ω : WS} {sid : PA} {μ : MS} {lam : Nat → Int64} {j : Nat} {i : Int32} {ls : Array Slot} (hx : p.tables.exec = Jvm.exec) (hb : c.code = cL_law) (hml : c.maxLocals = 7) (hown : s.vm.findClass RL = some m.cls) (hts : ∀ w ∈ lw_tbl, w.before args s = true) (hX : va_X b L xs s s.heap) (hbl : b < s.heap.size) (hl0 : l.stackTraces = false) (hK : va_K (dC, dI) vwCl [(cyI, .int), (cyB, .byte), (cyO, .object "UndoJourneys$World"), (cyL, .long), (cyA, .array .int)] s) (hEX : EX (fun q => s.heap.size ≤ q) s s.heap) (hNC : NC s) (hJ : JS kS (fun q => s.heap.size ≤ q) s s.heap) (hNw : va_Nw (.methodLinkNest RX1 11 yX0_init RX3) s) (hj : j ≤ 511) (hvi : ∀ k : Int32, k = 0 ∨ k = 1 ∨ k = 2 ∨ k = 3 ∨ k = 4 ∨ k = 5 → vp_in (i + k) L) (hag : ag_load fu I I1) (hI : I τs n pa β υ ω sid μ) (hB : Bd (dC, dI) [(cyI, .int), (cyB, .byte), (cyO, .object "UndoJourneys$World"), (cyL, .long), (cyA, .array .int)] (fun q => s.heap.size ≤ q) s ((cU cyI cyB cyO ua ub up aw as' pa β υ ω sid τs n ++ cO cyL oa lam) ++ cM cyI cyA ad μ) H locs) (hl : lv_has ls 7 [(0, .ref b), (1, .ref ua), (2, .ref (ad 0)), (3, .ref oa), (4, .int i)]) (nxt : ∀ (τs : WS) (n : Nat) (pa : PA) (β : FS) (υ : MS) (ω : WS) (sid : PA) (μ : MS) (lam : Nat → Int64) (as' : Nat → Nat → Nat) (H : Heap) (locs : List Loc) (ls : Array Slot), I1 τs n pa β υ ω sid μ → Bd (dC, dI) [(cyI, .int), (cyB, .byte), (cyO, .object "UndoJourneys$World"), (cyL, .long), (cyA, .array .int)] (fun q => s.heap.size ≤ q) s ((cU cyI cyB cyO ua ub up aw as' pa β υ ω sid τs n ++ cO cyL oa lam) ++ cM cyI cyA ad μ) H locs → lv_has ls 7 [(0, .ref b), (1, .ref ua), (2, .ref (ad 0)), (3, .ref oa), (4, .int i)] → W p l e room_1 s m args below meth c H locs (214 + 14 * j) (10312 + 312 * j) Q (F0 m 1121 ls [])) : W p l e room_1 s m args below meth c H locs (200 + 14 * j) (10000 + 312 * j) Q (F0 m 201 ls []) := by
  have hA : ∀ q : Nat, s.heap.size ≤ q → (fun q : Nat => s.heap.size ≤ q) q := fun _ h => h
  have hbA : ¬ (fun q : Nat => s.heap.size ≤ q) b := Nat.not_le.mpr hbl
  obtain ⟨o, b9, μ1, hf3, hE9, hf4, hth, hval, hIx, hIr⟩ := hag τs n pa β υ ω sid μ hI (xs (i + 1).toNatClampNeg)
  refine lv_aload_n hx hb dL_law_201 rfl (lv_at hl 1 rfl) ?_
  refine lv_aload_n hx hb dL_law_202 rfl (lv_at hl 0 rfl) ?_
  refine lv_iload hx hb dL_law_203 (lv_at hl 4 rfl) ?_
  refine lv_iconst (v := (1 : Int32)) hx hb dL_law_205 (by decide) ?_
  refine lv_iadd hx hb dL_law_206 ?_
  refine va_sld hx hb hX hbl hbA hB.2.2 (hvi _ (by decide)) dL_law_207 ?_
  refine lv_aload_n hx hb dL_law_208 rfl (lv_at hl 3 rfl) ?_
  refine g_swcut (As := [.ref ua, .int (xs (i + 1).toNatClampNeg), .ref oa]) (rest := []) (wc := cU cyI cyB cyO ua ub up aw as' pa β υ ω sid τs n ++ cO cyL oa lam) (wr := cM cyI cyA ad μ) ⟨hx, hb, hml, hown, hts⟩ (kL_load l hl0 dC dI cyI cyB cyO cyL ua ub up oa aw as' kS lam H.size hf3 hE9) (vx_cwSW 3 hts (goodIn_sub (List.forall_mem_append.mpr ⟨tSL_load, tqL_load⟩) (by decide +kernel)) rfl rfl rfl (by decide +kernel) ⟨(Nat.le_of_ble_eq_true rfl), (Nat.le_of_ble_eq_true rfl)⟩) (vjpre_left hEX hNC hJ hNw hB hA (hK.sub [0, 1, 2, 3] rfl) [.ref ua, .int (xs (i + 1).toNatClampNeg), .ref oa]) hB hA (List.Perm.refl _) rfl hl.1 rfl (Nat.le_of_ble_eq_true rfl) dL_law_209 ⟨by show _ ≤ 601024; omega, by show _ ≤ 7293034; omega⟩ (fun r u H locs hr9 hB => ?_)
  rw [hr9]
  refine W.widen (k := 214 + 14 * j) (n := 10312 + 312 * j) (by omega) (by omega) ?_
  refine lv_istore (lv' := [(5, .int (xR ["java/lang/IllegalArgumentException"] o)), (0, .ref b), (1, .ref ua), (2, .ref (ad 0)), (3, .ref oa), (4, .int i)]) hx hb dL_law_212 hl (by decide) rfl (fun ls hl => ?_)
  refine lv_aload_n hx hb dL_law_214 rfl (lv_at hl 3 rfl) ?_
  refine lv_aload_n hx hb dL_law_215 rfl (lv_at hl 1 rfl) ?_
  refine lv_iload hx hb dL_law_216 (lv_at hl 5 rfl) ?_
  refine lv_iconst (v := (1 : Int32)) hx hb dL_law_218 (by decide) ?_
  refine lv_iadd hx hb dL_law_219 ?_
  refine va_sld hx hb hX hbl hbA hB.2.2 (hvi _ (by decide)) dL_law_220 ?_
  refine g_vcut (As := [.int (xs (i + 1).toNatClampNeg)]) (rest := []) (wc := cM cyI cyA ad μ) (w1 := fun _ : Unit => cM cyI cyA ad μ1) ⟨hx, hb, hml, hown, hts⟩ (kX4_load l dC dI cyI cyA ad kS H.size hf4) (cwV 1 hts GTlaw_X4_load rfl rfl rfl (by decide +kernel) ⟨(Nat.le_of_ble_eq_true rfl), (Nat.le_of_ble_eq_true rfl)⟩) (jpre_left hJ (hB.perm List.perm_append_comm) hA (hK.sub [0, 4] rfl) (.ref (ad 0) :: [.int (xs (i + 1).toNatClampNeg)])) hB hA (g_recv (ci := 4) hK (hB.perm List.perm_append_comm) 0 rfl rfl rfl) List.perm_append_comm rfl hl.1 rfl (Nat.le_of_ble_eq_true rfl) dL_law_221 ⟨by show _ ≤ 601024; omega, by show _ ≤ 7293034; omega⟩ (fun r _ H locs hr9 hB => ?_)
  have hB := hB.perm List.perm_append_comm
  rw [hr9]
  refine lv_istore (lv' := [(6, .int (b9)), (5, .int (xR ["java/lang/IllegalArgumentException"] o)), (0, .ref b), (1, .ref ua), (2, .ref (ad 0)), (3, .ref oa), (4, .int i)]) hx hb dL_law_224 hl (by decide) rfl (fun ls hl => ?_)
  refine lv_aload_n hx hb dL_law_226 rfl (lv_at hl 4 rfl) ?_
  refine g_vcut (As := []) (rest := []) (wc := cM cyI cyA ad μ1) (w1 := fun _ : Unit => cM cyI cyA ad μ1) ⟨hx, hb, hml, hown, hts⟩ (kX4_thrown l dC dI cyI cyA ad H.size hth) (cwV 0 hts GTlaw_X4_thrown rfl rfl rfl (by decide +kernel) ⟨(Nat.le_of_ble_eq_true rfl), (Nat.le_of_ble_eq_true rfl)⟩) (pcut_pre (hB.perm List.perm_append_comm) (hK.sub [0, 4] rfl) (.ref (ad 0) :: [])) hB hA (g_recv (ci := 4) hK (hB.perm List.perm_append_comm) 0 rfl rfl rfl) List.perm_append_comm rfl hl.1 rfl (Nat.le_of_ble_eq_true rfl) dL_law_227 ⟨by show _ ≤ 601024; omega, by show _ ≤ 7293034; omega⟩ (fun r _ H locs hr9 hB => ?_)
  have hB := hB.perm List.perm_append_comm
  rw [hr9]
  refine lv_iload hx hb dL_law_230 (lv_at hl 1 rfl) ?_
  refine lv_icmp_eq (tgt := 237) hx hb dL_law_232 (by decide) (fun _ => ?_) (fun c9 => absurd rfl c9)
  refine lv_iload hx hb dL_law_237 (lv_at hl 1 rfl) ?_
  refine lv_if_ne (tgt := 254) hx hb dL_law_239 (by decide) (fun c9 => ?_) (fun c9 => ?_)
  · refine lv_goto (tgt := 1121) hx hb dL_law_254 (by decide) ?_
    rcases o with E | x
    · exact nxt _ _ _ _ _ _ _ _ _ as' _ _ _ (hIx E rfl) hB (lv_sub hl [2, 3, 4, 5, 6] rfl)
    · exact absurd rfl c9
  · obtain ⟨x, rfl⟩ := xR0 (hs := ["java/lang/IllegalArgumentException"]) (by decide) c9
    refine lv_aload_n hx hb dL_law_242 rfl (lv_at hl 5 rfl) ?_
    refine lv_iconst (v := (0 : Int32)) hx hb dL_law_243 (by decide) ?_
    refine va_lald hx hb hK (hB.perm ((List.perm_append_comm.append_right _).trans (List.Perm.of_eq (List.append_assoc _ _ _)))).1 0 3 rfl rfl vp_in01 dL_law_244 ?_
    refine lv_iload hx hb dL_law_245 (lv_at hl 0 rfl) ?_
    refine lv_i2l hx hb dL_law_247 rfl ?_
    refine W.lcmp hx hb dL_law_248 ?_
    refine lv_if_eq (tgt := 254) hx hb dL_law_249 (by decide) (fun _ => ?_) (fun c9 => absurd (cmp0 (xL0 _ _ _ (hval x rfl))) c9)
    refine lv_goto (tgt := 1121) hx hb dL_law_254 (by decide) ?_
    exact nxt _ _ _ _ _ _ _ _ _ u _ _ _ (hIr x rfl) hB (lv_sub hl [2, 3, 4, 5, 6] rfl)

set_option maxHeartbeats 4000000 in
set_option maxRecDepth 100000 in
theorem law_errorOffset {p : Program} {l : Launch} {e : Env} {s : State} {m : MethodId} {args : Array Value} {below : List Frame} {meth : Method} {c : Code} {H : Heap} {locs : List Loc} {Q : State → Prop} {b L : Nat} {xs : Nat → Int32} {dC : Nat → ClassId} {dI : Nat → Nat → Nat} {cyI cyB cyO cyL cyA : ClassId} {ua ub up oa : Nat} {aw as' : Nat → Nat → Nat} {ad kS : Nat → Nat} {fu : Nat} {I I1 : IT} {τs : WS} {n : Nat} {pa : PA} {β : FS} {υ : MS} {ω : WS} {sid : PA} {μ : MS} {lam : Nat → Int64} {j : Nat} {i : Int32} {ls : Array Slot} (hx : p.tables.exec = Jvm.exec) (hb : c.code = cL_law) (hml : c.maxLocals = 7) (hown : s.vm.findClass RL = some m.cls) (hts : ∀ w ∈ lw_tbl, w.before args s = true) (hX : va_X b L xs s s.heap) (hbl : b < s.heap.size) (hl0 : l.stackTraces = false) (hK : va_K (dC, dI) vwCl [(cyI, .int), (cyB, .byte), (cyO, .object "UndoJourneys$World"), (cyL, .long), (cyA, .array .int)] s) (hEX : EX (fun q => s.heap.size ≤ q) s s.heap) (hNC : NC s) (hJ : JS kS (fun q => s.heap.size ≤ q) s s.heap) (hNw : va_Nw (.methodLinkNest RX1 11 yX0_init RX3) s) (hj : j ≤ 511) (hvi : ∀ k : Int32, k = 0 ∨ k = 1 ∨ k = 2 ∨ k = 3 ∨ k = 4 ∨ k = 5 → vp_in (i + k) L) (hag : ag_errorOffset fu I I1) (hI : I τs n pa β υ ω sid μ) (hB : Bd (dC, dI) [(cyI, .int), (cyB, .byte), (cyO, .object "UndoJourneys$World"), (cyL, .long), (cyA, .array .int)] (fun q => s.heap.size ≤ q) s ((cU cyI cyB cyO ua ub up aw as' pa β υ ω sid τs n ++ cO cyL oa lam) ++ cM cyI cyA ad μ) H locs) (hl : lv_has ls 7 [(0, .ref b), (1, .ref ua), (2, .ref (ad 0)), (3, .ref oa), (4, .int i)]) (nxt : ∀ (τs : WS) (n : Nat) (pa : PA) (β : FS) (υ : MS) (ω : WS) (sid : PA) (μ : MS) (lam : Nat → Int64) (as' : Nat → Nat → Nat) (H : Heap) (locs : List Loc) (ls : Array Slot), I1 τs n pa β υ ω sid μ → Bd (dC, dI) [(cyI, .int), (cyB, .byte), (cyO, .object "UndoJourneys$World"), (cyL, .long), (cyA, .array .int)] (fun q => s.heap.size ≤ q) s ((cU cyI cyB cyO ua ub up aw as' pa β υ ω sid τs n ++ cO cyL oa lam) ++ cM cyI cyA ad μ) H locs → lv_has ls 7 [(0, .ref b), (1, .ref ua), (2, .ref (ad 0)), (3, .ref oa), (4, .int i)] → W p l e room_1 s m args below meth c H locs (214 + 14 * j) (10312 + 312 * j) Q (F0 m 1121 ls [])) : W p l e room_1 s m args below meth c H locs (200 + 14 * j) (10000 + 312 * j) Q (F0 m 257 ls []) := by
  have hA : ∀ q : Nat, s.heap.size ≤ q → (fun q : Nat => s.heap.size ≤ q) q := fun _ h => h
  have hbA : ¬ (fun q : Nat => s.heap.size ≤ q) b := Nat.not_le.mpr hbl
  obtain ⟨r9, μ1, hf3, hf4, hI1⟩ := hag τs n pa β υ ω sid μ hI 
  refine lv_aload_n hx hb dL_law_257 rfl (lv_at hl 1 rfl) ?_
  refine g_vcut (As := []) (rest := []) (wc := cU cyI cyB cyO ua ub up aw as' pa β υ ω sid τs n) (wr := cO cyL oa lam ++ cM cyI cyA ad μ) (w1 := fun _ : Unit => cU cyI cyB cyO ua ub up aw as' pa β υ ω sid τs n) ⟨hx, hb, hml, hown, hts⟩ (kX3_errorOffset l dC dI cyI cyB cyO ua ub up aw as' H.size hf3) (cwV 0 hts GTlaw_X3_errorOffset rfl rfl rfl (by decide +kernel) ⟨(Nat.le_of_ble_eq_true rfl), (Nat.le_of_ble_eq_true rfl)⟩) (pcut_pre (hB.perm (List.Perm.of_eq (List.append_assoc _ _ _))) (hK.sub [0, 1, 2] rfl) (.ref ua :: [])) hB hA (g_recv (ci := 3) hK hB 0 rfl rfl rfl) (List.Perm.of_eq (List.append_assoc _ _ _)) rfl hl.1 rfl (Nat.le_of_ble_eq_true rfl) dL_law_258 ⟨by show _ ≤ 601024; omega, by show _ ≤ 7293034; omega⟩ (fun r _ H locs hr9 hB => ?_)
  have hB := hB.perm (List.Perm.of_eq (List.append_assoc _ _ _).symm)
  rw [hr9]
  refine lv_aload_n hx hb dL_law_261 rfl (lv_at hl 2 rfl) ?_
  refine g_vcut (As := []) (rest := [.int r9]) (wc := cM cyI cyA ad μ) (w1 := fun _ : Unit => cM cyI cyA ad μ1) ⟨hx, hb, hml, hown, hts⟩ (kX4_errorOffset l dC dI cyI cyA ad H.size hf4) (cwV 0 hts GTlaw_X4_errorOffset rfl rfl rfl (by decide +kernel) ⟨(Nat.le_of_ble_eq_true rfl), (Nat.le_of_ble_eq_true rfl)⟩) (pcut_pre (hB.perm List.perm_append_comm) (hK.sub [0, 4] rfl) (.ref (ad 0) :: [])) hB hA (g_recv (ci := 4) hK (hB.perm List.perm_append_comm) 0 rfl rfl rfl) List.perm_append_comm rfl hl.1 rfl (Nat.le_of_ble_eq_true rfl) dL_law_262 ⟨by show _ ≤ 601024; omega, by show _ ≤ 7293034; omega⟩ (fun r _ H locs hr9 hB => ?_)
  have hB := hB.perm List.perm_append_comm
  rw [hr9]
  refine lv_icmp_eq (tgt := 1121) hx hb dL_law_265 (by decide) (fun _ => ?_) (fun c9 => absurd rfl c9)
  refine W.widen (k := 214 + 14 * j) (n := 10312 + 312 * j) (by omega) (by omega) ?_
  exact nxt _ _ _ _ _ _ _ _ _ as' _ _ _ hI1 hB (lv_sub hl [0, 1, 2, 3, 4] rfl)

set_option maxHeartbeats 4000000 in
set_option maxRecDepth 100000 in
theorem law_state {p : Program} {l : Launch} {e : Env} {s : State} {m : MethodId} {args : Array Value} {below : List Frame} {meth : Method} {c : Code} {H : Heap} {locs : List Loc} {Q : State → Prop} {b L : Nat} {xs : Nat → Int32} {dC : Nat → ClassId} {dI : Nat → Nat → Nat} {cyI cyB cyO cyL cyA : ClassId} {ua ub up oa : Nat} {aw as' : Nat → Nat → Nat} {ad kS : Nat → Nat} {fu : Nat} {I I1 : IT} {τs : WS} {n : Nat} {pa : PA} {β : FS} {υ : MS} {ω : WS} {sid : PA} {μ : MS} {lam : Nat → Int64} {j : Nat} {i : Int32} {ls : Array Slot} (hx : p.tables.exec = Jvm.exec) (hb : c.code = cL_law) (hml : c.maxLocals = 7) (hown : s.vm.findClass RL = some m.cls) (hts : ∀ w ∈ lw_tbl, w.before args s = true) (hX : va_X b L xs s s.heap) (hbl : b < s.heap.size) (hl0 : l.stackTraces = false) (hK : va_K (dC, dI) vwCl [(cyI, .int), (cyB, .byte), (cyO, .object "UndoJourneys$World"), (cyL, .long), (cyA, .array .int)] s) (hEX : EX (fun q => s.heap.size ≤ q) s s.heap) (hNC : NC s) (hJ : JS kS (fun q => s.heap.size ≤ q) s s.heap) (hNw : va_Nw (.methodLinkNest RX1 11 yX0_init RX3) s) (hj : j ≤ 511) (hvi : ∀ k : Int32, k = 0 ∨ k = 1 ∨ k = 2 ∨ k = 3 ∨ k = 4 ∨ k = 5 → vp_in (i + k) L) (hag : ag_state fu I I1) (hI : I τs n pa β υ ω sid μ) (hB : Bd (dC, dI) [(cyI, .int), (cyB, .byte), (cyO, .object "UndoJourneys$World"), (cyL, .long), (cyA, .array .int)] (fun q => s.heap.size ≤ q) s ((cU cyI cyB cyO ua ub up aw as' pa β υ ω sid τs n ++ cO cyL oa lam) ++ cM cyI cyA ad μ) H locs) (hl : lv_has ls 7 [(0, .ref b), (1, .ref ua), (2, .ref (ad 0)), (3, .ref oa), (4, .int i)]) (nxt : ∀ (τs : WS) (n : Nat) (pa : PA) (β : FS) (υ : MS) (ω : WS) (sid : PA) (μ : MS) (lam : Nat → Int64) (as' : Nat → Nat → Nat) (H : Heap) (locs : List Loc) (ls : Array Slot), I1 τs n pa β υ ω sid μ → Bd (dC, dI) [(cyI, .int), (cyB, .byte), (cyO, .object "UndoJourneys$World"), (cyL, .long), (cyA, .array .int)] (fun q => s.heap.size ≤ q) s ((cU cyI cyB cyO ua ub up aw as' pa β υ ω sid τs n ++ cO cyL oa lam) ++ cM cyI cyA ad μ) H locs → lv_has ls 7 [(0, .ref b), (1, .ref ua), (2, .ref (ad 0)), (3, .ref oa), (4, .int i)] → W p l e room_1 s m args below meth c H locs (214 + 14 * j) (10312 + 312 * j) Q (F0 m 1121 ls [])) : W p l e room_1 s m args below meth c H locs (200 + 14 * j) (10000 + 312 * j) Q (F0 m 270 ls []) := by
  have hA : ∀ q : Nat, s.heap.size ≤ q → (fun q : Nat => s.heap.size ≤ q) q := fun _ h => h
  have hbA : ¬ (fun q : Nat => s.heap.size ≤ q) b := Nat.not_le.mpr hbl
  obtain ⟨o, b9, μ1, hf3, hE9, hf4, hth, hval, hIx, hIr⟩ := hag τs n pa β υ ω sid μ hI (xs (i + 1).toNatClampNeg)
  refine lv_aload_n hx hb dL_law_270 rfl (lv_at hl 1 rfl) ?_
  refine lv_aload_n hx hb dL_law_271 rfl (lv_at hl 0 rfl) ?_
  refine lv_iload hx hb dL_law_272 (lv_at hl 4 rfl) ?_
  refine lv_iconst (v := (1 : Int32)) hx hb dL_law_274 (by decide) ?_
  refine lv_iadd hx hb dL_law_275 ?_
  refine va_sld hx hb hX hbl hbA hB.2.2 (hvi _ (by decide)) dL_law_276 ?_
  refine lv_aload_n hx hb dL_law_277 rfl (lv_at hl 3 rfl) ?_
  refine g_swcut (As := [.ref ua, .int (xs (i + 1).toNatClampNeg), .ref oa]) (rest := []) (wc := cU cyI cyB cyO ua ub up aw as' pa β υ ω sid τs n ++ cO cyL oa lam) (wr := cM cyI cyA ad μ) ⟨hx, hb, hml, hown, hts⟩ (kL_state l hl0 dC dI cyI cyB cyO cyL ua ub up oa aw as' lam H.size hf3 hE9) (vx_cwSW 3 hts (goodIn_sub (List.forall_mem_append.mpr ⟨tSL_state, tqL_state⟩) (by decide +kernel)) rfl rfl rfl (by decide +kernel) ⟨(Nat.le_of_ble_eq_true rfl), (Nat.le_of_ble_eq_true rfl)⟩) (vpre_left hEX hNC hB hA (hK.sub [0, 1, 2, 3] rfl) [.ref ua, .int (xs (i + 1).toNatClampNeg), .ref oa]) hB hA (List.Perm.refl _) rfl hl.1 rfl (Nat.le_of_ble_eq_true rfl) dL_law_278 ⟨by show _ ≤ 601024; omega, by show _ ≤ 7293034; omega⟩ (fun r u H locs hr9 hB => ?_)
  rw [hr9]
  refine W.widen (k := 214 + 14 * j) (n := 10312 + 312 * j) (by omega) (by omega) ?_
  refine lv_istore (lv' := [(5, .int (xR ["java/lang/IllegalArgumentException"] o)), (0, .ref b), (1, .ref ua), (2, .ref (ad 0)), (3, .ref oa), (4, .int i)]) hx hb dL_law_281 hl (by decide) rfl (fun ls hl => ?_)
  refine lv_aload_n hx hb dL_law_283 rfl (lv_at hl 3 rfl) ?_
  refine lv_aload_n hx hb dL_law_284 rfl (lv_at hl 1 rfl) ?_
  refine lv_iload hx hb dL_law_285 (lv_at hl 5 rfl) ?_
  refine lv_iconst (v := (1 : Int32)) hx hb dL_law_287 (by decide) ?_
  refine lv_iadd hx hb dL_law_288 ?_
  refine va_sld hx hb hX hbl hbA hB.2.2 (hvi _ (by decide)) dL_law_289 ?_
  refine g_vcut (As := [.int (xs (i + 1).toNatClampNeg)]) (rest := []) (wc := cM cyI cyA ad μ) (w1 := fun _ : Unit => cM cyI cyA ad μ1) ⟨hx, hb, hml, hown, hts⟩ (kX4_state l dC dI cyI cyA ad H.size hf4) (cwV 1 hts GTlaw_X4_state rfl rfl rfl (by decide +kernel) ⟨(Nat.le_of_ble_eq_true rfl), (Nat.le_of_ble_eq_true rfl)⟩) (pcut_pre (hB.perm List.perm_append_comm) (hK.sub [0, 4] rfl) (.ref (ad 0) :: [.int (xs (i + 1).toNatClampNeg)])) hB hA (g_recv (ci := 4) hK (hB.perm List.perm_append_comm) 0 rfl rfl rfl) List.perm_append_comm rfl hl.1 rfl (Nat.le_of_ble_eq_true rfl) dL_law_290 ⟨by show _ ≤ 601024; omega, by show _ ≤ 7293034; omega⟩ (fun r _ H locs hr9 hB => ?_)
  have hB := hB.perm List.perm_append_comm
  rw [hr9]
  refine lv_istore (lv' := [(6, .int (b9)), (5, .int (xR ["java/lang/IllegalArgumentException"] o)), (0, .ref b), (1, .ref ua), (2, .ref (ad 0)), (3, .ref oa), (4, .int i)]) hx hb dL_law_293 hl (by decide) rfl (fun ls hl => ?_)
  refine lv_aload_n hx hb dL_law_295 rfl (lv_at hl 4 rfl) ?_
  refine g_vcut (As := []) (rest := []) (wc := cM cyI cyA ad μ1) (w1 := fun _ : Unit => cM cyI cyA ad μ1) ⟨hx, hb, hml, hown, hts⟩ (kX4_thrown l dC dI cyI cyA ad H.size hth) (cwV 0 hts GTlaw_X4_thrown rfl rfl rfl (by decide +kernel) ⟨(Nat.le_of_ble_eq_true rfl), (Nat.le_of_ble_eq_true rfl)⟩) (pcut_pre (hB.perm List.perm_append_comm) (hK.sub [0, 4] rfl) (.ref (ad 0) :: [])) hB hA (g_recv (ci := 4) hK (hB.perm List.perm_append_comm) 0 rfl rfl rfl) List.perm_append_comm rfl hl.1 rfl (Nat.le_of_ble_eq_true rfl) dL_law_296 ⟨by show _ ≤ 601024; omega, by show _ ≤ 7293034; omega⟩ (fun r _ H locs hr9 hB => ?_)
  have hB := hB.perm List.perm_append_comm
  rw [hr9]
  refine lv_iload hx hb dL_law_299 (lv_at hl 1 rfl) ?_
  refine lv_icmp_eq (tgt := 306) hx hb dL_law_301 (by decide) (fun _ => ?_) (fun c9 => absurd rfl c9)
  refine lv_iload hx hb dL_law_306 (lv_at hl 1 rfl) ?_
  refine lv_if_ne (tgt := 323) hx hb dL_law_308 (by decide) (fun c9 => ?_) (fun c9 => ?_)
  · refine lv_goto (tgt := 1121) hx hb dL_law_323 (by decide) ?_
    rcases o with E | x
    · exact nxt _ _ _ _ _ _ _ _ _ as' _ _ _ (hIx E rfl) hB (lv_sub hl [2, 3, 4, 5, 6] rfl)
    · exact absurd rfl c9
  · obtain ⟨x, rfl⟩ := xR0 (hs := ["java/lang/IllegalArgumentException"]) (by decide) c9
    refine lv_aload_n hx hb dL_law_311 rfl (lv_at hl 5 rfl) ?_
    refine lv_iconst (v := (0 : Int32)) hx hb dL_law_312 (by decide) ?_
    refine va_lald hx hb hK (hB.perm ((List.perm_append_comm.append_right _).trans (List.Perm.of_eq (List.append_assoc _ _ _)))).1 0 3 rfl rfl vp_in01 dL_law_313 ?_
    refine lv_iload hx hb dL_law_314 (lv_at hl 0 rfl) ?_
    refine lv_i2l hx hb dL_law_316 rfl ?_
    refine W.lcmp hx hb dL_law_317 ?_
    refine lv_if_eq (tgt := 323) hx hb dL_law_318 (by decide) (fun _ => ?_) (fun c9 => absurd (cmp0 (xL0 _ _ _ (hval x rfl))) c9)
    refine lv_goto (tgt := 1121) hx hb dL_law_323 (by decide) ?_
    exact nxt _ _ _ _ _ _ _ _ _ as' _ _ _ (hIr x rfl) hB (lv_sub hl [2, 3, 4, 5, 6] rfl)

set_option maxHeartbeats 4000000 in
set_option maxRecDepth 100000 in
theorem law_stock {p : Program} {l : Launch} {e : Env} {s : State} {m : MethodId} {args : Array Value} {below : List Frame} {meth : Method} {c : Code} {H : Heap} {locs : List Loc} {Q : State → Prop} {b L : Nat} {xs : Nat → Int32} {dC : Nat → ClassId} {dI : Nat → Nat → Nat} {cyI cyB cyO cyL cyA : ClassId} {ua ub up oa : Nat} {aw as' : Nat → Nat → Nat} {ad kS : Nat → Nat} {fu : Nat} {I I1 : IT} {τs : WS} {n : Nat} {pa : PA} {β : FS} {υ : MS} {ω : WS} {sid : PA} {μ : MS} {lam : Nat → Int64} {j : Nat} {i : Int32} {ls : Array Slot} (hx : p.tables.exec = Jvm.exec) (hb : c.code = cL_law) (hml : c.maxLocals = 7) (hown : s.vm.findClass RL = some m.cls) (hts : ∀ w ∈ lw_tbl, w.before args s = true) (hX : va_X b L xs s s.heap) (hbl : b < s.heap.size) (hl0 : l.stackTraces = false) (hK : va_K (dC, dI) vwCl [(cyI, .int), (cyB, .byte), (cyO, .object "UndoJourneys$World"), (cyL, .long), (cyA, .array .int)] s) (hEX : EX (fun q => s.heap.size ≤ q) s s.heap) (hNC : NC s) (hJ : JS kS (fun q => s.heap.size ≤ q) s s.heap) (hNw : va_Nw (.methodLinkNest RX1 11 yX0_init RX3) s) (hj : j ≤ 511) (hvi : ∀ k : Int32, k = 0 ∨ k = 1 ∨ k = 2 ∨ k = 3 ∨ k = 4 ∨ k = 5 → vp_in (i + k) L) (hag : ag_stock fu I I1) (hI : I τs n pa β υ ω sid μ) (hB : Bd (dC, dI) [(cyI, .int), (cyB, .byte), (cyO, .object "UndoJourneys$World"), (cyL, .long), (cyA, .array .int)] (fun q => s.heap.size ≤ q) s ((cU cyI cyB cyO ua ub up aw as' pa β υ ω sid τs n ++ cO cyL oa lam) ++ cM cyI cyA ad μ) H locs) (hl : lv_has ls 7 [(0, .ref b), (1, .ref ua), (2, .ref (ad 0)), (3, .ref oa), (4, .int i)]) (nxt : ∀ (τs : WS) (n : Nat) (pa : PA) (β : FS) (υ : MS) (ω : WS) (sid : PA) (μ : MS) (lam : Nat → Int64) (as' : Nat → Nat → Nat) (H : Heap) (locs : List Loc) (ls : Array Slot), I1 τs n pa β υ ω sid μ → Bd (dC, dI) [(cyI, .int), (cyB, .byte), (cyO, .object "UndoJourneys$World"), (cyL, .long), (cyA, .array .int)] (fun q => s.heap.size ≤ q) s ((cU cyI cyB cyO ua ub up aw as' pa β υ ω sid τs n ++ cO cyL oa lam) ++ cM cyI cyA ad μ) H locs → lv_has ls 7 [(0, .ref b), (1, .ref ua), (2, .ref (ad 0)), (3, .ref oa), (4, .int i)] → W p l e room_1 s m args below meth c H locs (214 + 14 * j) (10312 + 312 * j) Q (F0 m 1121 ls [])) : W p l e room_1 s m args below meth c H locs (200 + 14 * j) (10000 + 312 * j) Q (F0 m 326 ls []) := by
  have hA : ∀ q : Nat, s.heap.size ≤ q → (fun q : Nat => s.heap.size ≤ q) q := fun _ h => h
  have hbA : ¬ (fun q : Nat => s.heap.size ≤ q) b := Nat.not_le.mpr hbl
  obtain ⟨o, b9, μ1, hf3, hE9, hf4, hth, hval, hIx, hIr⟩ := hag τs n pa β υ ω sid μ hI (xs (i + 1).toNatClampNeg) (xs (i + 2).toNatClampNeg)
  refine lv_aload_n hx hb dL_law_326 rfl (lv_at hl 1 rfl) ?_
  refine lv_aload_n hx hb dL_law_327 rfl (lv_at hl 0 rfl) ?_
  refine lv_iload hx hb dL_law_328 (lv_at hl 4 rfl) ?_
  refine lv_iconst (v := (1 : Int32)) hx hb dL_law_330 (by decide) ?_
  refine lv_iadd hx hb dL_law_331 ?_
  refine va_sld hx hb hX hbl hbA hB.2.2 (hvi _ (by decide)) dL_law_332 ?_
  refine lv_aload_n hx hb dL_law_333 rfl (lv_at hl 0 rfl) ?_
  refine lv_iload hx hb dL_law_334 (lv_at hl 4 rfl) ?_
  refine lv_iconst (v := (2 : Int32)) hx hb dL_law_336 (by decide) ?_
  refine lv_iadd hx hb dL_law_337 ?_
  refine va_sld hx hb hX hbl hbA hB.2.2 (hvi _ (by decide)) dL_law_338 ?_
  refine lv_aload_n hx hb dL_law_339 rfl (lv_at hl 3 rfl) ?_
  refine g_swcut (As := [.ref ua, .int (xs (i + 1).toNatClampNeg), .int (xs (i + 2).toNatClampNeg), .ref oa]) (rest := []) (wc := cU cyI cyB cyO ua ub up aw as' pa β υ ω sid τs n ++ cO cyL oa lam) (wr := cM cyI cyA ad μ) ⟨hx, hb, hml, hown, hts⟩ (kL_stock l hl0 dC dI cyI cyB cyO cyL ua ub up oa aw as' lam H.size hf3 hE9) (vx_cwSW 4 hts (goodIn_sub (List.forall_mem_append.mpr ⟨tSL_stock, tqL_stock⟩) (by decide +kernel)) rfl rfl rfl (by decide +kernel) ⟨(Nat.le_of_ble_eq_true rfl), (Nat.le_of_ble_eq_true rfl)⟩) (vpre_left hEX hNC hB hA (hK.sub [0, 1, 2, 3] rfl) [.ref ua, .int (xs (i + 1).toNatClampNeg), .int (xs (i + 2).toNatClampNeg), .ref oa]) hB hA (List.Perm.refl _) rfl hl.1 rfl (Nat.le_of_ble_eq_true rfl) dL_law_340 ⟨by show _ ≤ 601024; omega, by show _ ≤ 7293034; omega⟩ (fun r u H locs hr9 hB => ?_)
  rw [hr9]
  refine W.widen (k := 214 + 14 * j) (n := 10312 + 312 * j) (by omega) (by omega) ?_
  refine lv_istore (lv' := [(5, .int (xR ["java/lang/IndexOutOfBoundsException", "java/lang/IllegalArgumentException"] o)), (0, .ref b), (1, .ref ua), (2, .ref (ad 0)), (3, .ref oa), (4, .int i)]) hx hb dL_law_343 hl (by decide) rfl (fun ls hl => ?_)
  refine lv_aload_n hx hb dL_law_345 rfl (lv_at hl 3 rfl) ?_
  refine lv_aload_n hx hb dL_law_346 rfl (lv_at hl 1 rfl) ?_
  refine lv_iload hx hb dL_law_347 (lv_at hl 5 rfl) ?_
  refine lv_iconst (v := (1 : Int32)) hx hb dL_law_349 (by decide) ?_
  refine lv_iadd hx hb dL_law_350 ?_
  refine va_sld hx hb hX hbl hbA hB.2.2 (hvi _ (by decide)) dL_law_351 ?_
  refine lv_aload_n hx hb dL_law_352 rfl (lv_at hl 1 rfl) ?_
  refine lv_iload hx hb dL_law_353 (lv_at hl 5 rfl) ?_
  refine lv_iconst (v := (2 : Int32)) hx hb dL_law_355 (by decide) ?_
  refine lv_iadd hx hb dL_law_356 ?_
  refine va_sld hx hb hX hbl hbA hB.2.2 (hvi _ (by decide)) dL_law_357 ?_
  refine g_vcut (As := [.int (xs (i + 1).toNatClampNeg), .int (xs (i + 2).toNatClampNeg)]) (rest := []) (wc := cM cyI cyA ad μ) (w1 := fun _ : Unit => cM cyI cyA ad μ1) ⟨hx, hb, hml, hown, hts⟩ (kX4_stock l dC dI cyI cyA ad H.size hf4) (cwV 2 hts GTlaw_X4_stock rfl rfl rfl (by decide +kernel) ⟨(Nat.le_of_ble_eq_true rfl), (Nat.le_of_ble_eq_true rfl)⟩) (pcut_pre (hB.perm List.perm_append_comm) (hK.sub [0, 4] rfl) (.ref (ad 0) :: [.int (xs (i + 1).toNatClampNeg), .int (xs (i + 2).toNatClampNeg)])) hB hA (g_recv (ci := 4) hK (hB.perm List.perm_append_comm) 0 rfl rfl rfl) List.perm_append_comm rfl hl.1 rfl (Nat.le_of_ble_eq_true rfl) dL_law_358 ⟨by show _ ≤ 601024; omega, by show _ ≤ 7293034; omega⟩ (fun r _ H locs hr9 hB => ?_)
  have hB := hB.perm List.perm_append_comm
  rw [hr9]
  refine lv_istore (lv' := [(6, .int (b9)), (5, .int (xR ["java/lang/IndexOutOfBoundsException", "java/lang/IllegalArgumentException"] o)), (0, .ref b), (1, .ref ua), (2, .ref (ad 0)), (3, .ref oa), (4, .int i)]) hx hb dL_law_361 hl (by decide) rfl (fun ls hl => ?_)
  refine lv_aload_n hx hb dL_law_363 rfl (lv_at hl 4 rfl) ?_
  refine g_vcut (As := []) (rest := []) (wc := cM cyI cyA ad μ1) (w1 := fun _ : Unit => cM cyI cyA ad μ1) ⟨hx, hb, hml, hown, hts⟩ (kX4_thrown l dC dI cyI cyA ad H.size hth) (cwV 0 hts GTlaw_X4_thrown rfl rfl rfl (by decide +kernel) ⟨(Nat.le_of_ble_eq_true rfl), (Nat.le_of_ble_eq_true rfl)⟩) (pcut_pre (hB.perm List.perm_append_comm) (hK.sub [0, 4] rfl) (.ref (ad 0) :: [])) hB hA (g_recv (ci := 4) hK (hB.perm List.perm_append_comm) 0 rfl rfl rfl) List.perm_append_comm rfl hl.1 rfl (Nat.le_of_ble_eq_true rfl) dL_law_364 ⟨by show _ ≤ 601024; omega, by show _ ≤ 7293034; omega⟩ (fun r _ H locs hr9 hB => ?_)
  have hB := hB.perm List.perm_append_comm
  rw [hr9]
  refine lv_iload hx hb dL_law_367 (lv_at hl 1 rfl) ?_
  refine lv_icmp_eq (tgt := 374) hx hb dL_law_369 (by decide) (fun _ => ?_) (fun c9 => absurd rfl c9)
  refine lv_iload hx hb dL_law_374 (lv_at hl 1 rfl) ?_
  refine lv_if_ne (tgt := 391) hx hb dL_law_376 (by decide) (fun c9 => ?_) (fun c9 => ?_)
  · refine lv_goto (tgt := 1121) hx hb dL_law_391 (by decide) ?_
    rcases o with E | x
    · exact nxt _ _ _ _ _ _ _ _ _ as' _ _ _ (hIx E rfl) hB (lv_sub hl [2, 3, 4, 5, 6] rfl)
    · exact absurd rfl c9
  · obtain ⟨x, rfl⟩ := xR0 (hs := ["java/lang/IndexOutOfBoundsException", "java/lang/IllegalArgumentException"]) (by decide) c9
    refine lv_aload_n hx hb dL_law_379 rfl (lv_at hl 5 rfl) ?_
    refine lv_iconst (v := (0 : Int32)) hx hb dL_law_380 (by decide) ?_
    refine va_lald hx hb hK (hB.perm ((List.perm_append_comm.append_right _).trans (List.Perm.of_eq (List.append_assoc _ _ _)))).1 0 3 rfl rfl vp_in01 dL_law_381 ?_
    refine lv_iload hx hb dL_law_382 (lv_at hl 0 rfl) ?_
    refine lv_i2l hx hb dL_law_384 rfl ?_
    refine W.lcmp hx hb dL_law_385 ?_
    refine lv_if_eq (tgt := 391) hx hb dL_law_386 (by decide) (fun _ => ?_) (fun c9 => absurd (cmp0 (xL0 _ _ _ (hval x rfl))) c9)
    refine lv_goto (tgt := 1121) hx hb dL_law_391 (by decide) ?_
    exact nxt _ _ _ _ _ _ _ _ _ as' _ _ _ (hIr x rfl) hB (lv_sub hl [2, 3, 4, 5, 6] rfl)

set_option maxHeartbeats 4000000 in
set_option maxRecDepth 100000 in
theorem law_journey {p : Program} {l : Launch} {e : Env} {s : State} {m : MethodId} {args : Array Value} {below : List Frame} {meth : Method} {c : Code} {H : Heap} {locs : List Loc} {Q : State → Prop} {b L : Nat} {xs : Nat → Int32} {dC : Nat → ClassId} {dI : Nat → Nat → Nat} {cyI cyB cyO cyL cyA : ClassId} {ua ub up oa : Nat} {aw as' : Nat → Nat → Nat} {ad kS : Nat → Nat} {fu : Nat} {I I1 : IT} {τs : WS} {n : Nat} {pa : PA} {β : FS} {υ : MS} {ω : WS} {sid : PA} {μ : MS} {lam : Nat → Int64} {j : Nat} {i : Int32} {ls : Array Slot} (hx : p.tables.exec = Jvm.exec) (hb : c.code = cL_law) (hml : c.maxLocals = 7) (hown : s.vm.findClass RL = some m.cls) (hts : ∀ w ∈ lw_tbl, w.before args s = true) (hX : va_X b L xs s s.heap) (hbl : b < s.heap.size) (hl0 : l.stackTraces = false) (hK : va_K (dC, dI) vwCl [(cyI, .int), (cyB, .byte), (cyO, .object "UndoJourneys$World"), (cyL, .long), (cyA, .array .int)] s) (hEX : EX (fun q => s.heap.size ≤ q) s s.heap) (hNC : NC s) (hJ : JS kS (fun q => s.heap.size ≤ q) s s.heap) (hNw : va_Nw (.methodLinkNest RX1 11 yX0_init RX3) s) (hj : j ≤ 511) (hvi : ∀ k : Int32, k = 0 ∨ k = 1 ∨ k = 2 ∨ k = 3 ∨ k = 4 ∨ k = 5 → vp_in (i + k) L) (hag : ag_journey fu I I1) (hI : I τs n pa β υ ω sid μ) (hB : Bd (dC, dI) [(cyI, .int), (cyB, .byte), (cyO, .object "UndoJourneys$World"), (cyL, .long), (cyA, .array .int)] (fun q => s.heap.size ≤ q) s ((cU cyI cyB cyO ua ub up aw as' pa β υ ω sid τs n ++ cO cyL oa lam) ++ cM cyI cyA ad μ) H locs) (hl : lv_has ls 7 [(0, .ref b), (1, .ref ua), (2, .ref (ad 0)), (3, .ref oa), (4, .int i)]) (nxt : ∀ (τs : WS) (n : Nat) (pa : PA) (β : FS) (υ : MS) (ω : WS) (sid : PA) (μ : MS) (lam : Nat → Int64) (as' : Nat → Nat → Nat) (H : Heap) (locs : List Loc) (ls : Array Slot), I1 τs n pa β υ ω sid μ → Bd (dC, dI) [(cyI, .int), (cyB, .byte), (cyO, .object "UndoJourneys$World"), (cyL, .long), (cyA, .array .int)] (fun q => s.heap.size ≤ q) s ((cU cyI cyB cyO ua ub up aw as' pa β υ ω sid τs n ++ cO cyL oa lam) ++ cM cyI cyA ad μ) H locs → lv_has ls 7 [(0, .ref b), (1, .ref ua), (2, .ref (ad 0)), (3, .ref oa), (4, .int i)] → W p l e room_1 s m args below meth c H locs (214 + 14 * j) (10312 + 312 * j) Q (F0 m 1121 ls [])) : W p l e room_1 s m args below meth c H locs (200 + 14 * j) (10000 + 312 * j) Q (F0 m 394 ls []) := by
  have hA : ∀ q : Nat, s.heap.size ≤ q → (fun q : Nat => s.heap.size ≤ q) q := fun _ h => h
  have hbA : ¬ (fun q : Nat => s.heap.size ≤ q) b := Nat.not_le.mpr hbl
  obtain ⟨o, b9, μ1, hf3, hE9, hf4, hth, hval, hIx, hIr⟩ := hag τs n pa β υ ω sid μ hI (xs (i + 1).toNatClampNeg) (xs (i + 2).toNatClampNeg)
  refine lv_aload_n hx hb dL_law_394 rfl (lv_at hl 1 rfl) ?_
  refine lv_aload_n hx hb dL_law_395 rfl (lv_at hl 0 rfl) ?_
  refine lv_iload hx hb dL_law_396 (lv_at hl 4 rfl) ?_
  refine lv_iconst (v := (1 : Int32)) hx hb dL_law_398 (by decide) ?_
  refine lv_iadd hx hb dL_law_399 ?_
  refine va_sld hx hb hX hbl hbA hB.2.2 (hvi _ (by decide)) dL_law_400 ?_
  refine lv_aload_n hx hb dL_law_401 rfl (lv_at hl 0 rfl) ?_
  refine lv_iload hx hb dL_law_402 (lv_at hl 4 rfl) ?_
  refine lv_iconst (v := (2 : Int32)) hx hb dL_law_404 (by decide) ?_
  refine lv_iadd hx hb dL_law_405 ?_
  refine va_sld hx hb hX hbl hbA hB.2.2 (hvi _ (by decide)) dL_law_406 ?_
  refine lv_aload_n hx hb dL_law_407 rfl (lv_at hl 3 rfl) ?_
  refine g_swcut (As := [.ref ua, .int (xs (i + 1).toNatClampNeg), .int (xs (i + 2).toNatClampNeg), .ref oa]) (rest := []) (wc := cU cyI cyB cyO ua ub up aw as' pa β υ ω sid τs n ++ cO cyL oa lam) (wr := cM cyI cyA ad μ) ⟨hx, hb, hml, hown, hts⟩ (kL_journey l hl0 dC dI cyI cyB cyO cyL ua ub up oa aw as' lam H.size hf3 hE9) (vx_cwSW 4 hts (goodIn_sub (List.forall_mem_append.mpr ⟨tSL_journey, tqL_journey⟩) (by decide +kernel)) rfl rfl rfl (by decide +kernel) ⟨(Nat.le_of_ble_eq_true rfl), (Nat.le_of_ble_eq_true rfl)⟩) (vpre_left hEX hNC hB hA (hK.sub [0, 1, 2, 3] rfl) [.ref ua, .int (xs (i + 1).toNatClampNeg), .int (xs (i + 2).toNatClampNeg), .ref oa]) hB hA (List.Perm.refl _) rfl hl.1 rfl (Nat.le_of_ble_eq_true rfl) dL_law_408 ⟨by show _ ≤ 601024; omega, by show _ ≤ 7293034; omega⟩ (fun r u H locs hr9 hB => ?_)
  rw [hr9]
  refine W.widen (k := 214 + 14 * j) (n := 10312 + 312 * j) (by omega) (by omega) ?_
  refine lv_istore (lv' := [(5, .int (xR ["java/lang/IndexOutOfBoundsException", "java/lang/IllegalArgumentException"] o)), (0, .ref b), (1, .ref ua), (2, .ref (ad 0)), (3, .ref oa), (4, .int i)]) hx hb dL_law_411 hl (by decide) rfl (fun ls hl => ?_)
  refine lv_aload_n hx hb dL_law_413 rfl (lv_at hl 3 rfl) ?_
  refine lv_aload_n hx hb dL_law_414 rfl (lv_at hl 1 rfl) ?_
  refine lv_iload hx hb dL_law_415 (lv_at hl 5 rfl) ?_
  refine lv_iconst (v := (1 : Int32)) hx hb dL_law_417 (by decide) ?_
  refine lv_iadd hx hb dL_law_418 ?_
  refine va_sld hx hb hX hbl hbA hB.2.2 (hvi _ (by decide)) dL_law_419 ?_
  refine lv_aload_n hx hb dL_law_420 rfl (lv_at hl 1 rfl) ?_
  refine lv_iload hx hb dL_law_421 (lv_at hl 5 rfl) ?_
  refine lv_iconst (v := (2 : Int32)) hx hb dL_law_423 (by decide) ?_
  refine lv_iadd hx hb dL_law_424 ?_
  refine va_sld hx hb hX hbl hbA hB.2.2 (hvi _ (by decide)) dL_law_425 ?_
  refine g_vcut (As := [.int (xs (i + 1).toNatClampNeg), .int (xs (i + 2).toNatClampNeg)]) (rest := []) (wc := cM cyI cyA ad μ) (w1 := fun _ : Unit => cM cyI cyA ad μ1) ⟨hx, hb, hml, hown, hts⟩ (kX4_journey l dC dI cyI cyA ad H.size hf4) (cwV 2 hts GTlaw_X4_journey rfl rfl rfl (by decide +kernel) ⟨(Nat.le_of_ble_eq_true rfl), (Nat.le_of_ble_eq_true rfl)⟩) (pcut_pre (hB.perm List.perm_append_comm) (hK.sub [0, 4] rfl) (.ref (ad 0) :: [.int (xs (i + 1).toNatClampNeg), .int (xs (i + 2).toNatClampNeg)])) hB hA (g_recv (ci := 4) hK (hB.perm List.perm_append_comm) 0 rfl rfl rfl) List.perm_append_comm rfl hl.1 rfl (Nat.le_of_ble_eq_true rfl) dL_law_426 ⟨by show _ ≤ 601024; omega, by show _ ≤ 7293034; omega⟩ (fun r _ H locs hr9 hB => ?_)
  have hB := hB.perm List.perm_append_comm
  rw [hr9]
  refine lv_istore (lv' := [(6, .int (b9)), (5, .int (xR ["java/lang/IndexOutOfBoundsException", "java/lang/IllegalArgumentException"] o)), (0, .ref b), (1, .ref ua), (2, .ref (ad 0)), (3, .ref oa), (4, .int i)]) hx hb dL_law_429 hl (by decide) rfl (fun ls hl => ?_)
  refine lv_aload_n hx hb dL_law_431 rfl (lv_at hl 4 rfl) ?_
  refine g_vcut (As := []) (rest := []) (wc := cM cyI cyA ad μ1) (w1 := fun _ : Unit => cM cyI cyA ad μ1) ⟨hx, hb, hml, hown, hts⟩ (kX4_thrown l dC dI cyI cyA ad H.size hth) (cwV 0 hts GTlaw_X4_thrown rfl rfl rfl (by decide +kernel) ⟨(Nat.le_of_ble_eq_true rfl), (Nat.le_of_ble_eq_true rfl)⟩) (pcut_pre (hB.perm List.perm_append_comm) (hK.sub [0, 4] rfl) (.ref (ad 0) :: [])) hB hA (g_recv (ci := 4) hK (hB.perm List.perm_append_comm) 0 rfl rfl rfl) List.perm_append_comm rfl hl.1 rfl (Nat.le_of_ble_eq_true rfl) dL_law_432 ⟨by show _ ≤ 601024; omega, by show _ ≤ 7293034; omega⟩ (fun r _ H locs hr9 hB => ?_)
  have hB := hB.perm List.perm_append_comm
  rw [hr9]
  refine lv_iload hx hb dL_law_435 (lv_at hl 1 rfl) ?_
  refine lv_icmp_eq (tgt := 442) hx hb dL_law_437 (by decide) (fun _ => ?_) (fun c9 => absurd rfl c9)
  refine lv_iload hx hb dL_law_442 (lv_at hl 1 rfl) ?_
  refine lv_if_ne (tgt := 459) hx hb dL_law_444 (by decide) (fun c9 => ?_) (fun c9 => ?_)
  · refine lv_goto (tgt := 1121) hx hb dL_law_459 (by decide) ?_
    rcases o with E | x
    · exact nxt _ _ _ _ _ _ _ _ _ as' _ _ _ (hIx E rfl) hB (lv_sub hl [2, 3, 4, 5, 6] rfl)
    · exact absurd rfl c9
  · obtain ⟨x, rfl⟩ := xR0 (hs := ["java/lang/IndexOutOfBoundsException", "java/lang/IllegalArgumentException"]) (by decide) c9
    refine lv_aload_n hx hb dL_law_447 rfl (lv_at hl 5 rfl) ?_
    refine lv_iconst (v := (0 : Int32)) hx hb dL_law_448 (by decide) ?_
    refine va_lald hx hb hK (hB.perm ((List.perm_append_comm.append_right _).trans (List.Perm.of_eq (List.append_assoc _ _ _)))).1 0 3 rfl rfl vp_in01 dL_law_449 ?_
    refine lv_iload hx hb dL_law_450 (lv_at hl 0 rfl) ?_
    refine lv_i2l hx hb dL_law_452 rfl ?_
    refine W.lcmp hx hb dL_law_453 ?_
    refine lv_if_eq (tgt := 459) hx hb dL_law_454 (by decide) (fun _ => ?_) (fun c9 => absurd (cmp0 (xL0 _ _ _ (hval x rfl))) c9)
    refine lv_goto (tgt := 1121) hx hb dL_law_459 (by decide) ?_
    exact nxt _ _ _ _ _ _ _ _ _ as' _ _ _ (hIr x rfl) hB (lv_sub hl [2, 3, 4, 5, 6] rfl)

