set_option maxHeartbeats 4000000 in
set_option maxRecDepth 100000 in
theorem law_settle {p : Program} {l : Launch} {e : Env} {s : State} {m : MethodId} {args : Array Value} {below : List Frame} {meth : Method} {c : Code} {H : Heap} {locs : List Loc} {Q : State → Prop} {b L : Nat} {xs : Nat → Int32} {dC : Nat → ClassId} {dI : Nat → Nat → Nat} {cyI cyB cyO cyL cyA : ClassId} {ua ub up oa : Nat} {aw as' : Nat → Nat → Nat} {ad kS : Nat → Nat} {fu : Nat} {I I1 : IT} {τs : WS} {n : Nat} {pa : PA} {β : FS} {υ : MS} {ω : WS} {sid : PA} {μ : MS} {lam : Nat → Int64} {j : Nat} {i : Int32} {ls : Array Slot} (hx : p.tables.exec = Jvm.exec) (hb : c.code = cL_law) (hml : c.maxLocals = 7) (hown : s.vm.findClass RL = some m.cls) (hts : ∀ w ∈ lw_tbl, w.before args s = true) (hX : va_X b L xs s s.heap) (hbl : b < s.heap.size) (hl0 : l.stackTraces = false) (hK : va_K (dC, dI) vwCl [(cyI, .int), (cyB, .byte), (cyO, .object "UndoJourneys$World"), (cyL, .long), (cyA, .array .int)] s) (hEX : EX (fun q => s.heap.size ≤ q) s s.heap) (hNC : NC s) (hJ : JS kS (fun q => s.heap.size ≤ q) s s.heap) (hNw : va_Nw (.methodLinkNest RX1 11 yX0_init RX3) s) (hj : j ≤ 511) (hvi : ∀ k : Int32, k = 0 ∨ k = 1 ∨ k = 2 ∨ k = 3 ∨ k = 4 ∨ k = 5 → vp_in (i + k) L) (hag : ag_settle fu I I1) (hI : I τs n pa β υ ω sid μ) (hB : Bd (dC, dI) [(cyI, .int), (cyB, .byte), (cyO, .object "UndoJourneys$World"), (cyL, .long), (cyA, .array .int)] (fun q => s.heap.size ≤ q) s ((cU cyI cyB cyO ua ub up aw as' pa β υ ω sid τs n ++ cO cyL oa lam) ++ cM cyI cyA ad μ) H locs) (hl : lv_has ls 7 [(0, .ref b), (1, .ref ua), (2, .ref (ad 0)), (3, .ref oa), (4, .int i)]) (nxt : ∀ (τs : WS) (n : Nat) (pa : PA) (β : FS) (υ : MS) (ω : WS) (sid : PA) (μ : MS) (lam : Nat → Int64) (as' : Nat → Nat → Nat) (H : Heap) (locs : List Loc) (ls : Array Slot), I1 τs n pa β υ ω sid μ → Bd (dC, dI) [(cyI, .int), (cyB, .byte), (cyO, .object "UndoJourneys$World"), (cyL, .long), (cyA, .array .int)] (fun q => s.heap.size ≤ q) s ((cU cyI cyB cyO ua ub up aw as' pa β υ ω sid τs n ++ cO cyL oa lam) ++ cM cyI cyA ad μ) H locs → lv_has ls 7 [(0, .ref b), (1, .ref ua), (2, .ref (ad 0)), (3, .ref oa), (4, .int i)] → W p l e room_1 s m args below meth c H locs (214 + 14 * j) (10312 + 312 * j) Q (F0 m 1121 ls [])) : W p l e room_1 s m args below meth c H locs (200 + 14 * j) (10000 + 312 * j) Q (F0 m 858 ls []) := by
  have hA : ∀ q : Nat, s.heap.size ≤ q → (fun q : Nat => s.heap.size ≤ q) q := fun _ h => h
  have hbA : ¬ (fun q : Nat => s.heap.size ≤ q) b := Nat.not_le.mpr hbl
  obtain ⟨o, b9, μ1, hf3, hE9, hf4, hth, hval, hIx, hIr⟩ := hag τs n pa β υ ω sid μ hI (xs (i + 1).toNatClampNeg)
  refine lv_aload_n hx hb dL_law_858 rfl (lv_at hl 1 rfl) ?_
  refine lv_aload_n hx hb dL_law_859 rfl (lv_at hl 0 rfl) ?_
  refine lv_iload hx hb dL_law_860 (lv_at hl 4 rfl) ?_
  refine lv_iconst (v := (1 : Int32)) hx hb dL_law_862 (by decide) ?_
  refine lv_iadd hx hb dL_law_863 ?_
  refine va_sld hx hb hX hbl hbA hB.2.2 (hvi _ (by decide)) dL_law_864 ?_
  refine lv_aload_n hx hb dL_law_865 rfl (lv_at hl 3 rfl) ?_
  refine g_swcut (As := [.ref ua, .int (xs (i + 1).toNatClampNeg), .ref oa]) (rest := []) (wc := cU cyI cyB cyO ua ub up aw as' pa β υ ω sid τs n ++ cO cyL oa lam) (wr := cM cyI cyA ad μ) ⟨hx, hb, hml, hown, hts⟩ (kL_settle l hl0 dC dI cyI cyB cyO cyL ua ub up oa aw as' lam H.size hf3 hE9) (vx_cwSW 3 hts (goodIn_sub (List.forall_mem_append.mpr ⟨tSL_settle, tqL_settle⟩) (by decide +kernel)) rfl rfl rfl (by decide +kernel) ⟨(Nat.le_of_ble_eq_true rfl), (Nat.le_of_ble_eq_true rfl)⟩) (vpre_left hEX hNC hB hA (hK.sub [0, 1, 2, 3] rfl) [.ref ua, .int (xs (i + 1).toNatClampNeg), .ref oa]) hB hA (List.Perm.refl _) rfl hl.1 rfl (Nat.le_of_ble_eq_true rfl) dL_law_866 ⟨by show _ ≤ 601024; omega, by show _ ≤ 7293034; omega⟩ (fun r u H locs hr9 hB => ?_)
  rw [hr9]
  refine W.widen (k := 214 + 14 * j) (n := 10312 + 312 * j) (by omega) (by omega) ?_
  refine lv_istore (lv' := [(5, .int (xR ["java/lang/IndexOutOfBoundsException", "java/lang/IllegalStateException"] o)), (0, .ref b), (1, .ref ua), (2, .ref (ad 0)), (3, .ref oa), (4, .int i)]) hx hb dL_law_869 hl (by decide) rfl (fun ls hl => ?_)
  refine lv_aload_n hx hb dL_law_871 rfl (lv_at hl 3 rfl) ?_
  refine lv_aload_n hx hb dL_law_872 rfl (lv_at hl 1 rfl) ?_
  refine lv_iload hx hb dL_law_873 (lv_at hl 5 rfl) ?_
  refine lv_iconst (v := (1 : Int32)) hx hb dL_law_875 (by decide) ?_
  refine lv_iadd hx hb dL_law_876 ?_
  refine va_sld hx hb hX hbl hbA hB.2.2 (hvi _ (by decide)) dL_law_877 ?_
  refine g_vcut (As := [.int (xs (i + 1).toNatClampNeg)]) (rest := []) (wc := cM cyI cyA ad μ) (w1 := fun _ : Unit => cM cyI cyA ad μ1) ⟨hx, hb, hml, hown, hts⟩ (kX4_settle l dC dI cyI cyA ad H.size hf4) (cwV 1 hts GTlaw_X4_settle rfl rfl rfl (by decide +kernel) ⟨(Nat.le_of_ble_eq_true rfl), (Nat.le_of_ble_eq_true rfl)⟩) (pcut_pre (hB.perm List.perm_append_comm) (hK.sub [0, 4] rfl) (.ref (ad 0) :: [.int (xs (i + 1).toNatClampNeg)])) hB hA (g_recv (ci := 4) hK (hB.perm List.perm_append_comm) 0 rfl rfl rfl) List.perm_append_comm rfl hl.1 rfl (Nat.le_of_ble_eq_true rfl) dL_law_878 ⟨by show _ ≤ 601024; omega, by show _ ≤ 7293034; omega⟩ (fun r _ H locs hr9 hB => ?_)
  have hB := hB.perm List.perm_append_comm
  rw [hr9]
  refine lv_istore (lv' := [(6, .int (b9)), (5, .int (xR ["java/lang/IndexOutOfBoundsException", "java/lang/IllegalStateException"] o)), (0, .ref b), (1, .ref ua), (2, .ref (ad 0)), (3, .ref oa), (4, .int i)]) hx hb dL_law_881 hl (by decide) rfl (fun ls hl => ?_)
  refine lv_aload_n hx hb dL_law_883 rfl (lv_at hl 4 rfl) ?_
  refine g_vcut (As := []) (rest := []) (wc := cM cyI cyA ad μ1) (w1 := fun _ : Unit => cM cyI cyA ad μ1) ⟨hx, hb, hml, hown, hts⟩ (kX4_thrown l dC dI cyI cyA ad H.size hth) (cwV 0 hts GTlaw_X4_thrown rfl rfl rfl (by decide +kernel) ⟨(Nat.le_of_ble_eq_true rfl), (Nat.le_of_ble_eq_true rfl)⟩) (pcut_pre (hB.perm List.perm_append_comm) (hK.sub [0, 4] rfl) (.ref (ad 0) :: [])) hB hA (g_recv (ci := 4) hK (hB.perm List.perm_append_comm) 0 rfl rfl rfl) List.perm_append_comm rfl hl.1 rfl (Nat.le_of_ble_eq_true rfl) dL_law_884 ⟨by show _ ≤ 601024; omega, by show _ ≤ 7293034; omega⟩ (fun r _ H locs hr9 hB => ?_)
  have hB := hB.perm List.perm_append_comm
  rw [hr9]
  refine lv_iload hx hb dL_law_887 (lv_at hl 1 rfl) ?_
  refine lv_icmp_eq (tgt := 894) hx hb dL_law_889 (by decide) (fun _ => ?_) (fun c9 => absurd rfl c9)
  refine lv_iload hx hb dL_law_894 (lv_at hl 1 rfl) ?_
  refine lv_if_ne (tgt := 911) hx hb dL_law_896 (by decide) (fun c9 => ?_) (fun c9 => ?_)
  · refine lv_goto (tgt := 1121) hx hb dL_law_911 (by decide) ?_
    rcases o with E | x
    · exact nxt _ _ _ _ _ _ _ _ _ as' _ _ _ (hIx E rfl) hB (lv_sub hl [2, 3, 4, 5, 6] rfl)
    · exact absurd rfl c9
  · obtain ⟨x, rfl⟩ := xR0 (hs := ["java/lang/IndexOutOfBoundsException", "java/lang/IllegalStateException"]) (by decide) c9
    refine lv_aload_n hx hb dL_law_899 rfl (lv_at hl 5 rfl) ?_
    refine lv_iconst (v := (0 : Int32)) hx hb dL_law_900 (by decide) ?_
    refine va_lald hx hb hK (hB.perm ((List.perm_append_comm.append_right _).trans (List.Perm.of_eq (List.append_assoc _ _ _)))).1 0 3 rfl rfl vp_in01 dL_law_901 ?_
    refine lv_iload hx hb dL_law_902 (lv_at hl 0 rfl) ?_
    refine lv_i2l hx hb dL_law_904 rfl ?_
    refine W.lcmp hx hb dL_law_905 ?_
    refine lv_if_eq (tgt := 911) hx hb dL_law_906 (by decide) (fun _ => ?_) (fun c9 => absurd (cmp0 (xL0 _ _ _ (hval x rfl))) c9)
    refine lv_goto (tgt := 1121) hx hb dL_law_911 (by decide) ?_
    exact nxt _ _ _ _ _ _ _ _ _ as' _ _ _ (hIr x rfl) hB (lv_sub hl [2, 3, 4, 5, 6] rfl)

set_option maxHeartbeats 4000000 in
set_option maxRecDepth 100000 in
theorem law_writeOff {p : Program} {l : Launch} {e : Env} {s : State} {m : MethodId} {args : Array Value} {below : List Frame} {meth : Method} {c : Code} {H : Heap} {locs : List Loc} {Q : State → Prop} {b L : Nat} {xs : Nat → Int32} {dC : Nat → ClassId} {dI : Nat → Nat → Nat} {cyI cyB cyO cyL cyA : ClassId} {ua ub up oa : Nat} {aw as' : Nat → Nat → Nat} {ad kS : Nat → Nat} {fu : Nat} {I I1 : IT} {τs : WS} {n : Nat} {pa : PA} {β : FS} {υ : MS} {ω : WS} {sid : PA} {μ : MS} {lam : Nat → Int64} {j : Nat} {i : Int32} {ls : Array Slot} (hx : p.tables.exec = Jvm.exec) (hb : c.code = cL_law) (hml : c.maxLocals = 7) (hown : s.vm.findClass RL = some m.cls) (hts : ∀ w ∈ lw_tbl, w.before args s = true) (hX : va_X b L xs s s.heap) (hbl : b < s.heap.size) (hl0 : l.stackTraces = false) (hK : va_K (dC, dI) vwCl [(cyI, .int), (cyB, .byte), (cyO, .object "UndoJourneys$World"), (cyL, .long), (cyA, .array .int)] s) (hEX : EX (fun q => s.heap.size ≤ q) s s.heap) (hNC : NC s) (hJ : JS kS (fun q => s.heap.size ≤ q) s s.heap) (hNw : va_Nw (.methodLinkNest RX1 11 yX0_init RX3) s) (hj : j ≤ 511) (hvi : ∀ k : Int32, k = 0 ∨ k = 1 ∨ k = 2 ∨ k = 3 ∨ k = 4 ∨ k = 5 → vp_in (i + k) L) (hag : ag_writeOff fu I I1) (hI : I τs n pa β υ ω sid μ) (hB : Bd (dC, dI) [(cyI, .int), (cyB, .byte), (cyO, .object "UndoJourneys$World"), (cyL, .long), (cyA, .array .int)] (fun q => s.heap.size ≤ q) s ((cU cyI cyB cyO ua ub up aw as' pa β υ ω sid τs n ++ cO cyL oa lam) ++ cM cyI cyA ad μ) H locs) (hl : lv_has ls 7 [(0, .ref b), (1, .ref ua), (2, .ref (ad 0)), (3, .ref oa), (4, .int i)]) (nxt : ∀ (τs : WS) (n : Nat) (pa : PA) (β : FS) (υ : MS) (ω : WS) (sid : PA) (μ : MS) (lam : Nat → Int64) (as' : Nat → Nat → Nat) (H : Heap) (locs : List Loc) (ls : Array Slot), I1 τs n pa β υ ω sid μ → Bd (dC, dI) [(cyI, .int), (cyB, .byte), (cyO, .object "UndoJourneys$World"), (cyL, .long), (cyA, .array .int)] (fun q => s.heap.size ≤ q) s ((cU cyI cyB cyO ua ub up aw as' pa β υ ω sid τs n ++ cO cyL oa lam) ++ cM cyI cyA ad μ) H locs → lv_has ls 7 [(0, .ref b), (1, .ref ua), (2, .ref (ad 0)), (3, .ref oa), (4, .int i)] → W p l e room_1 s m args below meth c H locs (214 + 14 * j) (10312 + 312 * j) Q (F0 m 1121 ls [])) : W p l e room_1 s m args below meth c H locs (200 + 14 * j) (10000 + 312 * j) Q (F0 m 914 ls []) := by
  have hA : ∀ q : Nat, s.heap.size ≤ q → (fun q : Nat => s.heap.size ≤ q) q := fun _ h => h
  have hbA : ¬ (fun q : Nat => s.heap.size ≤ q) b := Nat.not_le.mpr hbl
  obtain ⟨o, b9, μ1, hf3, hE9, hf4, hth, hval, hIx, hIr⟩ := hag τs n pa β υ ω sid μ hI (xs (i + 1).toNatClampNeg)
  refine lv_aload_n hx hb dL_law_914 rfl (lv_at hl 1 rfl) ?_
  refine lv_aload_n hx hb dL_law_915 rfl (lv_at hl 0 rfl) ?_
  refine lv_iload hx hb dL_law_916 (lv_at hl 4 rfl) ?_
  refine lv_iconst (v := (1 : Int32)) hx hb dL_law_918 (by decide) ?_
  refine lv_iadd hx hb dL_law_919 ?_
  refine va_sld hx hb hX hbl hbA hB.2.2 (hvi _ (by decide)) dL_law_920 ?_
  refine lv_aload_n hx hb dL_law_921 rfl (lv_at hl 3 rfl) ?_
  refine g_swcut (As := [.ref ua, .int (xs (i + 1).toNatClampNeg), .ref oa]) (rest := []) (wc := cU cyI cyB cyO ua ub up aw as' pa β υ ω sid τs n ++ cO cyL oa lam) (wr := cM cyI cyA ad μ) ⟨hx, hb, hml, hown, hts⟩ (kL_writeOff l hl0 dC dI cyI cyB cyO cyL ua ub up oa aw as' lam H.size hf3 hE9) (vx_cwSW 3 hts (goodIn_sub (List.forall_mem_append.mpr ⟨tSL_writeOff, tqL_writeOff⟩) (by decide +kernel)) rfl rfl rfl (by decide +kernel) ⟨(Nat.le_of_ble_eq_true rfl), (Nat.le_of_ble_eq_true rfl)⟩) (vpre_left hEX hNC hB hA (hK.sub [0, 1, 2, 3] rfl) [.ref ua, .int (xs (i + 1).toNatClampNeg), .ref oa]) hB hA (List.Perm.refl _) rfl hl.1 rfl (Nat.le_of_ble_eq_true rfl) dL_law_922 ⟨by show _ ≤ 601024; omega, by show _ ≤ 7293034; omega⟩ (fun r u H locs hr9 hB => ?_)
  rw [hr9]
  refine W.widen (k := 214 + 14 * j) (n := 10312 + 312 * j) (by omega) (by omega) ?_
  refine lv_istore (lv' := [(5, .int (xR ["java/lang/IndexOutOfBoundsException", "java/lang/IllegalStateException"] o)), (0, .ref b), (1, .ref ua), (2, .ref (ad 0)), (3, .ref oa), (4, .int i)]) hx hb dL_law_925 hl (by decide) rfl (fun ls hl => ?_)
  refine lv_aload_n hx hb dL_law_927 rfl (lv_at hl 3 rfl) ?_
  refine lv_aload_n hx hb dL_law_928 rfl (lv_at hl 1 rfl) ?_
  refine lv_iload hx hb dL_law_929 (lv_at hl 5 rfl) ?_
  refine lv_iconst (v := (1 : Int32)) hx hb dL_law_931 (by decide) ?_
  refine lv_iadd hx hb dL_law_932 ?_
  refine va_sld hx hb hX hbl hbA hB.2.2 (hvi _ (by decide)) dL_law_933 ?_
  refine g_vcut (As := [.int (xs (i + 1).toNatClampNeg)]) (rest := []) (wc := cM cyI cyA ad μ) (w1 := fun _ : Unit => cM cyI cyA ad μ1) ⟨hx, hb, hml, hown, hts⟩ (kX4_writeOff l dC dI cyI cyA ad H.size hf4) (cwV 1 hts GTlaw_X4_writeOff rfl rfl rfl (by decide +kernel) ⟨(Nat.le_of_ble_eq_true rfl), (Nat.le_of_ble_eq_true rfl)⟩) (pcut_pre (hB.perm List.perm_append_comm) (hK.sub [0, 4] rfl) (.ref (ad 0) :: [.int (xs (i + 1).toNatClampNeg)])) hB hA (g_recv (ci := 4) hK (hB.perm List.perm_append_comm) 0 rfl rfl rfl) List.perm_append_comm rfl hl.1 rfl (Nat.le_of_ble_eq_true rfl) dL_law_934 ⟨by show _ ≤ 601024; omega, by show _ ≤ 7293034; omega⟩ (fun r _ H locs hr9 hB => ?_)
  have hB := hB.perm List.perm_append_comm
  rw [hr9]
  refine lv_istore (lv' := [(6, .int (b9)), (5, .int (xR ["java/lang/IndexOutOfBoundsException", "java/lang/IllegalStateException"] o)), (0, .ref b), (1, .ref ua), (2, .ref (ad 0)), (3, .ref oa), (4, .int i)]) hx hb dL_law_937 hl (by decide) rfl (fun ls hl => ?_)
  refine lv_aload_n hx hb dL_law_939 rfl (lv_at hl 4 rfl) ?_
  refine g_vcut (As := []) (rest := []) (wc := cM cyI cyA ad μ1) (w1 := fun _ : Unit => cM cyI cyA ad μ1) ⟨hx, hb, hml, hown, hts⟩ (kX4_thrown l dC dI cyI cyA ad H.size hth) (cwV 0 hts GTlaw_X4_thrown rfl rfl rfl (by decide +kernel) ⟨(Nat.le_of_ble_eq_true rfl), (Nat.le_of_ble_eq_true rfl)⟩) (pcut_pre (hB.perm List.perm_append_comm) (hK.sub [0, 4] rfl) (.ref (ad 0) :: [])) hB hA (g_recv (ci := 4) hK (hB.perm List.perm_append_comm) 0 rfl rfl rfl) List.perm_append_comm rfl hl.1 rfl (Nat.le_of_ble_eq_true rfl) dL_law_940 ⟨by show _ ≤ 601024; omega, by show _ ≤ 7293034; omega⟩ (fun r _ H locs hr9 hB => ?_)
  have hB := hB.perm List.perm_append_comm
  rw [hr9]
  refine lv_iload hx hb dL_law_943 (lv_at hl 1 rfl) ?_
  refine lv_icmp_eq (tgt := 950) hx hb dL_law_945 (by decide) (fun _ => ?_) (fun c9 => absurd rfl c9)
  refine lv_iload hx hb dL_law_950 (lv_at hl 1 rfl) ?_
  refine lv_if_ne (tgt := 967) hx hb dL_law_952 (by decide) (fun c9 => ?_) (fun c9 => ?_)
  · refine lv_goto (tgt := 1121) hx hb dL_law_967 (by decide) ?_
    rcases o with E | x
    · exact nxt _ _ _ _ _ _ _ _ _ as' _ _ _ (hIx E rfl) hB (lv_sub hl [2, 3, 4, 5, 6] rfl)
    · exact absurd rfl c9
  · obtain ⟨x, rfl⟩ := xR0 (hs := ["java/lang/IndexOutOfBoundsException", "java/lang/IllegalStateException"]) (by decide) c9
    refine lv_aload_n hx hb dL_law_955 rfl (lv_at hl 5 rfl) ?_
    refine lv_iconst (v := (0 : Int32)) hx hb dL_law_956 (by decide) ?_
    refine va_lald hx hb hK (hB.perm ((List.perm_append_comm.append_right _).trans (List.Perm.of_eq (List.append_assoc _ _ _)))).1 0 3 rfl rfl vp_in01 dL_law_957 ?_
    refine lv_iload hx hb dL_law_958 (lv_at hl 0 rfl) ?_
    refine lv_i2l hx hb dL_law_960 rfl ?_
    refine W.lcmp hx hb dL_law_961 ?_
    refine lv_if_eq (tgt := 967) hx hb dL_law_962 (by decide) (fun _ => ?_) (fun c9 => absurd (cmp0 (xL0 _ _ _ (hval x rfl))) c9)
    refine lv_goto (tgt := 1121) hx hb dL_law_967 (by decide) ?_
    exact nxt _ _ _ _ _ _ _ _ _ as' _ _ _ (hIr x rfl) hB (lv_sub hl [2, 3, 4, 5, 6] rfl)

set_option maxHeartbeats 4000000 in
set_option maxRecDepth 100000 in
theorem law_goForward {p : Program} {l : Launch} {e : Env} {s : State} {m : MethodId} {args : Array Value} {below : List Frame} {meth : Method} {c : Code} {H : Heap} {locs : List Loc} {Q : State → Prop} {b L : Nat} {xs : Nat → Int32} {dC : Nat → ClassId} {dI : Nat → Nat → Nat} {cyI cyB cyO cyL cyA : ClassId} {ua ub up oa : Nat} {aw as' : Nat → Nat → Nat} {ad kS : Nat → Nat} {fu : Nat} {I I1 : IT} {τs : WS} {n : Nat} {pa : PA} {β : FS} {υ : MS} {ω : WS} {sid : PA} {μ : MS} {lam : Nat → Int64} {j : Nat} {i : Int32} {ls : Array Slot} (hx : p.tables.exec = Jvm.exec) (hb : c.code = cL_law) (hml : c.maxLocals = 7) (hown : s.vm.findClass RL = some m.cls) (hts : ∀ w ∈ lw_tbl, w.before args s = true) (hX : va_X b L xs s s.heap) (hbl : b < s.heap.size) (hl0 : l.stackTraces = false) (hK : va_K (dC, dI) vwCl [(cyI, .int), (cyB, .byte), (cyO, .object "UndoJourneys$World"), (cyL, .long), (cyA, .array .int)] s) (hEX : EX (fun q => s.heap.size ≤ q) s s.heap) (hNC : NC s) (hJ : JS kS (fun q => s.heap.size ≤ q) s s.heap) (hNw : va_Nw (.methodLinkNest RX1 11 yX0_init RX3) s) (hj : j ≤ 511) (hvi : ∀ k : Int32, k = 0 ∨ k = 1 ∨ k = 2 ∨ k = 3 ∨ k = 4 ∨ k = 5 → vp_in (i + k) L) (hag : ag_goForward fu I I1) (hI : I τs n pa β υ ω sid μ) (hB : Bd (dC, dI) [(cyI, .int), (cyB, .byte), (cyO, .object "UndoJourneys$World"), (cyL, .long), (cyA, .array .int)] (fun q => s.heap.size ≤ q) s ((cU cyI cyB cyO ua ub up aw as' pa β υ ω sid τs n ++ cO cyL oa lam) ++ cM cyI cyA ad μ) H locs) (hl : lv_has ls 7 [(0, .ref b), (1, .ref ua), (2, .ref (ad 0)), (3, .ref oa), (4, .int i)]) (nxt : ∀ (τs : WS) (n : Nat) (pa : PA) (β : FS) (υ : MS) (ω : WS) (sid : PA) (μ : MS) (lam : Nat → Int64) (as' : Nat → Nat → Nat) (H : Heap) (locs : List Loc) (ls : Array Slot), I1 τs n pa β υ ω sid μ → Bd (dC, dI) [(cyI, .int), (cyB, .byte), (cyO, .object "UndoJourneys$World"), (cyL, .long), (cyA, .array .int)] (fun q => s.heap.size ≤ q) s ((cU cyI cyB cyO ua ub up aw as' pa β υ ω sid τs n ++ cO cyL oa lam) ++ cM cyI cyA ad μ) H locs → lv_has ls 7 [(0, .ref b), (1, .ref ua), (2, .ref (ad 0)), (3, .ref oa), (4, .int i)] → W p l e room_1 s m args below meth c H locs (214 + 14 * j) (10312 + 312 * j) Q (F0 m 1121 ls [])) : W p l e room_1 s m args below meth c H locs (200 + 14 * j) (10000 + 312 * j) Q (F0 m 970 ls []) := by
  have hA : ∀ q : Nat, s.heap.size ≤ q → (fun q : Nat => s.heap.size ≤ q) q := fun _ h => h
  have hbA : ¬ (fun q : Nat => s.heap.size ≤ q) b := Nat.not_le.mpr hbl
  obtain ⟨o, b9, μ1, hf3, hE9, hf4, hth, hval, hIx, hIr⟩ := hag τs n pa β υ ω sid μ hI (xs (i + 1).toNatClampNeg)
  refine lv_aload_n hx hb dL_law_970 rfl (lv_at hl 1 rfl) ?_
  refine lv_aload_n hx hb dL_law_971 rfl (lv_at hl 0 rfl) ?_
  refine lv_iload hx hb dL_law_972 (lv_at hl 4 rfl) ?_
  refine lv_iconst (v := (1 : Int32)) hx hb dL_law_974 (by decide) ?_
  refine lv_iadd hx hb dL_law_975 ?_
  refine va_sld hx hb hX hbl hbA hB.2.2 (hvi _ (by decide)) dL_law_976 ?_
  refine lv_aload_n hx hb dL_law_977 rfl (lv_at hl 3 rfl) ?_
  refine g_swcut (As := [.ref ua, .int (xs (i + 1).toNatClampNeg), .ref oa]) (rest := []) (wc := cU cyI cyB cyO ua ub up aw as' pa β υ ω sid τs n ++ cO cyL oa lam) (wr := cM cyI cyA ad μ) ⟨hx, hb, hml, hown, hts⟩ (kL_goForward l hl0 dC dI cyI cyB cyO cyL ua ub up oa aw as' lam H.size hf3 hE9) (vx_cwSW 3 hts (goodIn_sub (List.forall_mem_append.mpr ⟨tSL_goForward, tqL_goForward⟩) (by decide +kernel)) rfl rfl rfl (by decide +kernel) ⟨(Nat.le_of_ble_eq_true rfl), (Nat.le_of_ble_eq_true rfl)⟩) (vpre_left hEX hNC hB hA (hK.sub [0, 1, 2, 3] rfl) [.ref ua, .int (xs (i + 1).toNatClampNeg), .ref oa]) hB hA (List.Perm.refl _) rfl hl.1 rfl (Nat.le_of_ble_eq_true rfl) dL_law_978 ⟨by show _ ≤ 601024; omega, by show _ ≤ 7293034; omega⟩ (fun r u H locs hr9 hB => ?_)
  rw [hr9]
  refine W.widen (k := 214 + 14 * j) (n := 10312 + 312 * j) (by omega) (by omega) ?_
  refine lv_istore (lv' := [(5, .int (xR ["java/lang/IndexOutOfBoundsException", "java/lang/IllegalStateException"] o)), (0, .ref b), (1, .ref ua), (2, .ref (ad 0)), (3, .ref oa), (4, .int i)]) hx hb dL_law_981 hl (by decide) rfl (fun ls hl => ?_)
  refine lv_aload_n hx hb dL_law_983 rfl (lv_at hl 3 rfl) ?_
  refine lv_aload_n hx hb dL_law_984 rfl (lv_at hl 1 rfl) ?_
  refine lv_iload hx hb dL_law_985 (lv_at hl 5 rfl) ?_
  refine lv_iconst (v := (1 : Int32)) hx hb dL_law_987 (by decide) ?_
  refine lv_iadd hx hb dL_law_988 ?_
  refine va_sld hx hb hX hbl hbA hB.2.2 (hvi _ (by decide)) dL_law_989 ?_
  refine g_vcut (As := [.int (xs (i + 1).toNatClampNeg)]) (rest := []) (wc := cM cyI cyA ad μ) (w1 := fun _ : Unit => cM cyI cyA ad μ1) ⟨hx, hb, hml, hown, hts⟩ (kX4_goForward l dC dI cyI cyA ad H.size hf4) (cwV 1 hts GTlaw_X4_goForward rfl rfl rfl (by decide +kernel) ⟨(Nat.le_of_ble_eq_true rfl), (Nat.le_of_ble_eq_true rfl)⟩) (pcut_pre (hB.perm List.perm_append_comm) (hK.sub [0, 4] rfl) (.ref (ad 0) :: [.int (xs (i + 1).toNatClampNeg)])) hB hA (g_recv (ci := 4) hK (hB.perm List.perm_append_comm) 0 rfl rfl rfl) List.perm_append_comm rfl hl.1 rfl (Nat.le_of_ble_eq_true rfl) dL_law_990 ⟨by show _ ≤ 601024; omega, by show _ ≤ 7293034; omega⟩ (fun r _ H locs hr9 hB => ?_)
  have hB := hB.perm List.perm_append_comm
  rw [hr9]
  refine lv_istore (lv' := [(6, .int (b9)), (5, .int (xR ["java/lang/IndexOutOfBoundsException", "java/lang/IllegalStateException"] o)), (0, .ref b), (1, .ref ua), (2, .ref (ad 0)), (3, .ref oa), (4, .int i)]) hx hb dL_law_993 hl (by decide) rfl (fun ls hl => ?_)
  refine lv_aload_n hx hb dL_law_995 rfl (lv_at hl 4 rfl) ?_
  refine g_vcut (As := []) (rest := []) (wc := cM cyI cyA ad μ1) (w1 := fun _ : Unit => cM cyI cyA ad μ1) ⟨hx, hb, hml, hown, hts⟩ (kX4_thrown l dC dI cyI cyA ad H.size hth) (cwV 0 hts GTlaw_X4_thrown rfl rfl rfl (by decide +kernel) ⟨(Nat.le_of_ble_eq_true rfl), (Nat.le_of_ble_eq_true rfl)⟩) (pcut_pre (hB.perm List.perm_append_comm) (hK.sub [0, 4] rfl) (.ref (ad 0) :: [])) hB hA (g_recv (ci := 4) hK (hB.perm List.perm_append_comm) 0 rfl rfl rfl) List.perm_append_comm rfl hl.1 rfl (Nat.le_of_ble_eq_true rfl) dL_law_996 ⟨by show _ ≤ 601024; omega, by show _ ≤ 7293034; omega⟩ (fun r _ H locs hr9 hB => ?_)
  have hB := hB.perm List.perm_append_comm
  rw [hr9]
  refine lv_iload hx hb dL_law_999 (lv_at hl 1 rfl) ?_
  refine lv_icmp_eq (tgt := 1006) hx hb dL_law_1001 (by decide) (fun _ => ?_) (fun c9 => absurd rfl c9)
  refine lv_iload hx hb dL_law_1006 (lv_at hl 1 rfl) ?_
  refine lv_if_ne (tgt := 1023) hx hb dL_law_1008 (by decide) (fun c9 => ?_) (fun c9 => ?_)
  · refine lv_goto (tgt := 1121) hx hb dL_law_1023 (by decide) ?_
    rcases o with E | x
    · exact nxt _ _ _ _ _ _ _ _ _ as' _ _ _ (hIx E rfl) hB (lv_sub hl [2, 3, 4, 5, 6] rfl)
    · exact absurd rfl c9
  · obtain ⟨x, rfl⟩ := xR0 (hs := ["java/lang/IndexOutOfBoundsException", "java/lang/IllegalStateException"]) (by decide) c9
    refine lv_aload_n hx hb dL_law_1011 rfl (lv_at hl 5 rfl) ?_
    refine lv_iconst (v := (0 : Int32)) hx hb dL_law_1012 (by decide) ?_
    refine va_lald hx hb hK (hB.perm ((List.perm_append_comm.append_right _).trans (List.Perm.of_eq (List.append_assoc _ _ _)))).1 0 3 rfl rfl vp_in01 dL_law_1013 ?_
    refine lv_iload hx hb dL_law_1014 (lv_at hl 0 rfl) ?_
    refine lv_i2l hx hb dL_law_1016 rfl ?_
    refine W.lcmp hx hb dL_law_1017 ?_
    refine lv_if_eq (tgt := 1023) hx hb dL_law_1018 (by decide) (fun _ => ?_) (fun c9 => absurd (cmp0 (xL0 _ _ _ (hval x rfl))) c9)
    refine lv_goto (tgt := 1121) hx hb dL_law_1023 (by decide) ?_
    exact nxt _ _ _ _ _ _ _ _ _ as' _ _ _ (hIr x rfl) hB (lv_sub hl [2, 3, 4, 5, 6] rfl)

set_option maxHeartbeats 4000000 in
set_option maxRecDepth 100000 in
theorem law_restock {p : Program} {l : Launch} {e : Env} {s : State} {m : MethodId} {args : Array Value} {below : List Frame} {meth : Method} {c : Code} {H : Heap} {locs : List Loc} {Q : State → Prop} {b L : Nat} {xs : Nat → Int32} {dC : Nat → ClassId} {dI : Nat → Nat → Nat} {cyI cyB cyO cyL cyA : ClassId} {ua ub up oa : Nat} {aw as' : Nat → Nat → Nat} {ad kS : Nat → Nat} {fu : Nat} {I I1 : IT} {τs : WS} {n : Nat} {pa : PA} {β : FS} {υ : MS} {ω : WS} {sid : PA} {μ : MS} {lam : Nat → Int64} {j : Nat} {i : Int32} {ls : Array Slot} (hx : p.tables.exec = Jvm.exec) (hb : c.code = cL_law) (hml : c.maxLocals = 7) (hown : s.vm.findClass RL = some m.cls) (hts : ∀ w ∈ lw_tbl, w.before args s = true) (hX : va_X b L xs s s.heap) (hbl : b < s.heap.size) (hl0 : l.stackTraces = false) (hK : va_K (dC, dI) vwCl [(cyI, .int), (cyB, .byte), (cyO, .object "UndoJourneys$World"), (cyL, .long), (cyA, .array .int)] s) (hEX : EX (fun q => s.heap.size ≤ q) s s.heap) (hNC : NC s) (hJ : JS kS (fun q => s.heap.size ≤ q) s s.heap) (hNw : va_Nw (.methodLinkNest RX1 11 yX0_init RX3) s) (hj : j ≤ 511) (hvi : ∀ k : Int32, k = 0 ∨ k = 1 ∨ k = 2 ∨ k = 3 ∨ k = 4 ∨ k = 5 → vp_in (i + k) L) (hag : ag_restock fu I I1) (hI : I τs n pa β υ ω sid μ) (hB : Bd (dC, dI) [(cyI, .int), (cyB, .byte), (cyO, .object "UndoJourneys$World"), (cyL, .long), (cyA, .array .int)] (fun q => s.heap.size ≤ q) s ((cU cyI cyB cyO ua ub up aw as' pa β υ ω sid τs n ++ cO cyL oa lam) ++ cM cyI cyA ad μ) H locs) (hl : lv_has ls 7 [(0, .ref b), (1, .ref ua), (2, .ref (ad 0)), (3, .ref oa), (4, .int i)]) (nxt : ∀ (τs : WS) (n : Nat) (pa : PA) (β : FS) (υ : MS) (ω : WS) (sid : PA) (μ : MS) (lam : Nat → Int64) (as' : Nat → Nat → Nat) (H : Heap) (locs : List Loc) (ls : Array Slot), I1 τs n pa β υ ω sid μ → Bd (dC, dI) [(cyI, .int), (cyB, .byte), (cyO, .object "UndoJourneys$World"), (cyL, .long), (cyA, .array .int)] (fun q => s.heap.size ≤ q) s ((cU cyI cyB cyO ua ub up aw as' pa β υ ω sid τs n ++ cO cyL oa lam) ++ cM cyI cyA ad μ) H locs → lv_has ls 7 [(0, .ref b), (1, .ref ua), (2, .ref (ad 0)), (3, .ref oa), (4, .int i)] → W p l e room_1 s m args below meth c H locs (214 + 14 * j) (10312 + 312 * j) Q (F0 m 1121 ls [])) : W p l e room_1 s m args below meth c H locs (200 + 14 * j) (10000 + 312 * j) Q (F0 m 1026 ls []) := by
  have hA : ∀ q : Nat, s.heap.size ≤ q → (fun q : Nat => s.heap.size ≤ q) q := fun _ h => h
  have hbA : ¬ (fun q : Nat => s.heap.size ≤ q) b := Nat.not_le.mpr hbl
  obtain ⟨o, b9, μ1, hf3, hE9, hf4, hth, hval, hIx, hIr⟩ := hag τs n pa β υ ω sid μ hI (xs (i + 1).toNatClampNeg) (xs (i + 2).toNatClampNeg)
  refine lv_aload_n hx hb dL_law_1026 rfl (lv_at hl 1 rfl) ?_
  refine lv_aload_n hx hb dL_law_1027 rfl (lv_at hl 0 rfl) ?_
  refine lv_iload hx hb dL_law_1028 (lv_at hl 4 rfl) ?_
  refine lv_iconst (v := (1 : Int32)) hx hb dL_law_1030 (by decide) ?_
  refine lv_iadd hx hb dL_law_1031 ?_
  refine va_sld hx hb hX hbl hbA hB.2.2 (hvi _ (by decide)) dL_law_1032 ?_
  refine lv_aload_n hx hb dL_law_1033 rfl (lv_at hl 0 rfl) ?_
  refine lv_iload hx hb dL_law_1034 (lv_at hl 4 rfl) ?_
  refine lv_iconst (v := (2 : Int32)) hx hb dL_law_1036 (by decide) ?_
  refine lv_iadd hx hb dL_law_1037 ?_
  refine va_sld hx hb hX hbl hbA hB.2.2 (hvi _ (by decide)) dL_law_1038 ?_
  refine lv_aload_n hx hb dL_law_1039 rfl (lv_at hl 3 rfl) ?_
  refine g_swcut (As := [.ref ua, .int (xs (i + 1).toNatClampNeg), .int (xs (i + 2).toNatClampNeg), .ref oa]) (rest := []) (wc := cU cyI cyB cyO ua ub up aw as' pa β υ ω sid τs n ++ cO cyL oa lam) (wr := cM cyI cyA ad μ) ⟨hx, hb, hml, hown, hts⟩ (kL_restock l hl0 dC dI cyI cyB cyO cyL ua ub up oa aw as' lam H.size hf3 hE9) (vx_cwSW 4 hts (goodIn_sub (List.forall_mem_append.mpr ⟨tSL_restock, tqL_restock⟩) (by decide +kernel)) rfl rfl rfl (by decide +kernel) ⟨(Nat.le_of_ble_eq_true rfl), (Nat.le_of_ble_eq_true rfl)⟩) (vpre_left hEX hNC hB hA (hK.sub [0, 1, 2, 3] rfl) [.ref ua, .int (xs (i + 1).toNatClampNeg), .int (xs (i + 2).toNatClampNeg), .ref oa]) hB hA (List.Perm.refl _) rfl hl.1 rfl (Nat.le_of_ble_eq_true rfl) dL_law_1040 ⟨by show _ ≤ 601024; omega, by show _ ≤ 7293034; omega⟩ (fun r u H locs hr9 hB => ?_)
  rw [hr9]
  refine W.widen (k := 214 + 14 * j) (n := 10312 + 312 * j) (by omega) (by omega) ?_
  refine lv_istore (lv' := [(5, .int (xR ["java/lang/IndexOutOfBoundsException", "java/lang/IllegalArgumentException"] o)), (0, .ref b), (1, .ref ua), (2, .ref (ad 0)), (3, .ref oa), (4, .int i)]) hx hb dL_law_1043 hl (by decide) rfl (fun ls hl => ?_)
  refine lv_aload_n hx hb dL_law_1045 rfl (lv_at hl 3 rfl) ?_
  refine lv_aload_n hx hb dL_law_1046 rfl (lv_at hl 1 rfl) ?_
  refine lv_iload hx hb dL_law_1047 (lv_at hl 5 rfl) ?_
  refine lv_iconst (v := (1 : Int32)) hx hb dL_law_1049 (by decide) ?_
  refine lv_iadd hx hb dL_law_1050 ?_
  refine va_sld hx hb hX hbl hbA hB.2.2 (hvi _ (by decide)) dL_law_1051 ?_
  refine lv_aload_n hx hb dL_law_1052 rfl (lv_at hl 1 rfl) ?_
  refine lv_iload hx hb dL_law_1053 (lv_at hl 5 rfl) ?_
  refine lv_iconst (v := (2 : Int32)) hx hb dL_law_1055 (by decide) ?_
  refine lv_iadd hx hb dL_law_1056 ?_
  refine va_sld hx hb hX hbl hbA hB.2.2 (hvi _ (by decide)) dL_law_1057 ?_
  refine g_vcut (As := [.int (xs (i + 1).toNatClampNeg), .int (xs (i + 2).toNatClampNeg)]) (rest := []) (wc := cM cyI cyA ad μ) (w1 := fun _ : Unit => cM cyI cyA ad μ1) ⟨hx, hb, hml, hown, hts⟩ (kX4_restock l dC dI cyI cyA ad H.size hf4) (cwV 2 hts GTlaw_X4_restock rfl rfl rfl (by decide +kernel) ⟨(Nat.le_of_ble_eq_true rfl), (Nat.le_of_ble_eq_true rfl)⟩) (pcut_pre (hB.perm List.perm_append_comm) (hK.sub [0, 4] rfl) (.ref (ad 0) :: [.int (xs (i + 1).toNatClampNeg), .int (xs (i + 2).toNatClampNeg)])) hB hA (g_recv (ci := 4) hK (hB.perm List.perm_append_comm) 0 rfl rfl rfl) List.perm_append_comm rfl hl.1 rfl (Nat.le_of_ble_eq_true rfl) dL_law_1058 ⟨by show _ ≤ 601024; omega, by show _ ≤ 7293034; omega⟩ (fun r _ H locs hr9 hB => ?_)
  have hB := hB.perm List.perm_append_comm
  rw [hr9]
  refine lv_istore (lv' := [(6, .int (b9)), (5, .int (xR ["java/lang/IndexOutOfBoundsException", "java/lang/IllegalArgumentException"] o)), (0, .ref b), (1, .ref ua), (2, .ref (ad 0)), (3, .ref oa), (4, .int i)]) hx hb dL_law_1061 hl (by decide) rfl (fun ls hl => ?_)
  refine lv_aload_n hx hb dL_law_1063 rfl (lv_at hl 4 rfl) ?_
  refine g_vcut (As := []) (rest := []) (wc := cM cyI cyA ad μ1) (w1 := fun _ : Unit => cM cyI cyA ad μ1) ⟨hx, hb, hml, hown, hts⟩ (kX4_thrown l dC dI cyI cyA ad H.size hth) (cwV 0 hts GTlaw_X4_thrown rfl rfl rfl (by decide +kernel) ⟨(Nat.le_of_ble_eq_true rfl), (Nat.le_of_ble_eq_true rfl)⟩) (pcut_pre (hB.perm List.perm_append_comm) (hK.sub [0, 4] rfl) (.ref (ad 0) :: [])) hB hA (g_recv (ci := 4) hK (hB.perm List.perm_append_comm) 0 rfl rfl rfl) List.perm_append_comm rfl hl.1 rfl (Nat.le_of_ble_eq_true rfl) dL_law_1064 ⟨by show _ ≤ 601024; omega, by show _ ≤ 7293034; omega⟩ (fun r _ H locs hr9 hB => ?_)
  have hB := hB.perm List.perm_append_comm
  rw [hr9]
  refine lv_iload hx hb dL_law_1067 (lv_at hl 1 rfl) ?_
  refine lv_icmp_eq (tgt := 1074) hx hb dL_law_1069 (by decide) (fun _ => ?_) (fun c9 => absurd rfl c9)
  refine lv_iload hx hb dL_law_1074 (lv_at hl 1 rfl) ?_
  refine lv_if_ne (tgt := 1091) hx hb dL_law_1076 (by decide) (fun c9 => ?_) (fun c9 => ?_)
  · refine lv_goto (tgt := 1121) hx hb dL_law_1091 (by decide) ?_
    rcases o with E | x
    · exact nxt _ _ _ _ _ _ _ _ _ as' _ _ _ (hIx E rfl) hB (lv_sub hl [2, 3, 4, 5, 6] rfl)
    · exact absurd rfl c9
  · obtain ⟨x, rfl⟩ := xR0 (hs := ["java/lang/IndexOutOfBoundsException", "java/lang/IllegalArgumentException"]) (by decide) c9
    refine lv_aload_n hx hb dL_law_1079 rfl (lv_at hl 5 rfl) ?_
    refine lv_iconst (v := (0 : Int32)) hx hb dL_law_1080 (by decide) ?_
    refine va_lald hx hb hK (hB.perm ((List.perm_append_comm.append_right _).trans (List.Perm.of_eq (List.append_assoc _ _ _)))).1 0 3 rfl rfl vp_in01 dL_law_1081 ?_
    refine lv_iload hx hb dL_law_1082 (lv_at hl 0 rfl) ?_
    refine lv_i2l hx hb dL_law_1084 rfl ?_
    refine W.lcmp hx hb dL_law_1085 ?_
    refine lv_if_eq (tgt := 1091) hx hb dL_law_1086 (by decide) (fun _ => ?_) (fun c9 => absurd (cmp0 (xL0 _ _ _ (hval x rfl))) c9)
    refine lv_goto (tgt := 1121) hx hb dL_law_1091 (by decide) ?_
    exact nxt _ _ _ _ _ _ _ _ _ as' _ _ _ (hIr x rfl) hB (lv_sub hl [2, 3, 4, 5, 6] rfl)

set_option maxHeartbeats 4000000 in
set_option maxRecDepth 100000 in
theorem law_undo {p : Program} {l : Launch} {e : Env} {s : State} {m : MethodId} {args : Array Value} {below : List Frame} {meth : Method} {c : Code} {H : Heap} {locs : List Loc} {Q : State → Prop} {b L : Nat} {xs : Nat → Int32} {dC : Nat → ClassId} {dI : Nat → Nat → Nat} {cyI cyB cyO cyL cyA : ClassId} {ua ub up oa : Nat} {aw as' : Nat → Nat → Nat} {ad kS : Nat → Nat} {fu : Nat} {I I1 : IT} {τs : WS} {n : Nat} {pa : PA} {β : FS} {υ : MS} {ω : WS} {sid : PA} {μ : MS} {lam : Nat → Int64} {j : Nat} {i : Int32} {ls : Array Slot} (hx : p.tables.exec = Jvm.exec) (hb : c.code = cL_law) (hml : c.maxLocals = 7) (hown : s.vm.findClass RL = some m.cls) (hts : ∀ w ∈ lw_tbl, w.before args s = true) (hX : va_X b L xs s s.heap) (hbl : b < s.heap.size) (hl0 : l.stackTraces = false) (hK : va_K (dC, dI) vwCl [(cyI, .int), (cyB, .byte), (cyO, .object "UndoJourneys$World"), (cyL, .long), (cyA, .array .int)] s) (hEX : EX (fun q => s.heap.size ≤ q) s s.heap) (hNC : NC s) (hJ : JS kS (fun q => s.heap.size ≤ q) s s.heap) (hNw : va_Nw (.methodLinkNest RX1 11 yX0_init RX3) s) (hj : j ≤ 511) (hvi : ∀ k : Int32, k = 0 ∨ k = 1 ∨ k = 2 ∨ k = 3 ∨ k = 4 ∨ k = 5 → vp_in (i + k) L) (hag : ag_undo fu I I1) (hI : I τs n pa β υ ω sid μ) (hB : Bd (dC, dI) [(cyI, .int), (cyB, .byte), (cyO, .object "UndoJourneys$World"), (cyL, .long), (cyA, .array .int)] (fun q => s.heap.size ≤ q) s ((cU cyI cyB cyO ua ub up aw as' pa β υ ω sid τs n ++ cO cyL oa lam) ++ cM cyI cyA ad μ) H locs) (hl : lv_has ls 7 [(0, .ref b), (1, .ref ua), (2, .ref (ad 0)), (3, .ref oa), (4, .int i)]) (nxt : ∀ (τs : WS) (n : Nat) (pa : PA) (β : FS) (υ : MS) (ω : WS) (sid : PA) (μ : MS) (lam : Nat → Int64) (as' : Nat → Nat → Nat) (H : Heap) (locs : List Loc) (ls : Array Slot), I1 τs n pa β υ ω sid μ → Bd (dC, dI) [(cyI, .int), (cyB, .byte), (cyO, .object "UndoJourneys$World"), (cyL, .long), (cyA, .array .int)] (fun q => s.heap.size ≤ q) s ((cU cyI cyB cyO ua ub up aw as' pa β υ ω sid τs n ++ cO cyL oa lam) ++ cM cyI cyA ad μ) H locs → lv_has ls 7 [(0, .ref b), (1, .ref ua), (2, .ref (ad 0)), (3, .ref oa), (4, .int i)] → W p l e room_1 s m args below meth c H locs (214 + 14 * j) (10312 + 312 * j) Q (F0 m 1121 ls [])) : W p l e room_1 s m args below meth c H locs (200 + 14 * j) (10000 + 312 * j) Q (F0 m 1094 ls []) := by
  have hA : ∀ q : Nat, s.heap.size ≤ q → (fun q : Nat => s.heap.size ≤ q) q := fun _ h => h
  have hbA : ¬ (fun q : Nat => s.heap.size ≤ q) b := Nat.not_le.mpr hbl
  obtain ⟨r9, υ1, ω1, sid1, μ1, hf3, hf4, hI1⟩ := hag τs n pa β υ ω sid μ hI 
  refine lv_aload_n hx hb dL_law_1094 rfl (lv_at hl 1 rfl) ?_
  refine g_vcut (As := []) (rest := []) (wc := cU cyI cyB cyO ua ub up aw as' pa β υ ω sid τs n) (wr := cO cyL oa lam ++ cM cyI cyA ad μ) (w1 := fun _ : Unit => cU cyI cyB cyO ua ub up aw as' pa β υ1 ω1 sid1 τs n) ⟨hx, hb, hml, hown, hts⟩ (kX3_undo l dC dI cyI cyB cyO ua ub up aw as' H.size hf3) (cwV 0 hts GTlaw_X3_undo rfl rfl rfl (by decide +kernel) ⟨(Nat.le_of_ble_eq_true rfl), (Nat.le_of_ble_eq_true rfl)⟩) (pcut_pre (hB.perm (List.Perm.of_eq (List.append_assoc _ _ _))) (hK.sub [0, 1, 2] rfl) (.ref ua :: [])) hB hA (g_recv (ci := 3) hK hB 0 rfl rfl rfl) (List.Perm.of_eq (List.append_assoc _ _ _)) rfl hl.1 rfl (Nat.le_of_ble_eq_true rfl) dL_law_1095 ⟨by show _ ≤ 601024; omega, by show _ ≤ 7293034; omega⟩ (fun r _ H locs hr9 hB => ?_)
  have hB := hB.perm (List.Perm.of_eq (List.append_assoc _ _ _).symm)
  rw [hr9]
  refine lv_aload_n hx hb dL_law_1098 rfl (lv_at hl 2 rfl) ?_
  refine g_vcut (As := []) (rest := [.int r9]) (wc := cM cyI cyA ad μ) (w1 := fun _ : Unit => cM cyI cyA ad μ1) ⟨hx, hb, hml, hown, hts⟩ (kX4_undo l dC dI cyI cyA ad H.size hf4) (cwV 0 hts GTlaw_X4_undo rfl rfl rfl (by decide +kernel) ⟨(Nat.le_of_ble_eq_true rfl), (Nat.le_of_ble_eq_true rfl)⟩) (pcut_pre (hB.perm List.perm_append_comm) (hK.sub [0, 4] rfl) (.ref (ad 0) :: [])) hB hA (g_recv (ci := 4) hK (hB.perm List.perm_append_comm) 0 rfl rfl rfl) List.perm_append_comm rfl hl.1 rfl (Nat.le_of_ble_eq_true rfl) dL_law_1099 ⟨by show _ ≤ 601024; omega, by show _ ≤ 7293034; omega⟩ (fun r _ H locs hr9 hB => ?_)
  have hB := hB.perm List.perm_append_comm
  rw [hr9]
  refine lv_icmp_eq (tgt := 1121) hx hb dL_law_1102 (by decide) (fun _ => ?_) (fun c9 => absurd rfl c9)
  refine W.widen (k := 214 + 14 * j) (n := 10312 + 312 * j) (by omega) (by omega) ?_
  exact nxt _ _ _ _ _ _ _ _ _ as' _ _ _ hI1 hB (lv_sub hl [0, 1, 2, 3, 4] rfl)

set_option maxHeartbeats 4000000 in
set_option maxRecDepth 100000 in
theorem law_checksum {p : Program} {l : Launch} {e : Env} {s : State} {m : MethodId} {args : Array Value} {below : List Frame} {meth : Method} {c : Code} {H : Heap} {locs : List Loc} {Q : State → Prop} {b L : Nat} {xs : Nat → Int32} {dC : Nat → ClassId} {dI : Nat → Nat → Nat} {cyI cyB cyO cyL cyA : ClassId} {ua ub up oa : Nat} {aw as' : Nat → Nat → Nat} {ad kS : Nat → Nat} {fu : Nat} {I I1 : IT} {τs : WS} {n : Nat} {pa : PA} {β : FS} {υ : MS} {ω : WS} {sid : PA} {μ : MS} {lam : Nat → Int64} {j : Nat} {i : Int32} {ls : Array Slot} (hx : p.tables.exec = Jvm.exec) (hb : c.code = cL_law) (hml : c.maxLocals = 7) (hown : s.vm.findClass RL = some m.cls) (hts : ∀ w ∈ lw_tbl, w.before args s = true) (hX : va_X b L xs s s.heap) (hbl : b < s.heap.size) (hl0 : l.stackTraces = false) (hK : va_K (dC, dI) vwCl [(cyI, .int), (cyB, .byte), (cyO, .object "UndoJourneys$World"), (cyL, .long), (cyA, .array .int)] s) (hEX : EX (fun q => s.heap.size ≤ q) s s.heap) (hNC : NC s) (hJ : JS kS (fun q => s.heap.size ≤ q) s s.heap) (hNw : va_Nw (.methodLinkNest RX1 11 yX0_init RX3) s) (hj : j ≤ 511) (hvi : ∀ k : Int32, k = 0 ∨ k = 1 ∨ k = 2 ∨ k = 3 ∨ k = 4 ∨ k = 5 → vp_in (i + k) L) (hag : ag_checksum fu I I1) (hI : I τs n pa β υ ω sid μ) (hB : Bd (dC, dI) [(cyI, .int), (cyB, .byte), (cyO, .object "UndoJourneys$World"), (cyL, .long), (cyA, .array .int)] (fun q => s.heap.size ≤ q) s ((cU cyI cyB cyO ua ub up aw as' pa β υ ω sid τs n ++ cO cyL oa lam) ++ cM cyI cyA ad μ) H locs) (hl : lv_has ls 7 [(0, .ref b), (1, .ref ua), (2, .ref (ad 0)), (3, .ref oa), (4, .int i)]) (nxt : ∀ (τs : WS) (n : Nat) (pa : PA) (β : FS) (υ : MS) (ω : WS) (sid : PA) (μ : MS) (lam : Nat → Int64) (as' : Nat → Nat → Nat) (H : Heap) (locs : List Loc) (ls : Array Slot), I1 τs n pa β υ ω sid μ → Bd (dC, dI) [(cyI, .int), (cyB, .byte), (cyO, .object "UndoJourneys$World"), (cyL, .long), (cyA, .array .int)] (fun q => s.heap.size ≤ q) s ((cU cyI cyB cyO ua ub up aw as' pa β υ ω sid τs n ++ cO cyL oa lam) ++ cM cyI cyA ad μ) H locs → lv_has ls 7 [(0, .ref b), (1, .ref ua), (2, .ref (ad 0)), (3, .ref oa), (4, .int i)] → W p l e room_1 s m args below meth c H locs (214 + 14 * j) (10312 + 312 * j) Q (F0 m 1121 ls [])) : W p l e room_1 s m args below meth c H locs (200 + 14 * j) (10000 + 312 * j) Q (F0 m 1107 ls []) := by
  have hA : ∀ q : Nat, s.heap.size ≤ q → (fun q : Nat => s.heap.size ≤ q) q := fun _ h => h
  have hbA : ¬ (fun q : Nat => s.heap.size ≤ q) b := Nat.not_le.mpr hbl
  obtain ⟨r9, μ1, hf3, hf4, hI1⟩ := hag τs n pa β υ ω sid μ hI 
  refine lv_aload_n hx hb dL_law_1107 rfl (lv_at hl 1 rfl) ?_
  refine g_pcutVl (As := []) (rest := []) (w2 := (cU cyI cyB cyO ua ub up aw as' pa β υ ω sid τs n ++ cO cyL oa lam) ++ cM cyI cyA ad μ) ⟨hx, hb, hml, hown, hts⟩ (kX3_checksum l dC dI cyI cyB cyO ua ub up aw as' H.size hf3) (cwV 0 hts GTlaw_X3_checksum rfl rfl rfl (by decide +kernel) ⟨(Nat.le_of_ble_eq_true rfl), (Nat.le_of_ble_eq_true rfl)⟩) (hK.sub [0, 1, 2] rfl) hB hA (g_recv (ci := 3) hK hB 0 rfl rfl rfl) (List.Perm.of_eq (List.append_assoc _ _ _)) (List.Perm.of_eq (List.append_assoc _ _ _).symm) rfl hl.1 rfl (Nat.le_of_ble_eq_true rfl) dL_law_1108 ⟨by show _ ≤ 601024; omega, by show _ ≤ 7293034; omega⟩ (fun H locs hB => ?_)
  refine lv_aload_n hx hb dL_law_1111 rfl (lv_at hl 2 rfl) ?_
  refine g_pcutVl (As := []) (rest := [.long r9]) (w2 := (cU cyI cyB cyO ua ub up aw as' pa β υ ω sid τs n ++ cO cyL oa lam) ++ cM cyI cyA ad μ1) ⟨hx, hb, hml, hown, hts⟩ (kX4_checksum l dC dI cyI cyA ad H.size hf4) (cwV 0 hts GTlaw_X4_checksum rfl rfl rfl (by decide +kernel) ⟨(Nat.le_of_ble_eq_true rfl), (Nat.le_of_ble_eq_true rfl)⟩) (hK.sub [0, 4] rfl) hB hA (g_recv (ci := 4) hK (hB.perm List.perm_append_comm) 0 rfl rfl rfl) List.perm_append_comm List.perm_append_comm rfl hl.1 rfl (Nat.le_of_ble_eq_true rfl) dL_law_1112 ⟨by show _ ≤ 601024; omega, by show _ ≤ 7293034; omega⟩ (fun H locs hB => ?_)
  refine W.lcmp hx hb dL_law_1115 ?_
  refine lv_if_eq (tgt := 1121) hx hb dL_law_1116 (by decide) (fun _ => ?_) (fun c9 => absurd (cmp0 rfl) c9)
  refine W.widen (k := 214 + 14 * j) (n := 10312 + 312 * j) (by omega) (by omega) ?_
  exact nxt _ _ _ _ _ _ _ _ _ as' _ _ _ hI1 hB (lv_sub hl [0, 1, 2, 3, 4] rfl)

