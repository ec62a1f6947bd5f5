set_option maxHeartbeats 4000000 in
set_option maxRecDepth 100000 in
theorem law_step {p : Program} {l : Launch} {e : Env} {s : State} {m : MethodId} {args : Array Value} {below : List Frame} {meth : Method} {c : Code} {H : Heap} {locs : List Loc} {Q : State → Prop} {b L : Nat} {xs : Nat → Int32} {dC : Nat → ClassId} {dI : Nat → Nat → Nat} {cyI cyB cyO cyL cyA : ClassId} {ua ub up oa : Nat} {aw as' : Nat → Nat → Nat} {ad kS : Nat → Nat} {fu : Nat} {I I1 : IT} {τs : WS} {n : Nat} {pa : PA} {β : FS} {υ : MS} {ω : WS} {sid : PA} {μ : MS} {lam : Nat → Int64} {j : Nat} {i : Int32} {ls : Array Slot} (hx : p.tables.exec = Jvm.exec) (hb : c.code = cL_law) (hml : c.maxLocals = 7) (hown : s.vm.findClass RL = some m.cls) (hts : ∀ w ∈ lw_tbl, w.before args s = true) (hX : va_X b L xs s s.heap) (hbl : b < s.heap.size) (hl0 : l.stackTraces = false) (hK : va_K (dC, dI) vwCl [(cyI, .int), (cyB, .byte), (cyO, .object "UndoJourneys$World"), (cyL, .long), (cyA, .array .int)] s) (hEX : EX (fun q => s.heap.size ≤ q) s s.heap) (hNC : NC s) (hJ : JS kS (fun q => s.heap.size ≤ q) s s.heap) (hNw : va_Nw (.methodLinkNest RX1 11 yX0_init RX3) s) (hj : j ≤ 511) (hvi : ∀ k : Int32, k = 0 ∨ k = 1 ∨ k = 2 ∨ k = 3 ∨ k = 4 ∨ k = 5 → vp_in (i + k) L) (hag : ag_step fu I I1) (hI : I τs n pa β υ ω sid μ) (hB : Bd (dC, dI) [(cyI, .int), (cyB, .byte), (cyO, .object "UndoJourneys$World"), (cyL, .long), (cyA, .array .int)] (fun q => s.heap.size ≤ q) s ((cU cyI cyB cyO ua ub up aw as' pa β υ ω sid τs n ++ cO cyL oa lam) ++ cM cyI cyA ad μ) H locs) (hl : lv_has ls 7 [(0, .ref b), (1, .ref ua), (2, .ref (ad 0)), (3, .ref oa), (4, .int i)]) (nxt : ∀ (τs : WS) (n : Nat) (pa : PA) (β : FS) (υ : MS) (ω : WS) (sid : PA) (μ : MS) (lam : Nat → Int64) (as' : Nat → Nat → Nat) (H : Heap) (locs : List Loc) (ls : Array Slot), I1 τs n pa β υ ω sid μ → Bd (dC, dI) [(cyI, .int), (cyB, .byte), (cyO, .object "UndoJourneys$World"), (cyL, .long), (cyA, .array .int)] (fun q => s.heap.size ≤ q) s ((cU cyI cyB cyO ua ub up aw as' pa β υ ω sid τs n ++ cO cyL oa lam) ++ cM cyI cyA ad μ) H locs → lv_has ls 7 [(0, .ref b), (1, .ref ua), (2, .ref (ad 0)), (3, .ref oa), (4, .int i)] → W p l e room_1 s m args below meth c H locs (214 + 14 * j) (10312 + 312 * j) Q (F0 m 1121 ls [])) : W p l e room_1 s m args below meth c H locs (200 + 14 * j) (10000 + 312 * j) Q (F0 m 462 ls []) := by
  have hA : ∀ q : Nat, s.heap.size ≤ q → (fun q : Nat => s.heap.size ≤ q) q := fun _ h => h
  have hbA : ¬ (fun q : Nat => s.heap.size ≤ q) b := Nat.not_le.mpr hbl
  obtain ⟨o, b9, μ1, hf3, hE9, hf4, hth, hval, hIx, hIr⟩ := hag τs n pa β υ ω sid μ hI (xs (i + 1).toNatClampNeg) (xs (i + 2).toNatClampNeg) (xs (i + 3).toNatClampNeg)
  refine lv_aload_n hx hb dL_law_462 rfl (lv_at hl 1 rfl) ?_
  refine lv_aload_n hx hb dL_law_463 rfl (lv_at hl 0 rfl) ?_
  refine lv_iload hx hb dL_law_464 (lv_at hl 4 rfl) ?_
  refine lv_iconst (v := (1 : Int32)) hx hb dL_law_466 (by decide) ?_
  refine lv_iadd hx hb dL_law_467 ?_
  refine va_sld hx hb hX hbl hbA hB.2.2 (hvi _ (by decide)) dL_law_468 ?_
  refine lv_aload_n hx hb dL_law_469 rfl (lv_at hl 0 rfl) ?_
  refine lv_iload hx hb dL_law_470 (lv_at hl 4 rfl) ?_
  refine lv_iconst (v := (2 : Int32)) hx hb dL_law_472 (by decide) ?_
  refine lv_iadd hx hb dL_law_473 ?_
  refine va_sld hx hb hX hbl hbA hB.2.2 (hvi _ (by decide)) dL_law_474 ?_
  refine lv_aload_n hx hb dL_law_475 rfl (lv_at hl 0 rfl) ?_
  refine lv_iload hx hb dL_law_476 (lv_at hl 4 rfl) ?_
  refine lv_iconst (v := (3 : Int32)) hx hb dL_law_478 (by decide) ?_
  refine lv_iadd hx hb dL_law_479 ?_
  refine va_sld hx hb hX hbl hbA hB.2.2 (hvi _ (by decide)) dL_law_480 ?_
  refine lv_aload_n hx hb dL_law_481 rfl (lv_at hl 3 rfl) ?_
  refine g_swcut (As := [.ref ua, .int (xs (i + 1).toNatClampNeg), .int (xs (i + 2).toNatClampNeg), .int (xs (i + 3).toNatClampNeg), .ref oa]) (rest := []) (wc := cU cyI cyB cyO ua ub up aw as' pa β υ ω sid τs n ++ cO cyL oa lam) (wr := cM cyI cyA ad μ) ⟨hx, hb, hml, hown, hts⟩ (kL_step l hl0 dC dI cyI cyB cyO cyL ua ub up oa aw as' lam H.size hf3 hE9) (vx_cwSW 5 hts (goodIn_sub (List.forall_mem_append.mpr ⟨tSL_step, tqL_step⟩) (by decide +kernel)) rfl rfl rfl (by decide +kernel) ⟨(Nat.le_of_ble_eq_true rfl), (Nat.le_of_ble_eq_true rfl)⟩) (vpre_left hEX hNC hB hA (hK.sub [0, 1, 2, 3] rfl) [.ref ua, .int (xs (i + 1).toNatClampNeg), .int (xs (i + 2).toNatClampNeg), .int (xs (i + 3).toNatClampNeg), .ref oa]) hB hA (List.Perm.refl _) rfl hl.1 rfl (Nat.le_of_ble_eq_true rfl) dL_law_482 ⟨by show _ ≤ 601024; omega, by show _ ≤ 7293034; omega⟩ (fun r u H locs hr9 hB => ?_)
  rw [hr9]
  refine W.widen (k := 214 + 14 * j) (n := 10312 + 312 * j) (by omega) (by omega) ?_
  refine lv_istore (lv' := [(5, .int (xR ["java/lang/IndexOutOfBoundsException", "java/util/NoSuchElementException", "java/lang/IllegalArgumentException"] o)), (0, .ref b), (1, .ref ua), (2, .ref (ad 0)), (3, .ref oa), (4, .int i)]) hx hb dL_law_485 hl (by decide) rfl (fun ls hl => ?_)
  refine lv_aload_n hx hb dL_law_487 rfl (lv_at hl 3 rfl) ?_
  refine lv_aload_n hx hb dL_law_488 rfl (lv_at hl 1 rfl) ?_
  refine lv_iload hx hb dL_law_489 (lv_at hl 5 rfl) ?_
  refine lv_iconst (v := (1 : Int32)) hx hb dL_law_491 (by decide) ?_
  refine lv_iadd hx hb dL_law_492 ?_
  refine va_sld hx hb hX hbl hbA hB.2.2 (hvi _ (by decide)) dL_law_493 ?_
  refine lv_aload_n hx hb dL_law_494 rfl (lv_at hl 1 rfl) ?_
  refine lv_iload hx hb dL_law_495 (lv_at hl 5 rfl) ?_
  refine lv_iconst (v := (2 : Int32)) hx hb dL_law_497 (by decide) ?_
  refine lv_iadd hx hb dL_law_498 ?_
  refine va_sld hx hb hX hbl hbA hB.2.2 (hvi _ (by decide)) dL_law_499 ?_
  refine lv_aload_n hx hb dL_law_500 rfl (lv_at hl 1 rfl) ?_
  refine lv_iload hx hb dL_law_501 (lv_at hl 5 rfl) ?_
  refine lv_iconst (v := (3 : Int32)) hx hb dL_law_503 (by decide) ?_
  refine lv_iadd hx hb dL_law_504 ?_
  refine va_sld hx hb hX hbl hbA hB.2.2 (hvi _ (by decide)) dL_law_505 ?_
  refine g_vcut (As := [.int (xs (i + 1).toNatClampNeg), .int (xs (i + 2).toNatClampNeg), .int (xs (i + 3).toNatClampNeg)]) (rest := []) (wc := cM cyI cyA ad μ) (w1 := fun _ : Unit => cM cyI cyA ad μ1) ⟨hx, hb, hml, hown, hts⟩ (kX4_step l dC dI cyI cyA ad H.size hf4) (cwV 3 hts GTlaw_X4_step rfl rfl rfl (by decide +kernel) ⟨(Nat.le_of_ble_eq_true rfl), (Nat.le_of_ble_eq_true rfl)⟩) (pcut_pre (hB.perm List.perm_append_comm) (hK.sub [0, 4] rfl) (.ref (ad 0) :: [.int (xs (i + 1).toNatClampNeg), .int (xs (i + 2).toNatClampNeg), .int (xs (i + 3).toNatClampNeg)])) hB hA (g_recv (ci := 4) hK (hB.perm List.perm_append_comm) 0 rfl rfl rfl) List.perm_append_comm rfl hl.1 rfl (Nat.le_of_ble_eq_true rfl) dL_law_506 ⟨by show _ ≤ 601024; omega, by show _ ≤ 7293034; omega⟩ (fun r _ H locs hr9 hB => ?_)
  have hB := hB.perm List.perm_append_comm
  rw [hr9]
  refine lv_istore (lv' := [(6, .int (b9)), (5, .int (xR ["java/lang/IndexOutOfBoundsException", "java/util/NoSuchElementException", "java/lang/IllegalArgumentException"] o)), (0, .ref b), (1, .ref ua), (2, .ref (ad 0)), (3, .ref oa), (4, .int i)]) hx hb dL_law_509 hl (by decide) rfl (fun ls hl => ?_)
  refine lv_aload_n hx hb dL_law_511 rfl (lv_at hl 4 rfl) ?_
  refine g_vcut (As := []) (rest := []) (wc := cM cyI cyA ad μ1) (w1 := fun _ : Unit => cM cyI cyA ad μ1) ⟨hx, hb, hml, hown, hts⟩ (kX4_thrown l dC dI cyI cyA ad H.size hth) (cwV 0 hts GTlaw_X4_thrown rfl rfl rfl (by decide +kernel) ⟨(Nat.le_of_ble_eq_true rfl), (Nat.le_of_ble_eq_true rfl)⟩) (pcut_pre (hB.perm List.perm_append_comm) (hK.sub [0, 4] rfl) (.ref (ad 0) :: [])) hB hA (g_recv (ci := 4) hK (hB.perm List.perm_append_comm) 0 rfl rfl rfl) List.perm_append_comm rfl hl.1 rfl (Nat.le_of_ble_eq_true rfl) dL_law_512 ⟨by show _ ≤ 601024; omega, by show _ ≤ 7293034; omega⟩ (fun r _ H locs hr9 hB => ?_)
  have hB := hB.perm List.perm_append_comm
  rw [hr9]
  refine lv_iload hx hb dL_law_515 (lv_at hl 1 rfl) ?_
  refine lv_icmp_eq (tgt := 522) hx hb dL_law_517 (by decide) (fun _ => ?_) (fun c9 => absurd rfl c9)
  refine lv_iload hx hb dL_law_522 (lv_at hl 1 rfl) ?_
  refine lv_if_ne (tgt := 539) hx hb dL_law_524 (by decide) (fun c9 => ?_) (fun c9 => ?_)
  · refine lv_goto (tgt := 1121) hx hb dL_law_539 (by decide) ?_
    rcases o with E | x
    · exact nxt _ _ _ _ _ _ _ _ _ as' _ _ _ (hIx E rfl) hB (lv_sub hl [2, 3, 4, 5, 6] rfl)
    · exact absurd rfl c9
  · obtain ⟨x, rfl⟩ := xR0 (hs := ["java/lang/IndexOutOfBoundsException", "java/util/NoSuchElementException", "java/lang/IllegalArgumentException"]) (by decide) c9
    refine lv_aload_n hx hb dL_law_527 rfl (lv_at hl 5 rfl) ?_
    refine lv_iconst (v := (0 : Int32)) hx hb dL_law_528 (by decide) ?_
    refine va_lald hx hb hK (hB.perm ((List.perm_append_comm.append_right _).trans (List.Perm.of_eq (List.append_assoc _ _ _)))).1 0 3 rfl rfl vp_in01 dL_law_529 ?_
    refine lv_iload hx hb dL_law_530 (lv_at hl 0 rfl) ?_
    refine lv_i2l hx hb dL_law_532 rfl ?_
    refine W.lcmp hx hb dL_law_533 ?_
    refine lv_if_eq (tgt := 539) hx hb dL_law_534 (by decide) (fun _ => ?_) (fun c9 => absurd (cmp0 (xL0 _ _ _ (hval x rfl))) c9)
    refine lv_goto (tgt := 1121) hx hb dL_law_539 (by decide) ?_
    exact nxt _ _ _ _ _ _ _ _ _ as' _ _ _ (hIr x rfl) hB (lv_sub hl [2, 3, 4, 5, 6] rfl)

set_option maxHeartbeats 4000000 in
set_option maxRecDepth 100000 in
theorem law_owed {p : Program} {l : Launch} {e : Env} {s : State} {m : MethodId} {args : Array Value} {below : List Frame} {meth : Method} {c : Code} {H : Heap} {locs : List Loc} {Q : State → Prop} {b L : Nat} {xs : Nat → Int32} {dC : Nat → ClassId} {dI : Nat → Nat → Nat} {cyI cyB cyO cyL cyA : ClassId} {ua ub up oa : Nat} {aw as' : Nat → Nat → Nat} {ad kS : Nat → Nat} {fu : Nat} {I I1 : IT} {τs : WS} {n : Nat} {pa : PA} {β : FS} {υ : MS} {ω : WS} {sid : PA} {μ : MS} {lam : Nat → Int64} {j : Nat} {i : Int32} {ls : Array Slot} (hx : p.tables.exec = Jvm.exec) (hb : c.code = cL_law) (hml : c.maxLocals = 7) (hown : s.vm.findClass RL = some m.cls) (hts : ∀ w ∈ lw_tbl, w.before args s = true) (hX : va_X b L xs s s.heap) (hbl : b < s.heap.size) (hl0 : l.stackTraces = false) (hK : va_K (dC, dI) vwCl [(cyI, .int), (cyB, .byte), (cyO, .object "UndoJourneys$World"), (cyL, .long), (cyA, .array .int)] s) (hEX : EX (fun q => s.heap.size ≤ q) s s.heap) (hNC : NC s) (hJ : JS kS (fun q => s.heap.size ≤ q) s s.heap) (hNw : va_Nw (.methodLinkNest RX1 11 yX0_init RX3) s) (hj : j ≤ 511) (hvi : ∀ k : Int32, k = 0 ∨ k = 1 ∨ k = 2 ∨ k = 3 ∨ k = 4 ∨ k = 5 → vp_in (i + k) L) (hag : ag_owed fu I I1) (hI : I τs n pa β υ ω sid μ) (hB : Bd (dC, dI) [(cyI, .int), (cyB, .byte), (cyO, .object "UndoJourneys$World"), (cyL, .long), (cyA, .array .int)] (fun q => s.heap.size ≤ q) s ((cU cyI cyB cyO ua ub up aw as' pa β υ ω sid τs n ++ cO cyL oa lam) ++ cM cyI cyA ad μ) H locs) (hl : lv_has ls 7 [(0, .ref b), (1, .ref ua), (2, .ref (ad 0)), (3, .ref oa), (4, .int i)]) (nxt : ∀ (τs : WS) (n : Nat) (pa : PA) (β : FS) (υ : MS) (ω : WS) (sid : PA) (μ : MS) (lam : Nat → Int64) (as' : Nat → Nat → Nat) (H : Heap) (locs : List Loc) (ls : Array Slot), I1 τs n pa β υ ω sid μ → Bd (dC, dI) [(cyI, .int), (cyB, .byte), (cyO, .object "UndoJourneys$World"), (cyL, .long), (cyA, .array .int)] (fun q => s.heap.size ≤ q) s ((cU cyI cyB cyO ua ub up aw as' pa β υ ω sid τs n ++ cO cyL oa lam) ++ cM cyI cyA ad μ) H locs → lv_has ls 7 [(0, .ref b), (1, .ref ua), (2, .ref (ad 0)), (3, .ref oa), (4, .int i)] → W p l e room_1 s m args below meth c H locs (214 + 14 * j) (10312 + 312 * j) Q (F0 m 1121 ls [])) : W p l e room_1 s m args below meth c H locs (200 + 14 * j) (10000 + 312 * j) Q (F0 m 542 ls []) := by
  have hA : ∀ q : Nat, s.heap.size ≤ q → (fun q : Nat => s.heap.size ≤ q) q := fun _ h => h
  have hbA : ¬ (fun q : Nat => s.heap.size ≤ q) b := Nat.not_le.mpr hbl
  obtain ⟨o, b9, μ1, hf3, hE9, hf4, hth, hval, hIx, hIr⟩ := hag τs n pa β υ ω sid μ hI (xs (i + 1).toNatClampNeg) (xs (i + 2).toNatClampNeg)
  refine lv_aload_n hx hb dL_law_542 rfl (lv_at hl 1 rfl) ?_
  refine lv_aload_n hx hb dL_law_543 rfl (lv_at hl 0 rfl) ?_
  refine lv_iload hx hb dL_law_544 (lv_at hl 4 rfl) ?_
  refine lv_iconst (v := (1 : Int32)) hx hb dL_law_546 (by decide) ?_
  refine lv_iadd hx hb dL_law_547 ?_
  refine va_sld hx hb hX hbl hbA hB.2.2 (hvi _ (by decide)) dL_law_548 ?_
  refine lv_aload_n hx hb dL_law_549 rfl (lv_at hl 0 rfl) ?_
  refine lv_iload hx hb dL_law_550 (lv_at hl 4 rfl) ?_
  refine lv_iconst (v := (2 : Int32)) hx hb dL_law_552 (by decide) ?_
  refine lv_iadd hx hb dL_law_553 ?_
  refine va_sld hx hb hX hbl hbA hB.2.2 (hvi _ (by decide)) dL_law_554 ?_
  refine lv_aload_n hx hb dL_law_555 rfl (lv_at hl 3 rfl) ?_
  refine g_swcut (As := [.ref ua, .int (xs (i + 1).toNatClampNeg), .int (xs (i + 2).toNatClampNeg), .ref oa]) (rest := []) (wc := cU cyI cyB cyO ua ub up aw as' pa β υ ω sid τs n ++ cO cyL oa lam) (wr := cM cyI cyA ad μ) ⟨hx, hb, hml, hown, hts⟩ (kL_owed l hl0 dC dI cyI cyB cyO cyL ua ub up oa aw as' lam H.size hf3 hE9) (vx_cwSW 4 hts (goodIn_sub (List.forall_mem_append.mpr ⟨tSL_owed, tqL_owed⟩) (by decide +kernel)) rfl rfl rfl (by decide +kernel) ⟨(Nat.le_of_ble_eq_true rfl), (Nat.le_of_ble_eq_true rfl)⟩) (vpre_left hEX hNC hB hA (hK.sub [0, 1, 2, 3] rfl) [.ref ua, .int (xs (i + 1).toNatClampNeg), .int (xs (i + 2).toNatClampNeg), .ref oa]) hB hA (List.Perm.refl _) rfl hl.1 rfl (Nat.le_of_ble_eq_true rfl) dL_law_556 ⟨by show _ ≤ 601024; omega, by show _ ≤ 7293034; omega⟩ (fun r u H locs hr9 hB => ?_)
  rw [hr9]
  refine W.widen (k := 214 + 14 * j) (n := 10312 + 312 * j) (by omega) (by omega) ?_
  refine lv_istore (lv' := [(5, .int (xR ["java/lang/IndexOutOfBoundsException", "java/util/NoSuchElementException"] o)), (0, .ref b), (1, .ref ua), (2, .ref (ad 0)), (3, .ref oa), (4, .int i)]) hx hb dL_law_559 hl (by decide) rfl (fun ls hl => ?_)
  refine lv_aload_n hx hb dL_law_561 rfl (lv_at hl 3 rfl) ?_
  refine lv_aload_n hx hb dL_law_562 rfl (lv_at hl 1 rfl) ?_
  refine lv_iload hx hb dL_law_563 (lv_at hl 5 rfl) ?_
  refine lv_iconst (v := (1 : Int32)) hx hb dL_law_565 (by decide) ?_
  refine lv_iadd hx hb dL_law_566 ?_
  refine va_sld hx hb hX hbl hbA hB.2.2 (hvi _ (by decide)) dL_law_567 ?_
  refine lv_aload_n hx hb dL_law_568 rfl (lv_at hl 1 rfl) ?_
  refine lv_iload hx hb dL_law_569 (lv_at hl 5 rfl) ?_
  refine lv_iconst (v := (2 : Int32)) hx hb dL_law_571 (by decide) ?_
  refine lv_iadd hx hb dL_law_572 ?_
  refine va_sld hx hb hX hbl hbA hB.2.2 (hvi _ (by decide)) dL_law_573 ?_
  refine g_vcut (As := [.int (xs (i + 1).toNatClampNeg), .int (xs (i + 2).toNatClampNeg)]) (rest := []) (wc := cM cyI cyA ad μ) (w1 := fun _ : Unit => cM cyI cyA ad μ1) ⟨hx, hb, hml, hown, hts⟩ (kX4_owed l dC dI cyI cyA ad H.size hf4) (cwV 2 hts GTlaw_X4_owed rfl rfl rfl (by decide +kernel) ⟨(Nat.le_of_ble_eq_true rfl), (Nat.le_of_ble_eq_true rfl)⟩) (pcut_pre (hB.perm List.perm_append_comm) (hK.sub [0, 4] rfl) (.ref (ad 0) :: [.int (xs (i + 1).toNatClampNeg), .int (xs (i + 2).toNatClampNeg)])) hB hA (g_recv (ci := 4) hK (hB.perm List.perm_append_comm) 0 rfl rfl rfl) List.perm_append_comm rfl hl.1 rfl (Nat.le_of_ble_eq_true rfl) dL_law_574 ⟨by show _ ≤ 601024; omega, by show _ ≤ 7293034; omega⟩ (fun r _ H locs hr9 hB => ?_)
  have hB := hB.perm List.perm_append_comm
  rw [hr9]
  refine lv_istore (lv' := [(6, .int (b9)), (5, .int (xR ["java/lang/IndexOutOfBoundsException", "java/util/NoSuchElementException"] o)), (0, .ref b), (1, .ref ua), (2, .ref (ad 0)), (3, .ref oa), (4, .int i)]) hx hb dL_law_577 hl (by decide) rfl (fun ls hl => ?_)
  refine lv_aload_n hx hb dL_law_579 rfl (lv_at hl 4 rfl) ?_
  refine g_vcut (As := []) (rest := []) (wc := cM cyI cyA ad μ1) (w1 := fun _ : Unit => cM cyI cyA ad μ1) ⟨hx, hb, hml, hown, hts⟩ (kX4_thrown l dC dI cyI cyA ad H.size hth) (cwV 0 hts GTlaw_X4_thrown rfl rfl rfl (by decide +kernel) ⟨(Nat.le_of_ble_eq_true rfl), (Nat.le_of_ble_eq_true rfl)⟩) (pcut_pre (hB.perm List.perm_append_comm) (hK.sub [0, 4] rfl) (.ref (ad 0) :: [])) hB hA (g_recv (ci := 4) hK (hB.perm List.perm_append_comm) 0 rfl rfl rfl) List.perm_append_comm rfl hl.1 rfl (Nat.le_of_ble_eq_true rfl) dL_law_580 ⟨by show _ ≤ 601024; omega, by show _ ≤ 7293034; omega⟩ (fun r _ H locs hr9 hB => ?_)
  have hB := hB.perm List.perm_append_comm
  rw [hr9]
  refine lv_iload hx hb dL_law_583 (lv_at hl 1 rfl) ?_
  refine lv_icmp_eq (tgt := 590) hx hb dL_law_585 (by decide) (fun _ => ?_) (fun c9 => absurd rfl c9)
  refine lv_iload hx hb dL_law_590 (lv_at hl 1 rfl) ?_
  refine lv_if_ne (tgt := 607) hx hb dL_law_592 (by decide) (fun c9 => ?_) (fun c9 => ?_)
  · refine lv_goto (tgt := 1121) hx hb dL_law_607 (by decide) ?_
    rcases o with E | x
    · exact nxt _ _ _ _ _ _ _ _ _ as' _ _ _ (hIx E rfl) hB (lv_sub hl [2, 3, 4, 5, 6] rfl)
    · exact absurd rfl c9
  · obtain ⟨x, rfl⟩ := xR0 (hs := ["java/lang/IndexOutOfBoundsException", "java/util/NoSuchElementException"]) (by decide) c9
    refine lv_aload_n hx hb dL_law_595 rfl (lv_at hl 5 rfl) ?_
    refine lv_iconst (v := (0 : Int32)) hx hb dL_law_596 (by decide) ?_
    refine va_lald hx hb hK (hB.perm ((List.perm_append_comm.append_right _).trans (List.Perm.of_eq (List.append_assoc _ _ _)))).1 0 3 rfl rfl vp_in01 dL_law_597 ?_
    refine lv_iload hx hb dL_law_598 (lv_at hl 0 rfl) ?_
    refine lv_i2l hx hb dL_law_600 rfl ?_
    refine W.lcmp hx hb dL_law_601 ?_
    refine lv_if_eq (tgt := 607) hx hb dL_law_602 (by decide) (fun _ => ?_) (fun c9 => absurd (cmp0 (xL0 _ _ _ (hval x rfl))) c9)
    refine lv_goto (tgt := 1121) hx hb dL_law_607 (by decide) ?_
    exact nxt _ _ _ _ _ _ _ _ _ as' _ _ _ (hIr x rfl) hB (lv_sub hl [2, 3, 4, 5, 6] rfl)

set_option maxHeartbeats 4000000 in
set_option maxRecDepth 100000 in
theorem law_restsIn {p : Program} {l : Launch} {e : Env} {s : State} {m : MethodId} {args : Array Value} {below : List Frame} {meth : Method} {c : Code} {H : Heap} {locs : List Loc} {Q : State → Prop} {b L : Nat} {xs : Nat → Int32} {dC : Nat → ClassId} {dI : Nat → Nat → Nat} {cyI cyB cyO cyL cyA : ClassId} {ua ub up oa : Nat} {aw as' : Nat → Nat → Nat} {ad kS : Nat → Nat} {fu : Nat} {I I1 : IT} {τs : WS} {n : Nat} {pa : PA} {β : FS} {υ : MS} {ω : WS} {sid : PA} {μ : MS} {lam : Nat → Int64} {j : Nat} {i : Int32} {ls : Array Slot} (hx : p.tables.exec = Jvm.exec) (hb : c.code = cL_law) (hml : c.maxLocals = 7) (hown : s.vm.findClass RL = some m.cls) (hts : ∀ w ∈ lw_tbl, w.before args s = true) (hX : va_X b L xs s s.heap) (hbl : b < s.heap.size) (hl0 : l.stackTraces = false) (hK : va_K (dC, dI) vwCl [(cyI, .int), (cyB, .byte), (cyO, .object "UndoJourneys$World"), (cyL, .long), (cyA, .array .int)] s) (hEX : EX (fun q => s.heap.size ≤ q) s s.heap) (hNC : NC s) (hJ : JS kS (fun q => s.heap.size ≤ q) s s.heap) (hNw : va_Nw (.methodLinkNest RX1 11 yX0_init RX3) s) (hj : j ≤ 511) (hvi : ∀ k : Int32, k = 0 ∨ k = 1 ∨ k = 2 ∨ k = 3 ∨ k = 4 ∨ k = 5 → vp_in (i + k) L) (hag : ag_restsIn fu I I1) (hI : I τs n pa β υ ω sid μ) (hB : Bd (dC, dI) [(cyI, .int), (cyB, .byte), (cyO, .object "UndoJourneys$World"), (cyL, .long), (cyA, .array .int)] (fun q => s.heap.size ≤ q) s ((cU cyI cyB cyO ua ub up aw as' pa β υ ω sid τs n ++ cO cyL oa lam) ++ cM cyI cyA ad μ) H locs) (hl : lv_has ls 7 [(0, .ref b), (1, .ref ua), (2, .ref (ad 0)), (3, .ref oa), (4, .int i)]) (nxt : ∀ (τs : WS) (n : Nat) (pa : PA) (β : FS) (υ : MS) (ω : WS) (sid : PA) (μ : MS) (lam : Nat → Int64) (as' : Nat → Nat → Nat) (H : Heap) (locs : List Loc) (ls : Array Slot), I1 τs n pa β υ ω sid μ → Bd (dC, dI) [(cyI, .int), (cyB, .byte), (cyO, .object "UndoJourneys$World"), (cyL, .long), (cyA, .array .int)] (fun q => s.heap.size ≤ q) s ((cU cyI cyB cyO ua ub up aw as' pa β υ ω sid τs n ++ cO cyL oa lam) ++ cM cyI cyA ad μ) H locs → lv_has ls 7 [(0, .ref b), (1, .ref ua), (2, .ref (ad 0)), (3, .ref oa), (4, .int i)] → W p l e room_1 s m args below meth c H locs (214 + 14 * j) (10312 + 312 * j) Q (F0 m 1121 ls [])) : W p l e room_1 s m args below meth c H locs (200 + 14 * j) (10000 + 312 * j) Q (F0 m 610 ls []) := by
  have hA : ∀ q : Nat, s.heap.size ≤ q → (fun q : Nat => s.heap.size ≤ q) q := fun _ h => h
  have hbA : ¬ (fun q : Nat => s.heap.size ≤ q) b := Nat.not_le.mpr hbl
  obtain ⟨o, b9, μ1, hf3, hE9, hf4, hth, hval, hIx, hIr⟩ := hag τs n pa β υ ω sid μ hI (xs (i + 1).toNatClampNeg)
  refine lv_aload_n hx hb dL_law_610 rfl (lv_at hl 1 rfl) ?_
  refine lv_aload_n hx hb dL_law_611 rfl (lv_at hl 0 rfl) ?_
  refine lv_iload hx hb dL_law_612 (lv_at hl 4 rfl) ?_
  refine lv_iconst (v := (1 : Int32)) hx hb dL_law_614 (by decide) ?_
  refine lv_iadd hx hb dL_law_615 ?_
  refine va_sld hx hb hX hbl hbA hB.2.2 (hvi _ (by decide)) dL_law_616 ?_
  refine lv_aload_n hx hb dL_law_617 rfl (lv_at hl 3 rfl) ?_
  refine g_swcut (As := [.ref ua, .int (xs (i + 1).toNatClampNeg), .ref oa]) (rest := []) (wc := cU cyI cyB cyO ua ub up aw as' pa β υ ω sid τs n ++ cO cyL oa lam) (wr := cM cyI cyA ad μ) ⟨hx, hb, hml, hown, hts⟩ (kL_restsIn l hl0 dC dI cyI cyB cyO cyL ua ub up oa aw as' lam H.size hf3 hE9) (vx_cwSW 3 hts (goodIn_sub (List.forall_mem_append.mpr ⟨tSL_restsIn, tqL_restsIn⟩) (by decide +kernel)) rfl rfl rfl (by decide +kernel) ⟨(Nat.le_of_ble_eq_true rfl), (Nat.le_of_ble_eq_true rfl)⟩) (vpre_left hEX hNC hB hA (hK.sub [0, 1, 2, 3] rfl) [.ref ua, .int (xs (i + 1).toNatClampNeg), .ref oa]) hB hA (List.Perm.refl _) rfl hl.1 rfl (Nat.le_of_ble_eq_true rfl) dL_law_618 ⟨by show _ ≤ 601024; omega, by show _ ≤ 7293034; omega⟩ (fun r u H locs hr9 hB => ?_)
  rw [hr9]
  refine W.widen (k := 214 + 14 * j) (n := 10312 + 312 * j) (by omega) (by omega) ?_
  refine lv_istore (lv' := [(5, .int (xR ["java/lang/IndexOutOfBoundsException"] o)), (0, .ref b), (1, .ref ua), (2, .ref (ad 0)), (3, .ref oa), (4, .int i)]) hx hb dL_law_621 hl (by decide) rfl (fun ls hl => ?_)
  refine lv_aload_n hx hb dL_law_623 rfl (lv_at hl 3 rfl) ?_
  refine lv_aload_n hx hb dL_law_624 rfl (lv_at hl 1 rfl) ?_
  refine lv_iload hx hb dL_law_625 (lv_at hl 5 rfl) ?_
  refine lv_iconst (v := (1 : Int32)) hx hb dL_law_627 (by decide) ?_
  refine lv_iadd hx hb dL_law_628 ?_
  refine va_sld hx hb hX hbl hbA hB.2.2 (hvi _ (by decide)) dL_law_629 ?_
  refine g_vcut (As := [.int (xs (i + 1).toNatClampNeg)]) (rest := []) (wc := cM cyI cyA ad μ) (w1 := fun _ : Unit => cM cyI cyA ad μ1) ⟨hx, hb, hml, hown, hts⟩ (kX4_restsIn l dC dI cyI cyA ad H.size hf4) (cwV 1 hts GTlaw_X4_restsIn rfl rfl rfl (by decide +kernel) ⟨(Nat.le_of_ble_eq_true rfl), (Nat.le_of_ble_eq_true rfl)⟩) (pcut_pre (hB.perm List.perm_append_comm) (hK.sub [0, 4] rfl) (.ref (ad 0) :: [.int (xs (i + 1).toNatClampNeg)])) hB hA (g_recv (ci := 4) hK (hB.perm List.perm_append_comm) 0 rfl rfl rfl) List.perm_append_comm rfl hl.1 rfl (Nat.le_of_ble_eq_true rfl) dL_law_630 ⟨by show _ ≤ 601024; omega, by show _ ≤ 7293034; omega⟩ (fun r _ H locs hr9 hB => ?_)
  have hB := hB.perm List.perm_append_comm
  rw [hr9]
  refine lv_istore (lv' := [(6, .int (b9)), (5, .int (xR ["java/lang/IndexOutOfBoundsException"] o)), (0, .ref b), (1, .ref ua), (2, .ref (ad 0)), (3, .ref oa), (4, .int i)]) hx hb dL_law_633 hl (by decide) rfl (fun ls hl => ?_)
  refine lv_aload_n hx hb dL_law_635 rfl (lv_at hl 4 rfl) ?_
  refine g_vcut (As := []) (rest := []) (wc := cM cyI cyA ad μ1) (w1 := fun _ : Unit => cM cyI cyA ad μ1) ⟨hx, hb, hml, hown, hts⟩ (kX4_thrown l dC dI cyI cyA ad H.size hth) (cwV 0 hts GTlaw_X4_thrown rfl rfl rfl (by decide +kernel) ⟨(Nat.le_of_ble_eq_true rfl), (Nat.le_of_ble_eq_true rfl)⟩) (pcut_pre (hB.perm List.perm_append_comm) (hK.sub [0, 4] rfl) (.ref (ad 0) :: [])) hB hA (g_recv (ci := 4) hK (hB.perm List.perm_append_comm) 0 rfl rfl rfl) List.perm_append_comm rfl hl.1 rfl (Nat.le_of_ble_eq_true rfl) dL_law_636 ⟨by show _ ≤ 601024; omega, by show _ ≤ 7293034; omega⟩ (fun r _ H locs hr9 hB => ?_)
  have hB := hB.perm List.perm_append_comm
  rw [hr9]
  refine lv_iload hx hb dL_law_639 (lv_at hl 1 rfl) ?_
  refine lv_icmp_eq (tgt := 646) hx hb dL_law_641 (by decide) (fun _ => ?_) (fun c9 => absurd rfl c9)
  refine lv_iload hx hb dL_law_646 (lv_at hl 1 rfl) ?_
  refine lv_if_ne (tgt := 663) hx hb dL_law_648 (by decide) (fun c9 => ?_) (fun c9 => ?_)
  · refine lv_goto (tgt := 1121) hx hb dL_law_663 (by decide) ?_
    rcases o with E | x
    · exact nxt _ _ _ _ _ _ _ _ _ as' _ _ _ (hIx E rfl) hB (lv_sub hl [2, 3, 4, 5, 6] rfl)
    · exact absurd rfl c9
  · obtain ⟨x, rfl⟩ := xR0 (hs := ["java/lang/IndexOutOfBoundsException"]) (by decide) c9
    refine lv_aload_n hx hb dL_law_651 rfl (lv_at hl 5 rfl) ?_
    refine lv_iconst (v := (0 : Int32)) hx hb dL_law_652 (by decide) ?_
    refine va_lald hx hb hK (hB.perm ((List.perm_append_comm.append_right _).trans (List.Perm.of_eq (List.append_assoc _ _ _)))).1 0 3 rfl rfl vp_in01 dL_law_653 ?_
    refine lv_iload hx hb dL_law_654 (lv_at hl 0 rfl) ?_
    refine lv_i2l hx hb dL_law_656 rfl ?_
    refine W.lcmp hx hb dL_law_657 ?_
    refine lv_if_eq (tgt := 663) hx hb dL_law_658 (by decide) (fun _ => ?_) (fun c9 => absurd (cmp0 (xL0 _ _ _ (hval x rfl))) c9)
    refine lv_goto (tgt := 1121) hx hb dL_law_663 (by decide) ?_
    exact nxt _ _ _ _ _ _ _ _ _ as' _ _ _ (hIr x rfl) hB (lv_sub hl [2, 3, 4, 5, 6] rfl)

set_option maxHeartbeats 4000000 in
set_option maxRecDepth 100000 in
theorem law_stateAfter {p : Program} {l : Launch} {e : Env} {s : State} {m : MethodId} {args : Array Value} {below : List Frame} {meth : Method} {c : Code} {H : Heap} {locs : List Loc} {Q : State → Prop} {b L : Nat} {xs : Nat → Int32} {dC : Nat → ClassId} {dI : Nat → Nat → Nat} {cyI cyB cyO cyL cyA : ClassId} {ua ub up oa : Nat} {aw as' : Nat → Nat → Nat} {ad kS : Nat → Nat} {fu : Nat} {I I1 : IT} {τs : WS} {n : Nat} {pa : PA} {β : FS} {υ : MS} {ω : WS} {sid : PA} {μ : MS} {lam : Nat → Int64} {j : Nat} {i : Int32} {ls : Array Slot} (hx : p.tables.exec = Jvm.exec) (hb : c.code = cL_law) (hml : c.maxLocals = 7) (hown : s.vm.findClass RL = some m.cls) (hts : ∀ w ∈ lw_tbl, w.before args s = true) (hX : va_X b L xs s s.heap) (hbl : b < s.heap.size) (hl0 : l.stackTraces = false) (hK : va_K (dC, dI) vwCl [(cyI, .int), (cyB, .byte), (cyO, .object "UndoJourneys$World"), (cyL, .long), (cyA, .array .int)] s) (hEX : EX (fun q => s.heap.size ≤ q) s s.heap) (hNC : NC s) (hJ : JS kS (fun q => s.heap.size ≤ q) s s.heap) (hNw : va_Nw (.methodLinkNest RX1 11 yX0_init RX3) s) (hj : j ≤ 511) (hvi : ∀ k : Int32, k = 0 ∨ k = 1 ∨ k = 2 ∨ k = 3 ∨ k = 4 ∨ k = 5 → vp_in (i + k) L) (hag : ag_stateAfter fu I I1) (hI : I τs n pa β υ ω sid μ) (hB : Bd (dC, dI) [(cyI, .int), (cyB, .byte), (cyO, .object "UndoJourneys$World"), (cyL, .long), (cyA, .array .int)] (fun q => s.heap.size ≤ q) s ((cU cyI cyB cyO ua ub up aw as' pa β υ ω sid τs n ++ cO cyL oa lam) ++ cM cyI cyA ad μ) H locs) (hl : lv_has ls 7 [(0, .ref b), (1, .ref ua), (2, .ref (ad 0)), (3, .ref oa), (4, .int i)]) (nxt : ∀ (τs : WS) (n : Nat) (pa : PA) (β : FS) (υ : MS) (ω : WS) (sid : PA) (μ : MS) (lam : Nat → Int64) (as' : Nat → Nat → Nat) (H : Heap) (locs : List Loc) (ls : Array Slot), I1 τs n pa β υ ω sid μ → Bd (dC, dI) [(cyI, .int), (cyB, .byte), (cyO, .object "UndoJourneys$World"), (cyL, .long), (cyA, .array .int)] (fun q => s.heap.size ≤ q) s ((cU cyI cyB cyO ua ub up aw as' pa β υ ω sid τs n ++ cO cyL oa lam) ++ cM cyI cyA ad μ) H locs → lv_has ls 7 [(0, .ref b), (1, .ref ua), (2, .ref (ad 0)), (3, .ref oa), (4, .int i)] → W p l e room_1 s m args below meth c H locs (214 + 14 * j) (10312 + 312 * j) Q (F0 m 1121 ls [])) : W p l e room_1 s m args below meth c H locs (200 + 14 * j) (10000 + 312 * j) Q (F0 m 666 ls []) := by
  have hA : ∀ q : Nat, s.heap.size ≤ q → (fun q : Nat => s.heap.size ≤ q) q := fun _ h => h
  have hbA : ¬ (fun q : Nat => s.heap.size ≤ q) b := Nat.not_le.mpr hbl
  obtain ⟨o, b9, μ1, hf3, hE9, hf4, hth, hval, hIx, hIr⟩ := hag τs n pa β υ ω sid μ hI (xs (i + 1).toNatClampNeg) (xs (i + 2).toNatClampNeg)
  refine lv_aload_n hx hb dL_law_666 rfl (lv_at hl 1 rfl) ?_
  refine lv_aload_n hx hb dL_law_667 rfl (lv_at hl 0 rfl) ?_
  refine lv_iload hx hb dL_law_668 (lv_at hl 4 rfl) ?_
  refine lv_iconst (v := (1 : Int32)) hx hb dL_law_670 (by decide) ?_
  refine lv_iadd hx hb dL_law_671 ?_
  refine va_sld hx hb hX hbl hbA hB.2.2 (hvi _ (by decide)) dL_law_672 ?_
  refine lv_aload_n hx hb dL_law_673 rfl (lv_at hl 0 rfl) ?_
  refine lv_iload hx hb dL_law_674 (lv_at hl 4 rfl) ?_
  refine lv_iconst (v := (2 : Int32)) hx hb dL_law_676 (by decide) ?_
  refine lv_iadd hx hb dL_law_677 ?_
  refine va_sld hx hb hX hbl hbA hB.2.2 (hvi _ (by decide)) dL_law_678 ?_
  refine lv_aload_n hx hb dL_law_679 rfl (lv_at hl 3 rfl) ?_
  refine g_swcut (As := [.ref ua, .int (xs (i + 1).toNatClampNeg), .int (xs (i + 2).toNatClampNeg), .ref oa]) (rest := []) (wc := cU cyI cyB cyO ua ub up aw as' pa β υ ω sid τs n ++ cO cyL oa lam) (wr := cM cyI cyA ad μ) ⟨hx, hb, hml, hown, hts⟩ (kL_stateAfter l hl0 dC dI cyI cyB cyO cyL ua ub up oa aw as' lam H.size hf3 hE9) (vx_cwSW 4 hts (goodIn_sub (List.forall_mem_append.mpr ⟨tSL_stateAfter, tqL_stateAfter⟩) (by decide +kernel)) rfl rfl rfl (by decide +kernel) ⟨(Nat.le_of_ble_eq_true rfl), (Nat.le_of_ble_eq_true rfl)⟩) (vpre_left hEX hNC hB hA (hK.sub [0, 1, 2, 3] rfl) [.ref ua, .int (xs (i + 1).toNatClampNeg), .int (xs (i + 2).toNatClampNeg), .ref oa]) hB hA (List.Perm.refl _) rfl hl.1 rfl (Nat.le_of_ble_eq_true rfl) dL_law_680 ⟨by show _ ≤ 601024; omega, by show _ ≤ 7293034; omega⟩ (fun r u H locs hr9 hB => ?_)
  rw [hr9]
  refine W.widen (k := 214 + 14 * j) (n := 10312 + 312 * j) (by omega) (by omega) ?_
  refine lv_istore (lv' := [(5, .int (xR ["java/lang/IndexOutOfBoundsException", "java/lang/IllegalArgumentException"] o)), (0, .ref b), (1, .ref ua), (2, .ref (ad 0)), (3, .ref oa), (4, .int i)]) hx hb dL_law_683 hl (by decide) rfl (fun ls hl => ?_)
  refine lv_aload_n hx hb dL_law_685 rfl (lv_at hl 3 rfl) ?_
  refine lv_aload_n hx hb dL_law_686 rfl (lv_at hl 1 rfl) ?_
  refine lv_iload hx hb dL_law_687 (lv_at hl 5 rfl) ?_
  refine lv_iconst (v := (1 : Int32)) hx hb dL_law_689 (by decide) ?_
  refine lv_iadd hx hb dL_law_690 ?_
  refine va_sld hx hb hX hbl hbA hB.2.2 (hvi _ (by decide)) dL_law_691 ?_
  refine lv_aload_n hx hb dL_law_692 rfl (lv_at hl 1 rfl) ?_
  refine lv_iload hx hb dL_law_693 (lv_at hl 5 rfl) ?_
  refine lv_iconst (v := (2 : Int32)) hx hb dL_law_695 (by decide) ?_
  refine lv_iadd hx hb dL_law_696 ?_
  refine va_sld hx hb hX hbl hbA hB.2.2 (hvi _ (by decide)) dL_law_697 ?_
  refine g_vcut (As := [.int (xs (i + 1).toNatClampNeg), .int (xs (i + 2).toNatClampNeg)]) (rest := []) (wc := cM cyI cyA ad μ) (w1 := fun _ : Unit => cM cyI cyA ad μ1) ⟨hx, hb, hml, hown, hts⟩ (kX4_stateAfter l dC dI cyI cyA ad H.size hf4) (cwV 2 hts GTlaw_X4_stateAfter rfl rfl rfl (by decide +kernel) ⟨(Nat.le_of_ble_eq_true rfl), (Nat.le_of_ble_eq_true rfl)⟩) (pcut_pre (hB.perm List.perm_append_comm) (hK.sub [0, 4] rfl) (.ref (ad 0) :: [.int (xs (i + 1).toNatClampNeg), .int (xs (i + 2).toNatClampNeg)])) hB hA (g_recv (ci := 4) hK (hB.perm List.perm_append_comm) 0 rfl rfl rfl) List.perm_append_comm rfl hl.1 rfl (Nat.le_of_ble_eq_true rfl) dL_law_698 ⟨by show _ ≤ 601024; omega, by show _ ≤ 7293034; omega⟩ (fun r _ H locs hr9 hB => ?_)
  have hB := hB.perm List.perm_append_comm
  rw [hr9]
  refine lv_istore (lv' := [(6, .int (b9)), (5, .int (xR ["java/lang/IndexOutOfBoundsException", "java/lang/IllegalArgumentException"] o)), (0, .ref b), (1, .ref ua), (2, .ref (ad 0)), (3, .ref oa), (4, .int i)]) hx hb dL_law_701 hl (by decide) rfl (fun ls hl => ?_)
  refine lv_aload_n hx hb dL_law_703 rfl (lv_at hl 4 rfl) ?_
  refine g_vcut (As := []) (rest := []) (wc := cM cyI cyA ad μ1) (w1 := fun _ : Unit => cM cyI cyA ad μ1) ⟨hx, hb, hml, hown, hts⟩ (kX4_thrown l dC dI cyI cyA ad H.size hth) (cwV 0 hts GTlaw_X4_thrown rfl rfl rfl (by decide +kernel) ⟨(Nat.le_of_ble_eq_true rfl), (Nat.le_of_ble_eq_true rfl)⟩) (pcut_pre (hB.perm List.perm_append_comm) (hK.sub [0, 4] rfl) (.ref (ad 0) :: [])) hB hA (g_recv (ci := 4) hK (hB.perm List.perm_append_comm) 0 rfl rfl rfl) List.perm_append_comm rfl hl.1 rfl (Nat.le_of_ble_eq_true rfl) dL_law_704 ⟨by show _ ≤ 601024; omega, by show _ ≤ 7293034; omega⟩ (fun r _ H locs hr9 hB => ?_)
  have hB := hB.perm List.perm_append_comm
  rw [hr9]
  refine lv_iload hx hb dL_law_707 (lv_at hl 1 rfl) ?_
  refine lv_icmp_eq (tgt := 714) hx hb dL_law_709 (by decide) (fun _ => ?_) (fun c9 => absurd rfl c9)
  refine lv_iload hx hb dL_law_714 (lv_at hl 1 rfl) ?_
  refine lv_if_ne (tgt := 731) hx hb dL_law_716 (by decide) (fun c9 => ?_) (fun c9 => ?_)
  · refine lv_goto (tgt := 1121) hx hb dL_law_731 (by decide) ?_
    rcases o with E | x
    · exact nxt _ _ _ _ _ _ _ _ _ as' _ _ _ (hIx E rfl) hB (lv_sub hl [2, 3, 4, 5, 6] rfl)
    · exact absurd rfl c9
  · obtain ⟨x, rfl⟩ := xR0 (hs := ["java/lang/IndexOutOfBoundsException", "java/lang/IllegalArgumentException"]) (by decide) c9
    refine lv_aload_n hx hb dL_law_719 rfl (lv_at hl 5 rfl) ?_
    refine lv_iconst (v := (0 : Int32)) hx hb dL_law_720 (by decide) ?_
    refine va_lald hx hb hK (hB.perm ((List.perm_append_comm.append_right _).trans (List.Perm.of_eq (List.append_assoc _ _ _)))).1 0 3 rfl rfl vp_in01 dL_law_721 ?_
    refine lv_iload hx hb dL_law_722 (lv_at hl 0 rfl) ?_
    refine lv_i2l hx hb dL_law_724 rfl ?_
    refine W.lcmp hx hb dL_law_725 ?_
    refine lv_if_eq (tgt := 731) hx hb dL_law_726 (by decide) (fun _ => ?_) (fun c9 => absurd (cmp0 (xL0 _ _ _ (hval x rfl))) c9)
    refine lv_goto (tgt := 1121) hx hb dL_law_731 (by decide) ?_
    exact nxt _ _ _ _ _ _ _ _ _ as' _ _ _ (hIr x rfl) hB (lv_sub hl [2, 3, 4, 5, 6] rfl)

set_option maxHeartbeats 4000000 in
set_option maxRecDepth 100000 in
theorem law_help {p : Program} {l : Launch} {e : Env} {s : State} {m : MethodId} {args : Array Value} {below : List Frame} {meth : Method} {c : Code} {H : Heap} {locs : List Loc} {Q : State → Prop} {b L : Nat} {xs : Nat → Int32} {dC : Nat → ClassId} {dI : Nat → Nat → Nat} {cyI cyB cyO cyL cyA : ClassId} {ua ub up oa : Nat} {aw as' : Nat → Nat → Nat} {ad kS : Nat → Nat} {fu : Nat} {I I1 : IT} {τs : WS} {n : Nat} {pa : PA} {β : FS} {υ : MS} {ω : WS} {sid : PA} {μ : MS} {lam : Nat → Int64} {j : Nat} {i : Int32} {ls : Array Slot} (hx : p.tables.exec = Jvm.exec) (hb : c.code = cL_law) (hml : c.maxLocals = 7) (hown : s.vm.findClass RL = some m.cls) (hts : ∀ w ∈ lw_tbl, w.before args s = true) (hX : va_X b L xs s s.heap) (hbl : b < s.heap.size) (hl0 : l.stackTraces = false) (hK : va_K (dC, dI) vwCl [(cyI, .int), (cyB, .byte), (cyO, .object "UndoJourneys$World"), (cyL, .long), (cyA, .array .int)] s) (hEX : EX (fun q => s.heap.size ≤ q) s s.heap) (hNC : NC s) (hJ : JS kS (fun q => s.heap.size ≤ q) s s.heap) (hNw : va_Nw (.methodLinkNest RX1 11 yX0_init RX3) s) (hj : j ≤ 511) (hvi : ∀ k : Int32, k = 0 ∨ k = 1 ∨ k = 2 ∨ k = 3 ∨ k = 4 ∨ k = 5 → vp_in (i + k) L) (hag : ag_help fu I I1) (hI : I τs n pa β υ ω sid μ) (hB : Bd (dC, dI) [(cyI, .int), (cyB, .byte), (cyO, .object "UndoJourneys$World"), (cyL, .long), (cyA, .array .int)] (fun q => s.heap.size ≤ q) s ((cU cyI cyB cyO ua ub up aw as' pa β υ ω sid τs n ++ cO cyL oa lam) ++ cM cyI cyA ad μ) H locs) (hl : lv_has ls 7 [(0, .ref b), (1, .ref ua), (2, .ref (ad 0)), (3, .ref oa), (4, .int i)]) (nxt : ∀ (τs : WS) (n : Nat) (pa : PA) (β : FS) (υ : MS) (ω : WS) (sid : PA) (μ : MS) (lam : Nat → Int64) (as' : Nat → Nat → Nat) (H : Heap) (locs : List Loc) (ls : Array Slot), I1 τs n pa β υ ω sid μ → Bd (dC, dI) [(cyI, .int), (cyB, .byte), (cyO, .object "UndoJourneys$World"), (cyL, .long), (cyA, .array .int)] (fun q => s.heap.size ≤ q) s ((cU cyI cyB cyO ua ub up aw as' pa β υ ω sid τs n ++ cO cyL oa lam) ++ cM cyI cyA ad μ) H locs → lv_has ls 7 [(0, .ref b), (1, .ref ua), (2, .ref (ad 0)), (3, .ref oa), (4, .int i)] → W p l e room_1 s m args below meth c H locs (214 + 14 * j) (10312 + 312 * j) Q (F0 m 1121 ls [])) : W p l e room_1 s m args below meth c H locs (200 + 14 * j) (10000 + 312 * j) Q (F0 m 734 ls []) := by
  have hA : ∀ q : Nat, s.heap.size ≤ q → (fun q : Nat => s.heap.size ≤ q) q := fun _ h => h
  have hbA : ¬ (fun q : Nat => s.heap.size ≤ q) b := Nat.not_le.mpr hbl
  obtain ⟨o, b9, μ1, hf3, hE9, hf4, hth, hval, hIx, hIr⟩ := hag τs n pa β υ ω sid μ hI (xs (i + 1).toNatClampNeg) (xs (i + 2).toNatClampNeg)
  refine lv_aload_n hx hb dL_law_734 rfl (lv_at hl 1 rfl) ?_
  refine lv_aload_n hx hb dL_law_735 rfl (lv_at hl 0 rfl) ?_
  refine lv_iload hx hb dL_law_736 (lv_at hl 4 rfl) ?_
  refine lv_iconst (v := (1 : Int32)) hx hb dL_law_738 (by decide) ?_
  refine lv_iadd hx hb dL_law_739 ?_
  refine va_sld hx hb hX hbl hbA hB.2.2 (hvi _ (by decide)) dL_law_740 ?_
  refine lv_aload_n hx hb dL_law_741 rfl (lv_at hl 0 rfl) ?_
  refine lv_iload hx hb dL_law_742 (lv_at hl 4 rfl) ?_
  refine lv_iconst (v := (2 : Int32)) hx hb dL_law_744 (by decide) ?_
  refine lv_iadd hx hb dL_law_745 ?_
  refine va_sld hx hb hX hbl hbA hB.2.2 (hvi _ (by decide)) dL_law_746 ?_
  refine lv_aload_n hx hb dL_law_747 rfl (lv_at hl 3 rfl) ?_
  refine g_swcut (As := [.ref ua, .int (xs (i + 1).toNatClampNeg), .int (xs (i + 2).toNatClampNeg), .ref oa]) (rest := []) (wc := cU cyI cyB cyO ua ub up aw as' pa β υ ω sid τs n ++ cO cyL oa lam) (wr := cM cyI cyA ad μ) ⟨hx, hb, hml, hown, hts⟩ (kL_help l hl0 dC dI cyI cyB cyO cyL ua ub up oa aw as' lam H.size hf3 hE9) (vx_cwSW 4 hts (goodIn_sub (List.forall_mem_append.mpr ⟨tSL_help, tqL_help⟩) (by decide +kernel)) rfl rfl rfl (by decide +kernel) ⟨(Nat.le_of_ble_eq_true rfl), (Nat.le_of_ble_eq_true rfl)⟩) (vpre_left hEX hNC hB hA (hK.sub [0, 1, 2, 3] rfl) [.ref ua, .int (xs (i + 1).toNatClampNeg), .int (xs (i + 2).toNatClampNeg), .ref oa]) hB hA (List.Perm.refl _) rfl hl.1 rfl (Nat.le_of_ble_eq_true rfl) dL_law_748 ⟨by show _ ≤ 601024; omega, by show _ ≤ 7293034; omega⟩ (fun r u H locs hr9 hB => ?_)
  rw [hr9]
  refine W.widen (k := 214 + 14 * j) (n := 10312 + 312 * j) (by omega) (by omega) ?_
  refine lv_istore (lv' := [(5, .int (xR ["java/lang/IndexOutOfBoundsException"] o)), (0, .ref b), (1, .ref ua), (2, .ref (ad 0)), (3, .ref oa), (4, .int i)]) hx hb dL_law_751 hl (by decide) rfl (fun ls hl => ?_)
  refine lv_aload_n hx hb dL_law_753 rfl (lv_at hl 3 rfl) ?_
  refine lv_aload_n hx hb dL_law_754 rfl (lv_at hl 1 rfl) ?_
  refine lv_iload hx hb dL_law_755 (lv_at hl 5 rfl) ?_
  refine lv_iconst (v := (1 : Int32)) hx hb dL_law_757 (by decide) ?_
  refine lv_iadd hx hb dL_law_758 ?_
  refine va_sld hx hb hX hbl hbA hB.2.2 (hvi _ (by decide)) dL_law_759 ?_
  refine lv_aload_n hx hb dL_law_760 rfl (lv_at hl 1 rfl) ?_
  refine lv_iload hx hb dL_law_761 (lv_at hl 5 rfl) ?_
  refine lv_iconst (v := (2 : Int32)) hx hb dL_law_763 (by decide) ?_
  refine lv_iadd hx hb dL_law_764 ?_
  refine va_sld hx hb hX hbl hbA hB.2.2 (hvi _ (by decide)) dL_law_765 ?_
  refine g_vcut (As := [.int (xs (i + 1).toNatClampNeg), .int (xs (i + 2).toNatClampNeg)]) (rest := []) (wc := cM cyI cyA ad μ) (w1 := fun _ : Unit => cM cyI cyA ad μ1) ⟨hx, hb, hml, hown, hts⟩ (kX4_help l dC dI cyI cyA ad H.size hf4) (cwV 2 hts GTlaw_X4_help rfl rfl rfl (by decide +kernel) ⟨(Nat.le_of_ble_eq_true rfl), (Nat.le_of_ble_eq_true rfl)⟩) (pcut_pre (hB.perm List.perm_append_comm) (hK.sub [0, 4] rfl) (.ref (ad 0) :: [.int (xs (i + 1).toNatClampNeg), .int (xs (i + 2).toNatClampNeg)])) hB hA (g_recv (ci := 4) hK (hB.perm List.perm_append_comm) 0 rfl rfl rfl) List.perm_append_comm rfl hl.1 rfl (Nat.le_of_ble_eq_true rfl) dL_law_766 ⟨by show _ ≤ 601024; omega, by show _ ≤ 7293034; omega⟩ (fun r _ H locs hr9 hB => ?_)
  have hB := hB.perm List.perm_append_comm
  rw [hr9]
  refine lv_istore (lv' := [(6, .int (b9)), (5, .int (xR ["java/lang/IndexOutOfBoundsException"] o)), (0, .ref b), (1, .ref ua), (2, .ref (ad 0)), (3, .ref oa), (4, .int i)]) hx hb dL_law_769 hl (by decide) rfl (fun ls hl => ?_)
  refine lv_aload_n hx hb dL_law_771 rfl (lv_at hl 4 rfl) ?_
  refine g_vcut (As := []) (rest := []) (wc := cM cyI cyA ad μ1) (w1 := fun _ : Unit => cM cyI cyA ad μ1) ⟨hx, hb, hml, hown, hts⟩ (kX4_thrown l dC dI cyI cyA ad H.size hth) (cwV 0 hts GTlaw_X4_thrown rfl rfl rfl (by decide +kernel) ⟨(Nat.le_of_ble_eq_true rfl), (Nat.le_of_ble_eq_true rfl)⟩) (pcut_pre (hB.perm List.perm_append_comm) (hK.sub [0, 4] rfl) (.ref (ad 0) :: [])) hB hA (g_recv (ci := 4) hK (hB.perm List.perm_append_comm) 0 rfl rfl rfl) List.perm_append_comm rfl hl.1 rfl (Nat.le_of_ble_eq_true rfl) dL_law_772 ⟨by show _ ≤ 601024; omega, by show _ ≤ 7293034; omega⟩ (fun r _ H locs hr9 hB => ?_)
  have hB := hB.perm List.perm_append_comm
  rw [hr9]
  refine lv_iload hx hb dL_law_775 (lv_at hl 1 rfl) ?_
  refine lv_icmp_eq (tgt := 782) hx hb dL_law_777 (by decide) (fun _ => ?_) (fun c9 => absurd rfl c9)
  refine lv_iload hx hb dL_law_782 (lv_at hl 1 rfl) ?_
  refine lv_if_ne (tgt := 799) hx hb dL_law_784 (by decide) (fun c9 => ?_) (fun c9 => ?_)
  · refine lv_goto (tgt := 1121) hx hb dL_law_799 (by decide) ?_
    rcases o with E | x
    · exact nxt _ _ _ _ _ _ _ _ _ as' _ _ _ (hIx E rfl) hB (lv_sub hl [2, 3, 4, 5, 6] rfl)
    · exact absurd rfl c9
  · obtain ⟨x, rfl⟩ := xR0 (hs := ["java/lang/IndexOutOfBoundsException"]) (by decide) c9
    refine lv_aload_n hx hb dL_law_787 rfl (lv_at hl 5 rfl) ?_
    refine lv_iconst (v := (0 : Int32)) hx hb dL_law_788 (by decide) ?_
    refine va_lald hx hb hK (hB.perm ((List.perm_append_comm.append_right _).trans (List.Perm.of_eq (List.append_assoc _ _ _)))).1 0 3 rfl rfl vp_in01 dL_law_789 ?_
    refine lv_iload hx hb dL_law_790 (lv_at hl 0 rfl) ?_
    refine lv_i2l hx hb dL_law_792 rfl ?_
    refine W.lcmp hx hb dL_law_793 ?_
    refine lv_if_eq (tgt := 799) hx hb dL_law_794 (by decide) (fun _ => ?_) (fun c9 => absurd (cmp0 (xL0 _ _ _ (hval x rfl))) c9)
    refine lv_goto (tgt := 1121) hx hb dL_law_799 (by decide) ?_
    exact nxt _ _ _ _ _ _ _ _ _ as' _ _ _ (hIr x rfl) hB (lv_sub hl [2, 3, 4, 5, 6] rfl)

set_option maxHeartbeats 4000000 in
set_option maxRecDepth 100000 in
theorem law_pass {p : Program} {l : Launch} {e : Env} {s : State} {m : MethodId} {args : Array Value} {below : List Frame} {meth : Method} {c : Code} {H : Heap} {locs : List Loc} {Q : State → Prop} {b L : Nat} {xs : Nat → Int32} {dC : Nat → ClassId} {dI : Nat → Nat → Nat} {cyI cyB cyO cyL cyA : ClassId} {ua ub up oa : Nat} {aw as' : Nat → Nat → Nat} {ad kS : Nat → Nat} {fu : Nat} {I I1 : IT} {τs : WS} {n : Nat} {pa : PA} {β : FS} {υ : MS} {ω : WS} {sid : PA} {μ : MS} {lam : Nat → Int64} {j : Nat} {i : Int32} {ls : Array Slot} (hx : p.tables.exec = Jvm.exec) (hb : c.code = cL_law) (hml : c.maxLocals = 7) (hown : s.vm.findClass RL = some m.cls) (hts : ∀ w ∈ lw_tbl, w.before args s = true) (hX : va_X b L xs s s.heap) (hbl : b < s.heap.size) (hl0 : l.stackTraces = false) (hK : va_K (dC, dI) vwCl [(cyI, .int), (cyB, .byte), (cyO, .object "UndoJourneys$World"), (cyL, .long), (cyA, .array .int)] s) (hEX : EX (fun q => s.heap.size ≤ q) s s.heap) (hNC : NC s) (hJ : JS kS (fun q => s.heap.size ≤ q) s s.heap) (hNw : va_Nw (.methodLinkNest RX1 11 yX0_init RX3) s) (hj : j ≤ 511) (hvi : ∀ k : Int32, k = 0 ∨ k = 1 ∨ k = 2 ∨ k = 3 ∨ k = 4 ∨ k = 5 → vp_in (i + k) L) (hag : ag_pass fu I I1) (hI : I τs n pa β υ ω sid μ) (hB : Bd (dC, dI) [(cyI, .int), (cyB, .byte), (cyO, .object "UndoJourneys$World"), (cyL, .long), (cyA, .array .int)] (fun q => s.heap.size ≤ q) s ((cU cyI cyB cyO ua ub up aw as' pa β υ ω sid τs n ++ cO cyL oa lam) ++ cM cyI cyA ad μ) H locs) (hl : lv_has ls 7 [(0, .ref b), (1, .ref ua), (2, .ref (ad 0)), (3, .ref oa), (4, .int i)]) (nxt : ∀ (τs : WS) (n : Nat) (pa : PA) (β : FS) (υ : MS) (ω : WS) (sid : PA) (μ : MS) (lam : Nat → Int64) (as' : Nat → Nat → Nat) (H : Heap) (locs : List Loc) (ls : Array Slot), I1 τs n pa β υ ω sid μ → Bd (dC, dI) [(cyI, .int), (cyB, .byte), (cyO, .object "UndoJourneys$World"), (cyL, .long), (cyA, .array .int)] (fun q => s.heap.size ≤ q) s ((cU cyI cyB cyO ua ub up aw as' pa β υ ω sid τs n ++ cO cyL oa lam) ++ cM cyI cyA ad μ) H locs → lv_has ls 7 [(0, .ref b), (1, .ref ua), (2, .ref (ad 0)), (3, .ref oa), (4, .int i)] → W p l e room_1 s m args below meth c H locs (214 + 14 * j) (10312 + 312 * j) Q (F0 m 1121 ls [])) : W p l e room_1 s m args below meth c H locs (200 + 14 * j) (10000 + 312 * j) Q (F0 m 802 ls []) := by
  have hA : ∀ q : Nat, s.heap.size ≤ q → (fun q : Nat => s.heap.size ≤ q) q := fun _ h => h
  have hbA : ¬ (fun q : Nat => s.heap.size ≤ q) b := Nat.not_le.mpr hbl
  obtain ⟨o, b9, μ1, hf3, hE9, hf4, hth, hval, hIx, hIr⟩ := hag τs n pa β υ ω sid μ hI (xs (i + 1).toNatClampNeg)
  refine lv_aload_n hx hb dL_law_802 rfl (lv_at hl 1 rfl) ?_
  refine lv_aload_n hx hb dL_law_803 rfl (lv_at hl 0 rfl) ?_
  refine lv_iload hx hb dL_law_804 (lv_at hl 4 rfl) ?_
  refine lv_iconst (v := (1 : Int32)) hx hb dL_law_806 (by decide) ?_
  refine lv_iadd hx hb dL_law_807 ?_
  refine va_sld hx hb hX hbl hbA hB.2.2 (hvi _ (by decide)) dL_law_808 ?_
  refine lv_aload_n hx hb dL_law_809 rfl (lv_at hl 3 rfl) ?_
  refine g_swcut (As := [.ref ua, .int (xs (i + 1).toNatClampNeg), .ref oa]) (rest := []) (wc := cU cyI cyB cyO ua ub up aw as' pa β υ ω sid τs n ++ cO cyL oa lam) (wr := cM cyI cyA ad μ) ⟨hx, hb, hml, hown, hts⟩ (kL_pass l hl0 dC dI cyI cyB cyO cyL ua ub up oa aw as' lam H.size hf3 hE9) (vx_cwSW 3 hts (goodIn_sub (List.forall_mem_append.mpr ⟨tSL_pass, tqL_pass⟩) (by decide +kernel)) rfl rfl rfl (by decide +kernel) ⟨(Nat.le_of_ble_eq_true rfl), (Nat.le_of_ble_eq_true rfl)⟩) (vpre_left hEX hNC hB hA (hK.sub [0, 1, 2, 3] rfl) [.ref ua, .int (xs (i + 1).toNatClampNeg), .ref oa]) hB hA (List.Perm.refl _) rfl hl.1 rfl (Nat.le_of_ble_eq_true rfl) dL_law_810 ⟨by show _ ≤ 601024; omega, by show _ ≤ 7293034; omega⟩ (fun r u H locs hr9 hB => ?_)
  rw [hr9]
  refine W.widen (k := 214 + 14 * j) (n := 10312 + 312 * j) (by omega) (by omega) ?_
  refine lv_istore (lv' := [(5, .int (xR ["java/lang/IllegalArgumentException"] o)), (0, .ref b), (1, .ref ua), (2, .ref (ad 0)), (3, .ref oa), (4, .int i)]) hx hb dL_law_813 hl (by decide) rfl (fun ls hl => ?_)
  refine lv_aload_n hx hb dL_law_815 rfl (lv_at hl 3 rfl) ?_
  refine lv_aload_n hx hb dL_law_816 rfl (lv_at hl 1 rfl) ?_
  refine lv_iload hx hb dL_law_817 (lv_at hl 5 rfl) ?_
  refine lv_iconst (v := (1 : Int32)) hx hb dL_law_819 (by decide) ?_
  refine lv_iadd hx hb dL_law_820 ?_
  refine va_sld hx hb hX hbl hbA hB.2.2 (hvi _ (by decide)) dL_law_821 ?_
  refine g_vcut (As := [.int (xs (i + 1).toNatClampNeg)]) (rest := []) (wc := cM cyI cyA ad μ) (w1 := fun _ : Unit => cM cyI cyA ad μ1) ⟨hx, hb, hml, hown, hts⟩ (kX4_pass l dC dI cyI cyA ad H.size hf4) (cwV 1 hts GTlaw_X4_pass rfl rfl rfl (by decide +kernel) ⟨(Nat.le_of_ble_eq_true rfl), (Nat.le_of_ble_eq_true rfl)⟩) (pcut_pre (hB.perm List.perm_append_comm) (hK.sub [0, 4] rfl) (.ref (ad 0) :: [.int (xs (i + 1).toNatClampNeg)])) hB hA (g_recv (ci := 4) hK (hB.perm List.perm_append_comm) 0 rfl rfl rfl) List.perm_append_comm rfl hl.1 rfl (Nat.le_of_ble_eq_true rfl) dL_law_822 ⟨by show _ ≤ 601024; omega, by show _ ≤ 7293034; omega⟩ (fun r _ H locs hr9 hB => ?_)
  have hB := hB.perm List.perm_append_comm
  rw [hr9]
  refine lv_istore (lv' := [(6, .int (b9)), (5, .int (xR ["java/lang/IllegalArgumentException"] o)), (0, .ref b), (1, .ref ua), (2, .ref (ad 0)), (3, .ref oa), (4, .int i)]) hx hb dL_law_825 hl (by decide) rfl (fun ls hl => ?_)
  refine lv_aload_n hx hb dL_law_827 rfl (lv_at hl 4 rfl) ?_
  refine g_vcut (As := []) (rest := []) (wc := cM cyI cyA ad μ1) (w1 := fun _ : Unit => cM cyI cyA ad μ1) ⟨hx, hb, hml, hown, hts⟩ (kX4_thrown l dC dI cyI cyA ad H.size hth) (cwV 0 hts GTlaw_X4_thrown rfl rfl rfl (by decide +kernel) ⟨(Nat.le_of_ble_eq_true rfl), (Nat.le_of_ble_eq_true rfl)⟩) (pcut_pre (hB.perm List.perm_append_comm) (hK.sub [0, 4] rfl) (.ref (ad 0) :: [])) hB hA (g_recv (ci := 4) hK (hB.perm List.perm_append_comm) 0 rfl rfl rfl) List.perm_append_comm rfl hl.1 rfl (Nat.le_of_ble_eq_true rfl) dL_law_828 ⟨by show _ ≤ 601024; omega, by show _ ≤ 7293034; omega⟩ (fun r _ H locs hr9 hB => ?_)
  have hB := hB.perm List.perm_append_comm
  rw [hr9]
  refine lv_iload hx hb dL_law_831 (lv_at hl 1 rfl) ?_
  refine lv_icmp_eq (tgt := 838) hx hb dL_law_833 (by decide) (fun _ => ?_) (fun c9 => absurd rfl c9)
  refine lv_iload hx hb dL_law_838 (lv_at hl 1 rfl) ?_
  refine lv_if_ne (tgt := 855) hx hb dL_law_840 (by decide) (fun c9 => ?_) (fun c9 => ?_)
  · refine lv_goto (tgt := 1121) hx hb dL_law_855 (by decide) ?_
    rcases o with E | x
    · exact nxt _ _ _ _ _ _ _ _ _ as' _ _ _ (hIx E rfl) hB (lv_sub hl [2, 3, 4, 5, 6] rfl)
    · exact absurd rfl c9
  · obtain ⟨x, rfl⟩ := xR0 (hs := ["java/lang/IllegalArgumentException"]) (by decide) c9
    refine lv_aload_n hx hb dL_law_843 rfl (lv_at hl 5 rfl) ?_
    refine lv_iconst (v := (0 : Int32)) hx hb dL_law_844 (by decide) ?_
    refine va_lald hx hb hK (hB.perm ((List.perm_append_comm.append_right _).trans (List.Perm.of_eq (List.append_assoc _ _ _)))).1 0 3 rfl rfl vp_in01 dL_law_845 ?_
    refine lv_iload hx hb dL_law_846 (lv_at hl 0 rfl) ?_
    refine lv_i2l hx hb dL_law_848 rfl ?_
    refine W.lcmp hx hb dL_law_849 ?_
    refine lv_if_eq (tgt := 855) hx hb dL_law_850 (by decide) (fun _ => ?_) (fun c9 => absurd (cmp0 (xL0 _ _ _ (hval x rfl))) c9)
    refine lv_goto (tgt := 1121) hx hb dL_law_855 (by decide) ?_
    exact nxt _ _ _ _ _ _ _ _ _ as' _ _ _ (hIr x rfl) hB (lv_sub hl [2, 3, 4, 5, 6] rfl)

