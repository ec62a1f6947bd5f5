/-! the loop -/
theorem tI (n : Nat) (h : n < 100000) : (Int32.ofNat n).toInt = (n : Int) := Int32.toInt_ofNat_of_lt (by omega)
theorem law_in {L j : Nat} (hL : L ≤ 3072) (hj : j ≤ 512) (h : ¬ (Int32.ofNat L - 6 < Int32.ofNat (6 * j))) : 6 * j + 6 ≤ L ∧ ∀ k : Int32, k = 0 ∨ k = 1 ∨ k = 2 ∨ k = 3 ∨ k = 4 ∨ k = 5 → vp_in (Int32.ofNat (6 * j) + k) L := by
  have t6 : (6 : Int32).toInt = 6 := by decide
  rw [Int32.lt_iff_toInt_lt, Int32.toInt_sub, tI L (by omega), tI (6 * j) (by omega), t6] at h
  have hb : ((L : Int) - 6).bmod (2 ^ 32) = (L : Int) - 6 := by
    rw [Int.bmod_def]; omega
  rw [hb] at h
  have h1 : 6 * j + 6 ≤ L := by omega
  refine ⟨h1, fun k hk => ?_⟩
  have hv : ∀ c : Int, 0 ≤ c → c ≤ 5 → (((6 * j : Nat) : Int) + c).bmod (2 ^ 32) = ((6 * j : Nat) : Int) + c := fun c h2 h3 => by
    rw [Int.bmod_def]; omega
  have hk2 : ∃ c : Int, k.toInt = c ∧ 0 ≤ c ∧ c ≤ 5 := by
    rcases hk with rfl | rfl | rfl | rfl | rfl | rfl <;> exact ⟨_, rfl, by decide, by decide⟩
  obtain ⟨c, hc, hc0, hc5⟩ := hk2
  have ht : (Int32.ofNat (6 * j) + k).toInt = ((6 * j : Nat) : Int) + c := by rw [Int32.toInt_add, tI (6 * j) (by omega), hc, hv c hc0 hc5]
  unfold vp_in
  rintro (h2 | h2)
  · rw [Int32.lt_iff_toInt_lt, ht] at h2
    have : (0 : Int32).toInt = 0 := by decide
    omega
  · have h3 : (Int32.ofNat (6 * j) + k).toNatClampNeg = (Int32.ofNat (6 * j) + k).toInt.toNat := rfl
    rw [h3, ht] at h2
    omega

set_option maxHeartbeats 4000000 in
set_option maxRecDepth 100000 in
theorem law_loop {p : Program} {l : Launch} {e : Env} {s : State} {m : MethodId} {below : List Frame} {meth : Method} {c : Code} {b L : Nat} {xs : Nat → Int32} {dC : Nat → ClassId} {dI : Nat → Nat → Nat} {cyI cyB cyO cyL cyA : ClassId} {ua ub up oa : Nat} {aw : Nat → Nat → Nat} {ad kS : Nat → Nat} {fu : Nat} {I : Nat → IT}  (hx : p.tables.exec = Jvm.exec) (hb : c.code = cL_law) (hml : c.maxLocals = 7) (hown : s.vm.findClass RL = some m.cls) (hts : ∀ w ∈ lw_tbl, w.before #[Value.ref b] s = true) (hX : va_X b L xs s s.heap) (hbl : b < s.heap.size) (hl0 : l.stackTraces = false) (hK : va_K (dC, dI) vwCl [(cyI, .int), (cyB, .byte), (cyO, .object "UndoJourneys$World"), (cyL, .long), (cyA, .array .int)] s) (hEX : EX (fun q => s.heap.size ≤ q) s s.heap) (hNC : NC s) (hJ : JS kS (fun q => s.heap.size ≤ q) s s.heap) (hNw : va_Nw (.methodLinkNest RX1 11 yX0_init RX3) s) (hr : meth.sig.returnType = ret) (hlocks : meth.locks = false) (hL : L ≤ 3072) (hag : Agrees fu I) : ∀ (k j : Nat), 512 ≤ j + k → j ≤ 512 → ∀ (τs : WS) (n : Nat) (pa : PA) (β : FS) (υ : MS) (ω : WS) (sid : PA) (μ : MS) (lam : Nat → Int64) (as' : Nat → Nat → Nat) (H : Heap) (locs : List Loc) (ls : Array Slot), I j τs n pa β υ ω sid μ → Bd (dC, dI) [(cyI, .int), (cyB, .byte), (cyO, .object "UndoJourneys$World"), (cyL, .long), (cyA, .array .int)] (fun q => s.heap.size ≤ q) s ((cU cyI cyB cyO ua ub up aw as' pa β υ ω sid τs n ++ cO cyL oa lam) ++ cM cyI cyA ad μ) H locs → lv_has ls 7 [(0, .ref b), (1, .ref ua), (2, .ref (ad 0)), (3, .ref oa), (4, .int (Int32.ofNat (6 * j)))] → W p l e room_1 s m #[Value.ref b] below meth c H locs (200 + 14 * j) (10000 + 312 * j) (lw_Z below #[Value.ref b] s) (F0 m 23 ls []) := by
  have hbA : ¬ (fun q : Nat => s.heap.size ≤ q) b := Nat.not_le.mpr hbl
  intro k
  induction k with
  | zero =>
    intro j hjk hj τs n pa β υ ω sid μ lam as' H locs ls hI hB hl
    refine lv_iload hx hb dL_law_23 (lv_at hl 4 rfl) ?_
    refine lv_aload_n hx hb dL_law_25 rfl (lv_at hl 0 rfl) ?_
    refine va_slen hx hb hX hbl hbA hB.2.2 dL_law_26 ?_
    refine lv_bipush (v := (6 : Int32)) hx hb dL_law_27 (by decide) ?_
    refine lv_isub hx hb dL_law_29 ?_
    refine lv_icmp_gt (tgt := 1127) hx hb dL_law_30 (by decide) (fun _ => ?_) (fun hgo => ?_)
    · refine lv_iconst (v := (1 : Int32)) hx hb dL_law_1127 (by decide) ?_
      refine va_forget hB.2.2.2.2 ?_
      exact W.widen (k := 601024) (n := 7293034) (by omega) (by omega) (lw_ret hx hb hr hlocks dL_law_1128)
    · exact absurd (law_in hL hj hgo).1 (by omega)
  | succ k ih =>
    intro j hjk hj τs n pa β υ ω sid μ lam as' H locs ls hI hB hl
    refine lv_iload hx hb dL_law_23 (lv_at hl 4 rfl) ?_
    refine lv_aload_n hx hb dL_law_25 rfl (lv_at hl 0 rfl) ?_
    refine va_slen hx hb hX hbl hbA hB.2.2 dL_law_26 ?_
    refine lv_bipush (v := (6 : Int32)) hx hb dL_law_27 (by decide) ?_
    refine lv_isub hx hb dL_law_29 ?_
    refine lv_icmp_gt (tgt := 1127) hx hb dL_law_30 (by decide) (fun _ => ?_) (fun hgo => ?_)
    · refine lv_iconst (v := (1 : Int32)) hx hb dL_law_1127 (by decide) ?_
      refine va_forget hB.2.2.2.2 ?_
      exact W.widen (k := 601024) (n := 7293034) (by omega) (by omega) (lw_ret hx hb hr hlocks dL_law_1128)
    · obtain ⟨hfit, hvi⟩ := law_in hL hj hgo
      obtain ⟨gappend, gload, gerrorOffset, gstate, gstock, gjourney, gstep, gowed, grestsIn, gstateAfter, ghelp, gpass, gsettle, gwriteOff, ggoForward, grestock, gundo, gchecksum, gmono⟩ := hag j (by omega)
      have hvi0 : vp_in (Int32.ofNat (6 * j)) L := by have h9 := hvi 0 (Or.inl rfl); rwa [Int32.add_zero] at h9
      have nxt : ∀ (τs : WS) (n : Nat) (pa : PA) (β : FS) (υ : MS) (ω : WS) (sid : PA) (μ : MS) (lam : Nat → Int64) (as' : Nat → Nat → Nat) (H : Heap) (locs : List Loc) (ls : Array Slot), I (j + 1) τs n pa β υ ω sid μ → Bd (dC, dI) [(cyI, .int), (cyB, .byte), (cyO, .object "UndoJourneys$World"), (cyL, .long), (cyA, .array .int)] (fun q => s.heap.size ≤ q) s ((cU cyI cyB cyO ua ub up aw as' pa β υ ω sid τs n ++ cO cyL oa lam) ++ cM cyI cyA ad μ) H locs → lv_has ls 7 [(0, .ref b), (1, .ref ua), (2, .ref (ad 0)), (3, .ref oa), (4, .int (Int32.ofNat (6 * j)))] → W p l e room_1 s m #[Value.ref b] below meth c H locs (214 + 14 * j) (10312 + 312 * j) (lw_Z below #[Value.ref b] s) (F0 m 1121 ls []) := by
        intro τs n pa β υ ω sid μ lam as' H locs ls hI hB hl
        refine lv_iinc (k := 4) (v := Int32.ofNat (6 * (j + 1))) (lv' := [(4, .int (Int32.ofNat (6 * (j + 1)))), (0, .ref b), (1, .ref ua), (2, .ref (ad 0)), (3, .ref oa)]) hx hb dL_law_1121 hl rfl (by rw [show 6 * (j + 1) = 6 * j + 6 by omega, Int32.ofNat_add]; rfl) (by decide) rfl (fun ls hl => ?_)
        refine lv_goto (tgt := 23) hx hb dL_law_1124 (by decide) ?_
        refine W.widen (k := 200 + 14 * (j + 1)) (n := 10000 + 312 * (j + 1)) (by omega) (by omega) ?_
        exact ih (j + 1) (by omega) (by omega) _ _ _ _ _ _ _ _ _ _ _ _ _ hI hB (lv_sub hl [1, 2, 3, 4, 0] rfl)
      refine lv_aload_n hx hb dL_law_33 rfl (lv_at hl 0 rfl) ?_
      refine lv_iload hx hb dL_law_34 (lv_at hl 4 rfl) ?_
      refine va_sld hx hb hX hbl hbA hB.2.2 hvi0 dL_law_36 ?_
      refine lv_bipush (v := (31 : Int32)) hx hb dL_law_37 (by decide) ?_
      refine lv_iand hx hb dL_law_39 ?_
      generalize (xs (Int32.ofNat (6 * j)).toNatClampNeg &&& 31) = v9
      have hv9 : (v9.toInt < 0 ∨ 17 < v9.toInt) ∨ v9.toInt = 0 ∨ v9.toInt = 1 ∨ v9.toInt = 2 ∨ v9.toInt = 3 ∨ v9.toInt = 4 ∨ v9.toInt = 5 ∨ v9.toInt = 6 ∨ v9.toInt = 7 ∨ v9.toInt = 8 ∨ v9.toInt = 9 ∨ v9.toInt = 10 ∨ v9.toInt = 11 ∨ v9.toInt = 12 ∨ v9.toInt = 13 ∨ v9.toInt = 14 ∨ v9.toInt = 15 ∨ v9.toInt = 16 ∨ v9.toInt = 17 := by omega
      rcases hv9 with h9 | h9 | h9 | h9 | h9 | h9 | h9 | h9 | h9 | h9 | h9 | h9 | h9 | h9 | h9 | h9 | h9 | h9 | h9
      · refine lv_tableOut (tgt := 1121) hx hb dL_law_40 h9 (by decide) ?_
        refine W.widen (k := 214 + 14 * j) (n := 10312 + 312 * j) (by omega) (by omega) ?_
        exact nxt _ _ _ _ _ _ _ _ _ _ _ _ _ (gmono _ _ _ _ _ _ _ _ hI) hB hl
      · refine lv_tableIn (tgt := 128) (off := 88) hx hb dL_law_40 (by rw [h9]; decide) (by rw [h9]; decide) (by rw [h9]; rfl) (by decide) ?_
        exact law_append hx hb hml hown hts hX hbl hl0 hK hEX hNC hJ hNw (by omega) hvi gappend hI hB hl nxt
      · refine lv_tableIn (tgt := 201) (off := 161) hx hb dL_law_40 (by rw [h9]; decide) (by rw [h9]; decide) (by rw [h9]; rfl) (by decide) ?_
        exact law_load hx hb hml hown hts hX hbl hl0 hK hEX hNC hJ hNw (by omega) hvi gload hI hB hl nxt
      · refine lv_tableIn (tgt := 257) (off := 217) hx hb dL_law_40 (by rw [h9]; decide) (by rw [h9]; decide) (by rw [h9]; rfl) (by decide) ?_
        exact law_errorOffset hx hb hml hown hts hX hbl hl0 hK hEX hNC hJ hNw (by omega) hvi gerrorOffset hI hB hl nxt
      · refine lv_tableIn (tgt := 270) (off := 230) hx hb dL_law_40 (by rw [h9]; decide) (by rw [h9]; decide) (by rw [h9]; rfl) (by decide) ?_
        exact law_state hx hb hml hown hts hX hbl hl0 hK hEX hNC hJ hNw (by omega) hvi gstate hI hB hl nxt
      · refine lv_tableIn (tgt := 326) (off := 286) hx hb dL_law_40 (by rw [h9]; decide) (by rw [h9]; decide) (by rw [h9]; rfl) (by decide) ?_
        exact law_stock hx hb hml hown hts hX hbl hl0 hK hEX hNC hJ hNw (by omega) hvi gstock hI hB hl nxt
      · refine lv_tableIn (tgt := 394) (off := 354) hx hb dL_law_40 (by rw [h9]; decide) (by rw [h9]; decide) (by rw [h9]; rfl) (by decide) ?_
        exact law_journey hx hb hml hown hts hX hbl hl0 hK hEX hNC hJ hNw (by omega) hvi gjourney hI hB hl nxt
      · refine lv_tableIn (tgt := 462) (off := 422) hx hb dL_law_40 (by rw [h9]; decide) (by rw [h9]; decide) (by rw [h9]; rfl) (by decide) ?_
        exact law_step hx hb hml hown hts hX hbl hl0 hK hEX hNC hJ hNw (by omega) hvi gstep hI hB hl nxt
      · refine lv_tableIn (tgt := 542) (off := 502) hx hb dL_law_40 (by rw [h9]; decide) (by rw [h9]; decide) (by rw [h9]; rfl) (by decide) ?_
        exact law_owed hx hb hml hown hts hX hbl hl0 hK hEX hNC hJ hNw (by omega) hvi gowed hI hB hl nxt
      · refine lv_tableIn (tgt := 610) (off := 570) hx hb dL_law_40 (by rw [h9]; decide) (by rw [h9]; decide) (by rw [h9]; rfl) (by decide) ?_
        exact law_restsIn hx hb hml hown hts hX hbl hl0 hK hEX hNC hJ hNw (by omega) hvi grestsIn hI hB hl nxt
      · refine lv_tableIn (tgt := 666) (off := 626) hx hb dL_law_40 (by rw [h9]; decide) (by rw [h9]; decide) (by rw [h9]; rfl) (by decide) ?_
        exact law_stateAfter hx hb hml hown hts hX hbl hl0 hK hEX hNC hJ hNw (by omega) hvi gstateAfter hI hB hl nxt
      · refine lv_tableIn (tgt := 734) (off := 694) hx hb dL_law_40 (by rw [h9]; decide) (by rw [h9]; decide) (by rw [h9]; rfl) (by decide) ?_
        exact law_help hx hb hml hown hts hX hbl hl0 hK hEX hNC hJ hNw (by omega) hvi ghelp hI hB hl nxt
      · refine lv_tableIn (tgt := 802) (off := 762) hx hb dL_law_40 (by rw [h9]; decide) (by rw [h9]; decide) (by rw [h9]; rfl) (by decide) ?_
        exact law_pass hx hb hml hown hts hX hbl hl0 hK hEX hNC hJ hNw (by omega) hvi gpass hI hB hl nxt
      · refine lv_tableIn (tgt := 858) (off := 818) hx hb dL_law_40 (by rw [h9]; decide) (by rw [h9]; decide) (by rw [h9]; rfl) (by decide) ?_
        exact law_settle hx hb hml hown hts hX hbl hl0 hK hEX hNC hJ hNw (by omega) hvi gsettle hI hB hl nxt
      · refine lv_tableIn (tgt := 914) (off := 874) hx hb dL_law_40 (by rw [h9]; decide) (by rw [h9]; decide) (by rw [h9]; rfl) (by decide) ?_
        exact law_writeOff hx hb hml hown hts hX hbl hl0 hK hEX hNC hJ hNw (by omega) hvi gwriteOff hI hB hl nxt
      · refine lv_tableIn (tgt := 970) (off := 930) hx hb dL_law_40 (by rw [h9]; decide) (by rw [h9]; decide) (by rw [h9]; rfl) (by decide) ?_
        exact law_goForward hx hb hml hown hts hX hbl hl0 hK hEX hNC hJ hNw (by omega) hvi ggoForward hI hB hl nxt
      · refine lv_tableIn (tgt := 1026) (off := 986) hx hb dL_law_40 (by rw [h9]; decide) (by rw [h9]; decide) (by rw [h9]; rfl) (by decide) ?_
        exact law_restock hx hb hml hown hts hX hbl hl0 hK hEX hNC hJ hNw (by omega) hvi grestock hI hB hl nxt
      · refine lv_tableIn (tgt := 1094) (off := 1054) hx hb dL_law_40 (by rw [h9]; decide) (by rw [h9]; decide) (by rw [h9]; rfl) (by decide) ?_
        exact law_undo hx hb hml hown hts hX hbl hl0 hK hEX hNC hJ hNw (by omega) hvi gundo hI hB hl nxt
      · refine lv_tableIn (tgt := 1107) (off := 1067) hx hb dL_law_40 (by rw [h9]; decide) (by rw [h9]; decide) (by rw [h9]; rfl) (by decide) ?_
        exact law_checksum hx hb hml hown hts hX hbl hl0 hK hEX hNC hJ hNw (by omega) hvi gchecksum hI hB hl nxt
