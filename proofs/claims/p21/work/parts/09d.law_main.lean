/-! the law from its entry -/
set_option maxHeartbeats 16000000 in
set_option maxRecDepth 100000 in
theorem law_main {p : Program} {l : Launch} {e : Env} {s : State} {m : MethodId} {below : List Frame} {meth : Method} {c : Code} {sb L : Nat} {xs : Nat → Int32} {dC : Nat → ClassId} {dI : Nat → Nat → Nat} {cyI cyB cyO cyA cyT cyW cyZ : ClassId} {kS : Nat → Nat} (hx : p.tables.exec = Jvm.exec) (hb : c.code = cL_law) (hml : c.maxLocals = 25) (hown : s.vm.findClass RL = some m.cls) (hts : ∀ w ∈ lw_tbl, w.before #[Value.ref sb] s = true) (hX : va_X sb L xs s s.heap) (hbl : sb < s.heap.size) (hbA : ¬ va_A [] s.heap.size sb) (hl0 : l.stackTraces = false) (hK : va_K (dC, dI) vwCl [(cyI, .int), (cyB, .byte), (cyO, .object "UndoJourneys$World"), (cyA, .array .int), (cyT, .object "UndoJourneysLaw$Trip"), (cyW, .object "UndoJourneysLaw$World"), (cyZ, .boolean)] s) (hEV : EV kS (va_A [] s.heap.size) s s.heap) (hr : meth.sig.returnType = ret) (hlocks : meth.locks = false) {fu : Nat} (hf : mL_law fu xs L = some 1) {H : Heap} {locs : List Loc} {ls : Array Slot} (hB : Bd (dC, dI) [(cyI, .int), (cyB, .byte), (cyO, .object "UndoJourneys$World"), (cyA, .array .int), (cyT, .object "UndoJourneysLaw$Trip"), (cyW, .object "UndoJourneysLaw$World"), (cyZ, .boolean)] (va_A [] s.heap.size) s (wF []) H locs) (hl : lv_has ls 25 [(0, .ref sb)]) : W p l e room_1 s m #[Value.ref sb] below meth c H locs 0 0 (lw_Z below #[Value.ref sb] s) (F0 m 0 ls []) := by
  have hA : ∀ q : Nat, s.heap.size ≤ q → va_A [] s.heap.size q := fun q h => Or.inr h
  unfold mL_law at hf
  refine lv_iconst (v := (1 : Int32)) hx hb dL_law_0 (by decide) ?_
  refine lv_istore_n (lv' := [(1, .int (1 : Int32)), (0, .ref sb)]) hx hb dL_law_1 rfl hl (by decide) rfl ?_
  clear hl ls
  intro ls hl
  refine lv_iconst (v := (0 : Int32)) hx hb dL_law_2 (by decide) ?_
  refine lv_istore_n (lv' := [(2, .int (0 : Int32)), (1, .int (1 : Int32)), (0, .ref sb)]) hx hb dL_law_3 rfl hl (by decide) rfl ?_
  clear hl ls
  intro ls hl
  replace hf := ob1_s hf
  obtain ⟨v30, hL33, hf⟩ := hf
  have kE31 : ∀  (H : Heap) (locs : List Loc) (ls : Array Slot), Bd (dC, dI) [(cyI, .int), (cyB, .byte), (cyO, .object "UndoJourneys$World"), (cyA, .array .int), (cyT, .object "UndoJourneysLaw$Trip"), (cyW, .object "UndoJourneysLaw$World"), (cyZ, .boolean)] (va_A [] s.heap.size) s (wF []) H locs → lv_has ls 25 [(1, .int v30)] → W p l e room_1 s m #[Value.ref sb] below meth c H locs 306423 1866822 (lw_Z below #[Value.ref sb] s) (F0 m 1142 ls []) := by
    clear hB hl ls locs H
    intro H locs ls hB hl
    refine lv_iload_n hx hb dL_law_1142 rfl (lv_at hl 0 rfl) ?_
    have e0 := inj1 hf
    rw [e0]
    refine W.widen (k := room_1.cells) (n := room_1.slots) (Nat.le_trans (m := 500000) (by omega) rm_c) (Nat.le_trans (m := 6000000) (by omega) rm_s) ?_
    refine va_forget (fun q hq => ?_) (lw_ret hx hb hr hlocks dL_law_1143)
    exact (hB.2.2.2.2 q hq).elim (fun h => by obtain ⟨k9, e9, h9⟩ := h; simp at h9) id
  have key32 : ∀ (n9 : Nat) (v36 : Int32) (v37 : Int32)  (H : Heap) (locs : List Loc) (ls : Array Slot), n9 ≤ 3 → loopM (fun st => mL_law_L4 fu xs L (fun _ => τ0) 1 (fun k => k + 2) (fun _ => 0) υ0 (fun _ => σ0) (fun _ => 0) (fun _ => 0) (fun _ _ => 0) ζ0 (fun _ _ => 0) (fun _ _ _ => 0) (fun _ _ _ => 0) (fun _ => none) (fun _ _ _ => 0) (fun _ _ _ => 0) (fun _ _ _ _ => 0) (fun _ _ _ _ => 0) 0 st.1 st.2) n9 (v36, v37) = some v30 → Bd (dC, dI) [(cyI, .int), (cyB, .byte), (cyO, .object "UndoJourneys$World"), (cyA, .array .int), (cyT, .object "UndoJourneysLaw$Trip"), (cyW, .object "UndoJourneysLaw$World"), (cyZ, .boolean)] (va_A [] s.heap.size) s (wF []) H locs → lv_has ls 25 [(2, .int v36), (1, .int v37), (0, .ref sb)] → W p l e room_1 s m #[Value.ref sb] below meth c H locs (0 + (3 - n9) * 102141) (0 + (3 - n9) * 622274) (lw_Z below #[Value.ref sb] s) (F0 m 4 ls []) := by
    clear hB hl ls locs H
    intro n9
    induction n9 with
    | zero => intro v36 v37 H locs ls _ hL33; exact (loopM_z hL33).elim
    | succ n9 ih9 =>
      intro v36 v37 H locs ls hn40 hL33 hB hl
      obtain ⟨cv38, hcv38⟩ : ∃ cv : Nat, cv + 0 = 0 + (3 - (n9 + 1)) * 102141 := ⟨_, Nat.add_zero _⟩
      obtain ⟨scv38, hscv38⟩ : ∃ cv : Nat, cv + 0 = 0 + (3 - (n9 + 1)) * 622274 := ⟨_, Nat.add_zero _⟩
      rw [← hcv38, ← hscv38]
      replace hL33 := loopM_s hL33
      obtain ⟨o39, hg34, hL33⟩ := hL33
      have hg34 : mL_law_L4 fu xs L (fun _ => τ0) 1 (fun k => k + 2) (fun _ => 0) υ0 (fun _ => σ0) (fun _ => 0) (fun _ => 0) (fun _ _ => 0) ζ0 (fun _ _ => 0) (fun _ _ _ => 0) (fun _ _ _ => 0) (fun _ => none) (fun _ _ _ => 0) (fun _ _ _ => 0) (fun _ _ _ _ => 0) (fun _ _ _ _ => 0) 0 v36 v37 = some o39 := hg34
      unfold mL_law_L4 at hg34
      refine lv_iload_n hx hb dL_law_4 rfl (lv_at hl 0 rfl) ?_
      refine lv_aload_n hx hb dL_law_5 rfl (lv_at hl 2 rfl) ?_
      refine va_slen hx hb hX hbl hbA hB.2.2 dL_law_6 ?_
      replace hg34 := ob1_s hg34
      obtain ⟨t41, hD42, hg34⟩ := hg34
      have kTt41 : t41 = true → ∀ (H : Heap) (locs : List Loc), Bd (dC, dI) [(cyI, .int), (cyB, .byte), (cyO, .object "UndoJourneys$World"), (cyA, .array .int), (cyT, .object "UndoJourneysLaw$Trip"), (cyW, .object "UndoJourneysLaw$World"), (cyZ, .boolean)] (va_A [] s.heap.size) s (wF []) H locs → W p l e room_1 s m #[Value.ref sb] below meth c H locs (cv38 + 0) (scv38 + 0) (lw_Z below #[Value.ref sb] s) (F0 m 19 ls []) := by
        intro ht H locs hB
        have hg34 := cnd_t ht hg34
        replace hg34 := ob1_s hg34
        obtain ⟨o46, hc, hg34⟩ := hg34
        refine kR19 hx hb hml hown hts hX hbl hbA hl0 hK hEV hr hlocks hc (by show _ ≤ 500000; omega) (by show _ ≤ 6000000; omega) hB (lv_sub hl [0, 2] rfl) (fun  H locs ls hB hl => ?_)
        refine lv_iinc (v := (v36 + (1 : Int32))) (lv' := [(2, .int (v36 + (1 : Int32))), (1, .int o46), (0, .ref sb)]) hx hb dL_law_1136 hl (k := 0) rfl rfl (by decide) rfl ?_
        clear hl ls
        intro ls hl
        refine lv_goto (tgt := 4) hx hb dL_law_1139 (by decide) ?_
        replace hL33 := el1_r (inj1 hg34) hL33
        refine W.widen (k := 0 + (3 - n9) * 102141) (n := 0 + (3 - n9) * 622274) (by omega) (by omega) ?_
        exact ih9 _ _ _ _ _ (by omega) hL33 hB (lv_sub hl [0, 1, 2] rfl)
      have kFt41 : t41 = false → ∀ (H : Heap) (locs : List Loc), Bd (dC, dI) [(cyI, .int), (cyB, .byte), (cyO, .object "UndoJourneys$World"), (cyA, .array .int), (cyT, .object "UndoJourneysLaw$Trip"), (cyW, .object "UndoJourneysLaw$World"), (cyZ, .boolean)] (va_A [] s.heap.size) s (wF []) H locs → W p l e room_1 s m #[Value.ref sb] below meth c H locs (cv38 + 0) (scv38 + 0) (lw_Z below #[Value.ref sb] s) (F0 m 1142 ls []) := by
        intro ht H locs hB
        have hg34 := cnd_f ht hg34
        replace hL33 := el1_l (inj1 hg34) hL33
        refine W.widen (k := 306423) (n := 1866822) (by omega) (by omega) ?_
        have e0 := inj1 hL33
        subst e0
        exact kE31 _ _ _ hB (lv_sub hl [1] rfl)
      refine lv_icmp_ge (tgt := 1142) hx hb dL_law_7 (by decide) (fun c43 => ?_) (fun c43 => ?_)
      · replace hD42 := ite_t c43 hD42
        have e0 := inj1 hD42
        exact kFt41 e0.symm _ _ hB
      · replace hD42 := ite_f c43 hD42
        refine lv_iload_n hx hb dL_law_10 rfl (lv_at hl 0 rfl) ?_
        refine lv_iconst (v := (2 : Int32)) hx hb dL_law_11 (by decide) ?_
        refine lv_icmp_ge (tgt := 1142) hx hb dL_law_12 (by decide) (fun c44 => ?_) (fun c44 => ?_)
        · replace hD42 := ite_t c44 hD42
          have e0 := inj1 hD42
          exact kFt41 e0.symm _ _ hB
        · replace hD42 := ite_f c44 hD42
          refine lv_iload_n hx hb dL_law_15 rfl (lv_at hl 1 rfl) ?_
          refine lv_if_eq (tgt := 1142) hx hb dL_law_16 (by decide) (fun c45 => ?_) (fun c45 => ?_)
          · replace hD42 := ite_t c45 hD42
            have e0 := inj1 hD42
            exact kFt41 e0.symm _ _ hB
          · replace hD42 := ite_f c45 hD42
            have e0 := inj1 hD42
            exact kTt41 e0.symm _ _ hB
  refine W.widen (k := 0 + (3 - 3) * 102141) (n := 0 + (3 - 3) * 622274) (by omega) (by omega) ?_
  exact key32 3 _ _ _ _ _ (Nat.le_refl _) hL33 hB (lv_sub hl [0, 1, 2] rfl)
