abbrev rmX6_holders : Room := { frames := 2, cells := 0, slots := 0, locals := 46 }

set_option maxHeartbeats 4000000 in
set_option maxRecDepth 100000 in
theorem kX6_holders (l : Launch) (dC : Nat → ClassId) (dI : Nat → Nat → Nat) (cyI cyA cyT : ClassId) (wa ks ts : Nat) (kr ta sa : PA) (ra : Nat → PA) (sz : Nat) {fu : Nat} {K : Nat} {mT : Nat} {Ns : PA} {ζ : MS} {κ : MS} {Φ : WS} {Ψ : WS} {i1 : Int32} {r : Int32} (hf : mX6_holders fu K mT Ns ζ κ Φ Ψ i1 = some r) : Met l yX6_holders wsX6_holders rmX6_holders (PcF (dC, dI) [(cyI, .int), (cyA, .array .int), (cyT, .object "UndoJourneysLaw$Trip")] (cX cyI cyA cyT wa ks ts kr ta sa ra K mT Ns ζ κ Φ Ψ) sz [.ref wa, .int i1]) (QiF (dC, dI) [(cyI, .int), (cyA, .array .int), (cyT, .object "UndoJourneysLaw$Trip")] (cX cyI cyA cyT wa ks ts kr ta sa ra K mT Ns ζ κ Φ Ψ) (cX cyI cyA cyT wa ks ts kr ta sa ra K mT Ns ζ κ Φ Ψ) sz r) 0 0 (va_A (cX cyI cyA cyT wa ks ts kr ta sa ra K mT Ns ζ κ Φ Ψ) sz) := by
  refine Met.ofW (cc := cX6_holders) (maxL := 7) (ret := (some .int)) (by decide) rfl ?_
  intro p e s m args below meth c s₁ B hml hv
  obtain ⟨rfl, hsz, hP, hK, hD0⟩ := hv
  have hx := B.exec
  have hb := B.bytes
  have hr := B.returns
  have hts := atoms_spec (ws := wsX6_holders) B.pre
  have hown : s.vm.findClass RX6 = some m.cls := findClass_of_methodNamed B.named
  have hlocks := B.notSynchronized
  subst hsz
  have hA : ∀ q : Nat, s.heap.size ≤ q → va_A (cX cyI cyA cyT wa ks ts kr ta sa ra K mT Ns ζ κ Φ Ψ) s.heap.size q := fun q h => Or.inr h
  have hB : Bd (dC, dI) [(cyI, .int), (cyA, .array .int), (cyT, .object "UndoJourneysLaw$Trip")] (va_A (cX cyI cyA cyT wa ks ts kr ta sa ra K mT Ns ζ κ Φ Ψ) s.heap.size) s (cX cyI cyA cyT wa ks ts kr ta sa ra K mT Ns ζ κ Φ Ψ) s.heap [] := ⟨hP, hD0.self, va_S.rf⟩
  have hq1 : (Cond.fieldLink RX6 24 "UndoJourneysLaw$World" "trips" "[LUndoJourneysLaw$Trip;").before _ s = true := hts _ (List.mem_of_getElem? (i := 1) rfl)
  have hinX5 : ∀ w ∈ wsX50, w ∈ wsX6_holders := fun w h => List.mem_cons_of_mem _ (List.mem_append_right _ h)
  have hinX6 : ∀ w ∈ wsX60, w ∈ wsX6_holders := fun w h => List.mem_cons_of_mem _ (List.mem_append_left _ (List.mem_append_right _ h))
  have hl := lv_entry [.ref wa, .int i1] (n := 7) (Nat.le_of_ble_eq_true rfl)
  rw [lg_entry_eq]
  generalize (lg_sl [.ref wa, .int i1] ++ List.replicate (7 - (lg_sl [.ref wa, .int i1]).length) Slot.unset).toArray = ls at hl ⊢
  have hl : lv_has ls 7 [(0, .ref wa), (1, .int i1)] := hl
  clear hP hD0
  suffices main : ∀ (H : Heap) (locs : List Loc), Bd (dC, dI) [(cyI, .int), (cyA, .array .int), (cyT, .object "UndoJourneysLaw$Trip")] (va_A (cX cyI cyA cyT wa ks ts kr ta sa ra K mT Ns ζ κ Φ Ψ) s.heap.size) s (cX cyI cyA cyT wa ks ts kr ta sa ra K mT Ns ζ κ Φ Ψ) H locs → W p l e (headSpec wsX6_holders rmX6_holders).room s m ([.ref wa, .int i1] : List Value).toArray below meth c H locs 0 0 (MQ below (QiF (dC, dI) [(cyI, .int), (cyA, .array .int), (cyT, .object "UndoJourneysLaw$Trip")] (cX cyI cyA cyT wa ks ts kr ta sa ra K mT Ns ζ κ Φ Ψ) (cX cyI cyA cyT wa ks ts kr ta sa ra K mT Ns ζ κ Φ Ψ) s.heap.size r) ([.ref wa, .int i1] : List Value).toArray s 0 0 (va_A (cX cyI cyA cyT wa ks ts kr ta sa ra K mT Ns ζ κ Φ Ψ) s.heap.size)) (F0 m 0 ls []) from main _ _ hB
  clear hB
  intro H locs hB
  unfold mX6_holders at hf
  refine lv_iconst (v := (0 : Int32)) hx hb dX6_holders_0 (by decide) ?_
  refine lv_istore_n (lv' := [(2, .int (0 : Int32)), (0, .ref wa), (1, .int i1)]) hx hb dX6_holders_1 rfl hl (by decide) rfl (fun ls hl => ?_)
  refine lv_aload_n hx hb dX6_holders_2 rfl (lv_at hl 1 rfl) ?_
  refine g_get (C := RX6) (T := TX6) (N := 6) hx hb hts hinX6 hown hK hB 0 rfl rfl 5 rfl hq1 rfl rfl dX6_holders_3 ?_
  refine lv_astore_n (lv' := [(3, .ref ts), (2, .int (0 : Int32)), (0, .ref wa), (1, .int i1)]) hx hb dX6_holders_6 rfl hl (by decide) rfl (fun ls hl => ?_)
  refine lv_aload_n hx hb dX6_holders_7 rfl (lv_at hl 0 rfl) ?_
  refine g_alen hx hb hK hB 2 2 rfl rfl (v := (nI mT)) rfl dX6_holders_8 ?_
  refine lv_istore (lv' := [(4, .int (nI mT)), (3, .ref ts), (2, .int (0 : Int32)), (0, .ref wa), (1, .int i1)]) hx hb dX6_holders_9 hl (by decide) rfl (fun ls hl => ?_)
  refine lv_iconst (v := (0 : Int32)) hx hb dX6_holders_11 (by decide) ?_
  refine lv_istore (lv' := [(5, .int (0 : Int32)), (4, .int (nI mT)), (3, .ref ts), (2, .int (0 : Int32)), (0, .ref wa), (1, .int i1)]) hx hb dX6_holders_12 hl (by decide) rfl (fun ls hl => ?_)
  obtain ⟨v17, hL20, hf⟩ := ob1_s hf
  have kE18 : ∀ (H : Heap) (locs : List Loc) (ls : Array Slot), Bd (dC, dI) [(cyI, .int), (cyA, .array .int), (cyT, .object "UndoJourneysLaw$Trip")] (va_A (cX cyI cyA cyT wa ks ts kr ta sa ra K mT Ns ζ κ Φ Ψ) s.heap.size) s (cX cyI cyA cyT wa ks ts kr ta sa ra K mT Ns ζ κ Φ Ψ) H locs → lv_has ls 7 [(2, .int v17)] → W p l e (headSpec wsX6_holders rmX6_holders).room s m ([.ref wa, .int i1] : List Value).toArray below meth c H locs 0 0 (MQ below (QiF (dC, dI) [(cyI, .int), (cyA, .array .int), (cyT, .object "UndoJourneysLaw$Trip")] (cX cyI cyA cyT wa ks ts kr ta sa ra K mT Ns ζ κ Φ Ψ) (cX cyI cyA cyT wa ks ts kr ta sa ra K mT Ns ζ κ Φ Ψ) s.heap.size r) ([.ref wa, .int i1] : List Value).toArray s 0 0 (va_A (cX cyI cyA cyT wa ks ts kr ta sa ra K mT Ns ζ κ Φ Ψ) s.heap.size)) (F0 m 45 ls []) := by
    intro H locs ls hB hl
    refine lv_iload_n hx hb dX6_holders_45 rfl (lv_at hl 0 rfl) ?_
    have e0 := inj1 hf
    subst e0
    exact g_iret hx hb hr hlocks hK hB dX6_holders_46
  have key19 : ∀ (n9 : Nat) (v23 : Int32) (v24 : Int32) (H : Heap) (locs : List Loc) (ls : Array Slot), loopM (fun st => mX6_holders_L14 fu K mT Ns (nI mT) i1 ζ κ Φ Ψ st.1 st.2) n9 (v23, v24) = some v17 → Bd (dC, dI) [(cyI, .int), (cyA, .array .int), (cyT, .object "UndoJourneysLaw$Trip")] (va_A (cX cyI cyA cyT wa ks ts kr ta sa ra K mT Ns ζ κ Φ Ψ) s.heap.size) s (cX cyI cyA cyT wa ks ts kr ta sa ra K mT Ns ζ κ Φ Ψ) H locs → lv_has ls 7 [(5, .int v23), (4, .int (nI mT)), (3, .ref ts), (2, .int v24), (1, .int i1)] → W p l e (headSpec wsX6_holders rmX6_holders).room s m ([.ref wa, .int i1] : List Value).toArray below meth c H locs 0 0 (MQ below (QiF (dC, dI) [(cyI, .int), (cyA, .array .int), (cyT, .object "UndoJourneysLaw$Trip")] (cX cyI cyA cyT wa ks ts kr ta sa ra K mT Ns ζ κ Φ Ψ) (cX cyI cyA cyT wa ks ts kr ta sa ra K mT Ns ζ κ Φ Ψ) s.heap.size r) ([.ref wa, .int i1] : List Value).toArray s 0 0 (va_A (cX cyI cyA cyT wa ks ts kr ta sa ra K mT Ns ζ κ Φ Ψ) s.heap.size)) (F0 m 14 ls []) := by
    intro n9
    induction n9 with
    | zero => intro v23 v24 H locs ls hL20; exact (loopM_z hL20).elim
    | succ n9 ih9 =>
      intro v23 v24 H locs ls hL20 hB hl
      obtain ⟨o25, hg21, hL20⟩ := loopM_s hL20
      have hg21 : mX6_holders_L14 fu K mT Ns (nI mT) i1 ζ κ Φ Ψ v23 v24 = some o25 := hg21
      unfold mX6_holders_L14 at hg21
      refine lv_iload hx hb dX6_holders_14 (lv_at hl 0 rfl) ?_
      refine lv_iload hx hb dX6_holders_16 (lv_at hl 1 rfl) ?_
      refine lv_icmp_ge (tgt := 45) hx hb dX6_holders_18 (by decide) (fun c26 => ?_) (fun c26 => ?_)
      · have hg21 := ite_t c26 hg21
        have hL20 := el1_l (inj1 hg21) hL20
        have e0 := inj1 hL20
        subst e0
        exact kE18 _ _ _ hB (lv_sub hl [3] rfl)
      · have hg21 := ite_f c26 hg21
        refine lv_aload_n hx hb dX6_holders_21 rfl (lv_at hl 2 rfl) ?_
        refine lv_iload hx hb dX6_holders_22 (lv_at hl 0 rfl) ?_
        obtain ⟨j27, e9, hg21⟩ := ob1_s hg21
        obtain ⟨h_j27, e9⟩ := hixn_s e9
        refine g_aaldq hx hb hK hB 2 2 rfl rfl e9 dX6_holders_24 ?_
        refine lv_astore (lv' := [(6, .ref (ta j27)), (5, .int v23), (4, .int (nI mT)), (3, .ref ts), (2, .int v24), (1, .int i1)]) hx hb dX6_holders_25 hl (by decide) rfl (fun ls hl => ?_)
        refine lv_aload hx hb dX6_holders_27 (lv_at hl 0 rfl) ?_
        refine lv_iload_n hx hb dX6_holders_29 rfl (lv_at hl 5 rfl) ?_
        obtain ⟨r28, hc, hg21⟩ := ob1_s hg21
        refine g_pcutVz (As := [.int i1]) (rest := []) (w2 := (cX cyI cyA cyT wa ks ts kr ta sa ra K mT Ns ζ κ Φ Ψ)) ⟨hx, hb, hml, hown, hts⟩ (kX5_holds l dC dI cyI cyA (ta j27) (sa j27) (ra j27) H.size hc) (cwV 1 hts gX6_holders_X5_holds rfl rfl rfl (by decide +kernel) ⟨Nat.le_of_ble_eq_true rfl, Nat.le_of_ble_eq_true rfl⟩) (hK.sub [0, 1] rfl) hB hA (g_recv (ci := 5) hK (hB.perm (cX_view cyI cyA cyT wa ks ts kr ta sa ra K mT Ns ζ κ Φ Ψ h_j27)) 0 rfl rfl rfl) (cX_view cyI cyA cyT wa ks ts kr ta sa ra K mT Ns ζ κ Φ Ψ h_j27) (cX_view cyI cyA cyT wa ks ts kr ta sa ra K mT Ns ζ κ Φ Ψ h_j27).symm rfl hl.1 rfl (Nat.le_of_ble_eq_true rfl) dX6_holders_30 ⟨Nat.zero_le _, Nat.zero_le _⟩ (fun z29 H locs hB => ?_)
        obtain ⟨v30, hJ31, hg21⟩ := ob1_s hg21
        have kJ32 : ∀ (H : Heap) (locs : List Loc) (ls : Array Slot), Bd (dC, dI) [(cyI, .int), (cyA, .array .int), (cyT, .object "UndoJourneysLaw$Trip")] (va_A (cX cyI cyA cyT wa ks ts kr ta sa ra K mT Ns ζ κ Φ Ψ) s.heap.size) s (cX cyI cyA cyT wa ks ts kr ta sa ra K mT Ns ζ κ Φ Ψ) H locs → lv_has ls 7 [(5, .int v23), (4, .int (nI mT)), (3, .ref ts), (2, .int v30), (1, .int i1)] → W p l e (headSpec wsX6_holders rmX6_holders).room s m ([.ref wa, .int i1] : List Value).toArray below meth c H locs 0 0 (MQ below (QiF (dC, dI) [(cyI, .int), (cyA, .array .int), (cyT, .object "UndoJourneysLaw$Trip")] (cX cyI cyA cyT wa ks ts kr ta sa ra K mT Ns ζ κ Φ Ψ) (cX cyI cyA cyT wa ks ts kr ta sa ra K mT Ns ζ κ Φ Ψ) s.heap.size r) ([.ref wa, .int i1] : List Value).toArray s 0 0 (va_A (cX cyI cyA cyT wa ks ts kr ta sa ra K mT Ns ζ κ Φ Ψ) s.heap.size)) (F0 m 39 ls []) := by
          intro H locs ls hB hl
          refine lv_iinc (v := (v23 + (1 : Int32))) (lv' := [(5, .int (v23 + (1 : Int32))), (4, .int (nI mT)), (3, .ref ts), (2, .int v30), (1, .int i1)]) hx hb dX6_holders_39 hl (k := 0) rfl rfl (by decide) rfl (fun ls hl => ?_)
          refine lv_goto (tgt := 14) hx hb dX6_holders_42 (by decide) ?_
          have hL20 := el1_r (inj1 hg21) hL20
          exact ih9 _ _ _ _ _ hL20 hB (lv_sub hl [0, 1, 2, 3, 4] rfl)
        refine lv_if_eq (tgt := 39) hx hb dX6_holders_33 (by decide) (fun c33 => ?_) (fun c33 => ?_)
        · have hJ31 := ite_t c33 hJ31
          have e0 := inj1 hJ31
          subst e0
          exact kJ32 _ _ _ hB (lv_sub hl [1, 2, 3, 4, 5] rfl)
        · have hJ31 := ite_f c33 hJ31
          refine lv_iinc (v := (v24 + (1 : Int32))) (lv' := [(2, .int (v24 + (1 : Int32))), (6, .ref (ta j27)), (5, .int v23), (4, .int (nI mT)), (3, .ref ts), (1, .int i1)]) hx hb dX6_holders_36 hl (k := 4) rfl rfl (by decide) rfl (fun ls hl => ?_)
          have e0 := inj1 hJ31
          subst e0
          exact kJ32 _ _ _ hB (lv_sub hl [2, 3, 4, 0, 5] rfl)
  exact key19 fu _ _ _ _ _ hL20 hB (lv_sub hl [0, 1, 2, 3, 5] rfl)

abbrev rmX6_begins : Room := { frames := 3, cells := 0, slots := 0, locals := 72 }

set_option maxHeartbeats 4000000 in
set_option maxRecDepth 100000 in
theorem kX6_begins (l : Launch) (dC : Nat → ClassId) (dI : Nat → Nat → Nat) (cyI cyA cyT : ClassId) (wa ks ts : Nat) (kr ta sa : PA) (ra : Nat → PA) (sz : Nat) {fu : Nat} {K : Nat} {mT : Nat} {Ns : PA} {ζ : MS} {κ : MS} {Φ : WS} {Ψ : WS} {kt : Nat} {js : Nat} {κ_ : MS} {Ψ_ : WS} (hf : mX6_begins fu K mT Ns ζ κ Φ Ψ kt js = some (κ_, Ψ_)) : Met l yX6_begins wsX6_begins rmX6_begins (PcF (dC, dI) [(cyI, .int), (cyA, .array .int), (cyT, .object "UndoJourneysLaw$Trip")] (cX cyI cyA cyT wa ks ts kr ta sa ra K mT Ns ζ κ Φ Ψ) sz [.ref wa, .ref (ta kt), .ref (ra kt js)]) (QvF (dC, dI) [(cyI, .int), (cyA, .array .int), (cyT, .object "UndoJourneysLaw$Trip")] (cX cyI cyA cyT wa ks ts kr ta sa ra K mT Ns ζ κ Φ Ψ) (cX cyI cyA cyT wa ks ts kr ta sa ra K mT Ns ζ κ_ Φ Ψ_) sz) 0 0 (va_A (cX cyI cyA cyT wa ks ts kr ta sa ra K mT Ns ζ κ Φ Ψ) sz) := by
  refine Met.ofW (cc := cX6_begins) (maxL := 4) (ret := none) (by decide) rfl ?_
  intro p e s m args below meth c s₁ B hml hv
  obtain ⟨rfl, hsz, hP, hK, hD0⟩ := hv
  have hx := B.exec
  have hb := B.bytes
  have hr := B.returns
  have hts := atoms_spec (ws := wsX6_begins) B.pre
  have hown : s.vm.findClass RX6 = some m.cls := findClass_of_methodNamed B.named
  have hlocks := B.notSynchronized
  subst hsz
  have hA : ∀ q : Nat, s.heap.size ≤ q → va_A (cX cyI cyA cyT wa ks ts kr ta sa ra K mT Ns ζ κ Φ Ψ) s.heap.size q := fun q h => Or.inr h
  have hB : Bd (dC, dI) [(cyI, .int), (cyA, .array .int), (cyT, .object "UndoJourneysLaw$Trip")] (va_A (cX cyI cyA cyT wa ks ts kr ta sa ra K mT Ns ζ κ Φ Ψ) s.heap.size) s (cX cyI cyA cyT wa ks ts kr ta sa ra K mT Ns ζ κ Φ Ψ) s.heap [] := ⟨hP, hD0.self, va_S.rf⟩
  have hq1 : (Cond.fieldLink RX6 18 "UndoJourneysLaw$World" "stocks" "[[I").before _ s = true := hts _ (List.mem_of_getElem? (i := 1) rfl)
  have hq2 : (Cond.fieldLink RX6 7 "UndoJourneysLaw$World" "wait" "I").before _ s = true := hts _ (List.mem_of_getElem? (i := 2) rfl)
  have hq3 : (Cond.fieldLink RX6 29 "UndoJourneysLaw$World" "time" "I").before _ s = true := hts _ (List.mem_of_getElem? (i := 3) rfl)
  have hinX5 : ∀ w ∈ wsX50, w ∈ wsX6_begins := fun w h => List.mem_cons_of_mem _ (List.mem_append_right _ h)
  have hinX6 : ∀ w ∈ wsX60, w ∈ wsX6_begins := fun w h => List.mem_cons_of_mem _ (List.mem_append_left _ (List.mem_append_right _ h))
  have hl := lv_entry [.ref wa, .ref (ta kt), .ref (ra kt js)] (n := 4) (Nat.le_of_ble_eq_true rfl)
  rw [lg_entry_eq]
  generalize (lg_sl [.ref wa, .ref (ta kt), .ref (ra kt js)] ++ List.replicate (4 - (lg_sl [.ref wa, .ref (ta kt), .ref (ra kt js)]).length) Slot.unset).toArray = ls at hl ⊢
  have hl : lv_has ls 4 [(0, .ref wa), (1, .ref (ta kt)), (2, .ref (ra kt js))] := hl
  clear hP hD0
  suffices main : ∀ (H : Heap) (locs : List Loc), Bd (dC, dI) [(cyI, .int), (cyA, .array .int), (cyT, .object "UndoJourneysLaw$Trip")] (va_A (cX cyI cyA cyT wa ks ts kr ta sa ra K mT Ns ζ κ Φ Ψ) s.heap.size) s (cX cyI cyA cyT wa ks ts kr ta sa ra K mT Ns ζ κ Φ Ψ) H locs → W p l e (headSpec wsX6_begins rmX6_begins).room s m ([.ref wa, .ref (ta kt), .ref (ra kt js)] : List Value).toArray below meth c H locs 0 0 (MQ below (QvF (dC, dI) [(cyI, .int), (cyA, .array .int), (cyT, .object "UndoJourneysLaw$Trip")] (cX cyI cyA cyT wa ks ts kr ta sa ra K mT Ns ζ κ Φ Ψ) (cX cyI cyA cyT wa ks ts kr ta sa ra K mT Ns ζ κ_ Φ Ψ_) s.heap.size) ([.ref wa, .ref (ta kt), .ref (ra kt js)] : List Value).toArray s 0 0 (va_A (cX cyI cyA cyT wa ks ts kr ta sa ra K mT Ns ζ κ Φ Ψ) s.heap.size)) (F0 m 0 ls []) from main _ _ hB
  clear hB
  intro H locs hB
  unfold mX6_begins at hf
  obtain ⟨_, h_kt, hf⟩ := ob1_s hf
  have h_kt := gLt_s h_kt
  obtain ⟨_, h_js, hf⟩ := ob1_s hf
  have h_js := gLt_s h_js
  refine lv_aload_n hx hb dX6_begins_0 rfl (lv_at hl 0 rfl) ?_
  refine g_get (C := RX6) (T := TX6) (N := 6) hx hb hts hinX6 hown hK hB 0 rfl rfl 4 rfl hq1 rfl rfl dX6_begins_1 ?_
  refine lv_aload_n hx hb dX6_begins_4 rfl (lv_at hl 2 rfl) ?_
  refine lv_iconst (v := (1 : Int32)) hx hb dX6_begins_5 (by decide) ?_
  obtain ⟨x1, e9, hf⟩ := ob1_s hf
  refine g_iald hx hb hK (hB.perm (cX_view cyI cyA cyT wa ks ts kr ta sa ra K mT Ns ζ κ Φ Ψ h_kt)) (2 + js) 0 (cT_row cyI cyA (ta kt) (sa kt) (ra kt) (Ns kt) (Φ kt) (Ψ kt) _ h_js) rfl (rd_s e9) dX6_begins_6 ?_
  obtain ⟨j2, e9, hf⟩ := ob1_s hf
  obtain ⟨h_j2, e9⟩ := hixn_s e9
  refine g_aald hx hb hK hB 1 1 rfl rfl e9 dX6_begins_7 ?_
  refine lv_astore_n (lv' := [(3, .ref (kr j2)), (0, .ref wa), (1, .ref (ta kt)), (2, .ref (ra kt js))]) hx hb dX6_begins_8 rfl hl (by decide) rfl (fun ls hl => ?_)
  refine lv_aload_n hx hb dX6_begins_9 rfl (lv_at hl 2 rfl) ?_
  refine lv_aload_n hx hb dX6_begins_10 rfl (lv_at hl 3 rfl) ?_
  refine lv_iconst (v := (1 : Int32)) hx hb dX6_begins_11 (by decide) ?_
  obtain ⟨x3, e9, hf⟩ := ob1_s hf
  refine g_iald hx hb hK (hB.perm (cX_view cyI cyA cyT wa ks ts kr ta sa ra K mT Ns ζ κ Φ Ψ h_kt)) (2 + js) 0 (cT_row cyI cyA (ta kt) (sa kt) (ra kt) (Ns kt) (Φ kt) (Ψ kt) _ h_js) rfl (rd_s e9) dX6_begins_12 ?_
  obtain ⟨r4, hc, hf⟩ := ob1_s hf
  refine g_pcutVz (As := [.int x3]) (rest := []) (w2 := (cX cyI cyA cyT wa ks ts kr ta sa ra K mT Ns ζ κ Φ Ψ)) ⟨hx, hb, hml, hown, hts⟩ (kX5_holds l dC dI cyI cyA (ta kt) (sa kt) (ra kt) H.size hc) (cwV 1 hts gX6_begins_X5_holds rfl rfl rfl (by decide +kernel) ⟨Nat.le_of_ble_eq_true rfl, Nat.le_of_ble_eq_true rfl⟩) (hK.sub [0, 1] rfl) hB hA (g_recv (ci := 5) hK (hB.perm (cX_view cyI cyA cyT wa ks ts kr ta sa ra K mT Ns ζ κ Φ Ψ h_kt)) 0 rfl rfl rfl) (cX_view cyI cyA cyT wa ks ts kr ta sa ra K mT Ns ζ κ Φ Ψ h_kt) (cX_view cyI cyA cyT wa ks ts kr ta sa ra K mT Ns ζ κ Φ Ψ h_kt).symm rfl hl.1 rfl (Nat.le_of_ble_eq_true rfl) dX6_begins_13 ⟨Nat.zero_le _, Nat.zero_le _⟩ (fun z5 H locs hB => ?_)
  obtain ⟨t6, hD7, hf⟩ := ob1_s hf
  have kTt6 : t6 = true → ∀ (H : Heap) (locs : List Loc), Bd (dC, dI) [(cyI, .int), (cyA, .array .int), (cyT, .object "UndoJourneysLaw$Trip")] (va_A (cX cyI cyA cyT wa ks ts kr ta sa ra K mT Ns ζ κ Φ Ψ) s.heap.size) s (cX cyI cyA cyT wa ks ts kr ta sa ra K mT Ns ζ κ Φ Ψ) H locs → W p l e (headSpec wsX6_begins rmX6_begins).room s m ([.ref wa, .ref (ta kt), .ref (ra kt js)] : List Value).toArray below meth c H locs 0 0 (MQ below (QvF (dC, dI) [(cyI, .int), (cyA, .array .int), (cyT, .object "UndoJourneysLaw$Trip")] (cX cyI cyA cyT wa ks ts kr ta sa ra K mT Ns ζ κ Φ Ψ) (cX cyI cyA cyT wa ks ts kr ta sa ra K mT Ns ζ κ_ Φ Ψ_) s.heap.size) ([.ref wa, .ref (ta kt), .ref (ra kt js)] : List Value).toArray s 0 0 (va_A (cX cyI cyA cyT wa ks ts kr ta sa ra K mT Ns ζ κ Φ Ψ) s.heap.size)) (F0 m 32 ls []) := by
    intro ht H locs hB
    have hf := cnd_t ht hf
    refine lv_aload_n hx hb dX6_begins_32 rfl (lv_at hl 3 rfl) ?_
    refine lv_bipush (v := (8 : Int32)) hx hb dX6_begins_33 (by decide) ?_
    obtain ⟨x13, e9, hf⟩ := ob1_s hf
    refine g_iald hx hb hK (hB.perm (cX_view cyI cyA cyT wa ks ts kr ta sa ra K mT Ns ζ κ Φ Ψ h_kt)) (2 + js) 0 (cT_row cyI cyA (ta kt) (sa kt) (ra kt) (Ns kt) (Φ kt) (Ψ kt) _ h_js) rfl (rd_s e9) dX6_begins_35 ?_
    refine lv_aload_n hx hb dX6_begins_36 rfl (lv_at hl 1 rfl) ?_
    refine g_get (C := RX6) (T := TX6) (N := 6) hx hb hts hinX6 hown hK hB 0 rfl rfl 1 rfl hq2 rfl rfl dX6_begins_37 ?_
    obtain ⟨Ψ14, hJ15, hf⟩ := ob1_s hf
    have kJ16 : ∀ (H : Heap) (locs : List Loc) (ls : Array Slot), Bd (dC, dI) [(cyI, .int), (cyA, .array .int), (cyT, .object "UndoJourneysLaw$Trip")] (va_A (cX cyI cyA cyT wa ks ts kr ta sa ra K mT Ns ζ κ Φ Ψ) s.heap.size) s (cX cyI cyA cyT wa ks ts kr ta sa ra K mT Ns ζ κ Φ Ψ14) H locs → lv_has ls 4 [(2, .ref (ra kt js))] → W p l e (headSpec wsX6_begins rmX6_begins).room s m ([.ref wa, .ref (ta kt), .ref (ra kt js)] : List Value).toArray below meth c H locs 0 0 (MQ below (QvF (dC, dI) [(cyI, .int), (cyA, .array .int), (cyT, .object "UndoJourneysLaw$Trip")] (cX cyI cyA cyT wa ks ts kr ta sa ra K mT Ns ζ κ Φ Ψ) (cX cyI cyA cyT wa ks ts kr ta sa ra K mT Ns ζ κ_ Φ Ψ_) s.heap.size) ([.ref wa, .ref (ta kt), .ref (ra kt js)] : List Value).toArray s 0 0 (va_A (cX cyI cyA cyT wa ks ts kr ta sa ra K mT Ns ζ κ Φ Ψ) s.heap.size)) (F0 m 47 ls []) := by
      intro H locs ls hB hl
      refine lv_aload_n hx hb dX6_begins_47 rfl (lv_at hl 0 rfl) ?_
      refine lv_bipush (v := (8 : Int32)) hx hb dX6_begins_48 (by decide) ?_
      refine lv_dup2_11 hx hb dX6_begins_50 rfl rfl ?_
      obtain ⟨x20, e9, hf⟩ := ob1_s hf
      refine g_iald hx hb hK (hB.perm (cX_view cyI cyA cyT wa ks ts kr ta sa ra K mT Ns ζ κ Φ Ψ14 h_kt)) (2 + js) 0 (cT_row cyI cyA (ta kt) (sa kt) (ra kt) (Ns kt) (Φ kt) (Ψ14 kt) _ h_js) rfl (rd_s e9) dX6_begins_51 ?_
      refine lv_iconst (v := (1 : Int32)) hx hb dX6_begins_52 (by decide) ?_
      refine lv_iadd hx hb dX6_begins_53 ?_
      obtain ⟨ψ21, e9, hf⟩ := ob1_s hf
      obtain ⟨hi, e9⟩ := wra_s e9
      obtain ⟨Ψ22, e8, hf⟩ := ob1_s hf
      have e8 := inj1 e8
      refine g_iast hx hb hK (hB.perm (cX_view cyI cyA cyT wa ks ts kr ta sa ra K mT Ns ζ κ Φ Ψ14 h_kt)) (2 + js) 0 (cT_row cyI cyA (ta kt) (sa kt) (ra kt) (Ns kt) (Φ kt) (Ψ14 kt) _ h_js) rfl hi rfl dX6_begins_54 (w2 := cT cyI cyA (ta kt) (sa kt) (ra kt) (Ns kt) (Φ kt) ψ21 ++ rX cyI cyA cyT wa ks ts kr ta sa ra K mT Ns ζ κ Φ Ψ14 kt) (by rw [← e9]; exact cT_set cyI cyA (ta kt) (sa kt) (ra kt) (Ns kt) (Φ kt) (Ψ14 kt) _ h_js _) (fun H locs hB => ?_)
      have hB := hB.perm (cX_backS cyI cyA cyT wa ks ts kr ta sa ra K mT Ns ζ κ Φ Ψ14 h_kt ψ21)
      rw [e8] at hB
      obtain ⟨e0, e1⟩ := inj2 hf
      subst e0
      subst e1
      exact g_vret hx hb hr hlocks hK hB dX6_begins_55
    refine lv_icmp_lt (tgt := 47) hx hb dX6_begins_40 (by decide) (fun c17 => ?_) (fun c17 => ?_)
    · have hJ15 := ite_t c17 hJ15
      have e0 := inj1 hJ15
      subst e0
      exact kJ16 _ _ _ hB (lv_sub hl [3] rfl)
    · have hJ15 := ite_f c17 hJ15
      refine lv_aload_n hx hb dX6_begins_43 rfl (lv_at hl 3 rfl) ?_
      refine lv_iconst (v := (4 : Int32)) hx hb dX6_begins_44 (by decide) ?_
      refine lv_iconst (v := (4 : Int32)) hx hb dX6_begins_45 (by decide) ?_
      obtain ⟨ψ18, e9, hJ15⟩ := ob1_s hJ15
      obtain ⟨hi, e9⟩ := wra_s e9
      obtain ⟨Ψ19, e8, hJ15⟩ := ob1_s hJ15
      have e8 := inj1 e8
      refine g_iast hx hb hK (hB.perm (cX_view cyI cyA cyT wa ks ts kr ta sa ra K mT Ns ζ κ Φ Ψ h_kt)) (2 + js) 0 (cT_row cyI cyA (ta kt) (sa kt) (ra kt) (Ns kt) (Φ kt) (Ψ kt) _ h_js) rfl hi rfl dX6_begins_46 (w2 := cT cyI cyA (ta kt) (sa kt) (ra kt) (Ns kt) (Φ kt) ψ18 ++ rX cyI cyA cyT wa ks ts kr ta sa ra K mT Ns ζ κ Φ Ψ kt) (by rw [← e9]; exact cT_set cyI cyA (ta kt) (sa kt) (ra kt) (Ns kt) (Φ kt) (Ψ kt) _ h_js _) (fun H locs hB => ?_)
      have hB := hB.perm (cX_backS cyI cyA cyT wa ks ts kr ta sa ra K mT Ns ζ κ Φ Ψ h_kt ψ18)
      rw [e8] at hB
      have e0 := inj1 hJ15
      subst e0
      exact kJ16 _ _ _ hB (lv_sub hl [3] rfl)
  have kFt6 : t6 = false → ∀ (H : Heap) (locs : List Loc), Bd (dC, dI) [(cyI, .int), (cyA, .array .int), (cyT, .object "UndoJourneysLaw$Trip")] (va_A (cX cyI cyA cyT wa ks ts kr ta sa ra K mT Ns ζ κ Φ Ψ) s.heap.size) s (cX cyI cyA cyT wa ks ts kr ta sa ra K mT Ns ζ κ Φ Ψ) H locs → W p l e (headSpec wsX6_begins rmX6_begins).room s m ([.ref wa, .ref (ta kt), .ref (ra kt js)] : List Value).toArray below meth c H locs 0 0 (MQ below (QvF (dC, dI) [(cyI, .int), (cyA, .array .int), (cyT, .object "UndoJourneysLaw$Trip")] (cX cyI cyA cyT wa ks ts kr ta sa ra K mT Ns ζ κ Φ Ψ) (cX cyI cyA cyT wa ks ts kr ta sa ra K mT Ns ζ κ_ Φ Ψ_) s.heap.size) ([.ref wa, .ref (ta kt), .ref (ra kt js)] : List Value).toArray s 0 0 (va_A (cX cyI cyA cyT wa ks ts kr ta sa ra K mT Ns ζ κ Φ Ψ) s.heap.size)) (F0 m 56 ls []) := by
    intro ht H locs hB
    have hf := cnd_f ht hf
    refine lv_aload_n hx hb dX6_begins_56 rfl (lv_at hl 0 rfl) ?_
    refine lv_iconst (v := (0 : Int32)) hx hb dX6_begins_57 (by decide) ?_
    obtain ⟨x23, e9, hf⟩ := ob1_s hf
    refine g_iald hx hb hK hB (3 + j2) 0 (cX_krow cyI cyA cyT wa ks ts kr ta sa ra K mT Ns ζ κ Φ Ψ h_j2) rfl (rd_s e9) dX6_begins_58 ?_
    refine lv_aload_n hx hb dX6_begins_59 rfl (lv_at hl 3 rfl) ?_
    refine lv_iconst (v := (2 : Int32)) hx hb dX6_begins_60 (by decide) ?_
    obtain ⟨x24, e9, hf⟩ := ob1_s hf
    refine g_iald hx hb hK (hB.perm (cX_view cyI cyA cyT wa ks ts kr ta sa ra K mT Ns ζ κ Φ Ψ h_kt)) (2 + js) 0 (cT_row cyI cyA (ta kt) (sa kt) (ra kt) (Ns kt) (Φ kt) (Ψ kt) _ h_js) rfl (rd_s e9) dX6_begins_61 ?_
    refine lv_icmp_lt (tgt := 87) hx hb dX6_begins_62 (by decide) (fun c25 => ?_) (fun c25 => ?_)
    · have hf := ite_t c25 hf
      refine lv_aload_n hx hb dX6_begins_87 rfl (lv_at hl 3 rfl) ?_
      refine lv_bipush (v := (6 : Int32)) hx hb dX6_begins_88 (by decide) ?_
      obtain ⟨x26, e9, hf⟩ := ob1_s hf
      refine g_iald hx hb hK (hB.perm (cX_view cyI cyA cyT wa ks ts kr ta sa ra K mT Ns ζ κ Φ Ψ h_kt)) (2 + js) 0 (cT_row cyI cyA (ta kt) (sa kt) (ra kt) (Ns kt) (Φ kt) (Ψ kt) _ h_js) rfl (rd_s e9) dX6_begins_90 ?_
      obtain ⟨Ψ27, hJ28, hf⟩ := ob1_s hf
      have kJ29 : ∀ (H : Heap) (locs : List Loc) (ls : Array Slot), Bd (dC, dI) [(cyI, .int), (cyA, .array .int), (cyT, .object "UndoJourneysLaw$Trip")] (va_A (cX cyI cyA cyT wa ks ts kr ta sa ra K mT Ns ζ κ Φ Ψ) s.heap.size) s (cX cyI cyA cyT wa ks ts kr ta sa ra K mT Ns ζ κ Φ Ψ27) H locs → lv_has ls 4 [] → W p l e (headSpec wsX6_begins rmX6_begins).room s m ([.ref wa, .ref (ta kt), .ref (ra kt js)] : List Value).toArray below meth c H locs 0 0 (MQ below (QvF (dC, dI) [(cyI, .int), (cyA, .array .int), (cyT, .object "UndoJourneysLaw$Trip")] (cX cyI cyA cyT wa ks ts kr ta sa ra K mT Ns ζ κ Φ Ψ) (cX cyI cyA cyT wa ks ts kr ta sa ra K mT Ns ζ κ_ Φ Ψ_) s.heap.size) ([.ref wa, .ref (ta kt), .ref (ra kt js)] : List Value).toArray s 0 0 (va_A (cX cyI cyA cyT wa ks ts kr ta sa ra K mT Ns ζ κ Φ Ψ) s.heap.size)) (F0 m 109 ls []) := by
        intro H locs ls hB hl
        obtain ⟨e0, e1⟩ := inj2 hf
        subst e0
        subst e1
        exact g_vret hx hb hr hlocks hK hB dX6_begins_109
      refine lv_if_ne (tgt := 101) hx hb dX6_begins_91 (by decide) (fun c30 => ?_) (fun c30 => ?_)
      · have hJ28 := ite_f c30 hJ28
        refine lv_aload_n hx hb dX6_begins_101 rfl (lv_at hl 3 rfl) ?_
        refine lv_bipush (v := (6 : Int32)) hx hb dX6_begins_102 (by decide) ?_
        refine lv_dup2_11 hx hb dX6_begins_104 rfl rfl ?_
        obtain ⟨x31, e9, hJ28⟩ := ob1_s hJ28
        refine g_iald hx hb hK (hB.perm (cX_view cyI cyA cyT wa ks ts kr ta sa ra K mT Ns ζ κ Φ Ψ h_kt)) (2 + js) 0 (cT_row cyI cyA (ta kt) (sa kt) (ra kt) (Ns kt) (Φ kt) (Ψ kt) _ h_js) rfl (rd_s e9) dX6_begins_105 ?_
        refine lv_iconst (v := (1 : Int32)) hx hb dX6_begins_106 (by decide) ?_
        refine lv_isub hx hb dX6_begins_107 ?_
        obtain ⟨ψ32, e9, hJ28⟩ := ob1_s hJ28
        obtain ⟨hi, e9⟩ := wra_s e9
        obtain ⟨Ψ33, e8, hJ28⟩ := ob1_s hJ28
        have e8 := inj1 e8
        refine g_iast hx hb hK (hB.perm (cX_view cyI cyA cyT wa ks ts kr ta sa ra K mT Ns ζ κ Φ Ψ h_kt)) (2 + js) 0 (cT_row cyI cyA (ta kt) (sa kt) (ra kt) (Ns kt) (Φ kt) (Ψ kt) _ h_js) rfl hi rfl dX6_begins_108 (w2 := cT cyI cyA (ta kt) (sa kt) (ra kt) (Ns kt) (Φ kt) ψ32 ++ rX cyI cyA cyT wa ks ts kr ta sa ra K mT Ns ζ κ Φ Ψ kt) (by rw [← e9]; exact cT_set cyI cyA (ta kt) (sa kt) (ra kt) (Ns kt) (Φ kt) (Ψ kt) _ h_js _) (fun H locs hB => ?_)
        have hB := hB.perm (cX_backS cyI cyA cyT wa ks ts kr ta sa ra K mT Ns ζ κ Φ Ψ h_kt ψ32)
        rw [e8] at hB
        have e0 := inj1 hJ28
        subst e0
        exact kJ29 _ _ _ hB (lv_sub hl [] rfl)
      · have hJ28 := ite_t c30 hJ28
        refine lv_aload_n hx hb dX6_begins_94 rfl (lv_at hl 3 rfl) ?_
        refine lv_iconst (v := (4 : Int32)) hx hb dX6_begins_95 (by decide) ?_
        refine lv_iconst (v := (4 : Int32)) hx hb dX6_begins_96 (by decide) ?_
        obtain ⟨ψ34, e9, hJ28⟩ := ob1_s hJ28
        obtain ⟨hi, e9⟩ := wra_s e9
        obtain ⟨Ψ35, e8, hJ28⟩ := ob1_s hJ28
        have e8 := inj1 e8
        refine g_iast hx hb hK (hB.perm (cX_view cyI cyA cyT wa ks ts kr ta sa ra K mT Ns ζ κ Φ Ψ h_kt)) (2 + js) 0 (cT_row cyI cyA (ta kt) (sa kt) (ra kt) (Ns kt) (Φ kt) (Ψ kt) _ h_js) rfl hi rfl dX6_begins_97 (w2 := cT cyI cyA (ta kt) (sa kt) (ra kt) (Ns kt) (Φ kt) ψ34 ++ rX cyI cyA cyT wa ks ts kr ta sa ra K mT Ns ζ κ Φ Ψ kt) (by rw [← e9]; exact cT_set cyI cyA (ta kt) (sa kt) (ra kt) (Ns kt) (Φ kt) (Ψ kt) _ h_js _) (fun H locs hB => ?_)
        have hB := hB.perm (cX_backS cyI cyA cyT wa ks ts kr ta sa ra K mT Ns ζ κ Φ Ψ h_kt ψ34)
        rw [e8] at hB
        refine lv_goto (tgt := 109) hx hb dX6_begins_98 (by decide) ?_
        have e0 := inj1 hJ28
        subst e0
        exact kJ29 _ _ _ hB (lv_sub hl [] rfl)
    · have hf := ite_f c25 hf
      refine lv_aload_n hx hb dX6_begins_65 rfl (lv_at hl 0 rfl) ?_
      refine lv_iconst (v := (0 : Int32)) hx hb dX6_begins_66 (by decide) ?_
      refine lv_dup2_11 hx hb dX6_begins_67 rfl rfl ?_
      obtain ⟨x36, e9, hf⟩ := ob1_s hf
      refine g_iald hx hb hK hB (3 + j2) 0 (cX_krow cyI cyA cyT wa ks ts kr ta sa ra K mT Ns ζ κ Φ Ψ h_j2) rfl (rd_s e9) dX6_begins_68 ?_
      refine lv_aload_n hx hb dX6_begins_69 rfl (lv_at hl 3 rfl) ?_
      refine lv_iconst (v := (2 : Int32)) hx hb dX6_begins_70 (by decide) ?_
      obtain ⟨x37, e9, hf⟩ := ob1_s hf
      refine g_iald hx hb hK (hB.perm (cX_view cyI cyA cyT wa ks ts kr ta sa ra K mT Ns ζ κ Φ Ψ h_kt)) (2 + js) 0 (cT_row cyI cyA (ta kt) (sa kt) (ra kt) (Ns kt) (Φ kt) (Ψ kt) _ h_js) rfl (rd_s e9) dX6_begins_71 ?_
      refine lv_isub hx hb dX6_begins_72 ?_
      obtain ⟨κ38, e9, hf⟩ := ob1_s hf
      obtain ⟨hi, e9⟩ := wra_s e9
      refine g_iast hx hb hK hB (3 + j2) 0 (cX_krow cyI cyA cyT wa ks ts kr ta sa ra K mT Ns ζ κ Φ Ψ h_j2) rfl hi rfl dX6_begins_73 (w2 := (cX cyI cyA cyT wa ks ts kr ta sa ra K mT Ns ζ κ38 Φ Ψ)) (by rw [← e9]; exact cX_kset cyI cyA cyT wa ks ts kr ta sa ra K mT Ns ζ κ Φ Ψ h_j2 _) (fun H locs hB => ?_)
      refine lv_aload_n hx hb dX6_begins_74 rfl (lv_at hl 3 rfl) ?_
      refine lv_iconst (v := (4 : Int32)) hx hb dX6_begins_75 (by decide) ?_
      refine lv_iconst (v := (2 : Int32)) hx hb dX6_begins_76 (by decide) ?_
      obtain ⟨ψ39, e9, hf⟩ := ob1_s hf
      obtain ⟨hi, e9⟩ := wra_s e9
      obtain ⟨Ψ40, e8, hf⟩ := ob1_s hf
      have e8 := inj1 e8
      refine g_iast hx hb hK (hB.perm (cX_view cyI cyA cyT wa ks ts kr ta sa ra K mT Ns ζ κ38 Φ Ψ h_kt)) (2 + js) 0 (cT_row cyI cyA (ta kt) (sa kt) (ra kt) (Ns kt) (Φ kt) (Ψ kt) _ h_js) rfl hi rfl dX6_begins_77 (w2 := cT cyI cyA (ta kt) (sa kt) (ra kt) (Ns kt) (Φ kt) ψ39 ++ rX cyI cyA cyT wa ks ts kr ta sa ra K mT Ns ζ κ38 Φ Ψ kt) (by rw [← e9]; exact cT_set cyI cyA (ta kt) (sa kt) (ra kt) (Ns kt) (Φ kt) (Ψ kt) _ h_js _) (fun H locs hB => ?_)
      have hB := hB.perm (cX_backS cyI cyA cyT wa ks ts kr ta sa ra K mT Ns ζ κ38 Φ Ψ h_kt ψ39)
      rw [e8] at hB
      refine lv_aload_n hx hb dX6_begins_78 rfl (lv_at hl 3 rfl) ?_
      refine lv_bipush (v := (8 : Int32)) hx hb dX6_begins_79 (by decide) ?_
      refine lv_aload_n hx hb dX6_begins_81 rfl (lv_at hl 1 rfl) ?_
      refine g_get (C := RX6) (T := TX6) (N := 6) hx hb hts hinX6 hown hK hB 0 rfl rfl 0 rfl hq3 rfl rfl dX6_begins_82 ?_
      obtain ⟨ψ41, e9, hf⟩ := ob1_s hf
      obtain ⟨hi, e9⟩ := wra_s e9
      obtain ⟨Ψ42, e8, hf⟩ := ob1_s hf
      have e8 := inj1 e8
      refine g_iast hx hb hK (hB.perm (cX_view cyI cyA cyT wa ks ts kr ta sa ra K mT Ns ζ κ38 Φ Ψ40 h_kt)) (2 + js) 0 (cT_row cyI cyA (ta kt) (sa kt) (ra kt) (Ns kt) (Φ kt) (Ψ40 kt) _ h_js) rfl hi rfl dX6_begins_85 (w2 := cT cyI cyA (ta kt) (sa kt) (ra kt) (Ns kt) (Φ kt) ψ41 ++ rX cyI cyA cyT wa ks ts kr ta sa ra K mT Ns ζ κ38 Φ Ψ40 kt) (by rw [← e9]; exact cT_set cyI cyA (ta kt) (sa kt) (ra kt) (Ns kt) (Φ kt) (Ψ40 kt) _ h_js _) (fun H locs hB => ?_)
      have hB := hB.perm (cX_backS cyI cyA cyT wa ks ts kr ta sa ra K mT Ns ζ κ38 Φ Ψ40 h_kt ψ41)
      rw [e8] at hB
      obtain ⟨e0, e1⟩ := inj2 hf
      subst e0
      subst e1
      exact g_vret hx hb hr hlocks hK hB dX6_begins_86
  refine lv_if_ne (tgt := 56) hx hb dX6_begins_16 (by decide) (fun c8 => ?_) (fun c8 => ?_)
  · have hD7 := ite_f c8 hD7
    have e0 := inj1 hD7
    exact kFt6 e0.symm _ _ hB
  · have hD7 := ite_t c8 hD7
    refine lv_aload_n hx hb dX6_begins_19 rfl (lv_at hl 1 rfl) ?_
    refine lv_aload_n hx hb dX6_begins_20 rfl (lv_at hl 3 rfl) ?_
    refine lv_iconst (v := (1 : Int32)) hx hb dX6_begins_21 (by decide) ?_
    obtain ⟨x9, e9, hD7⟩ := ob1_s hD7
    refine g_iald hx hb hK (hB.perm (cX_view cyI cyA cyT wa ks ts kr ta sa ra K mT Ns ζ κ Φ Ψ h_kt)) (2 + js) 0 (cT_row cyI cyA (ta kt) (sa kt) (ra kt) (Ns kt) (Φ kt) (Ψ kt) _ h_js) rfl (rd_s e9) dX6_begins_22 ?_
    obtain ⟨r10, hc, hD7⟩ := ob1_s hD7
    refine g_callVi (As := [.int x9]) (rest := []) ⟨hx, hb, hml, hown, hts⟩ (kX6_holders l dC dI cyI cyA cyT wa ks ts kr ta sa ra H.size hc) (cwV 1 hts gX6_begins_X6_holders rfl rfl rfl (by decide +kernel) ⟨Nat.le_of_ble_eq_true rfl, Nat.le_of_ble_eq_true rfl⟩) hK hB hA (g_recv (ci := 6) hK hB 0 rfl rfl rfl) rfl hl.1 rfl (Nat.le_of_ble_eq_true rfl) dX6_begins_23 ⟨Nat.zero_le _, Nat.zero_le _⟩ (fun H locs hB => ?_)
    refine lv_aload_n hx hb dX6_begins_26 rfl (lv_at hl 0 rfl) ?_
    refine lv_iconst (v := (1 : Int32)) hx hb dX6_begins_27 (by decide) ?_
    obtain ⟨x11, e9, hD7⟩ := ob1_s hD7
    refine g_iald hx hb hK hB (3 + j2) 0 (cX_krow cyI cyA cyT wa ks ts kr ta sa ra K mT Ns ζ κ Φ Ψ h_j2) rfl (rd_s e9) dX6_begins_28 ?_
    refine lv_icmp_lt (tgt := 56) hx hb dX6_begins_29 (by decide) (fun c12 => ?_) (fun c12 => ?_)
    · have hD7 := ite_t c12 hD7
      have e0 := inj1 hD7
      exact kFt6 e0.symm _ _ hB
    · have hD7 := ite_f c12 hD7
      have e0 := inj1 hD7
      exact kTt6 e0.symm _ _ hB

abbrev rmX6_goes : Room := { frames := 4, cells := 0, slots := 0, locals := 95 }

set_option maxHeartbeats 4000000 in
set_option maxRecDepth 100000 in
theorem kX6_goes (l : Launch) (dC : Nat → ClassId) (dI : Nat → Nat → Nat) (cyI cyA cyT : ClassId) (wa ks ts : Nat) (kr ta sa : PA) (ra : Nat → PA) (sz : Nat) {fu : Nat} {K : Nat} {mT : Nat} {Ns : PA} {ζ : MS} {κ : MS} {Φ : WS} {Ψ : WS} {kt : Nat} {κ_ : MS} {Φ_ : WS} {Ψ_ : WS} (hf : mX6_goes fu K mT Ns ζ κ Φ Ψ kt = some (κ_, Φ_, Ψ_)) : Met l yX6_goes wsX6_goes rmX6_goes (PcF (dC, dI) [(cyI, .int), (cyA, .array .int), (cyT, .object "UndoJourneysLaw$Trip")] (cX cyI cyA cyT wa ks ts kr ta sa ra K mT Ns ζ κ Φ Ψ) sz [.ref wa, .ref (ta kt)]) (QvF (dC, dI) [(cyI, .int), (cyA, .array .int), (cyT, .object "UndoJourneysLaw$Trip")] (cX cyI cyA cyT wa ks ts kr ta sa ra K mT Ns ζ κ Φ Ψ) (cX cyI cyA cyT wa ks ts kr ta sa ra K mT Ns ζ κ_ Φ_ Ψ_) sz) 0 0 (va_A (cX cyI cyA cyT wa ks ts kr ta sa ra K mT Ns ζ κ Φ Ψ) sz) := by
  refine Met.ofW (cc := cX6_goes) (maxL := 8) (ret := none) (by decide) rfl ?_
  intro p e s m args below meth c s₁ B hml hv
  obtain ⟨rfl, hsz, hP, hK, hD0⟩ := hv
  have hx := B.exec
  have hb := B.bytes
  have hr := B.returns
  have hts := atoms_spec (ws := wsX6_goes) B.pre
  have hown : s.vm.findClass RX6 = some m.cls := findClass_of_methodNamed B.named
  have hlocks := B.notSynchronized
  subst hsz
  have hA : ∀ q : Nat, s.heap.size ≤ q → va_A (cX cyI cyA cyT wa ks ts kr ta sa ra K mT Ns ζ κ Φ Ψ) s.heap.size q := fun q h => Or.inr h
  have hB : Bd (dC, dI) [(cyI, .int), (cyA, .array .int), (cyT, .object "UndoJourneysLaw$Trip")] (va_A (cX cyI cyA cyT wa ks ts kr ta sa ra K mT Ns ζ κ Φ Ψ) s.heap.size) s (cX cyI cyA cyT wa ks ts kr ta sa ra K mT Ns ζ κ Φ Ψ) s.heap [] := ⟨hP, hD0.self, va_S.rf⟩
  have hq1 : (Cond.fieldLink RX6 51 "UndoJourneysLaw$Trip" "stage" "I").before _ s = true := hts _ (List.mem_of_getElem? (i := 1) rfl)
  have hq2 : (Cond.fieldLink RX6 54 "UndoJourneysLaw$Trip" "steps" "[[I").before _ s = true := hts _ (List.mem_of_getElem? (i := 2) rfl)
  have hq3 : (Cond.fieldLink RX6 29 "UndoJourneysLaw$World" "time" "I").before _ s = true := hts _ (List.mem_of_getElem? (i := 3) rfl)
  have hq4 : (Cond.fieldLink RX6 68 "UndoJourneysLaw$Trip" "stages" "I").before _ s = true := hts _ (List.mem_of_getElem? (i := 4) rfl)
  have hinX5 : ∀ w ∈ wsX50, w ∈ wsX6_goes := fun w h => List.mem_cons_of_mem _ (List.mem_append_left _ (List.mem_append_right _ h))
  have hinX6 : ∀ w ∈ wsX60, w ∈ wsX6_goes := fun w h => List.mem_cons_of_mem _ (List.mem_append_right _ h)
  have hl := lv_entry [.ref wa, .ref (ta kt)] (n := 8) (Nat.le_of_ble_eq_true rfl)
  rw [lg_entry_eq]
  generalize (lg_sl [.ref wa, .ref (ta kt)] ++ List.replicate (8 - (lg_sl [.ref wa, .ref (ta kt)]).length) Slot.unset).toArray = ls at hl ⊢
  have hl : lv_has ls 8 [(0, .ref wa), (1, .ref (ta kt))] := hl
  clear hP hD0
  suffices main : ∀ (H : Heap) (locs : List Loc), Bd (dC, dI) [(cyI, .int), (cyA, .array .int), (cyT, .object "UndoJourneysLaw$Trip")] (va_A (cX cyI cyA cyT wa ks ts kr ta sa ra K mT Ns ζ κ Φ Ψ) s.heap.size) s (cX cyI cyA cyT wa ks ts kr ta sa ra K mT Ns ζ κ Φ Ψ) H locs → W p l e (headSpec wsX6_goes rmX6_goes).room s m ([.ref wa, .ref (ta kt)] : List Value).toArray below meth c H locs 0 0 (MQ below (QvF (dC, dI) [(cyI, .int), (cyA, .array .int), (cyT, .object "UndoJourneysLaw$Trip")] (cX cyI cyA cyT wa ks ts kr ta sa ra K mT Ns ζ κ Φ Ψ) (cX cyI cyA cyT wa ks ts kr ta sa ra K mT Ns ζ κ_ Φ_ Ψ_) s.heap.size) ([.ref wa, .ref (ta kt)] : List Value).toArray s 0 0 (va_A (cX cyI cyA cyT wa ks ts kr ta sa ra K mT Ns ζ κ Φ Ψ) s.heap.size)) (F0 m 0 ls []) from main _ _ hB
  clear hB
  intro H locs hB
  unfold mX6_goes at hf
  obtain ⟨_, h_kt, hf⟩ := ob1_s hf
  have h_kt := gLt_s h_kt
  refine lv_aload_n hx hb dX6_goes_0 rfl (lv_at hl 1 rfl) ?_
  refine g_get (C := RX5) (T := TX5) (N := 7) hx hb hts hinX5 hown hK (hB.perm (cX_view cyI cyA cyT wa ks ts kr ta sa ra K mT Ns ζ κ Φ Ψ h_kt)) 0 rfl rfl 3 rfl hq1 rfl rfl dX6_goes_1 ?_
  refine lv_istore_n (lv' := [(2, .int (Φ kt 3 0)), (0, .ref wa), (1, .ref (ta kt))]) hx hb dX6_goes_4 rfl hl (by decide) rfl (fun ls hl => ?_)
  refine lv_aload_n hx hb dX6_goes_5 rfl (lv_at hl 2 rfl) ?_
  refine g_get (C := RX5) (T := TX5) (N := 7) hx hb hts hinX5 hown hK (hB.perm (cX_view cyI cyA cyT wa ks ts kr ta sa ra K mT Ns ζ κ Φ Ψ h_kt)) 0 rfl rfl 6 rfl hq2 rfl rfl dX6_goes_6 ?_
  refine lv_astore_n (lv' := [(3, .ref (sa kt)), (2, .int (Φ kt 3 0)), (0, .ref wa), (1, .ref (ta kt))]) hx hb dX6_goes_9 rfl hl (by decide) rfl (fun ls hl => ?_)
  refine lv_aload_n hx hb dX6_goes_10 rfl (lv_at hl 0 rfl) ?_
  refine g_alen hx hb hK (hB.perm (cX_view cyI cyA cyT wa ks ts kr ta sa ra K mT Ns ζ κ Φ Ψ h_kt)) 1 1 rfl rfl (v := (nI (Ns kt))) rfl dX6_goes_11 ?_
  refine lv_istore (lv' := [(4, .int (nI (Ns kt))), (3, .ref (sa kt)), (2, .int (Φ kt 3 0)), (0, .ref wa), (1, .ref (ta kt))]) hx hb dX6_goes_12 hl (by decide) rfl (fun ls hl => ?_)
  refine lv_iconst (v := (0 : Int32)) hx hb dX6_goes_14 (by decide) ?_
  refine lv_istore (lv' := [(5, .int (0 : Int32)), (4, .int (nI (Ns kt))), (3, .ref (sa kt)), (2, .int (Φ kt 3 0)), (0, .ref wa), (1, .ref (ta kt))]) hx hb dX6_goes_15 hl (by decide) rfl (fun ls hl => ?_)
  obtain ⟨κ30, Ψ31, hL34, hf⟩ := ob2_s hf
  have kE32 : ∀ (H : Heap) (locs : List Loc) (ls : Array Slot), Bd (dC, dI) [(cyI, .int), (cyA, .array .int), (cyT, .object "UndoJourneysLaw$Trip")] (va_A (cX cyI cyA cyT wa ks ts kr ta sa ra K mT Ns ζ κ Φ Ψ) s.heap.size) s (cX cyI cyA cyT wa ks ts kr ta sa ra K mT Ns ζ κ30 Φ Ψ31) H locs → lv_has ls 8 [(2, .int (Φ kt 3 0)), (0, .ref wa), (1, .ref (ta kt))] → W p l e (headSpec wsX6_goes rmX6_goes).room s m ([.ref wa, .ref (ta kt)] : List Value).toArray below meth c H locs 0 0 (MQ below (QvF (dC, dI) [(cyI, .int), (cyA, .array .int), (cyT, .object "UndoJourneysLaw$Trip")] (cX cyI cyA cyT wa ks ts kr ta sa ra K mT Ns ζ κ Φ Ψ) (cX cyI cyA cyT wa ks ts kr ta sa ra K mT Ns ζ κ_ Φ_ Ψ_) s.heap.size) ([.ref wa, .ref (ta kt)] : List Value).toArray s 0 0 (va_A (cX cyI cyA cyT wa ks ts kr ta sa ra K mT Ns ζ κ Φ Ψ) s.heap.size)) (F0 m 95 ls []) := by
    intro H locs ls hB hl
    refine lv_aload_n hx hb dX6_goes_95 rfl (lv_at hl 2 rfl) ?_
    refine lv_iload_n hx hb dX6_goes_96 rfl (lv_at hl 0 rfl) ?_
    refine lv_iconst (v := (4 : Int32)) hx hb dX6_goes_97 (by decide) ?_
    obtain ⟨r36, hc, hf⟩ := ob1_s hf
    refine g_pcutVi (As := [.int (Φ kt 3 0), .int (4 : Int32)]) (rest := []) (w2 := (cX cyI cyA cyT wa ks ts kr ta sa ra K mT Ns ζ κ30 Φ Ψ31)) ⟨hx, hb, hml, hown, hts⟩ (kX5_count l dC dI cyI cyA (ta kt) (sa kt) (ra kt) H.size hc) (cwV 2 hts gX6_goes_X5_count rfl rfl rfl (by decide +kernel) ⟨Nat.le_of_ble_eq_true rfl, Nat.le_of_ble_eq_true rfl⟩) (hK.sub [0, 1] rfl) hB hA (g_recv (ci := 5) hK (hB.perm (cX_view cyI cyA cyT wa ks ts kr ta sa ra K mT Ns ζ κ30 Φ Ψ31 h_kt)) 0 rfl rfl rfl) (cX_view cyI cyA cyT wa ks ts kr ta sa ra K mT Ns ζ κ30 Φ Ψ31 h_kt) (cX_view cyI cyA cyT wa ks ts kr ta sa ra K mT Ns ζ κ30 Φ Ψ31 h_kt).symm rfl hl.1 rfl (Nat.le_of_ble_eq_true rfl) dX6_goes_98 ⟨Nat.zero_le _, Nat.zero_le _⟩ (fun H locs hB => ?_)
    obtain ⟨v37, hJ39, hf⟩ := ob1_s hf
    have kJ40 : (v37 = 0 ∨ v37 = 1) → ∀ (H : Heap) (locs : List Loc) (ls : Array Slot), Bd (dC, dI) [(cyI, .int), (cyA, .array .int), (cyT, .object "UndoJourneysLaw$Trip")] (va_A (cX cyI cyA cyT wa ks ts kr ta sa ra K mT Ns ζ κ Φ Ψ) s.heap.size) s (cX cyI cyA cyT wa ks ts kr ta sa ra K mT Ns ζ κ30 Φ Ψ31) H locs → lv_has ls 8 [(2, .int (Φ kt 3 0)), (0, .ref wa), (1, .ref (ta kt))] → W p l e (headSpec wsX6_goes rmX6_goes).room s m ([.ref wa, .ref (ta kt)] : List Value).toArray below meth c H locs 0 0 (MQ below (QvF (dC, dI) [(cyI, .int), (cyA, .array .int), (cyT, .object "UndoJourneysLaw$Trip")] (cX cyI cyA cyT wa ks ts kr ta sa ra K mT Ns ζ κ Φ Ψ) (cX cyI cyA cyT wa ks ts kr ta sa ra K mT Ns ζ κ_ Φ_ Ψ_) s.heap.size) ([.ref wa, .ref (ta kt)] : List Value).toArray s 0 0 (va_A (cX cyI cyA cyT wa ks ts kr ta sa ra K mT Ns ζ κ Φ Ψ) s.heap.size)) (F0 m 109 ls [.int v37]) := by
      intro z38 H locs ls hB hl
      refine lv_istore_n (lv' := [(3, .int v37), (2, .int (Φ kt 3 0)), (0, .ref wa), (1, .ref (ta kt))]) hx hb dX6_goes_109 rfl hl (by decide) rfl (fun ls hl => ?_)
      refine lv_aload_n hx hb dX6_goes_110 rfl (lv_at hl 3 rfl) ?_
      refine g_get (C := RX5) (T := TX5) (N := 7) hx hb hts hinX5 hown hK (hB.perm (cX_view cyI cyA cyT wa ks ts kr ta sa ra K mT Ns ζ κ30 Φ Ψ31 h_kt)) 0 rfl rfl 6 rfl hq2 rfl rfl dX6_goes_111 ?_
      refine lv_astore (lv' := [(4, .ref (sa kt)), (3, .int v37), (2, .int (Φ kt 3 0)), (0, .ref wa), (1, .ref (ta kt))]) hx hb dX6_goes_114 hl (by decide) rfl (fun ls hl => ?_)
      refine lv_aload hx hb dX6_goes_116 (lv_at hl 0 rfl) ?_
      refine g_alen hx hb hK (hB.perm (cX_view cyI cyA cyT wa ks ts kr ta sa ra K mT Ns ζ κ30 Φ Ψ31 h_kt)) 1 1 rfl rfl (v := (nI (Ns kt))) rfl dX6_goes_118 ?_
      refine lv_istore (lv' := [(5, .int (nI (Ns kt))), (4, .ref (sa kt)), (3, .int v37), (2, .int (Φ kt 3 0)), (0, .ref wa), (1, .ref (ta kt))]) hx hb dX6_goes_119 hl (by decide) rfl (fun ls hl => ?_)
      refine lv_iconst (v := (0 : Int32)) hx hb dX6_goes_121 (by decide) ?_
      refine lv_istore (lv' := [(6, .int (0 : Int32)), (5, .int (nI (Ns kt))), (4, .ref (sa kt)), (3, .int v37), (2, .int (Φ kt 3 0)), (0, .ref wa), (1, .ref (ta kt))]) hx hb dX6_goes_122 hl (by decide) rfl (fun ls hl => ?_)
      obtain ⟨Ψ65, hL68, hf⟩ := ob1_s hf
      have kE66 : ∀ (H : Heap) (locs : List Loc) (ls : Array Slot), Bd (dC, dI) [(cyI, .int), (cyA, .array .int), (cyT, .object "UndoJourneysLaw$Trip")] (va_A (cX cyI cyA cyT wa ks ts kr ta sa ra K mT Ns ζ κ Φ Ψ) s.heap.size) s (cX cyI cyA cyT wa ks ts kr ta sa ra K mT Ns ζ κ30 Φ Ψ65) H locs → lv_has ls 8 [(3, .int v37), (2, .int (Φ kt 3 0)), (0, .ref wa), (1, .ref (ta kt))] → W p l e (headSpec wsX6_goes rmX6_goes).room s m ([.ref wa, .ref (ta kt)] : List Value).toArray below meth c H locs 0 0 (MQ below (QvF (dC, dI) [(cyI, .int), (cyA, .array .int), (cyT, .object "UndoJourneysLaw$Trip")] (cX cyI cyA cyT wa ks ts kr ta sa ra K mT Ns ζ κ Φ Ψ) (cX cyI cyA cyT wa ks ts kr ta sa ra K mT Ns ζ κ_ Φ_ Ψ_) s.heap.size) ([.ref wa, .ref (ta kt)] : List Value).toArray s 0 0 (va_A (cX cyI cyA cyT wa ks ts kr ta sa ra K mT Ns ζ κ Φ Ψ) s.heap.size)) (F0 m 169 ls []) := by
        intro H locs ls hB hl
        refine lv_aload_n hx hb dX6_goes_169 rfl (lv_at hl 3 rfl) ?_
        refine lv_iload_n hx hb dX6_goes_170 rfl (lv_at hl 1 rfl) ?_
        obtain ⟨r70, hc, hf⟩ := ob1_s hf
        refine g_pcutVz (As := [.int (Φ kt 3 0)]) (rest := []) (w2 := (cX cyI cyA cyT wa ks ts kr ta sa ra K mT Ns ζ κ30 Φ Ψ65)) ⟨hx, hb, hml, hown, hts⟩ (kX5_isFinished l dC dI cyI cyA (ta kt) (sa kt) (ra kt) H.size hc) (cwV 1 hts gX6_goes_X5_isFinished rfl rfl rfl (by decide +kernel) ⟨Nat.le_of_ble_eq_true rfl, Nat.le_of_ble_eq_true rfl⟩) (hK.sub [0, 1] rfl) hB hA (g_recv (ci := 5) hK (hB.perm (cX_view cyI cyA cyT wa ks ts kr ta sa ra K mT Ns ζ κ30 Φ Ψ65 h_kt)) 0 rfl rfl rfl) (cX_view cyI cyA cyT wa ks ts kr ta sa ra K mT Ns ζ κ30 Φ Ψ65 h_kt) (cX_view cyI cyA cyT wa ks ts kr ta sa ra K mT Ns ζ κ30 Φ Ψ65 h_kt).symm rfl hl.1 rfl (Nat.le_of_ble_eq_true rfl) dX6_goes_171 ⟨Nat.zero_le _, Nat.zero_le _⟩ (fun z71 H locs hB => ?_)
        obtain ⟨Φ72, Ψ73, hJ74, hf⟩ := ob2_s hf
        have kJ75 : ∀ (H : Heap) (locs : List Loc) (ls : Array Slot), Bd (dC, dI) [(cyI, .int), (cyA, .array .int), (cyT, .object "UndoJourneysLaw$Trip")] (va_A (cX cyI cyA cyT wa ks ts kr ta sa ra K mT Ns ζ κ Φ Ψ) s.heap.size) s (cX cyI cyA cyT wa ks ts kr ta sa ra K mT Ns ζ κ30 Φ72 Ψ73) H locs → lv_has ls 8 [] → W p l e (headSpec wsX6_goes rmX6_goes).room s m ([.ref wa, .ref (ta kt)] : List Value).toArray below meth c H locs 0 0 (MQ below (QvF (dC, dI) [(cyI, .int), (cyA, .array .int), (cyT, .object "UndoJourneysLaw$Trip")] (cX cyI cyA cyT wa ks ts kr ta sa ra K mT Ns ζ κ Φ Ψ) (cX cyI cyA cyT wa ks ts kr ta sa ra K mT Ns ζ κ_ Φ_ Ψ_) s.heap.size) ([.ref wa, .ref (ta kt)] : List Value).toArray s 0 0 (va_A (cX cyI cyA cyT wa ks ts kr ta sa ra K mT Ns ζ κ Φ Ψ) s.heap.size)) (F0 m 226 ls []) := by
          intro H locs ls hB hl
          obtain ⟨e0, e1, e2⟩ := inj3 hf
          subst e0
          subst e1
          subst e2
          exact g_vret hx hb hr hlocks hK hB dX6_goes_226
        refine lv_if_eq (tgt := 209) hx hb dX6_goes_174 (by decide) (fun c76 => ?_) (fun c76 => ?_)
        · have hJ74 := ite_t c76 hJ74
          refine lv_iload_n hx hb dX6_goes_209 rfl (lv_at hl 0 rfl) ?_
          obtain ⟨t77, hD78, hJ74⟩ := ob1_s hJ74
          have kTt77 : t77 = true → ∀ (H : Heap) (locs : List Loc), Bd (dC, dI) [(cyI, .int), (cyA, .array .int), (cyT, .object "UndoJourneysLaw$Trip")] (va_A (cX cyI cyA cyT wa ks ts kr ta sa ra K mT Ns ζ κ Φ Ψ) s.heap.size) s (cX cyI cyA cyT wa ks ts kr ta sa ra K mT Ns ζ κ30 Φ Ψ65) H locs → W p l e (headSpec wsX6_goes rmX6_goes).room s m ([.ref wa, .ref (ta kt)] : List Value).toArray below meth c H locs 0 0 (MQ below (QvF (dC, dI) [(cyI, .int), (cyA, .array .int), (cyT, .object "UndoJourneysLaw$Trip")] (cX cyI cyA cyT wa ks ts kr ta sa ra K mT Ns ζ κ Φ Ψ) (cX cyI cyA cyT wa ks ts kr ta sa ra K mT Ns ζ κ_ Φ_ Ψ_) s.heap.size) ([.ref wa, .ref (ta kt)] : List Value).toArray s 0 0 (va_A (cX cyI cyA cyT wa ks ts kr ta sa ra K mT Ns ζ κ Φ Ψ) s.heap.size)) (F0 m 222 ls []) := by
            intro ht H locs hB
            have hJ74 := cnd_t ht hJ74
            refine lv_aload_n hx hb dX6_goes_222 rfl (lv_at hl 3 rfl) ?_
            obtain ⟨φ82, hc, hJ74⟩ := ob1_s hJ74
            obtain ⟨Φ83, e9, hJ74⟩ := ob1_s hJ74
            have e9 := inj1 e9
            refine g_pcutVv (As := []) (rest := []) (w2 := (cX cyI cyA cyT wa ks ts kr ta sa ra K mT Ns ζ κ30 Φ83 Ψ65)) ⟨hx, hb, hml, hown, hts⟩ (kX5_goesBack l dC dI cyI cyA (ta kt) (sa kt) (ra kt) H.size hc) (cwV 0 hts gX6_goes_X5_goesBack rfl rfl rfl (by decide +kernel) ⟨Nat.le_of_ble_eq_true rfl, Nat.le_of_ble_eq_true rfl⟩) (hK.sub [0, 1] rfl) hB hA (g_recv (ci := 5) hK (hB.perm (cX_view cyI cyA cyT wa ks ts kr ta sa ra K mT Ns ζ κ30 Φ Ψ65 h_kt)) 0 rfl rfl rfl) (cX_view cyI cyA cyT wa ks ts kr ta sa ra K mT Ns ζ κ30 Φ Ψ65 h_kt) (by rw [← e9]; exact cX_backF cyI cyA cyT wa ks ts kr ta sa ra K mT Ns ζ κ30 Φ Ψ65 h_kt φ82) rfl hl.1 rfl (Nat.le_of_ble_eq_true rfl) dX6_goes_223 ⟨Nat.zero_le _, Nat.zero_le _⟩ (fun H locs hB => ?_)
            obtain ⟨e0, e1⟩ := inj2 hJ74
            subst e0
            subst e1
            exact kJ75 _ _ _ hB (lv_sub hl [] rfl)
          have kFt77 : t77 = false → ∀ (H : Heap) (locs : List Loc), Bd (dC, dI) [(cyI, .int), (cyA, .array .int), (cyT, .object "UndoJourneysLaw$Trip")] (va_A (cX cyI cyA cyT wa ks ts kr ta sa ra K mT Ns ζ κ Φ Ψ) s.heap.size) s (cX cyI cyA cyT wa ks ts kr ta sa ra K mT Ns ζ κ30 Φ Ψ65) H locs → W p l e (headSpec wsX6_goes rmX6_goes).room s m ([.ref wa, .ref (ta kt)] : List Value).toArray below meth c H locs 0 0 (MQ below (QvF (dC, dI) [(cyI, .int), (cyA, .array .int), (cyT, .object "UndoJourneysLaw$Trip")] (cX cyI cyA cyT wa ks ts kr ta sa ra K mT Ns ζ κ Φ Ψ) (cX cyI cyA cyT wa ks ts kr ta sa ra K mT Ns ζ κ_ Φ_ Ψ_) s.heap.size) ([.ref wa, .ref (ta kt)] : List Value).toArray s 0 0 (va_A (cX cyI cyA cyT wa ks ts kr ta sa ra K mT Ns ζ κ Φ Ψ) s.heap.size)) (F0 m 226 ls []) := by
            intro ht H locs hB
            have hJ74 := cnd_f ht hJ74
            obtain ⟨e0, e1⟩ := inj2 hJ74
            subst e0
            subst e1
            exact kJ75 _ _ _ hB (lv_sub hl [] rfl)
          refine lv_if_eq (tgt := 226) hx hb dX6_goes_210 (by decide) (fun c79 => ?_) (fun c79 => ?_)
          · have hD78 := ite_t c79 hD78
            have e0 := inj1 hD78
            exact kFt77 e0.symm _ _ hB
          · have hD78 := ite_f c79 hD78
            refine lv_aload_n hx hb dX6_goes_213 rfl (lv_at hl 3 rfl) ?_
            refine lv_iload_n hx hb dX6_goes_214 rfl (lv_at hl 1 rfl) ?_
            refine lv_iconst (v := (2 : Int32)) hx hb dX6_goes_215 (by decide) ?_
            obtain ⟨r80, hc, hD78⟩ := ob1_s hD78
            refine g_pcutVi (As := [.int (Φ kt 3 0), .int (2 : Int32)]) (rest := []) (w2 := (cX cyI cyA cyT wa ks ts kr ta sa ra K mT Ns ζ κ30 Φ Ψ65)) ⟨hx, hb, hml, hown, hts⟩ (kX5_count l dC dI cyI cyA (ta kt) (sa kt) (ra kt) H.size hc) (cwV 2 hts gX6_goes_X5_count rfl rfl rfl (by decide +kernel) ⟨Nat.le_of_ble_eq_true rfl, Nat.le_of_ble_eq_true rfl⟩) (hK.sub [0, 1] rfl) hB hA (g_recv (ci := 5) hK (hB.perm (cX_view cyI cyA cyT wa ks ts kr ta sa ra K mT Ns ζ κ30 Φ Ψ65 h_kt)) 0 rfl rfl rfl) (cX_view cyI cyA cyT wa ks ts kr ta sa ra K mT Ns ζ κ30 Φ Ψ65 h_kt) (cX_view cyI cyA cyT wa ks ts kr ta sa ra K mT Ns ζ κ30 Φ Ψ65 h_kt).symm rfl hl.1 rfl (Nat.le_of_ble_eq_true rfl) dX6_goes_216 ⟨Nat.zero_le _, Nat.zero_le _⟩ (fun H locs hB => ?_)
            refine lv_if_ne (tgt := 226) hx hb dX6_goes_219 (by decide) (fun c81 => ?_) (fun c81 => ?_)
            · have hD78 := ite_f c81 hD78
              have e0 := inj1 hD78
              exact kFt77 e0.symm _ _ hB
            · have hD78 := ite_t c81 hD78
              have e0 := inj1 hD78
              exact kTt77 e0.symm _ _ hB
        · have hJ74 := ite_f c76 hJ74
          refine lv_iload_n hx hb dX6_goes_177 rfl (lv_at hl 1 rfl) ?_
          refine lv_iconst (v := (1 : Int32)) hx hb dX6_goes_178 (by decide) ?_
          refine lv_iadd hx hb dX6_goes_179 ?_
          refine lv_aload_n hx hb dX6_goes_180 rfl (lv_at hl 3 rfl) ?_
          refine g_get (C := RX5) (T := TX5) (N := 7) hx hb hts hinX5 hown hK (hB.perm (cX_view cyI cyA cyT wa ks ts kr ta sa ra K mT Ns ζ κ30 Φ Ψ65 h_kt)) 0 rfl rfl 1 rfl hq4 rfl rfl dX6_goes_181 ?_
          refine lv_icmp_ge (tgt := 197) hx hb dX6_goes_184 (by decide) (fun c84 => ?_) (fun c84 => ?_)
          · have hJ74 := ite_t c84 hJ74
            refine lv_aload_n hx hb dX6_goes_197 rfl (lv_at hl 3 rfl) ?_
            refine lv_iconst (v := (3 : Int32)) hx hb dX6_goes_198 (by decide) ?_
            refine lv_aload_n hx hb dX6_goes_199 rfl (lv_at hl 2 rfl) ?_
            refine g_get (C := RX6) (T := TX6) (N := 6) hx hb hts hinX6 hown hK hB 0 rfl rfl 0 rfl hq3 rfl rfl dX6_goes_200 ?_
            obtain ⟨φ85, hc, hJ74⟩ := ob1_s hJ74
            obtain ⟨Φ86, e9, hJ74⟩ := ob1_s hJ74
            have e9 := inj1 e9
            refine g_pcutVv (As := [.int (3 : Int32), .int (ζ 0 0)]) (rest := []) (w2 := (cX cyI cyA cyT wa ks ts kr ta sa ra K mT Ns ζ κ30 Φ86 Ψ65)) ⟨hx, hb, hml, hown, hts⟩ (kX5_rests l dC dI cyI cyA (ta kt) (sa kt) (ra kt) H.size hc) (cwV 2 hts gX6_goes_X5_rests rfl rfl rfl (by decide +kernel) ⟨Nat.le_of_ble_eq_true rfl, Nat.le_of_ble_eq_true rfl⟩) (hK.sub [0, 1] rfl) hB hA (g_recv (ci := 5) hK (hB.perm (cX_view cyI cyA cyT wa ks ts kr ta sa ra K mT Ns ζ κ30 Φ Ψ65 h_kt)) 0 rfl rfl rfl) (cX_view cyI cyA cyT wa ks ts kr ta sa ra K mT Ns ζ κ30 Φ Ψ65 h_kt) (by rw [← e9]; exact cX_backF cyI cyA cyT wa ks ts kr ta sa ra K mT Ns ζ κ30 Φ Ψ65 h_kt φ85) rfl hl.1 rfl (Nat.le_of_ble_eq_true rfl) dX6_goes_203 ⟨Nat.zero_le _, Nat.zero_le _⟩ (fun H locs hB => ?_)
            refine lv_goto (tgt := 226) hx hb dX6_goes_206 (by decide) ?_
            obtain ⟨e0, e1⟩ := inj2 hJ74
            subst e0
            subst e1
            exact kJ75 _ _ _ hB (lv_sub hl [] rfl)
          · have hJ74 := ite_f c84 hJ74
            refine lv_aload_n hx hb dX6_goes_187 rfl (lv_at hl 3 rfl) ?_
            refine lv_iload_n hx hb dX6_goes_188 rfl (lv_at hl 1 rfl) ?_
            refine lv_iconst (v := (1 : Int32)) hx hb dX6_goes_189 (by decide) ?_
            refine lv_iadd hx hb dX6_goes_190 ?_
            obtain ⟨φ87, ψ88, hc, hJ74⟩ := ob2_s hJ74
            obtain ⟨Φ89, e9, hJ74⟩ := ob1_s hJ74
            have e9 := inj1 e9
            obtain ⟨Ψ90, e8, hJ74⟩ := ob1_s hJ74
            have e8 := inj1 e8
            refine g_pcutVv (As := [.int ((Φ kt 3 0) + (1 : Int32))]) (rest := []) (w2 := (cX cyI cyA cyT wa ks ts kr ta sa ra K mT Ns ζ κ30 Φ89 Ψ90)) ⟨hx, hb, hml, hown, hts⟩ (kX5_opens l dC dI cyI cyA (ta kt) (sa kt) (ra kt) H.size hc) (cwV 1 hts gX6_goes_X5_opens rfl rfl rfl (by decide +kernel) ⟨Nat.le_of_ble_eq_true rfl, Nat.le_of_ble_eq_true rfl⟩) (hK.sub [0, 1] rfl) hB hA (g_recv (ci := 5) hK (hB.perm (cX_view cyI cyA cyT wa ks ts kr ta sa ra K mT Ns ζ κ30 Φ Ψ65 h_kt)) 0 rfl rfl rfl) (cX_view cyI cyA cyT wa ks ts kr ta sa ra K mT Ns ζ κ30 Φ Ψ65 h_kt) (by rw [← e9, ← e8]; exact cX_back cyI cyA cyT wa ks ts kr ta sa ra K mT Ns ζ κ30 Φ Ψ65 h_kt φ87 ψ88) rfl hl.1 rfl (Nat.le_of_ble_eq_true rfl) dX6_goes_191 ⟨Nat.zero_le _, Nat.zero_le _⟩ (fun H locs hB => ?_)
            refine lv_goto (tgt := 226) hx hb dX6_goes_194 (by decide) ?_
            obtain ⟨e0, e1⟩ := inj2 hJ74
            subst e0
            subst e1
            exact kJ75 _ _ _ hB (lv_sub hl [] rfl)
      have key67 : ∀ (n9 : Nat) (v92 : Int32) (Ψ93 : WS) (H : Heap) (locs : List Loc) (ls : Array Slot), loopM (fun st => mX6_goes_L124 fu K mT Ns (nI (Ns kt)) kt v37 (Φ kt 3 0) ζ κ30 Φ st.1 st.2) n9 (v92, Ψ93) = some Ψ65 → Bd (dC, dI) [(cyI, .int), (cyA, .array .int), (cyT, .object "UndoJourneysLaw$Trip")] (va_A (cX cyI cyA cyT wa ks ts kr ta sa ra K mT Ns ζ κ Φ Ψ) s.heap.size) s (cX cyI cyA cyT wa ks ts kr ta sa ra K mT Ns ζ κ30 Φ Ψ93) H locs → lv_has ls 8 [(6, .int v92), (5, .int (nI (Ns kt))), (4, .ref (sa kt)), (3, .int v37), (2, .int (Φ kt 3 0)), (0, .ref wa), (1, .ref (ta kt))] → W p l e (headSpec wsX6_goes rmX6_goes).room s m ([.ref wa, .ref (ta kt)] : List Value).toArray below meth c H locs 0 0 (MQ below (QvF (dC, dI) [(cyI, .int), (cyA, .array .int), (cyT, .object "UndoJourneysLaw$Trip")] (cX cyI cyA cyT wa ks ts kr ta sa ra K mT Ns ζ κ Φ Ψ) (cX cyI cyA cyT wa ks ts kr ta sa ra K mT Ns ζ κ_ Φ_ Ψ_) s.heap.size) ([.ref wa, .ref (ta kt)] : List Value).toArray s 0 0 (va_A (cX cyI cyA cyT wa ks ts kr ta sa ra K mT Ns ζ κ Φ Ψ) s.heap.size)) (F0 m 124 ls []) := by
        intro n9
        induction n9 with
        | zero => intro v92 Ψ93 H locs ls hL68; exact (loopM_z hL68).elim
        | succ n9 ih9 =>
          intro v92 Ψ93 H locs ls hL68 hB hl
          obtain ⟨o94, hg69, hL68⟩ := loopM_s hL68
          have hg69 : mX6_goes_L124 fu K mT Ns (nI (Ns kt)) kt v37 (Φ kt 3 0) ζ κ30 Φ v92 Ψ93 = some o94 := hg69
          unfold mX6_goes_L124 at hg69
          refine lv_iload hx hb dX6_goes_124 (lv_at hl 0 rfl) ?_
          refine lv_iload hx hb dX6_goes_126 (lv_at hl 1 rfl) ?_
          refine lv_icmp_ge (tgt := 169) hx hb dX6_goes_128 (by decide) (fun c95 => ?_) (fun c95 => ?_)
          · have hg69 := ite_t c95 hg69
            have hL68 := el1_l (inj1 hg69) hL68
            have e0 := inj1 hL68
            subst e0
            exact kE66 _ _ _ hB (lv_sub hl [3, 4, 5, 6] rfl)
          · have hg69 := ite_f c95 hg69
            refine lv_aload hx hb dX6_goes_131 (lv_at hl 2 rfl) ?_
            refine lv_iload hx hb dX6_goes_133 (lv_at hl 0 rfl) ?_
            obtain ⟨j96, e9, hg69⟩ := ob1_s hg69
            obtain ⟨h_j96, e9⟩ := hixn_s e9
            refine g_aald hx hb hK (hB.perm (cX_view cyI cyA cyT wa ks ts kr ta sa ra K mT Ns ζ κ30 Φ Ψ93 h_kt)) 1 1 rfl rfl e9 dX6_goes_135 ?_
            refine lv_astore (lv' := [(7, .ref (ra kt j96)), (6, .int v92), (5, .int (nI (Ns kt))), (4, .ref (sa kt)), (3, .int v37), (2, .int (Φ kt 3 0)), (0, .ref wa), (1, .ref (ta kt))]) hx hb dX6_goes_136 hl (by decide) rfl (fun ls hl => ?_)
            refine lv_iload_n hx hb dX6_goes_138 rfl (lv_at hl 4 rfl) ?_
            obtain ⟨Ψ97, hJ98, hg69⟩ := ob1_s hg69
            have kJ99 : ∀ (H : Heap) (locs : List Loc) (ls : Array Slot), Bd (dC, dI) [(cyI, .int), (cyA, .array .int), (cyT, .object "UndoJourneysLaw$Trip")] (va_A (cX cyI cyA cyT wa ks ts kr ta sa ra K mT Ns ζ κ Φ Ψ) s.heap.size) s (cX cyI cyA cyT wa ks ts kr ta sa ra K mT Ns ζ κ30 Φ Ψ97) H locs → lv_has ls 8 [(6, .int v92), (5, .int (nI (Ns kt))), (4, .ref (sa kt)), (3, .int v37), (2, .int (Φ kt 3 0)), (0, .ref wa), (1, .ref (ta kt))] → W p l e (headSpec wsX6_goes rmX6_goes).room s m ([.ref wa, .ref (ta kt)] : List Value).toArray below meth c H locs 0 0 (MQ below (QvF (dC, dI) [(cyI, .int), (cyA, .array .int), (cyT, .object "UndoJourneysLaw$Trip")] (cX cyI cyA cyT wa ks ts kr ta sa ra K mT Ns ζ κ Φ Ψ) (cX cyI cyA cyT wa ks ts kr ta sa ra K mT Ns ζ κ_ Φ_ Ψ_) s.heap.size) ([.ref wa, .ref (ta kt)] : List Value).toArray s 0 0 (va_A (cX cyI cyA cyT wa ks ts kr ta sa ra K mT Ns ζ κ Φ Ψ) s.heap.size)) (F0 m 163 ls []) := by
              intro H locs ls hB hl
              refine lv_iinc (v := (v92 + (1 : Int32))) (lv' := [(6, .int (v92 + (1 : Int32))), (5, .int (nI (Ns kt))), (4, .ref (sa kt)), (3, .int v37), (2, .int (Φ kt 3 0)), (0, .ref wa), (1, .ref (ta kt))]) hx hb dX6_goes_163 hl (k := 0) rfl rfl (by decide) rfl (fun ls hl => ?_)
              refine lv_goto (tgt := 124) hx hb dX6_goes_166 (by decide) ?_
              have hL68 := el1_r (inj1 hg69) hL68
              exact ih9 _ _ _ _ _ hL68 hB (lv_sub hl [0, 1, 2, 3, 4, 5, 6] rfl)
            obtain ⟨t100, hD101, hJ98⟩ := ob1_s hJ98
            have kTt100 : t100 = true → ∀ (H : Heap) (locs : List Loc), Bd (dC, dI) [(cyI, .int), (cyA, .array .int), (cyT, .object "UndoJourneysLaw$Trip")] (va_A (cX cyI cyA cyT wa ks ts kr ta sa ra K mT Ns ζ κ Φ Ψ) s.heap.size) s (cX cyI cyA cyT wa ks ts kr ta sa ra K mT Ns ζ κ30 Φ Ψ93) H locs → W p l e (headSpec wsX6_goes rmX6_goes).room s m ([.ref wa, .ref (ta kt)] : List Value).toArray below meth c H locs 0 0 (MQ below (QvF (dC, dI) [(cyI, .int), (cyA, .array .int), (cyT, .object "UndoJourneysLaw$Trip")] (cX cyI cyA cyT wa ks ts kr ta sa ra K mT Ns ζ κ Φ Ψ) (cX cyI cyA cyT wa ks ts kr ta sa ra K mT Ns ζ κ_ Φ_ Ψ_) s.heap.size) ([.ref wa, .ref (ta kt)] : List Value).toArray s 0 0 (va_A (cX cyI cyA cyT wa ks ts kr ta sa ra K mT Ns ζ κ Φ Ψ) s.heap.size)) (F0 m 158 ls []) := by
              intro ht H locs hB
              have hJ98 := cnd_t ht hJ98
              refine lv_aload hx hb dX6_goes_158 (lv_at hl 0 rfl) ?_
              refine lv_iconst (v := (4 : Int32)) hx hb dX6_goes_160 (by decide) ?_
              refine lv_iconst (v := (0 : Int32)) hx hb dX6_goes_161 (by decide) ?_
              obtain ⟨ψ107, e9, hJ98⟩ := ob1_s hJ98
              obtain ⟨hi, e9⟩ := wra_s e9
              obtain ⟨Ψ108, e8, hJ98⟩ := ob1_s hJ98
              have e8 := inj1 e8
              refine g_iast hx hb hK (hB.perm (cX_view cyI cyA cyT wa ks ts kr ta sa ra K mT Ns ζ κ30 Φ Ψ93 h_kt)) (2 + j96) 0 (cT_row cyI cyA (ta kt) (sa kt) (ra kt) (Ns kt) (Φ kt) (Ψ93 kt) _ h_j96) rfl hi rfl dX6_goes_162 (w2 := cT cyI cyA (ta kt) (sa kt) (ra kt) (Ns kt) (Φ kt) ψ107 ++ rX cyI cyA cyT wa ks ts kr ta sa ra K mT Ns ζ κ30 Φ Ψ93 kt) (by rw [← e9]; exact cT_set cyI cyA (ta kt) (sa kt) (ra kt) (Ns kt) (Φ kt) (Ψ93 kt) _ h_j96 _) (fun H locs hB => ?_)
              have hB := hB.perm (cX_backS cyI cyA cyT wa ks ts kr ta sa ra K mT Ns ζ κ30 Φ Ψ93 h_kt ψ107)
              rw [e8] at hB
              have e0 := inj1 hJ98
              subst e0
              exact kJ99 _ _ _ hB (lv_sub hl [1, 2, 3, 4, 5, 6, 7] rfl)
            have kFt100 : t100 = false → ∀ (H : Heap) (locs : List Loc), Bd (dC, dI) [(cyI, .int), (cyA, .array .int), (cyT, .object "UndoJourneysLaw$Trip")] (va_A (cX cyI cyA cyT wa ks ts kr ta sa ra K mT Ns ζ κ Φ Ψ) s.heap.size) s (cX cyI cyA cyT wa ks ts kr ta sa ra K mT Ns ζ κ30 Φ Ψ93) H locs → W p l e (headSpec wsX6_goes rmX6_goes).room s m ([.ref wa, .ref (ta kt)] : List Value).toArray below meth c H locs 0 0 (MQ below (QvF (dC, dI) [(cyI, .int), (cyA, .array .int), (cyT, .object "UndoJourneysLaw$Trip")] (cX cyI cyA cyT wa ks ts kr ta sa ra K mT Ns ζ κ Φ Ψ) (cX cyI cyA cyT wa ks ts kr ta sa ra K mT Ns ζ κ_ Φ_ Ψ_) s.heap.size) ([.ref wa, .ref (ta kt)] : List Value).toArray s 0 0 (va_A (cX cyI cyA cyT wa ks ts kr ta sa ra K mT Ns ζ κ Φ Ψ) s.heap.size)) (F0 m 163 ls []) := by
              intro ht H locs hB
              have hJ98 := cnd_f ht hJ98
              have e0 := inj1 hJ98
              subst e0
              exact kJ99 _ _ _ hB (lv_sub hl [1, 2, 3, 4, 5, 6, 7] rfl)
            refine lv_if_eq (tgt := 163) hx hb dX6_goes_139 (by decide) (fun c102 => ?_) (fun c102 => ?_)
            · have hD101 := ite_t c102 hD101
              have e0 := inj1 hD101
              exact kFt100 e0.symm _ _ hB
            · have hD101 := ite_f c102 hD101
              refine lv_aload hx hb dX6_goes_142 (lv_at hl 0 rfl) ?_
              refine lv_iconst (v := (0 : Int32)) hx hb dX6_goes_144 (by decide) ?_
              obtain ⟨x103, e9, hD101⟩ := ob1_s hD101
              refine g_iald hx hb hK (hB.perm (cX_view cyI cyA cyT wa ks ts kr ta sa ra K mT Ns ζ κ30 Φ Ψ93 h_kt)) (2 + j96) 0 (cT_row cyI cyA (ta kt) (sa kt) (ra kt) (Ns kt) (Φ kt) (Ψ93 kt) _ h_j96) rfl (rd_s e9) dX6_goes_145 ?_
              refine lv_iload_n hx hb dX6_goes_146 rfl (lv_at hl 5 rfl) ?_
              refine lv_icmp_ne (tgt := 163) hx hb dX6_goes_147 (by decide) (fun c104 => ?_) (fun c104 => ?_)
              · have hD101 := ite_f c104 hD101
                have e0 := inj1 hD101
                exact kFt100 e0.symm _ _ hB
              · have hD101 := ite_t c104 hD101
                refine lv_aload hx hb dX6_goes_150 (lv_at hl 0 rfl) ?_
                refine lv_iconst (v := (4 : Int32)) hx hb dX6_goes_152 (by decide) ?_
                obtain ⟨x105, e9, hD101⟩ := ob1_s hD101
                refine g_iald hx hb hK (hB.perm (cX_view cyI cyA cyT wa ks ts kr ta sa ra K mT Ns ζ κ30 Φ Ψ93 h_kt)) (2 + j96) 0 (cT_row cyI cyA (ta kt) (sa kt) (ra kt) (Ns kt) (Φ kt) (Ψ93 kt) _ h_j96) rfl (rd_s e9) dX6_goes_153 ?_
                refine lv_iconst (v := (1 : Int32)) hx hb dX6_goes_154 (by decide) ?_
                refine lv_icmp_ne (tgt := 163) hx hb dX6_goes_155 (by decide) (fun c106 => ?_) (fun c106 => ?_)
                · have hD101 := ite_f c106 hD101
                  have e0 := inj1 hD101
                  exact kFt100 e0.symm _ _ hB
                · have hD101 := ite_t c106 hD101
                  have e0 := inj1 hD101
                  exact kTt100 e0.symm _ _ hB
      exact key67 fu _ _ _ _ _ hL68 hB (lv_sub hl [0, 1, 2, 3, 4, 5, 6] rfl)
    refine lv_if_le (tgt := 108) hx hb dX6_goes_101 (by decide) (fun c41 => ?_) (fun c41 => ?_)
    · have hJ39 := ite_t c41 hJ39
      refine lv_iconst (v := (0 : Int32)) hx hb dX6_goes_108 (by decide) ?_
      have e0 := inj1 hJ39
      subst e0
      exact kJ40 (Or.inl rfl) _ _ _ hB (lv_sub hl [0, 1, 2] rfl)
    · have hJ39 := ite_f c41 hJ39
      refine lv_iconst (v := (1 : Int32)) hx hb dX6_goes_104 (by decide) ?_
      refine lv_goto (tgt := 109) hx hb dX6_goes_105 (by decide) ?_
      have e0 := inj1 hJ39
      subst e0
      exact kJ40 (Or.inr rfl) _ _ _ hB (lv_sub hl [0, 1, 2] rfl)
  have key33 : ∀ (n9 : Nat) (v110 : Int32) (κ111 : MS) (Ψ112 : WS) (H : Heap) (locs : List Loc) (ls : Array Slot), loopM (fun st => mX6_goes_L17 fu K mT Ns (nI (Ns kt)) kt (Φ kt 3 0) ζ Φ st.1 st.2.1 st.2.2) n9 (v110, κ111, Ψ112) = some (κ30, Ψ31) → Bd (dC, dI) [(cyI, .int), (cyA, .array .int), (cyT, .object "UndoJourneysLaw$Trip")] (va_A (cX cyI cyA cyT wa ks ts kr ta sa ra K mT Ns ζ κ Φ Ψ) s.heap.size) s (cX cyI cyA cyT wa ks ts kr ta sa ra K mT Ns ζ κ111 Φ Ψ112) H locs → lv_has ls 8 [(5, .int v110), (4, .int (nI (Ns kt))), (3, .ref (sa kt)), (2, .int (Φ kt 3 0)), (0, .ref wa), (1, .ref (ta kt))] → W p l e (headSpec wsX6_goes rmX6_goes).room s m ([.ref wa, .ref (ta kt)] : List Value).toArray below meth c H locs 0 0 (MQ below (QvF (dC, dI) [(cyI, .int), (cyA, .array .int), (cyT, .object "UndoJourneysLaw$Trip")] (cX cyI cyA cyT wa ks ts kr ta sa ra K mT Ns ζ κ Φ Ψ) (cX cyI cyA cyT wa ks ts kr ta sa ra K mT Ns ζ κ_ Φ_ Ψ_) s.heap.size) ([.ref wa, .ref (ta kt)] : List Value).toArray s 0 0 (va_A (cX cyI cyA cyT wa ks ts kr ta sa ra K mT Ns ζ κ Φ Ψ) s.heap.size)) (F0 m 17 ls []) := by
    intro n9
    induction n9 with
    | zero => intro v110 κ111 Ψ112 H locs ls hL34; exact (loopM_z hL34).elim
    | succ n9 ih9 =>
      intro v110 κ111 Ψ112 H locs ls hL34 hB hl
      obtain ⟨o113, hg35, hL34⟩ := loopM_s hL34
      have hg35 : mX6_goes_L17 fu K mT Ns (nI (Ns kt)) kt (Φ kt 3 0) ζ Φ v110 κ111 Ψ112 = some o113 := hg35
      unfold mX6_goes_L17 at hg35
      refine lv_iload hx hb dX6_goes_17 (lv_at hl 0 rfl) ?_
      refine lv_iload hx hb dX6_goes_19 (lv_at hl 1 rfl) ?_
      refine lv_icmp_ge (tgt := 95) hx hb dX6_goes_21 (by decide) (fun c114 => ?_) (fun c114 => ?_)
      · have hg35 := ite_t c114 hg35
        have hL34 := el1_l (inj1 hg35) hL34
        obtain ⟨e0, e1⟩ := inj2 hL34
        subst e0
        subst e1
        exact kE32 _ _ _ hB (lv_sub hl [3, 4, 5] rfl)
      · have hg35 := ite_f c114 hg35
        refine lv_aload_n hx hb dX6_goes_24 rfl (lv_at hl 2 rfl) ?_
        refine lv_iload hx hb dX6_goes_25 (lv_at hl 0 rfl) ?_
        obtain ⟨j115, e9, hg35⟩ := ob1_s hg35
        obtain ⟨h_j115, e9⟩ := hixn_s e9
        refine g_aald hx hb hK (hB.perm (cX_view cyI cyA cyT wa ks ts kr ta sa ra K mT Ns ζ κ111 Φ Ψ112 h_kt)) 1 1 rfl rfl e9 dX6_goes_27 ?_
        refine lv_astore (lv' := [(6, .ref (ra kt j115)), (5, .int v110), (4, .int (nI (Ns kt))), (3, .ref (sa kt)), (2, .int (Φ kt 3 0)), (0, .ref wa), (1, .ref (ta kt))]) hx hb dX6_goes_28 hl (by decide) rfl (fun ls hl => ?_)
        refine lv_aload hx hb dX6_goes_30 (lv_at hl 0 rfl) ?_
        refine lv_iconst (v := (0 : Int32)) hx hb dX6_goes_32 (by decide) ?_
        obtain ⟨x116, e9, hg35⟩ := ob1_s hg35
        refine g_iald hx hb hK (hB.perm (cX_view cyI cyA cyT wa ks ts kr ta sa ra K mT Ns ζ κ111 Φ Ψ112 h_kt)) (2 + j115) 0 (cT_row cyI cyA (ta kt) (sa kt) (ra kt) (Ns kt) (Φ kt) (Ψ112 kt) _ h_j115) rfl (rd_s e9) dX6_goes_33 ?_
        refine lv_iload_n hx hb dX6_goes_34 rfl (lv_at hl 4 rfl) ?_
        obtain ⟨κ117, Ψ118, hJ119, hg35⟩ := ob2_s hg35
        have kJ120 : ∀ (H : Heap) (locs : List Loc) (ls : Array Slot), Bd (dC, dI) [(cyI, .int), (cyA, .array .int), (cyT, .object "UndoJourneysLaw$Trip")] (va_A (cX cyI cyA cyT wa ks ts kr ta sa ra K mT Ns ζ κ Φ Ψ) s.heap.size) s (cX cyI cyA cyT wa ks ts kr ta sa ra K mT Ns ζ κ117 Φ Ψ118) H locs → lv_has ls 8 [(5, .int v110), (4, .int (nI (Ns kt))), (3, .ref (sa kt)), (2, .int (Φ kt 3 0)), (0, .ref wa), (1, .ref (ta kt))] → W p l e (headSpec wsX6_goes rmX6_goes).room s m ([.ref wa, .ref (ta kt)] : List Value).toArray below meth c H locs 0 0 (MQ below (QvF (dC, dI) [(cyI, .int), (cyA, .array .int), (cyT, .object "UndoJourneysLaw$Trip")] (cX cyI cyA cyT wa ks ts kr ta sa ra K mT Ns ζ κ Φ Ψ) (cX cyI cyA cyT wa ks ts kr ta sa ra K mT Ns ζ κ_ Φ_ Ψ_) s.heap.size) ([.ref wa, .ref (ta kt)] : List Value).toArray s 0 0 (va_A (cX cyI cyA cyT wa ks ts kr ta sa ra K mT Ns ζ κ Φ Ψ) s.heap.size)) (F0 m 89 ls []) := by
          intro H locs ls hB hl
          refine lv_iinc (v := (v110 + (1 : Int32))) (lv' := [(5, .int (v110 + (1 : Int32))), (4, .int (nI (Ns kt))), (3, .ref (sa kt)), (2, .int (Φ kt 3 0)), (0, .ref wa), (1, .ref (ta kt))]) hx hb dX6_goes_89 hl (k := 0) rfl rfl (by decide) rfl (fun ls hl => ?_)
          refine lv_goto (tgt := 17) hx hb dX6_goes_92 (by decide) ?_
          have hL34 := el1_r (inj1 hg35) hL34
          exact ih9 _ _ _ _ _ _ hL34 hB (lv_sub hl [0, 1, 2, 3, 4, 5] rfl)
        refine lv_icmp_eq (tgt := 41) hx hb dX6_goes_35 (by decide) (fun c121 => ?_) (fun c121 => ?_)
        · have hJ119 := ite_t c121 hJ119
          refine lv_aload hx hb dX6_goes_41 (lv_at hl 0 rfl) ?_
          refine lv_iconst (v := (4 : Int32)) hx hb dX6_goes_43 (by decide) ?_
          obtain ⟨x122, e9, hJ119⟩ := ob1_s hJ119
          refine g_iald hx hb hK (hB.perm (cX_view cyI cyA cyT wa ks ts kr ta sa ra K mT Ns ζ κ111 Φ Ψ112 h_kt)) (2 + j115) 0 (cT_row cyI cyA (ta kt) (sa kt) (ra kt) (Ns kt) (Φ kt) (Ψ112 kt) _ h_j115) rfl (rd_s e9) dX6_goes_44 ?_
          refine lv_iconst (v := (2 : Int32)) hx hb dX6_goes_45 (by decide) ?_
          obtain ⟨t123, hD124, hJ119⟩ := ob1_s hJ119
          have kTt123 : t123 = true → ∀ (H : Heap) (locs : List Loc), Bd (dC, dI) [(cyI, .int), (cyA, .array .int), (cyT, .object "UndoJourneysLaw$Trip")] (va_A (cX cyI cyA cyT wa ks ts kr ta sa ra K mT Ns ζ κ Φ Ψ) s.heap.size) s (cX cyI cyA cyT wa ks ts kr ta sa ra K mT Ns ζ κ111 Φ Ψ112) H locs → W p l e (headSpec wsX6_goes rmX6_goes).room s m ([.ref wa, .ref (ta kt)] : List Value).toArray below meth c H locs 0 0 (MQ below (QvF (dC, dI) [(cyI, .int), (cyA, .array .int), (cyT, .object "UndoJourneysLaw$Trip")] (cX cyI cyA cyT wa ks ts kr ta sa ra K mT Ns ζ κ Φ Ψ) (cX cyI cyA cyT wa ks ts kr ta sa ra K mT Ns ζ κ_ Φ_ Ψ_) s.heap.size) ([.ref wa, .ref (ta kt)] : List Value).toArray s 0 0 (va_A (cX cyI cyA cyT wa ks ts kr ta sa ra K mT Ns ζ κ Φ Ψ) s.heap.size)) (F0 m 66 ls []) := by
            intro ht H locs hB
            have hJ119 := cnd_t ht hJ119
            refine lv_aload hx hb dX6_goes_66 (lv_at hl 0 rfl) ?_
            refine lv_iconst (v := (4 : Int32)) hx hb dX6_goes_68 (by decide) ?_
            refine lv_iconst (v := (3 : Int32)) hx hb dX6_goes_69 (by decide) ?_
            obtain ⟨ψ129, e9, hJ119⟩ := ob1_s hJ119
            obtain ⟨hi, e9⟩ := wra_s e9
            obtain ⟨Ψ130, e8, hJ119⟩ := ob1_s hJ119
            have e8 := inj1 e8
            refine g_iast hx hb hK (hB.perm (cX_view cyI cyA cyT wa ks ts kr ta sa ra K mT Ns ζ κ111 Φ Ψ112 h_kt)) (2 + j115) 0 (cT_row cyI cyA (ta kt) (sa kt) (ra kt) (Ns kt) (Φ kt) (Ψ112 kt) _ h_j115) rfl hi rfl dX6_goes_70 (w2 := cT cyI cyA (ta kt) (sa kt) (ra kt) (Ns kt) (Φ kt) ψ129 ++ rX cyI cyA cyT wa ks ts kr ta sa ra K mT Ns ζ κ111 Φ Ψ112 kt) (by rw [← e9]; exact cT_set cyI cyA (ta kt) (sa kt) (ra kt) (Ns kt) (Φ kt) (Ψ112 kt) _ h_j115 _) (fun H locs hB => ?_)
            have hB := hB.perm (cX_backS cyI cyA cyT wa ks ts kr ta sa ra K mT Ns ζ κ111 Φ Ψ112 h_kt ψ129)
            rw [e8] at hB
            refine lv_goto (tgt := 89) hx hb dX6_goes_71 (by decide) ?_
            obtain ⟨e0, e1⟩ := inj2 hJ119
            subst e0
            subst e1
            exact kJ120 _ _ _ hB (lv_sub hl [1, 2, 3, 4, 5, 6] rfl)
          have kFt123 : t123 = false → ∀ (H : Heap) (locs : List Loc), Bd (dC, dI) [(cyI, .int), (cyA, .array .int), (cyT, .object "UndoJourneysLaw$Trip")] (va_A (cX cyI cyA cyT wa ks ts kr ta sa ra K mT Ns ζ κ Φ Ψ) s.heap.size) s (cX cyI cyA cyT wa ks ts kr ta sa ra K mT Ns ζ κ111 Φ Ψ112) H locs → W p l e (headSpec wsX6_goes rmX6_goes).room s m ([.ref wa, .ref (ta kt)] : List Value).toArray below meth c H locs 0 0 (MQ below (QvF (dC, dI) [(cyI, .int), (cyA, .array .int), (cyT, .object "UndoJourneysLaw$Trip")] (cX cyI cyA cyT wa ks ts kr ta sa ra K mT Ns ζ κ Φ Ψ) (cX cyI cyA cyT wa ks ts kr ta sa ra K mT Ns ζ κ_ Φ_ Ψ_) s.heap.size) ([.ref wa, .ref (ta kt)] : List Value).toArray s 0 0 (va_A (cX cyI cyA cyT wa ks ts kr ta sa ra K mT Ns ζ κ Φ Ψ) s.heap.size)) (F0 m 74 ls []) := by
            intro ht H locs hB
            have hJ119 := cnd_f ht hJ119
            refine lv_aload hx hb dX6_goes_74 (lv_at hl 0 rfl) ?_
            refine lv_iconst (v := (4 : Int32)) hx hb dX6_goes_76 (by decide) ?_
            obtain ⟨x131, e9, hJ119⟩ := ob1_s hJ119
            refine g_iald hx hb hK (hB.perm (cX_view cyI cyA cyT wa ks ts kr ta sa ra K mT Ns ζ κ111 Φ Ψ112 h_kt)) (2 + j115) 0 (cT_row cyI cyA (ta kt) (sa kt) (ra kt) (Ns kt) (Φ kt) (Ψ112 kt) _ h_j115) rfl (rd_s e9) dX6_goes_77 ?_
            refine lv_iconst (v := (1 : Int32)) hx hb dX6_goes_78 (by decide) ?_
            refine lv_icmp_ne (tgt := 89) hx hb dX6_goes_79 (by decide) (fun c132 => ?_) (fun c132 => ?_)
            · have hJ119 := ite_f c132 hJ119
              obtain ⟨e0, e1⟩ := inj2 hJ119
              subst e0
              subst e1
              exact kJ120 _ _ _ hB (lv_sub hl [1, 2, 3, 4, 5, 6] rfl)
            · have hJ119 := ite_t c132 hJ119
              refine lv_aload_n hx hb dX6_goes_82 rfl (lv_at hl 5 rfl) ?_
              refine lv_aload_n hx hb dX6_goes_83 rfl (lv_at hl 6 rfl) ?_
              refine lv_aload hx hb dX6_goes_84 (lv_at hl 0 rfl) ?_
              obtain ⟨κ133, Ψ134, hc, hJ119⟩ := ob2_s hJ119
              refine g_callVv (As := [.ref (ta kt), .ref (ra kt j115)]) (rest := []) ⟨hx, hb, hml, hown, hts⟩ (kX6_begins l dC dI cyI cyA cyT wa ks ts kr ta sa ra H.size hc) (cwV 2 hts gX6_goes_X6_begins rfl rfl rfl (by decide +kernel) ⟨Nat.le_of_ble_eq_true rfl, Nat.le_of_ble_eq_true rfl⟩) hK hB hA (g_recv (ci := 6) hK hB 0 rfl rfl rfl) rfl hl.1 rfl (Nat.le_of_ble_eq_true rfl) dX6_goes_86 ⟨Nat.zero_le _, Nat.zero_le _⟩ (fun H locs hB => ?_)
              obtain ⟨e0, e1⟩ := inj2 hJ119
              subst e0
              subst e1
              exact kJ120 _ _ _ hB (lv_sub hl [1, 2, 3, 4, 5, 6] rfl)
          refine lv_icmp_ne (tgt := 74) hx hb dX6_goes_46 (by decide) (fun c125 => ?_) (fun c125 => ?_)
          · have hD124 := ite_f c125 hD124
            have e0 := inj1 hD124
            exact kFt123 e0.symm _ _ hB
          · have hD124 := ite_t c125 hD124
            refine lv_aload_n hx hb dX6_goes_49 rfl (lv_at hl 5 rfl) ?_
            refine g_get (C := RX6) (T := TX6) (N := 6) hx hb hts hinX6 hown hK hB 0 rfl rfl 0 rfl hq3 rfl rfl dX6_goes_50 ?_
            refine lv_aload hx hb dX6_goes_53 (lv_at hl 0 rfl) ?_
            refine lv_bipush (v := (8 : Int32)) hx hb dX6_goes_55 (by decide) ?_
            obtain ⟨x126, e9, hD124⟩ := ob1_s hD124
            refine g_iald hx hb hK (hB.perm (cX_view cyI cyA cyT wa ks ts kr ta sa ra K mT Ns ζ κ111 Φ Ψ112 h_kt)) (2 + j115) 0 (cT_row cyI cyA (ta kt) (sa kt) (ra kt) (Ns kt) (Φ kt) (Ψ112 kt) _ h_j115) rfl (rd_s e9) dX6_goes_57 ?_
            refine lv_isub hx hb dX6_goes_58 ?_
            refine lv_aload hx hb dX6_goes_59 (lv_at hl 0 rfl) ?_
            refine lv_iconst (v := (3 : Int32)) hx hb dX6_goes_61 (by decide) ?_
            obtain ⟨x127, e9, hD124⟩ := ob1_s hD124
            refine g_iald hx hb hK (hB.perm (cX_view cyI cyA cyT wa ks ts kr ta sa ra K mT Ns ζ κ111 Φ Ψ112 h_kt)) (2 + j115) 0 (cT_row cyI cyA (ta kt) (sa kt) (ra kt) (Ns kt) (Φ kt) (Ψ112 kt) _ h_j115) rfl (rd_s e9) dX6_goes_62 ?_
            refine lv_icmp_lt (tgt := 74) hx hb dX6_goes_63 (by decide) (fun c128 => ?_) (fun c128 => ?_)
            · have hD124 := ite_t c128 hD124
              have e0 := inj1 hD124
              exact kFt123 e0.symm _ _ hB
            · have hD124 := ite_f c128 hD124
              have e0 := inj1 hD124
              exact kTt123 e0.symm _ _ hB
        · have hJ119 := ite_f c121 hJ119
          refine lv_goto (tgt := 89) hx hb dX6_goes_38 (by decide) ?_
          obtain ⟨e0, e1⟩ := inj2 hJ119
          subst e0
          subst e1
          exact kJ120 _ _ _ hB (lv_sub hl [1, 2, 3, 4, 5, 6] rfl)
  exact key33 fu _ _ _ _ _ _ hL34 hB (lv_sub hl [0, 1, 2, 3, 4, 5] rfl)

abbrev rmX6_undoes : Room := { frames := 0, cells := 0, slots := 0, locals := 0 }

set_option maxHeartbeats 4000000 in
set_option maxRecDepth 100000 in
theorem kX6_undoes (l : Launch) (dC : Nat → ClassId) (dI : Nat → Nat → Nat) (cyI cyA cyT : ClassId) (wa ks ts : Nat) (kr ta sa : PA) (ra : Nat → PA) (sz : Nat) {fu : Nat} {K : Nat} {mT : Nat} {Ns : PA} {ζ : MS} {κ : MS} {Φ : WS} {Ψ : WS} {kt : Nat} {js : Nat} {κ_ : MS} {Ψ_ : WS} (hf : mX6_undoes fu K mT Ns ζ κ Φ Ψ kt js = some (κ_, Ψ_)) : Met l yX6_undoes wsX6_undoes rmX6_undoes (PcF (dC, dI) [(cyI, .int), (cyA, .array .int), (cyT, .object "UndoJourneysLaw$Trip")] (cX cyI cyA cyT wa ks ts kr ta sa ra K mT Ns ζ κ Φ Ψ) sz [.ref wa, .ref (ra kt js)]) (QvF (dC, dI) [(cyI, .int), (cyA, .array .int), (cyT, .object "UndoJourneysLaw$Trip")] (cX cyI cyA cyT wa ks ts kr ta sa ra K mT Ns ζ κ Φ Ψ) (cX cyI cyA cyT wa ks ts kr ta sa ra K mT Ns ζ κ_ Φ Ψ_) sz) 0 0 (va_A (cX cyI cyA cyT wa ks ts kr ta sa ra K mT Ns ζ κ Φ Ψ) sz) := by
  refine Met.ofW (cc := cX6_undoes) (maxL := 2) (ret := none) (by decide) rfl ?_
  intro p e s m args below meth c s₁ B hml hv
  obtain ⟨rfl, hsz, hP, hK, hD0⟩ := hv
  have hx := B.exec
  have hb := B.bytes
  have hr := B.returns
  have hts := atoms_spec (ws := wsX6_undoes) B.pre
  have hown : s.vm.findClass RX6 = some m.cls := findClass_of_methodNamed B.named
  have hlocks := B.notSynchronized
  subst hsz
  have hA : ∀ q : Nat, s.heap.size ≤ q → va_A (cX cyI cyA cyT wa ks ts kr ta sa ra K mT Ns ζ κ Φ Ψ) s.heap.size q := fun q h => Or.inr h
  have hB : Bd (dC, dI) [(cyI, .int), (cyA, .array .int), (cyT, .object "UndoJourneysLaw$Trip")] (va_A (cX cyI cyA cyT wa ks ts kr ta sa ra K mT Ns ζ κ Φ Ψ) s.heap.size) s (cX cyI cyA cyT wa ks ts kr ta sa ra K mT Ns ζ κ Φ Ψ) s.heap [] := ⟨hP, hD0.self, va_S.rf⟩
  have hq1 : (Cond.fieldLink RX6 18 "UndoJourneysLaw$World" "stocks" "[[I").before _ s = true := hts _ (List.mem_of_getElem? (i := 1) rfl)
  have hinX6 : ∀ w ∈ wsX60, w ∈ wsX6_undoes := fun w h => List.mem_cons_of_mem _ (List.mem_append_right _ h)
  have hl := lv_entry [.ref wa, .ref (ra kt js)] (n := 2) (Nat.le_of_ble_eq_true rfl)
  rw [lg_entry_eq]
  generalize (lg_sl [.ref wa, .ref (ra kt js)] ++ List.replicate (2 - (lg_sl [.ref wa, .ref (ra kt js)]).length) Slot.unset).toArray = ls at hl ⊢
  have hl : lv_has ls 2 [(0, .ref wa), (1, .ref (ra kt js))] := hl
  clear hP hD0
  suffices main : ∀ (H : Heap) (locs : List Loc), Bd (dC, dI) [(cyI, .int), (cyA, .array .int), (cyT, .object "UndoJourneysLaw$Trip")] (va_A (cX cyI cyA cyT wa ks ts kr ta sa ra K mT Ns ζ κ Φ Ψ) s.heap.size) s (cX cyI cyA cyT wa ks ts kr ta sa ra K mT Ns ζ κ Φ Ψ) H locs → W p l e (headSpec wsX6_undoes rmX6_undoes).room s m ([.ref wa, .ref (ra kt js)] : List Value).toArray below meth c H locs 0 0 (MQ below (QvF (dC, dI) [(cyI, .int), (cyA, .array .int), (cyT, .object "UndoJourneysLaw$Trip")] (cX cyI cyA cyT wa ks ts kr ta sa ra K mT Ns ζ κ Φ Ψ) (cX cyI cyA cyT wa ks ts kr ta sa ra K mT Ns ζ κ_ Φ Ψ_) s.heap.size) ([.ref wa, .ref (ra kt js)] : List Value).toArray s 0 0 (va_A (cX cyI cyA cyT wa ks ts kr ta sa ra K mT Ns ζ κ Φ Ψ) s.heap.size)) (F0 m 0 ls []) from main _ _ hB
  clear hB
  intro H locs hB
  unfold mX6_undoes at hf
  obtain ⟨_, h_kt, hf⟩ := ob1_s hf
  have h_kt := gLt_s h_kt
  obtain ⟨_, h_js, hf⟩ := ob1_s hf
  have h_js := gLt_s h_js
  refine lv_aload_n hx hb dX6_undoes_0 rfl (lv_at hl 0 rfl) ?_
  refine g_get (C := RX6) (T := TX6) (N := 6) hx hb hts hinX6 hown hK hB 0 rfl rfl 4 rfl hq1 rfl rfl dX6_undoes_1 ?_
  refine lv_aload_n hx hb dX6_undoes_4 rfl (lv_at hl 1 rfl) ?_
  refine lv_iconst (v := (1 : Int32)) hx hb dX6_undoes_5 (by decide) ?_
  obtain ⟨x1, e9, hf⟩ := ob1_s hf
  refine g_iald hx hb hK (hB.perm (cX_view cyI cyA cyT wa ks ts kr ta sa ra K mT Ns ζ κ Φ Ψ h_kt)) (2 + js) 0 (cT_row cyI cyA (ta kt) (sa kt) (ra kt) (Ns kt) (Φ kt) (Ψ kt) _ h_js) rfl (rd_s e9) dX6_undoes_6 ?_
  obtain ⟨j2, e9, hf⟩ := ob1_s hf
  obtain ⟨h_j2, e9⟩ := hixn_s e9
  refine g_aald hx hb hK hB 1 1 rfl rfl e9 dX6_undoes_7 ?_
  refine lv_iconst (v := (0 : Int32)) hx hb dX6_undoes_8 (by decide) ?_
  refine lv_dup2_11 hx hb dX6_undoes_9 rfl rfl ?_
  obtain ⟨x3, e9, hf⟩ := ob1_s hf
  refine g_iald hx hb hK hB (3 + j2) 0 (cX_krow cyI cyA cyT wa ks ts kr ta sa ra K mT Ns ζ κ Φ Ψ h_j2) rfl (rd_s e9) dX6_undoes_10 ?_
  refine lv_aload_n hx hb dX6_undoes_11 rfl (lv_at hl 1 rfl) ?_
  refine lv_iconst (v := (2 : Int32)) hx hb dX6_undoes_12 (by decide) ?_
  obtain ⟨x4, e9, hf⟩ := ob1_s hf
  refine g_iald hx hb hK (hB.perm (cX_view cyI cyA cyT wa ks ts kr ta sa ra K mT Ns ζ κ Φ Ψ h_kt)) (2 + js) 0 (cT_row cyI cyA (ta kt) (sa kt) (ra kt) (Ns kt) (Φ kt) (Ψ kt) _ h_js) rfl (rd_s e9) dX6_undoes_13 ?_
  refine lv_iadd hx hb dX6_undoes_14 ?_
  obtain ⟨κ5, e9, hf⟩ := ob1_s hf
  obtain ⟨hi, e9⟩ := wra_s e9
  refine g_iast hx hb hK hB (3 + j2) 0 (cX_krow cyI cyA cyT wa ks ts kr ta sa ra K mT Ns ζ κ Φ Ψ h_j2) rfl hi rfl dX6_undoes_15 (w2 := (cX cyI cyA cyT wa ks ts kr ta sa ra K mT Ns ζ κ5 Φ Ψ)) (by rw [← e9]; exact cX_kset cyI cyA cyT wa ks ts kr ta sa ra K mT Ns ζ κ Φ Ψ h_j2 _) (fun H locs hB => ?_)
  refine lv_aload_n hx hb dX6_undoes_16 rfl (lv_at hl 1 rfl) ?_
  refine lv_iconst (v := (4 : Int32)) hx hb dX6_undoes_17 (by decide) ?_
  refine lv_iconst (v := (5 : Int32)) hx hb dX6_undoes_18 (by decide) ?_
  obtain ⟨ψ6, e9, hf⟩ := ob1_s hf
  obtain ⟨hi, e9⟩ := wra_s e9
  obtain ⟨Ψ7, e8, hf⟩ := ob1_s hf
  have e8 := inj1 e8
  refine g_iast hx hb hK (hB.perm (cX_view cyI cyA cyT wa ks ts kr ta sa ra K mT Ns ζ κ5 Φ Ψ h_kt)) (2 + js) 0 (cT_row cyI cyA (ta kt) (sa kt) (ra kt) (Ns kt) (Φ kt) (Ψ kt) _ h_js) rfl hi rfl dX6_undoes_19 (w2 := cT cyI cyA (ta kt) (sa kt) (ra kt) (Ns kt) (Φ kt) ψ6 ++ rX cyI cyA cyT wa ks ts kr ta sa ra K mT Ns ζ κ5 Φ Ψ kt) (by rw [← e9]; exact cT_set cyI cyA (ta kt) (sa kt) (ra kt) (Ns kt) (Φ kt) (Ψ kt) _ h_js _) (fun H locs hB => ?_)
  have hB := hB.perm (cX_backS cyI cyA cyT wa ks ts kr ta sa ra K mT Ns ζ κ5 Φ Ψ h_kt ψ6)
  rw [e8] at hB
  obtain ⟨e0, e1⟩ := inj2 hf
  subst e0
  subst e1
  exact g_vret hx hb hr hlocks hK hB dX6_undoes_20

abbrev rmX6_back : Room := { frames := 1, cells := 0, slots := 0, locals := 22 }

set_option maxHeartbeats 4000000 in
set_option maxRecDepth 100000 in
theorem kX6_back (l : Launch) (dC : Nat → ClassId) (dI : Nat → Nat → Nat) (cyI cyA cyT : ClassId) (wa ks ts : Nat) (kr ta sa : PA) (ra : Nat → PA) (sz : Nat) {fu : Nat} {K : Nat} {mT : Nat} {Ns : PA} {ζ : MS} {κ : MS} {Φ : WS} {Ψ : WS} {kt : Nat} {ζ_ : MS} {κ_ : MS} {Φ_ : WS} {Ψ_ : WS} (hf : mX6_back fu K mT Ns ζ κ Φ Ψ kt = some (ζ_, κ_, Φ_, Ψ_)) : Met l yX6_back wsX6_back rmX6_back (PcF (dC, dI) [(cyI, .int), (cyA, .array .int), (cyT, .object "UndoJourneysLaw$Trip")] (cX cyI cyA cyT wa ks ts kr ta sa ra K mT Ns ζ κ Φ Ψ) sz [.ref wa, .ref (ta kt)]) (QvF (dC, dI) [(cyI, .int), (cyA, .array .int), (cyT, .object "UndoJourneysLaw$Trip")] (cX cyI cyA cyT wa ks ts kr ta sa ra K mT Ns ζ κ Φ Ψ) (cX cyI cyA cyT wa ks ts kr ta sa ra K mT Ns ζ_ κ_ Φ_ Ψ_) sz) 0 0 (va_A (cX cyI cyA cyT wa ks ts kr ta sa ra K mT Ns ζ κ Φ Ψ) sz) := by
  refine Met.ofW (cc := cX6_back) (maxL := 3) (ret := none) (by decide) rfl ?_
  intro p e s m args below meth c s₁ B hml hv
  obtain ⟨rfl, hsz, hP, hK, hD0⟩ := hv
  have hx := B.exec
  have hb := B.bytes
  have hr := B.returns
  have hts := atoms_spec (ws := wsX6_back) B.pre
  have hown : s.vm.findClass RX6 = some m.cls := findClass_of_methodNamed B.named
  have hlocks := B.notSynchronized
  subst hsz
  have hA : ∀ q : Nat, s.heap.size ≤ q → va_A (cX cyI cyA cyT wa ks ts kr ta sa ra K mT Ns ζ κ Φ Ψ) s.heap.size q := fun q h => Or.inr h
  have hB : Bd (dC, dI) [(cyI, .int), (cyA, .array .int), (cyT, .object "UndoJourneysLaw$Trip")] (va_A (cX cyI cyA cyT wa ks ts kr ta sa ra K mT Ns ζ κ Φ Ψ) s.heap.size) s (cX cyI cyA cyT wa ks ts kr ta sa ra K mT Ns ζ κ Φ Ψ) s.heap [] := ⟨hP, hD0.self, va_S.rf⟩
  have hq1 : (Cond.fieldLink RX6 29 "UndoJourneysLaw$World" "time" "I").before _ s = true := hts _ (List.mem_of_getElem? (i := 1) rfl)
  have hq2 : (Cond.fieldLink RX6 54 "UndoJourneysLaw$Trip" "steps" "[[I").before _ s = true := hts _ (List.mem_of_getElem? (i := 2) rfl)
  have hq3 : (Cond.fieldLink RX6 90 "UndoJourneysLaw$Trip" "failed" "I").before _ s = true := hts _ (List.mem_of_getElem? (i := 3) rfl)
  have hq4 : (Cond.fieldLink RX6 32 "UndoJourneysLaw$World" "failures" "I").before _ s = true := hts _ (List.mem_of_getElem? (i := 4) rfl)
  have hq5 : (Cond.fieldLink RX6 13 "UndoJourneysLaw$World" "patience" "I").before _ s = true := hts _ (List.mem_of_getElem? (i := 5) rfl)
  have hinX5 : ∀ w ∈ wsX50, w ∈ wsX6_back := fun w h => List.mem_cons_of_mem _ (List.mem_append_right _ h)
  have hinX6 : ∀ w ∈ wsX60, w ∈ wsX6_back := fun w h => List.mem_cons_of_mem _ (List.mem_append_left _ (List.mem_append_right _ h))
  have hl := lv_entry [.ref wa, .ref (ta kt)] (n := 3) (Nat.le_of_ble_eq_true rfl)
  rw [lg_entry_eq]
  generalize (lg_sl [.ref wa, .ref (ta kt)] ++ List.replicate (3 - (lg_sl [.ref wa, .ref (ta kt)]).length) Slot.unset).toArray = ls at hl ⊢
  have hl : lv_has ls 3 [(0, .ref wa), (1, .ref (ta kt))] := hl
  clear hP hD0
  suffices main : ∀ (H : Heap) (locs : List Loc), Bd (dC, dI) [(cyI, .int), (cyA, .array .int), (cyT, .object "UndoJourneysLaw$Trip")] (va_A (cX cyI cyA cyT wa ks ts kr ta sa ra K mT Ns ζ κ Φ Ψ) s.heap.size) s (cX cyI cyA cyT wa ks ts kr ta sa ra K mT Ns ζ κ Φ Ψ) H locs → W p l e (headSpec wsX6_back rmX6_back).room s m ([.ref wa, .ref (ta kt)] : List Value).toArray below meth c H locs 0 0 (MQ below (QvF (dC, dI) [(cyI, .int), (cyA, .array .int), (cyT, .object "UndoJourneysLaw$Trip")] (cX cyI cyA cyT wa ks ts kr ta sa ra K mT Ns ζ κ Φ Ψ) (cX cyI cyA cyT wa ks ts kr ta sa ra K mT Ns ζ_ κ_ Φ_ Ψ_) s.heap.size) ([.ref wa, .ref (ta kt)] : List Value).toArray s 0 0 (va_A (cX cyI cyA cyT wa ks ts kr ta sa ra K mT Ns ζ κ Φ Ψ) s.heap.size)) (F0 m 0 ls []) from main _ _ hB
  clear hB
  intro H locs hB
  unfold mX6_back at hf
  obtain ⟨_, h_kt, hf⟩ := ob1_s hf
  have h_kt := gLt_s h_kt
  refine lv_aload_n hx hb dX6_back_0 rfl (lv_at hl 1 rfl) ?_
  obtain ⟨r1, hc, hf⟩ := ob1_s hf
  refine g_pcutVi (As := []) (rest := []) (w2 := (cX cyI cyA cyT wa ks ts kr ta sa ra K mT Ns ζ κ Φ Ψ)) ⟨hx, hb, hml, hown, hts⟩ (kX5_last l dC dI cyI cyA (ta kt) (sa kt) (ra kt) H.size hc) (cwV 0 hts gX6_back_X5_last rfl rfl rfl (by decide +kernel) ⟨Nat.le_of_ble_eq_true rfl, Nat.le_of_ble_eq_true rfl⟩) (hK.sub [0, 1] rfl) hB hA (g_recv (ci := 5) hK (hB.perm (cX_view cyI cyA cyT wa ks ts kr ta sa ra K mT Ns ζ κ Φ Ψ h_kt)) 0 rfl rfl rfl) (cX_view cyI cyA cyT wa ks ts kr ta sa ra K mT Ns ζ κ Φ Ψ h_kt) (cX_view cyI cyA cyT wa ks ts kr ta sa ra K mT Ns ζ κ Φ Ψ h_kt).symm rfl hl.1 rfl (Nat.le_of_ble_eq_true rfl) dX6_back_1 ⟨Nat.zero_le _, Nat.zero_le _⟩ (fun H locs hB => ?_)
  refine lv_if_ge (tgt := 17) hx hb dX6_back_4 (by decide) (fun c2 => ?_) (fun c2 => ?_)
  · have hf := ite_t c2 hf
    refine lv_aload_n hx hb dX6_back_17 rfl (lv_at hl 1 rfl) ?_
    refine g_get (C := RX5) (T := TX5) (N := 7) hx hb hts hinX5 hown hK (hB.perm (cX_view cyI cyA cyT wa ks ts kr ta sa ra K mT Ns ζ κ Φ Ψ h_kt)) 0 rfl rfl 6 rfl hq2 rfl rfl dX6_back_18 ?_
    refine lv_aload_n hx hb dX6_back_21 rfl (lv_at hl 1 rfl) ?_
    obtain ⟨r3, hc, hf⟩ := ob1_s hf
    refine g_pcutVi (As := []) (rest := [.ref (sa kt)]) (w2 := (cX cyI cyA cyT wa ks ts kr ta sa ra K mT Ns ζ κ Φ Ψ)) ⟨hx, hb, hml, hown, hts⟩ (kX5_last l dC dI cyI cyA (ta kt) (sa kt) (ra kt) H.size hc) (cwV 0 hts gX6_back_X5_last rfl rfl rfl (by decide +kernel) ⟨Nat.le_of_ble_eq_true rfl, Nat.le_of_ble_eq_true rfl⟩) (hK.sub [0, 1] rfl) hB hA (g_recv (ci := 5) hK (hB.perm (cX_view cyI cyA cyT wa ks ts kr ta sa ra K mT Ns ζ κ Φ Ψ h_kt)) 0 rfl rfl rfl) (cX_view cyI cyA cyT wa ks ts kr ta sa ra K mT Ns ζ κ Φ Ψ h_kt) (cX_view cyI cyA cyT wa ks ts kr ta sa ra K mT Ns ζ κ Φ Ψ h_kt).symm rfl hl.1 rfl (Nat.le_of_ble_eq_true rfl) dX6_back_22 ⟨Nat.zero_le _, Nat.zero_le _⟩ (fun H locs hB => ?_)
    obtain ⟨j4, e9, hf⟩ := ob1_s hf
    obtain ⟨h_j4, e9⟩ := hixn_s e9
    refine g_aald hx hb hK (hB.perm (cX_view cyI cyA cyT wa ks ts kr ta sa ra K mT Ns ζ κ Φ Ψ h_kt)) 1 1 rfl rfl e9 dX6_back_25 ?_
    refine lv_astore_n (lv' := [(2, .ref (ra kt j4)), (0, .ref wa), (1, .ref (ta kt))]) hx hb dX6_back_26 rfl hl (by decide) rfl (fun ls hl => ?_)
    refine lv_aload_n hx hb dX6_back_27 rfl (lv_at hl 0 rfl) ?_
    refine lv_iconst (v := (5 : Int32)) hx hb dX6_back_28 (by decide) ?_
    obtain ⟨x5, e9, hf⟩ := ob1_s hf
    refine g_iald hx hb hK (hB.perm (cX_view cyI cyA cyT wa ks ts kr ta sa ra K mT Ns ζ κ Φ Ψ h_kt)) (2 + j4) 0 (cT_row cyI cyA (ta kt) (sa kt) (ra kt) (Ns kt) (Φ kt) (Ψ kt) _ h_j4) rfl (rd_s e9) dX6_back_29 ?_
    refine lv_if_ne (tgt := 44) hx hb dX6_back_30 (by decide) (fun c6 => ?_) (fun c6 => ?_)
    · have hf := ite_f c6 hf
      refine lv_aload_n hx hb dX6_back_44 rfl (lv_at hl 0 rfl) ?_
      refine lv_iconst (v := (5 : Int32)) hx hb dX6_back_45 (by decide) ?_
      refine lv_dup2_11 hx hb dX6_back_46 rfl rfl ?_
      obtain ⟨x7, e9, hf⟩ := ob1_s hf
      refine g_iald hx hb hK (hB.perm (cX_view cyI cyA cyT wa ks ts kr ta sa ra K mT Ns ζ κ Φ Ψ h_kt)) (2 + j4) 0 (cT_row cyI cyA (ta kt) (sa kt) (ra kt) (Ns kt) (Φ kt) (Ψ kt) _ h_j4) rfl (rd_s e9) dX6_back_47 ?_
      refine lv_iconst (v := (1 : Int32)) hx hb dX6_back_48 (by decide) ?_
      refine lv_isub hx hb dX6_back_49 ?_
      obtain ⟨ψ8, e9, hf⟩ := ob1_s hf
      obtain ⟨hi, e9⟩ := wra_s e9
      obtain ⟨Ψ9, e8, hf⟩ := ob1_s hf
      have e8 := inj1 e8
      refine g_iast hx hb hK (hB.perm (cX_view cyI cyA cyT wa ks ts kr ta sa ra K mT Ns ζ κ Φ Ψ h_kt)) (2 + j4) 0 (cT_row cyI cyA (ta kt) (sa kt) (ra kt) (Ns kt) (Φ kt) (Ψ kt) _ h_j4) rfl hi rfl dX6_back_50 (w2 := cT cyI cyA (ta kt) (sa kt) (ra kt) (Ns kt) (Φ kt) ψ8 ++ rX cyI cyA cyT wa ks ts kr ta sa ra K mT Ns ζ κ Φ Ψ kt) (by rw [← e9]; exact cT_set cyI cyA (ta kt) (sa kt) (ra kt) (Ns kt) (Φ kt) (Ψ kt) _ h_j4 _) (fun H locs hB => ?_)
      have hB := hB.perm (cX_backS cyI cyA cyT wa ks ts kr ta sa ra K mT Ns ζ κ Φ Ψ h_kt ψ8)
      rw [e8] at hB
      refine lv_aload_n hx hb dX6_back_51 rfl (lv_at hl 1 rfl) ?_
      refine lv_dup hx hb dX6_back_52 rfl ?_
      refine g_get (C := RX6) (T := TX6) (N := 6) hx hb hts hinX6 hown hK hB 0 rfl rfl 3 rfl hq4 rfl rfl dX6_back_53 ?_
      refine lv_iconst (v := (1 : Int32)) hx hb dX6_back_56 (by decide) ?_
      refine lv_iadd hx hb dX6_back_57 ?_
      obtain ⟨ζ10, e9, hf⟩ := ob1_s hf
      have e9 := inj1 e9
      refine g_put (C := RX6) (T := TX6) (N := 6) hx hb hts hinX6 tyX6 tyX6_ok nmX6 hown hK hB 0 rfl rfl 3 rfl hq4 rfl rfl rfl rfl rfl rfl dX6_back_58 (w2 := (cX cyI cyA cyT wa ks ts kr ta sa ra K mT Ns ζ10 κ Φ Ψ9)) (by rw [← e9]; rfl) (fun H locs hB => ?_)
      refine lv_aload_n hx hb dX6_back_61 rfl (lv_at hl 2 rfl) ?_
      refine lv_dup hx hb dX6_back_62 rfl ?_
      refine g_get (C := RX5) (T := TX5) (N := 7) hx hb hts hinX5 hown hK (hB.perm (cX_view cyI cyA cyT wa ks ts kr ta sa ra K mT Ns ζ10 κ Φ Ψ9 h_kt)) 0 rfl rfl 5 rfl hq3 rfl rfl dX6_back_63 ?_
      refine lv_iconst (v := (1 : Int32)) hx hb dX6_back_66 (by decide) ?_
      refine lv_iadd hx hb dX6_back_67 ?_
      obtain ⟨φ11, e9, hf⟩ := ob1_s hf
      have e9 := inj1 e9
      obtain ⟨Φ12, e8, hf⟩ := ob1_s hf
      have e8 := inj1 e8
      refine g_put (C := RX5) (T := TX5) (N := 7) hx hb hts hinX5 tyX5 tyX5_ok nmX5 hown hK (hB.perm (cX_view cyI cyA cyT wa ks ts kr ta sa ra K mT Ns ζ10 κ Φ Ψ9 h_kt)) 0 rfl rfl 5 rfl hq3 rfl rfl rfl rfl rfl rfl dX6_back_68 (w2 := cT cyI cyA (ta kt) (sa kt) (ra kt) (Ns kt) φ11 (Ψ9 kt) ++ rX cyI cyA cyT wa ks ts kr ta sa ra K mT Ns ζ10 κ Φ Ψ9 kt) (by rw [← e9]; rfl) (fun H locs hB => ?_)
      have hB := hB.perm (cX_backF cyI cyA cyT wa ks ts kr ta sa ra K mT Ns ζ10 κ Φ Ψ9 h_kt φ11)
      rw [e8] at hB
      refine lv_aload_n hx hb dX6_back_71 rfl (lv_at hl 2 rfl) ?_
      refine g_get (C := RX5) (T := TX5) (N := 7) hx hb hts hinX5 hown hK (hB.perm (cX_view cyI cyA cyT wa ks ts kr ta sa ra K mT Ns ζ10 κ Φ12 Ψ9 h_kt)) 0 rfl rfl 5 rfl hq3 rfl rfl dX6_back_72 ?_
      refine lv_aload_n hx hb dX6_back_75 rfl (lv_at hl 1 rfl) ?_
      refine g_get (C := RX6) (T := TX6) (N := 6) hx hb hts hinX6 hown hK hB 0 rfl rfl 2 rfl hq5 rfl rfl dX6_back_76 ?_
      obtain ⟨Φ13, hJ14, hf⟩ := ob1_s hf
      have kJ15 : ∀ (H : Heap) (locs : List Loc) (ls : Array Slot), Bd (dC, dI) [(cyI, .int), (cyA, .array .int), (cyT, .object "UndoJourneysLaw$Trip")] (va_A (cX cyI cyA cyT wa ks ts kr ta sa ra K mT Ns ζ κ Φ Ψ) s.heap.size) s (cX cyI cyA cyT wa ks ts kr ta sa ra K mT Ns ζ10 κ Φ13 Ψ9) H locs → lv_has ls 3 [] → W p l e (headSpec wsX6_back rmX6_back).room s m ([.ref wa, .ref (ta kt)] : List Value).toArray below meth c H locs 0 0 (MQ below (QvF (dC, dI) [(cyI, .int), (cyA, .array .int), (cyT, .object "UndoJourneysLaw$Trip")] (cX cyI cyA cyT wa ks ts kr ta sa ra K mT Ns ζ κ Φ Ψ) (cX cyI cyA cyT wa ks ts kr ta sa ra K mT Ns ζ_ κ_ Φ_ Ψ_) s.heap.size) ([.ref wa, .ref (ta kt)] : List Value).toArray s 0 0 (va_A (cX cyI cyA cyT wa ks ts kr ta sa ra K mT Ns ζ κ Φ Ψ) s.heap.size)) (F0 m 91 ls []) := by
        intro H locs ls hB hl
        obtain ⟨e0, e1, e2, e3⟩ := inj4 hf
        subst e0
        subst e1
        subst e2
        subst e3
        exact g_vret hx hb hr hlocks hK hB dX6_back_91
      refine lv_icmp_lt (tgt := 91) hx hb dX6_back_79 (by decide) (fun c16 => ?_) (fun c16 => ?_)
      · have hJ14 := ite_t c16 hJ14
        have e0 := inj1 hJ14
        subst e0
        exact kJ15 _ _ _ hB (lv_sub hl [] rfl)
      · have hJ14 := ite_f c16 hJ14
        refine lv_aload_n hx hb dX6_back_82 rfl (lv_at hl 2 rfl) ?_
        refine lv_iconst (v := (5 : Int32)) hx hb dX6_back_83 (by decide) ?_
        refine lv_aload_n hx hb dX6_back_84 rfl (lv_at hl 1 rfl) ?_
        refine g_get (C := RX6) (T := TX6) (N := 6) hx hb hts hinX6 hown hK hB 0 rfl rfl 0 rfl hq1 rfl rfl dX6_back_85 ?_
        obtain ⟨φ17, hc, hJ14⟩ := ob1_s hJ14
        obtain ⟨Φ18, e9, hJ14⟩ := ob1_s hJ14
        have e9 := inj1 e9
        refine g_pcutVv (As := [.int (5 : Int32), .int (ζ10 0 0)]) (rest := []) (w2 := (cX cyI cyA cyT wa ks ts kr ta sa ra K mT Ns ζ10 κ Φ18 Ψ9)) ⟨hx, hb, hml, hown, hts⟩ (kX5_rests l dC dI cyI cyA (ta kt) (sa kt) (ra kt) H.size hc) (cwV 2 hts gX6_back_X5_rests rfl rfl rfl (by decide +kernel) ⟨Nat.le_of_ble_eq_true rfl, Nat.le_of_ble_eq_true rfl⟩) (hK.sub [0, 1] rfl) hB hA (g_recv (ci := 5) hK (hB.perm (cX_view cyI cyA cyT wa ks ts kr ta sa ra K mT Ns ζ10 κ Φ12 Ψ9 h_kt)) 0 rfl rfl rfl) (cX_view cyI cyA cyT wa ks ts kr ta sa ra K mT Ns ζ10 κ Φ12 Ψ9 h_kt) (by rw [← e9]; exact cX_backF cyI cyA cyT wa ks ts kr ta sa ra K mT Ns ζ10 κ Φ12 Ψ9 h_kt φ17) rfl hl.1 rfl (Nat.le_of_ble_eq_true rfl) dX6_back_88 ⟨Nat.zero_le _, Nat.zero_le _⟩ (fun H locs hB => ?_)
        have e0 := inj1 hJ14
        subst e0
        exact kJ15 _ _ _ hB (lv_sub hl [] rfl)
    · have hf := ite_t c6 hf
      refine lv_aload_n hx hb dX6_back_33 rfl (lv_at hl 1 rfl) ?_
      refine lv_aload_n hx hb dX6_back_34 rfl (lv_at hl 0 rfl) ?_
      obtain ⟨κ19, Ψ20, hc, hf⟩ := ob2_s hf
      refine g_callVv (As := [.ref (ra kt j4)]) (rest := []) ⟨hx, hb, hml, hown, hts⟩ (kX6_undoes l dC dI cyI cyA cyT wa ks ts kr ta sa ra H.size hc) (cwV 1 hts gX6_back_X6_undoes rfl rfl rfl (by decide +kernel) ⟨Nat.le_of_ble_eq_true rfl, Nat.le_of_ble_eq_true rfl⟩) hK hB hA (g_recv (ci := 6) hK hB 0 rfl rfl rfl) rfl hl.1 rfl (Nat.le_of_ble_eq_true rfl) dX6_back_35 ⟨Nat.zero_le _, Nat.zero_le _⟩ (fun H locs hB => ?_)
      refine lv_aload_n hx hb dX6_back_38 rfl (lv_at hl 2 rfl) ?_
      refine lv_iconst (v := (0 : Int32)) hx hb dX6_back_39 (by decide) ?_
      obtain ⟨φ21, e9, hf⟩ := ob1_s hf
      have e9 := inj1 e9
      obtain ⟨Φ22, e8, hf⟩ := ob1_s hf
      have e8 := inj1 e8
      refine g_put (C := RX5) (T := TX5) (N := 7) hx hb hts hinX5 tyX5 tyX5_ok nmX5 hown hK (hB.perm (cX_view cyI cyA cyT wa ks ts kr ta sa ra K mT Ns ζ κ19 Φ Ψ20 h_kt)) 0 rfl rfl 5 rfl hq3 rfl rfl rfl rfl rfl rfl dX6_back_40 (w2 := cT cyI cyA (ta kt) (sa kt) (ra kt) (Ns kt) φ21 (Ψ20 kt) ++ rX cyI cyA cyT wa ks ts kr ta sa ra K mT Ns ζ κ19 Φ Ψ20 kt) (by rw [← e9]; rfl) (fun H locs hB => ?_)
      have hB := hB.perm (cX_backF cyI cyA cyT wa ks ts kr ta sa ra K mT Ns ζ κ19 Φ Ψ20 h_kt φ21)
      rw [e8] at hB
      obtain ⟨e0, e1, e2, e3⟩ := inj4 hf
      subst e0
      subst e1
      subst e2
      subst e3
      exact g_vret hx hb hr hlocks hK hB dX6_back_43
  · have hf := ite_f c2 hf
    refine lv_aload_n hx hb dX6_back_7 rfl (lv_at hl 1 rfl) ?_
    refine lv_iconst (v := (4 : Int32)) hx hb dX6_back_8 (by decide) ?_
    refine lv_aload_n hx hb dX6_back_9 rfl (lv_at hl 0 rfl) ?_
    refine g_get (C := RX6) (T := TX6) (N := 6) hx hb hts hinX6 hown hK hB 0 rfl rfl 0 rfl hq1 rfl rfl dX6_back_10 ?_
    obtain ⟨φ23, hc, hf⟩ := ob1_s hf
    obtain ⟨Φ24, e9, hf⟩ := ob1_s hf
    have e9 := inj1 e9
    refine g_pcutVv (As := [.int (4 : Int32), .int (ζ 0 0)]) (rest := []) (w2 := (cX cyI cyA cyT wa ks ts kr ta sa ra K mT Ns ζ κ Φ24 Ψ)) ⟨hx, hb, hml, hown, hts⟩ (kX5_rests l dC dI cyI cyA (ta kt) (sa kt) (ra kt) H.size hc) (cwV 2 hts gX6_back_X5_rests rfl rfl rfl (by decide +kernel) ⟨Nat.le_of_ble_eq_true rfl, Nat.le_of_ble_eq_true rfl⟩) (hK.sub [0, 1] rfl) hB hA (g_recv (ci := 5) hK (hB.perm (cX_view cyI cyA cyT wa ks ts kr ta sa ra K mT Ns ζ κ Φ Ψ h_kt)) 0 rfl rfl rfl) (cX_view cyI cyA cyT wa ks ts kr ta sa ra K mT Ns ζ κ Φ Ψ h_kt) (by rw [← e9]; exact cX_backF cyI cyA cyT wa ks ts kr ta sa ra K mT Ns ζ κ Φ Ψ h_kt φ23) rfl hl.1 rfl (Nat.le_of_ble_eq_true rfl) dX6_back_13 ⟨Nat.zero_le _, Nat.zero_le _⟩ (fun H locs hB => ?_)
    obtain ⟨e0, e1, e2, e3⟩ := inj4 hf
    subst e0
    subst e1
    subst e2
    subst e3
    exact g_vret hx hb hr hlocks hK hB dX6_back_16

abbrev rmX6_count : Room := { frames := 0, cells := 0, slots := 0, locals := 0 }

set_option maxHeartbeats 4000000 in
set_option maxRecDepth 100000 in
theorem kX6_count (l : Launch) (dC : Nat → ClassId) (dI : Nat → Nat → Nat) (cyI cyA cyT : ClassId) (wa ks ts : Nat) (kr ta sa : PA) (ra : Nat → PA) (sz : Nat) {fu : Nat} {K : Nat} {mT : Nat} {Ns : PA} {ζ : MS} {κ : MS} {Φ : WS} {Ψ : WS} {i1 : Int32} {r : Int32} (hf : mX6_count fu K mT Ns ζ κ Φ Ψ i1 = some r) : Met l yX6_count wsX6_count rmX6_count (PcF (dC, dI) [(cyI, .int), (cyA, .array .int), (cyT, .object "UndoJourneysLaw$Trip")] (cX cyI cyA cyT wa ks ts kr ta sa ra K mT Ns ζ κ Φ Ψ) sz [.ref wa, .int i1]) (QiF (dC, dI) [(cyI, .int), (cyA, .array .int), (cyT, .object "UndoJourneysLaw$Trip")] (cX cyI cyA cyT wa ks ts kr ta sa ra K mT Ns ζ κ Φ Ψ) (cX cyI cyA cyT wa ks ts kr ta sa ra K mT Ns ζ κ Φ Ψ) sz r) 0 0 (va_A (cX cyI cyA cyT wa ks ts kr ta sa ra K mT Ns ζ κ Φ Ψ) sz) := by
  refine Met.ofW (cc := cX6_count) (maxL := 7) (ret := (some .int)) (by decide) rfl ?_
  intro p e s m args below meth c s₁ B hml hv
  obtain ⟨rfl, hsz, hP, hK, hD0⟩ := hv
  have hx := B.exec
  have hb := B.bytes
  have hr := B.returns
  have hts := atoms_spec (ws := wsX6_count) B.pre
  have hown : s.vm.findClass RX6 = some m.cls := findClass_of_methodNamed B.named
  have hlocks := B.notSynchronized
  subst hsz
  have hA : ∀ q : Nat, s.heap.size ≤ q → va_A (cX cyI cyA cyT wa ks ts kr ta sa ra K mT Ns ζ κ Φ Ψ) s.heap.size q := fun q h => Or.inr h
  have hB : Bd (dC, dI) [(cyI, .int), (cyA, .array .int), (cyT, .object "UndoJourneysLaw$Trip")] (va_A (cX cyI cyA cyT wa ks ts kr ta sa ra K mT Ns ζ κ Φ Ψ) s.heap.size) s (cX cyI cyA cyT wa ks ts kr ta sa ra K mT Ns ζ κ Φ Ψ) s.heap [] := ⟨hP, hD0.self, va_S.rf⟩
  have hq1 : (Cond.fieldLink RX6 24 "UndoJourneysLaw$World" "trips" "[LUndoJourneysLaw$Trip;").before _ s = true := hts _ (List.mem_of_getElem? (i := 1) rfl)
  have hq2 : (Cond.fieldLink RX6 93 "UndoJourneysLaw$Trip" "state" "I").before _ s = true := hts _ (List.mem_of_getElem? (i := 2) rfl)
  have hinX5 : ∀ w ∈ wsX50, w ∈ wsX6_count := fun w h => List.mem_cons_of_mem _ (List.mem_append_right _ h)
  have hinX6 : ∀ w ∈ wsX60, w ∈ wsX6_count := fun w h => List.mem_cons_of_mem _ (List.mem_append_left _ (List.mem_append_right _ h))
  have hl := lv_entry [.ref wa, .int i1] (n := 7) (Nat.le_of_ble_eq_true rfl)
  rw [lg_entry_eq]
  generalize (lg_sl [.ref wa, .int i1] ++ List.replicate (7 - (lg_sl [.ref wa, .int i1]).length) Slot.unset).toArray = ls at hl ⊢
  have hl : lv_has ls 7 [(0, .ref wa), (1, .int i1)] := hl
  clear hP hD0
  suffices main : ∀ (H : Heap) (locs : List Loc), Bd (dC, dI) [(cyI, .int), (cyA, .array .int), (cyT, .object "UndoJourneysLaw$Trip")] (va_A (cX cyI cyA cyT wa ks ts kr ta sa ra K mT Ns ζ κ Φ Ψ) s.heap.size) s (cX cyI cyA cyT wa ks ts kr ta sa ra K mT Ns ζ κ Φ Ψ) H locs → W p l e (headSpec wsX6_count rmX6_count).room s m ([.ref wa, .int i1] : List Value).toArray below meth c H locs 0 0 (MQ below (QiF (dC, dI) [(cyI, .int), (cyA, .array .int), (cyT, .object "UndoJourneysLaw$Trip")] (cX cyI cyA cyT wa ks ts kr ta sa ra K mT Ns ζ κ Φ Ψ) (cX cyI cyA cyT wa ks ts kr ta sa ra K mT Ns ζ κ Φ Ψ) s.heap.size r) ([.ref wa, .int i1] : List Value).toArray s 0 0 (va_A (cX cyI cyA cyT wa ks ts kr ta sa ra K mT Ns ζ κ Φ Ψ) s.heap.size)) (F0 m 0 ls []) from main _ _ hB
  clear hB
  intro H locs hB
  unfold mX6_count at hf
  refine lv_iconst (v := (0 : Int32)) hx hb dX6_count_0 (by decide) ?_
  refine lv_istore_n (lv' := [(2, .int (0 : Int32)), (0, .ref wa), (1, .int i1)]) hx hb dX6_count_1 rfl hl (by decide) rfl (fun ls hl => ?_)
  refine lv_aload_n hx hb dX6_count_2 rfl (lv_at hl 1 rfl) ?_
  refine g_get (C := RX6) (T := TX6) (N := 6) hx hb hts hinX6 hown hK hB 0 rfl rfl 5 rfl hq1 rfl rfl dX6_count_3 ?_
  refine lv_astore_n (lv' := [(3, .ref ts), (2, .int (0 : Int32)), (0, .ref wa), (1, .int i1)]) hx hb dX6_count_6 rfl hl (by decide) rfl (fun ls hl => ?_)
  refine lv_aload_n hx hb dX6_count_7 rfl (lv_at hl 0 rfl) ?_
  refine g_alen hx hb hK hB 2 2 rfl rfl (v := (nI mT)) rfl dX6_count_8 ?_
  refine lv_istore (lv' := [(4, .int (nI mT)), (3, .ref ts), (2, .int (0 : Int32)), (0, .ref wa), (1, .int i1)]) hx hb dX6_count_9 hl (by decide) rfl (fun ls hl => ?_)
  refine lv_iconst (v := (0 : Int32)) hx hb dX6_count_11 (by decide) ?_
  refine lv_istore (lv' := [(5, .int (0 : Int32)), (4, .int (nI mT)), (3, .ref ts), (2, .int (0 : Int32)), (0, .ref wa), (1, .int i1)]) hx hb dX6_count_12 hl (by decide) rfl (fun ls hl => ?_)
  obtain ⟨v15, hL18, hf⟩ := ob1_s hf
  have kE16 : ∀ (H : Heap) (locs : List Loc) (ls : Array Slot), Bd (dC, dI) [(cyI, .int), (cyA, .array .int), (cyT, .object "UndoJourneysLaw$Trip")] (va_A (cX cyI cyA cyT wa ks ts kr ta sa ra K mT Ns ζ κ Φ Ψ) s.heap.size) s (cX cyI cyA cyT wa ks ts kr ta sa ra K mT Ns ζ κ Φ Ψ) H locs → lv_has ls 7 [(2, .int v15)] → W p l e (headSpec wsX6_count rmX6_count).room s m ([.ref wa, .int i1] : List Value).toArray below meth c H locs 0 0 (MQ below (QiF (dC, dI) [(cyI, .int), (cyA, .array .int), (cyT, .object "UndoJourneysLaw$Trip")] (cX cyI cyA cyT wa ks ts kr ta sa ra K mT Ns ζ κ Φ Ψ) (cX cyI cyA cyT wa ks ts kr ta sa ra K mT Ns ζ κ Φ Ψ) s.heap.size r) ([.ref wa, .int i1] : List Value).toArray s 0 0 (va_A (cX cyI cyA cyT wa ks ts kr ta sa ra K mT Ns ζ κ Φ Ψ) s.heap.size)) (F0 m 45 ls []) := by
    intro H locs ls hB hl
    refine lv_iload_n hx hb dX6_count_45 rfl (lv_at hl 0 rfl) ?_
    have e0 := inj1 hf
    subst e0
    exact g_iret hx hb hr hlocks hK hB dX6_count_46
  have key17 : ∀ (n9 : Nat) (v21 : Int32) (v22 : Int32) (H : Heap) (locs : List Loc) (ls : Array Slot), loopM (fun st => mX6_count_L14 fu K mT Ns (nI mT) i1 ζ κ Φ Ψ st.1 st.2) n9 (v21, v22) = some v15 → Bd (dC, dI) [(cyI, .int), (cyA, .array .int), (cyT, .object "UndoJourneysLaw$Trip")] (va_A (cX cyI cyA cyT wa ks ts kr ta sa ra K mT Ns ζ κ Φ Ψ) s.heap.size) s (cX cyI cyA cyT wa ks ts kr ta sa ra K mT Ns ζ κ Φ Ψ) H locs → lv_has ls 7 [(5, .int v21), (4, .int (nI mT)), (3, .ref ts), (2, .int v22), (1, .int i1)] → W p l e (headSpec wsX6_count rmX6_count).room s m ([.ref wa, .int i1] : List Value).toArray below meth c H locs 0 0 (MQ below (QiF (dC, dI) [(cyI, .int), (cyA, .array .int), (cyT, .object "UndoJourneysLaw$Trip")] (cX cyI cyA cyT wa ks ts kr ta sa ra K mT Ns ζ κ Φ Ψ) (cX cyI cyA cyT wa ks ts kr ta sa ra K mT Ns ζ κ Φ Ψ) s.heap.size r) ([.ref wa, .int i1] : List Value).toArray s 0 0 (va_A (cX cyI cyA cyT wa ks ts kr ta sa ra K mT Ns ζ κ Φ Ψ) s.heap.size)) (F0 m 14 ls []) := by
    intro n9
    induction n9 with
    | zero => intro v21 v22 H locs ls hL18; exact (loopM_z hL18).elim
    | succ n9 ih9 =>
      intro v21 v22 H locs ls hL18 hB hl
      obtain ⟨o23, hg19, hL18⟩ := loopM_s hL18
      have hg19 : mX6_count_L14 fu K mT Ns (nI mT) i1 ζ κ Φ Ψ v21 v22 = some o23 := hg19
      unfold mX6_count_L14 at hg19
      refine lv_iload hx hb dX6_count_14 (lv_at hl 0 rfl) ?_
      refine lv_iload hx hb dX6_count_16 (lv_at hl 1 rfl) ?_
      refine lv_icmp_ge (tgt := 45) hx hb dX6_count_18 (by decide) (fun c24 => ?_) (fun c24 => ?_)
      · have hg19 := ite_t c24 hg19
        have hL18 := el1_l (inj1 hg19) hL18
        have e0 := inj1 hL18
        subst e0
        exact kE16 _ _ _ hB (lv_sub hl [3] rfl)
      · have hg19 := ite_f c24 hg19
        refine lv_aload_n hx hb dX6_count_21 rfl (lv_at hl 2 rfl) ?_
        refine lv_iload hx hb dX6_count_22 (lv_at hl 0 rfl) ?_
        obtain ⟨j25, e9, hg19⟩ := ob1_s hg19
        obtain ⟨h_j25, e9⟩ := hixn_s e9
        refine g_aaldq hx hb hK hB 2 2 rfl rfl e9 dX6_count_24 ?_
        refine lv_astore (lv' := [(6, .ref (ta j25)), (5, .int v21), (4, .int (nI mT)), (3, .ref ts), (2, .int v22), (1, .int i1)]) hx hb dX6_count_25 hl (by decide) rfl (fun ls hl => ?_)
        refine lv_aload hx hb dX6_count_27 (lv_at hl 0 rfl) ?_
        refine g_get (C := RX5) (T := TX5) (N := 7) hx hb hts hinX5 hown hK (hB.perm (cX_view cyI cyA cyT wa ks ts kr ta sa ra K mT Ns ζ κ Φ Ψ h_j25)) 0 rfl rfl 2 rfl hq2 rfl rfl dX6_count_29 ?_
        refine lv_iload_n hx hb dX6_count_32 rfl (lv_at hl 5 rfl) ?_
        obtain ⟨v26, hJ27, hg19⟩ := ob1_s hg19
        have kJ28 : ∀ (H : Heap) (locs : List Loc) (ls : Array Slot), Bd (dC, dI) [(cyI, .int), (cyA, .array .int), (cyT, .object "UndoJourneysLaw$Trip")] (va_A (cX cyI cyA cyT wa ks ts kr ta sa ra K mT Ns ζ κ Φ Ψ) s.heap.size) s (cX cyI cyA cyT wa ks ts kr ta sa ra K mT Ns ζ κ Φ Ψ) H locs → lv_has ls 7 [(5, .int v21), (4, .int (nI mT)), (3, .ref ts), (2, .int v26), (1, .int i1)] → W p l e (headSpec wsX6_count rmX6_count).room s m ([.ref wa, .int i1] : List Value).toArray below meth c H locs 0 0 (MQ below (QiF (dC, dI) [(cyI, .int), (cyA, .array .int), (cyT, .object "UndoJourneysLaw$Trip")] (cX cyI cyA cyT wa ks ts kr ta sa ra K mT Ns ζ κ Φ Ψ) (cX cyI cyA cyT wa ks ts kr ta sa ra K mT Ns ζ κ Φ Ψ) s.heap.size r) ([.ref wa, .int i1] : List Value).toArray s 0 0 (va_A (cX cyI cyA cyT wa ks ts kr ta sa ra K mT Ns ζ κ Φ Ψ) s.heap.size)) (F0 m 39 ls []) := by
          intro H locs ls hB hl
          refine lv_iinc (v := (v21 + (1 : Int32))) (lv' := [(5, .int (v21 + (1 : Int32))), (4, .int (nI mT)), (3, .ref ts), (2, .int v26), (1, .int i1)]) hx hb dX6_count_39 hl (k := 0) rfl rfl (by decide) rfl (fun ls hl => ?_)
          refine lv_goto (tgt := 14) hx hb dX6_count_42 (by decide) ?_
          have hL18 := el1_r (inj1 hg19) hL18
          exact ih9 _ _ _ _ _ hL18 hB (lv_sub hl [0, 1, 2, 3, 4] rfl)
        refine lv_icmp_ne (tgt := 39) hx hb dX6_count_33 (by decide) (fun c29 => ?_) (fun c29 => ?_)
        · have hJ27 := ite_f c29 hJ27
          have e0 := inj1 hJ27
          subst e0
          exact kJ28 _ _ _ hB (lv_sub hl [1, 2, 3, 4, 5] rfl)
        · have hJ27 := ite_t c29 hJ27
          refine lv_iinc (v := (v22 + (1 : Int32))) (lv' := [(2, .int (v22 + (1 : Int32))), (6, .ref (ta j25)), (5, .int v21), (4, .int (nI mT)), (3, .ref ts), (1, .int i1)]) hx hb dX6_count_36 hl (k := 4) rfl rfl (by decide) rfl (fun ls hl => ?_)
          have e0 := inj1 hJ27
          subst e0
          exact kJ28 _ _ _ hB (lv_sub hl [2, 3, 4, 0, 5] rfl)
  exact key17 fu _ _ _ _ _ hL18 hB (lv_sub hl [0, 1, 2, 3, 5] rfl)

abbrev rmX6_told : Room := { frames := 1, cells := 0, slots := 0, locals := 26 }

set_option maxHeartbeats 4000000 in
set_option maxRecDepth 100000 in
theorem kX6_told (l : Launch) (dC : Nat → ClassId) (dI : Nat → Nat → Nat) (cyI cyA cyT : ClassId) (wa ks ts : Nat) (kr ta sa : PA) (ra : Nat → PA) (sz : Nat) {fu : Nat} {K : Nat} {mT : Nat} {Ns : PA} {ζ : MS} {κ : MS} {Φ : WS} {Ψ : WS} {i1 : Int32} {r : Int32} (hf : mX6_told fu K mT Ns ζ κ Φ Ψ i1 = some r) : Met l yX6_told wsX6_told rmX6_told (PcF (dC, dI) [(cyI, .int), (cyA, .array .int), (cyT, .object "UndoJourneysLaw$Trip")] (cX cyI cyA cyT wa ks ts kr ta sa ra K mT Ns ζ κ Φ Ψ) sz [.ref wa, .int i1]) (QiF (dC, dI) [(cyI, .int), (cyA, .array .int), (cyT, .object "UndoJourneysLaw$Trip")] (cX cyI cyA cyT wa ks ts kr ta sa ra K mT Ns ζ κ Φ Ψ) (cX cyI cyA cyT wa ks ts kr ta sa ra K mT Ns ζ κ Φ Ψ) sz r) 0 0 (va_A (cX cyI cyA cyT wa ks ts kr ta sa ra K mT Ns ζ κ Φ Ψ) sz) := by
  refine Met.ofW (cc := cX6_told) (maxL := 7) (ret := (some .int)) (by decide) rfl ?_
  intro p e s m args below meth c s₁ B hml hv
  obtain ⟨rfl, hsz, hP, hK, hD0⟩ := hv
  have hx := B.exec
  have hb := B.bytes
  have hr := B.returns
  have hts := atoms_spec (ws := wsX6_told) B.pre
  have hown : s.vm.findClass RX6 = some m.cls := findClass_of_methodNamed B.named
  have hlocks := B.notSynchronized
  subst hsz
  have hA : ∀ q : Nat, s.heap.size ≤ q → va_A (cX cyI cyA cyT wa ks ts kr ta sa ra K mT Ns ζ κ Φ Ψ) s.heap.size q := fun q h => Or.inr h
  have hB : Bd (dC, dI) [(cyI, .int), (cyA, .array .int), (cyT, .object "UndoJourneysLaw$Trip")] (va_A (cX cyI cyA cyT wa ks ts kr ta sa ra K mT Ns ζ κ Φ Ψ) s.heap.size) s (cX cyI cyA cyT wa ks ts kr ta sa ra K mT Ns ζ κ Φ Ψ) s.heap [] := ⟨hP, hD0.self, va_S.rf⟩
  have hq1 : (Cond.fieldLink RX6 24 "UndoJourneysLaw$World" "trips" "[LUndoJourneysLaw$Trip;").before _ s = true := hts _ (List.mem_of_getElem? (i := 1) rfl)
  have hq2 : (Cond.fieldLink RX6 54 "UndoJourneysLaw$Trip" "steps" "[[I").before _ s = true := hts _ (List.mem_of_getElem? (i := 2) rfl)
  have hq3 : (Cond.fieldLink RX6 29 "UndoJourneysLaw$World" "time" "I").before _ s = true := hts _ (List.mem_of_getElem? (i := 3) rfl)
  have hq4 : (Cond.fieldLink RX6 18 "UndoJourneysLaw$World" "stocks" "[[I").before _ s = true := hts _ (List.mem_of_getElem? (i := 4) rfl)
  have hq5 : (Cond.fieldLink RX6 7 "UndoJourneysLaw$World" "wait" "I").before _ s = true := hts _ (List.mem_of_getElem? (i := 5) rfl)
  have hq6 : (Cond.fieldLink RX6 13 "UndoJourneysLaw$World" "patience" "I").before _ s = true := hts _ (List.mem_of_getElem? (i := 6) rfl)
  have hq7 : (Cond.fieldLink RX6 32 "UndoJourneysLaw$World" "failures" "I").before _ s = true := hts _ (List.mem_of_getElem? (i := 7) rfl)
  have hinX5 : ∀ w ∈ wsX50, w ∈ wsX6_told := fun w h => List.mem_cons_of_mem _ (List.mem_append_right _ h)
  have hinX6 : ∀ w ∈ wsX60, w ∈ wsX6_told := fun w h => List.mem_cons_of_mem _ (List.mem_append_left _ (List.mem_append_right _ h))
  have hl := lv_entry [.ref wa, .int i1] (n := 7) (Nat.le_of_ble_eq_true rfl)
  rw [lg_entry_eq]
  generalize (lg_sl [.ref wa, .int i1] ++ List.replicate (7 - (lg_sl [.ref wa, .int i1]).length) Slot.unset).toArray = ls at hl ⊢
  have hl : lv_has ls 7 [(0, .ref wa), (1, .int i1)] := hl
  clear hP hD0
  suffices main : ∀ (H : Heap) (locs : List Loc), Bd (dC, dI) [(cyI, .int), (cyA, .array .int), (cyT, .object "UndoJourneysLaw$Trip")] (va_A (cX cyI cyA cyT wa ks ts kr ta sa ra K mT Ns ζ κ Φ Ψ) s.heap.size) s (cX cyI cyA cyT wa ks ts kr ta sa ra K mT Ns ζ κ Φ Ψ) H locs → W p l e (headSpec wsX6_told rmX6_told).room s m ([.ref wa, .int i1] : List Value).toArray below meth c H locs 0 0 (MQ below (QiF (dC, dI) [(cyI, .int), (cyA, .array .int), (cyT, .object "UndoJourneysLaw$Trip")] (cX cyI cyA cyT wa ks ts kr ta sa ra K mT Ns ζ κ Φ Ψ) (cX cyI cyA cyT wa ks ts kr ta sa ra K mT Ns ζ κ Φ Ψ) s.heap.size r) ([.ref wa, .int i1] : List Value).toArray s 0 0 (va_A (cX cyI cyA cyT wa ks ts kr ta sa ra K mT Ns ζ κ Φ Ψ) s.heap.size)) (F0 m 0 ls []) from main _ _ hB
  clear hB
  intro H locs hB
  unfold mX6_told at hf
  refine lv_iconst (v := (0 : Int32)) hx hb dX6_told_0 (by decide) ?_
  refine lv_istore_n (lv' := [(2, .int (0 : Int32)), (0, .ref wa), (1, .int i1)]) hx hb dX6_told_1 rfl hl (by decide) rfl (fun ls hl => ?_)
  refine lv_aload_n hx hb dX6_told_2 rfl (lv_at hl 1 rfl) ?_
  refine g_get (C := RX6) (T := TX6) (N := 6) hx hb hts hinX6 hown hK hB 0 rfl rfl 5 rfl hq1 rfl rfl dX6_told_3 ?_
  refine lv_astore_n (lv' := [(3, .ref ts), (2, .int (0 : Int32)), (0, .ref wa), (1, .int i1)]) hx hb dX6_told_6 rfl hl (by decide) rfl (fun ls hl => ?_)
  refine lv_aload_n hx hb dX6_told_7 rfl (lv_at hl 0 rfl) ?_
  refine g_alen hx hb hK hB 2 2 rfl rfl (v := (nI mT)) rfl dX6_told_8 ?_
  refine lv_istore (lv' := [(4, .int (nI mT)), (3, .ref ts), (2, .int (0 : Int32)), (0, .ref wa), (1, .int i1)]) hx hb dX6_told_9 hl (by decide) rfl (fun ls hl => ?_)
  refine lv_iconst (v := (0 : Int32)) hx hb dX6_told_11 (by decide) ?_
  refine lv_istore (lv' := [(5, .int (0 : Int32)), (4, .int (nI mT)), (3, .ref ts), (2, .int (0 : Int32)), (0, .ref wa), (1, .int i1)]) hx hb dX6_told_12 hl (by decide) rfl (fun ls hl => ?_)
  obtain ⟨v11, hL14, hf⟩ := ob1_s hf
  have kE12 : ∀ (H : Heap) (locs : List Loc) (ls : Array Slot), Bd (dC, dI) [(cyI, .int), (cyA, .array .int), (cyT, .object "UndoJourneysLaw$Trip")] (va_A (cX cyI cyA cyT wa ks ts kr ta sa ra K mT Ns ζ κ Φ Ψ) s.heap.size) s (cX cyI cyA cyT wa ks ts kr ta sa ra K mT Ns ζ κ Φ Ψ) H locs → lv_has ls 7 [(2, .int v11), (0, .ref wa), (1, .int i1)] → W p l e (headSpec wsX6_told rmX6_told).room s m ([.ref wa, .int i1] : List Value).toArray below meth c H locs 0 0 (MQ below (QiF (dC, dI) [(cyI, .int), (cyA, .array .int), (cyT, .object "UndoJourneysLaw$Trip")] (cX cyI cyA cyT wa ks ts kr ta sa ra K mT Ns ζ κ Φ Ψ) (cX cyI cyA cyT wa ks ts kr ta sa ra K mT Ns ζ κ Φ Ψ) s.heap.size r) ([.ref wa, .int i1] : List Value).toArray s 0 0 (va_A (cX cyI cyA cyT wa ks ts kr ta sa ra K mT Ns ζ κ Φ Ψ) s.heap.size)) (F0 m 42 ls []) := by
    intro H locs ls hB hl
    refine lv_iload_n hx hb dX6_told_42 rfl (lv_at hl 2 rfl) ?_
    obtain ⟨v16, hJ17, hf⟩ := ob1_s hf
    have kJ18 : ∀ (H : Heap) (locs : List Loc) (ls : Array Slot), Bd (dC, dI) [(cyI, .int), (cyA, .array .int), (cyT, .object "UndoJourneysLaw$Trip")] (va_A (cX cyI cyA cyT wa ks ts kr ta sa ra K mT Ns ζ κ Φ Ψ) s.heap.size) s (cX cyI cyA cyT wa ks ts kr ta sa ra K mT Ns ζ κ Φ Ψ) H locs → lv_has ls 7 [] → W p l e (headSpec wsX6_told rmX6_told).room s m ([.ref wa, .int i1] : List Value).toArray below meth c H locs 0 0 (MQ below (QiF (dC, dI) [(cyI, .int), (cyA, .array .int), (cyT, .object "UndoJourneysLaw$Trip")] (cX cyI cyA cyT wa ks ts kr ta sa ra K mT Ns ζ κ Φ Ψ) (cX cyI cyA cyT wa ks ts kr ta sa ra K mT Ns ζ κ Φ Ψ) s.heap.size r) ([.ref wa, .int i1] : List Value).toArray s 0 0 (va_A (cX cyI cyA cyT wa ks ts kr ta sa ra K mT Ns ζ κ Φ Ψ) s.heap.size)) (F0 m 132 ls [.int v16]) := by
      intro H locs ls hB hl
      have e0 := inj1 hf
      subst e0
      exact g_iret hx hb hr hlocks hK hB dX6_told_132
    refine lv_if_ne (tgt := 53) hx hb dX6_told_43 (by decide) (fun c19 => ?_) (fun c19 => ?_)
    · have hJ17 := ite_f c19 hJ17
      refine lv_iload_n hx hb dX6_told_53 rfl (lv_at hl 2 rfl) ?_
      refine lv_iconst (v := (1 : Int32)) hx hb dX6_told_54 (by decide) ?_
      refine lv_icmp_ne (tgt := 66) hx hb dX6_told_55 (by decide) (fun c20 => ?_) (fun c20 => ?_)
      · have hJ17 := ite_f c20 hJ17
        refine lv_iload_n hx hb dX6_told_66 rfl (lv_at hl 2 rfl) ?_
        refine lv_iconst (v := (2 : Int32)) hx hb dX6_told_67 (by decide) ?_
        refine lv_icmp_ne (tgt := 79) hx hb dX6_told_68 (by decide) (fun c21 => ?_) (fun c21 => ?_)
        · have hJ17 := ite_f c21 hJ17
          refine lv_iload_n hx hb dX6_told_79 rfl (lv_at hl 2 rfl) ?_
          refine lv_iconst (v := (3 : Int32)) hx hb dX6_told_80 (by decide) ?_
          refine lv_icmp_ne (tgt := 88) hx hb dX6_told_81 (by decide) (fun c22 => ?_) (fun c22 => ?_)
          · have hJ17 := ite_f c22 hJ17
            refine lv_iload_n hx hb dX6_told_88 rfl (lv_at hl 2 rfl) ?_
            refine lv_iconst (v := (4 : Int32)) hx hb dX6_told_89 (by decide) ?_
            refine lv_icmp_ne (tgt := 100) hx hb dX6_told_90 (by decide) (fun c23 => ?_) (fun c23 => ?_)
            · have hJ17 := ite_f c23 hJ17
              refine lv_iload_n hx hb dX6_told_100 rfl (lv_at hl 2 rfl) ?_
              refine lv_iconst (v := (5 : Int32)) hx hb dX6_told_101 (by decide) ?_
              refine lv_icmp_ne (tgt := 112) hx hb dX6_told_102 (by decide) (fun c24 => ?_) (fun c24 => ?_)
              · have hJ17 := ite_f c24 hJ17
                refine lv_iload_n hx hb dX6_told_112 rfl (lv_at hl 2 rfl) ?_
                refine lv_bipush (v := (9 : Int32)) hx hb dX6_told_113 (by decide) ?_
                refine lv_icmp_ge (tgt := 128) hx hb dX6_told_115 (by decide) (fun c25 => ?_) (fun c25 => ?_)
                · have hJ17 := ite_t c25 hJ17
                  refine lv_aload_n hx hb dX6_told_128 rfl (lv_at hl 1 rfl) ?_
                  refine g_get (C := RX6) (T := TX6) (N := 6) hx hb hts hinX6 hown hK hB 0 rfl rfl 3 rfl hq7 rfl rfl dX6_told_129 ?_
                  have e0 := inj1 hJ17
                  subst e0
                  exact kJ18 _ _ _ hB (lv_sub hl [] rfl)
                · have hJ17 := ite_f c25 hJ17
                  refine lv_aload_n hx hb dX6_told_118 rfl (lv_at hl 1 rfl) ?_
                  refine lv_iload_n hx hb dX6_told_119 rfl (lv_at hl 2 rfl) ?_
                  refine lv_iconst (v := (3 : Int32)) hx hb dX6_told_120 (by decide) ?_
                  refine lv_isub hx hb dX6_told_121 ?_
                  obtain ⟨r26, hc, hJ17⟩ := ob1_s hJ17
                  refine g_callVi (As := [.int (i1 - (3 : Int32))]) (rest := []) ⟨hx, hb, hml, hown, hts⟩ (kX6_count l dC dI cyI cyA cyT wa ks ts kr ta sa ra H.size hc) (cwV 1 hts gX6_told_X6_count rfl rfl rfl (by decide +kernel) ⟨Nat.le_of_ble_eq_true rfl, Nat.le_of_ble_eq_true rfl⟩) hK hB hA (g_recv (ci := 6) hK hB 0 rfl rfl rfl) rfl hl.1 rfl (Nat.le_of_ble_eq_true rfl) dX6_told_122 ⟨Nat.zero_le _, Nat.zero_le _⟩ (fun H locs hB => ?_)
                  refine lv_goto (tgt := 132) hx hb dX6_told_125 (by decide) ?_
                  have e0 := inj1 hJ17
                  subst e0
                  exact kJ18 _ _ _ hB (lv_sub hl [] rfl)
              · have hJ17 := ite_t c24 hJ17
                refine lv_aload_n hx hb dX6_told_105 rfl (lv_at hl 1 rfl) ?_
                refine g_get (C := RX6) (T := TX6) (N := 6) hx hb hts hinX6 hown hK hB 0 rfl rfl 2 rfl hq6 rfl rfl dX6_told_106 ?_
                refine lv_goto (tgt := 132) hx hb dX6_told_109 (by decide) ?_
                have e0 := inj1 hJ17
                subst e0
                exact kJ18 _ _ _ hB (lv_sub hl [] rfl)
            · have hJ17 := ite_t c23 hJ17
              refine lv_aload_n hx hb dX6_told_93 rfl (lv_at hl 1 rfl) ?_
              refine g_get (C := RX6) (T := TX6) (N := 6) hx hb hts hinX6 hown hK hB 0 rfl rfl 1 rfl hq5 rfl rfl dX6_told_94 ?_
              refine lv_goto (tgt := 132) hx hb dX6_told_97 (by decide) ?_
              have e0 := inj1 hJ17
              subst e0
              exact kJ18 _ _ _ hB (lv_sub hl [] rfl)
          · have hJ17 := ite_t c22 hJ17
            refine lv_iload_n hx hb dX6_told_84 rfl (lv_at hl 0 rfl) ?_
            refine lv_goto (tgt := 132) hx hb dX6_told_85 (by decide) ?_
            have e0 := inj1 hJ17
            subst e0
            exact kJ18 _ _ _ hB (lv_sub hl [] rfl)
        · have hJ17 := ite_t c21 hJ17
          refine lv_aload_n hx hb dX6_told_71 rfl (lv_at hl 1 rfl) ?_
          refine g_get (C := RX6) (T := TX6) (N := 6) hx hb hts hinX6 hown hK hB 0 rfl rfl 5 rfl hq1 rfl rfl dX6_told_72 ?_
          refine g_alen hx hb hK hB 2 2 rfl rfl (v := (nI mT)) rfl dX6_told_75 ?_
          refine lv_goto (tgt := 132) hx hb dX6_told_76 (by decide) ?_
          have e0 := inj1 hJ17
          subst e0
          exact kJ18 _ _ _ hB (lv_sub hl [] rfl)
      · have hJ17 := ite_t c20 hJ17
        refine lv_aload_n hx hb dX6_told_58 rfl (lv_at hl 1 rfl) ?_
        refine g_get (C := RX6) (T := TX6) (N := 6) hx hb hts hinX6 hown hK hB 0 rfl rfl 4 rfl hq4 rfl rfl dX6_told_59 ?_
        refine g_alen hx hb hK hB 1 1 rfl rfl (v := (nI K)) rfl dX6_told_62 ?_
        refine lv_goto (tgt := 132) hx hb dX6_told_63 (by decide) ?_
        have e0 := inj1 hJ17
        subst e0
        exact kJ18 _ _ _ hB (lv_sub hl [] rfl)
    · have hJ17 := ite_t c19 hJ17
      refine lv_aload_n hx hb dX6_told_46 rfl (lv_at hl 1 rfl) ?_
      refine g_get (C := RX6) (T := TX6) (N := 6) hx hb hts hinX6 hown hK hB 0 rfl rfl 0 rfl hq3 rfl rfl dX6_told_47 ?_
      refine lv_goto (tgt := 132) hx hb dX6_told_50 (by decide) ?_
      have e0 := inj1 hJ17
      subst e0
      exact kJ18 _ _ _ hB (lv_sub hl [] rfl)
  have key13 : ∀ (n9 : Nat) (v28 : Int32) (v29 : Int32) (H : Heap) (locs : List Loc) (ls : Array Slot), loopM (fun st => mX6_told_L14 fu K mT Ns (nI mT) i1 ζ κ Φ Ψ st.1 st.2) n9 (v28, v29) = some v11 → Bd (dC, dI) [(cyI, .int), (cyA, .array .int), (cyT, .object "UndoJourneysLaw$Trip")] (va_A (cX cyI cyA cyT wa ks ts kr ta sa ra K mT Ns ζ κ Φ Ψ) s.heap.size) s (cX cyI cyA cyT wa ks ts kr ta sa ra K mT Ns ζ κ Φ Ψ) H locs → lv_has ls 7 [(5, .int v28), (4, .int (nI mT)), (3, .ref ts), (2, .int v29), (0, .ref wa), (1, .int i1)] → W p l e (headSpec wsX6_told rmX6_told).room s m ([.ref wa, .int i1] : List Value).toArray below meth c H locs 0 0 (MQ below (QiF (dC, dI) [(cyI, .int), (cyA, .array .int), (cyT, .object "UndoJourneysLaw$Trip")] (cX cyI cyA cyT wa ks ts kr ta sa ra K mT Ns ζ κ Φ Ψ) (cX cyI cyA cyT wa ks ts kr ta sa ra K mT Ns ζ κ Φ Ψ) s.heap.size r) ([.ref wa, .int i1] : List Value).toArray s 0 0 (va_A (cX cyI cyA cyT wa ks ts kr ta sa ra K mT Ns ζ κ Φ Ψ) s.heap.size)) (F0 m 14 ls []) := by
    intro n9
    induction n9 with
    | zero => intro v28 v29 H locs ls hL14; exact (loopM_z hL14).elim
    | succ n9 ih9 =>
      intro v28 v29 H locs ls hL14 hB hl
      obtain ⟨o30, hg15, hL14⟩ := loopM_s hL14
      have hg15 : mX6_told_L14 fu K mT Ns (nI mT) i1 ζ κ Φ Ψ v28 v29 = some o30 := hg15
      unfold mX6_told_L14 at hg15
      refine lv_iload hx hb dX6_told_14 (lv_at hl 0 rfl) ?_
      refine lv_iload hx hb dX6_told_16 (lv_at hl 1 rfl) ?_
      refine lv_icmp_ge (tgt := 42) hx hb dX6_told_18 (by decide) (fun c31 => ?_) (fun c31 => ?_)
      · have hg15 := ite_t c31 hg15
        have hL14 := el1_l (inj1 hg15) hL14
        have e0 := inj1 hL14
        subst e0
        exact kE12 _ _ _ hB (lv_sub hl [3, 4, 5] rfl)
      · have hg15 := ite_f c31 hg15
        refine lv_aload_n hx hb dX6_told_21 rfl (lv_at hl 2 rfl) ?_
        refine lv_iload hx hb dX6_told_22 (lv_at hl 0 rfl) ?_
        obtain ⟨j32, e9, hg15⟩ := ob1_s hg15
        obtain ⟨h_j32, e9⟩ := hixn_s e9
        refine g_aaldq hx hb hK hB 2 2 rfl rfl e9 dX6_told_24 ?_
        refine lv_astore (lv' := [(6, .ref (ta j32)), (5, .int v28), (4, .int (nI mT)), (3, .ref ts), (2, .int v29), (0, .ref wa), (1, .int i1)]) hx hb dX6_told_25 hl (by decide) rfl (fun ls hl => ?_)
        refine lv_iload_n hx hb dX6_told_27 rfl (lv_at hl 4 rfl) ?_
        refine lv_aload hx hb dX6_told_28 (lv_at hl 0 rfl) ?_
        refine g_get (C := RX5) (T := TX5) (N := 7) hx hb hts hinX5 hown hK (hB.perm (cX_view cyI cyA cyT wa ks ts kr ta sa ra K mT Ns ζ κ Φ Ψ h_j32)) 0 rfl rfl 6 rfl hq2 rfl rfl dX6_told_30 ?_
        refine g_alen hx hb hK (hB.perm (cX_view cyI cyA cyT wa ks ts kr ta sa ra K mT Ns ζ κ Φ Ψ h_j32)) 1 1 rfl rfl (v := (nI (Ns j32))) rfl dX6_told_33 ?_
        refine lv_iadd hx hb dX6_told_34 ?_
        refine lv_istore_n (lv' := [(2, .int (v29 + (nI (Ns j32)))), (6, .ref (ta j32)), (5, .int v28), (4, .int (nI mT)), (3, .ref ts), (0, .ref wa), (1, .int i1)]) hx hb dX6_told_35 rfl hl (by decide) rfl (fun ls hl => ?_)
        refine lv_iinc (v := (v28 + (1 : Int32))) (lv' := [(5, .int (v28 + (1 : Int32))), (2, .int (v29 + (nI (Ns j32)))), (6, .ref (ta j32)), (4, .int (nI mT)), (3, .ref ts), (0, .ref wa), (1, .int i1)]) hx hb dX6_told_36 hl (k := 2) rfl rfl (by decide) rfl (fun ls hl => ?_)
        refine lv_goto (tgt := 14) hx hb dX6_told_39 (by decide) ?_
        have hL14 := el1_r (inj1 hg15) hL14
        exact ih9 _ _ _ _ _ hL14 hB (lv_sub hl [0, 3, 4, 1, 5, 6] rfl)
  exact key13 fu _ _ _ _ _ hL14 hB (lv_sub hl [0, 1, 2, 3, 4, 5] rfl)

abbrev rmX6_ofStock : Room := { frames := 3, cells := 0, slots := 0, locals := 72 }

set_option maxHeartbeats 4000000 in
set_option maxRecDepth 100000 in
theorem kX6_ofStock (l : Launch) (dC : Nat → ClassId) (dI : Nat → Nat → Nat) (cyI cyA cyT : ClassId) (wa ks ts : Nat) (kr ta sa : PA) (ra : Nat → PA) (sz : Nat) {fu : Nat} {K : Nat} {mT : Nat} {Ns : PA} {ζ : MS} {κ : MS} {Φ : WS} {Ψ : WS} {i1 : Int32} {i2 : Int32} {r : Int32} (hf : mX6_ofStock fu K mT Ns ζ κ Φ Ψ i1 i2 = some r) : Met l yX6_ofStock wsX6_ofStock rmX6_ofStock (PcF (dC, dI) [(cyI, .int), (cyA, .array .int), (cyT, .object "UndoJourneysLaw$Trip")] (cX cyI cyA cyT wa ks ts kr ta sa ra K mT Ns ζ κ Φ Ψ) sz [.ref wa, .int i1, .int i2]) (QiF (dC, dI) [(cyI, .int), (cyA, .array .int), (cyT, .object "UndoJourneysLaw$Trip")] (cX cyI cyA cyT wa ks ts kr ta sa ra K mT Ns ζ κ Φ Ψ) (cX cyI cyA cyT wa ks ts kr ta sa ra K mT Ns ζ κ Φ Ψ) sz r) 0 0 (va_A (cX cyI cyA cyT wa ks ts kr ta sa ra K mT Ns ζ κ Φ Ψ) sz) := by
  refine Met.ofW (cc := cX6_ofStock) (maxL := 13) (ret := (some .int)) (by decide) rfl ?_
  intro p e s m args below meth c s₁ B hml hv
  obtain ⟨rfl, hsz, hP, hK, hD0⟩ := hv
  have hx := B.exec
  have hb := B.bytes
  have hr := B.returns
  have hts := atoms_spec (ws := wsX6_ofStock) B.pre
  have hown : s.vm.findClass RX6 = some m.cls := findClass_of_methodNamed B.named
  have hlocks := B.notSynchronized
  subst hsz
  have hA : ∀ q : Nat, s.heap.size ≤ q → va_A (cX cyI cyA cyT wa ks ts kr ta sa ra K mT Ns ζ κ Φ Ψ) s.heap.size q := fun q h => Or.inr h
  have hB : Bd (dC, dI) [(cyI, .int), (cyA, .array .int), (cyT, .object "UndoJourneysLaw$Trip")] (va_A (cX cyI cyA cyT wa ks ts kr ta sa ra K mT Ns ζ κ Φ Ψ) s.heap.size) s (cX cyI cyA cyT wa ks ts kr ta sa ra K mT Ns ζ κ Φ Ψ) s.heap [] := ⟨hP, hD0.self, va_S.rf⟩
  have hq1 : (Cond.fieldLink RX6 24 "UndoJourneysLaw$World" "trips" "[LUndoJourneysLaw$Trip;").before _ s = true := hts _ (List.mem_of_getElem? (i := 1) rfl)
  have hq2 : (Cond.fieldLink RX6 54 "UndoJourneysLaw$Trip" "steps" "[[I").before _ s = true := hts _ (List.mem_of_getElem? (i := 2) rfl)
  have hq3 : (Cond.fieldLink RX6 93 "UndoJourneysLaw$Trip" "state" "I").before _ s = true := hts _ (List.mem_of_getElem? (i := 3) rfl)
  have hq4 : (Cond.fieldLink RX6 18 "UndoJourneysLaw$World" "stocks" "[[I").before _ s = true := hts _ (List.mem_of_getElem? (i := 4) rfl)
  have hinX5 : ∀ w ∈ wsX50, w ∈ wsX6_ofStock := fun w h => List.mem_cons_of_mem _ (List.mem_append_right _ h)
  have hinX6 : ∀ w ∈ wsX60, w ∈ wsX6_ofStock := fun w h => List.mem_cons_of_mem _ (List.mem_append_left _ (List.mem_append_right _ h))
  have hl := lv_entry [.ref wa, .int i1, .int i2] (n := 13) (Nat.le_of_ble_eq_true rfl)
  rw [lg_entry_eq]
  generalize (lg_sl [.ref wa, .int i1, .int i2] ++ List.replicate (13 - (lg_sl [.ref wa, .int i1, .int i2]).length) Slot.unset).toArray = ls at hl ⊢
  have hl : lv_has ls 13 [(0, .ref wa), (1, .int i1), (2, .int i2)] := hl
  clear hP hD0
  suffices main : ∀ (H : Heap) (locs : List Loc), Bd (dC, dI) [(cyI, .int), (cyA, .array .int), (cyT, .object "UndoJourneysLaw$Trip")] (va_A (cX cyI cyA cyT wa ks ts kr ta sa ra K mT Ns ζ κ Φ Ψ) s.heap.size) s (cX cyI cyA cyT wa ks ts kr ta sa ra K mT Ns ζ κ Φ Ψ) H locs → W p l e (headSpec wsX6_ofStock rmX6_ofStock).room s m ([.ref wa, .int i1, .int i2] : List Value).toArray below meth c H locs 0 0 (MQ below (QiF (dC, dI) [(cyI, .int), (cyA, .array .int), (cyT, .object "UndoJourneysLaw$Trip")] (cX cyI cyA cyT wa ks ts kr ta sa ra K mT Ns ζ κ Φ Ψ) (cX cyI cyA cyT wa ks ts kr ta sa ra K mT Ns ζ κ Φ Ψ) s.heap.size r) ([.ref wa, .int i1, .int i2] : List Value).toArray s 0 0 (va_A (cX cyI cyA cyT wa ks ts kr ta sa ra K mT Ns ζ κ Φ Ψ) s.heap.size)) (F0 m 0 ls []) from main _ _ hB
  clear hB
  intro H locs hB
  unfold mX6_ofStock at hf
  refine lv_iconst (v := (0 : Int32)) hx hb dX6_ofStock_0 (by decide) ?_
  refine lv_istore_n (lv' := [(3, .int (0 : Int32)), (0, .ref wa), (1, .int i1), (2, .int i2)]) hx hb dX6_ofStock_1 rfl hl (by decide) rfl (fun ls hl => ?_)
  refine lv_aload_n hx hb dX6_ofStock_2 rfl (lv_at hl 1 rfl) ?_
  refine g_get (C := RX6) (T := TX6) (N := 6) hx hb hts hinX6 hown hK hB 0 rfl rfl 5 rfl hq1 rfl rfl dX6_ofStock_3 ?_
  refine lv_astore (lv' := [(4, .ref ts), (3, .int (0 : Int32)), (0, .ref wa), (1, .int i1), (2, .int i2)]) hx hb dX6_ofStock_6 hl (by decide) rfl (fun ls hl => ?_)
  refine lv_aload hx hb dX6_ofStock_8 (lv_at hl 0 rfl) ?_
  refine g_alen hx hb hK hB 2 2 rfl rfl (v := (nI mT)) rfl dX6_ofStock_10 ?_
  refine lv_istore (lv' := [(5, .int (nI mT)), (4, .ref ts), (3, .int (0 : Int32)), (0, .ref wa), (1, .int i1), (2, .int i2)]) hx hb dX6_ofStock_11 hl (by decide) rfl (fun ls hl => ?_)
  refine lv_iconst (v := (0 : Int32)) hx hb dX6_ofStock_13 (by decide) ?_
  refine lv_istore (lv' := [(6, .int (0 : Int32)), (5, .int (nI mT)), (4, .ref ts), (3, .int (0 : Int32)), (0, .ref wa), (1, .int i1), (2, .int i2)]) hx hb dX6_ofStock_14 hl (by decide) rfl (fun ls hl => ?_)
  obtain ⟨v101, hL104, hf⟩ := ob1_s hf
  have kE102 : ∀ (H : Heap) (locs : List Loc) (ls : Array Slot), Bd (dC, dI) [(cyI, .int), (cyA, .array .int), (cyT, .object "UndoJourneysLaw$Trip")] (va_A (cX cyI cyA cyT wa ks ts kr ta sa ra K mT Ns ζ κ Φ Ψ) s.heap.size) s (cX cyI cyA cyT wa ks ts kr ta sa ra K mT Ns ζ κ Φ Ψ) H locs → lv_has ls 13 [(3, .int v101), (0, .ref wa), (1, .int i1), (2, .int i2)] → W p l e (headSpec wsX6_ofStock rmX6_ofStock).room s m ([.ref wa, .int i1, .int i2] : List Value).toArray below meth c H locs 0 0 (MQ below (QiF (dC, dI) [(cyI, .int), (cyA, .array .int), (cyT, .object "UndoJourneysLaw$Trip")] (cX cyI cyA cyT wa ks ts kr ta sa ra K mT Ns ζ κ Φ Ψ) (cX cyI cyA cyT wa ks ts kr ta sa ra K mT Ns ζ κ Φ Ψ) s.heap.size r) ([.ref wa, .int i1, .int i2] : List Value).toArray s 0 0 (va_A (cX cyI cyA cyT wa ks ts kr ta sa ra K mT Ns ζ κ Φ Ψ) s.heap.size)) (F0 m 161 ls []) := by
    intro H locs ls hB hl
    refine lv_iload_n hx hb dX6_ofStock_161 rfl (lv_at hl 3 rfl) ?_
    refine lv_iconst (v := (2 : Int32)) hx hb dX6_ofStock_162 (by decide) ?_
    obtain ⟨v106, hJ107, hf⟩ := ob1_s hf
    have kJ108 : ∀ (H : Heap) (locs : List Loc) (ls : Array Slot), Bd (dC, dI) [(cyI, .int), (cyA, .array .int), (cyT, .object "UndoJourneysLaw$Trip")] (va_A (cX cyI cyA cyT wa ks ts kr ta sa ra K mT Ns ζ κ Φ Ψ) s.heap.size) s (cX cyI cyA cyT wa ks ts kr ta sa ra K mT Ns ζ κ Φ Ψ) H locs → lv_has ls 13 [] → W p l e (headSpec wsX6_ofStock rmX6_ofStock).room s m ([.ref wa, .int i1, .int i2] : List Value).toArray below meth c H locs 0 0 (MQ below (QiF (dC, dI) [(cyI, .int), (cyA, .array .int), (cyT, .object "UndoJourneysLaw$Trip")] (cX cyI cyA cyT wa ks ts kr ta sa ra K mT Ns ζ κ Φ Ψ) (cX cyI cyA cyT wa ks ts kr ta sa ra K mT Ns ζ κ Φ Ψ) s.heap.size r) ([.ref wa, .int i1, .int i2] : List Value).toArray s 0 0 (va_A (cX cyI cyA cyT wa ks ts kr ta sa ra K mT Ns ζ κ Φ Ψ) s.heap.size)) (F0 m 191 ls [.int v106]) := by
      intro H locs ls hB hl
      have e0 := inj1 hf
      subst e0
      exact g_iret hx hb hr hlocks hK hB dX6_ofStock_191
    refine lv_icmp_ge (tgt := 177) hx hb dX6_ofStock_163 (by decide) (fun c109 => ?_) (fun c109 => ?_)
    · have hJ107 := ite_t c109 hJ107
      refine lv_iload_n hx hb dX6_ofStock_177 rfl (lv_at hl 3 rfl) ?_
      refine lv_iconst (v := (2 : Int32)) hx hb dX6_ofStock_178 (by decide) ?_
      refine lv_icmp_ne (tgt := 190) hx hb dX6_ofStock_179 (by decide) (fun c110 => ?_) (fun c110 => ?_)
      · have hJ107 := ite_f c110 hJ107
        refine lv_iload_n hx hb dX6_ofStock_190 rfl (lv_at hl 0 rfl) ?_
        have e0 := inj1 hJ107
        subst e0
        exact kJ108 _ _ _ hB (lv_sub hl [] rfl)
      · have hJ107 := ite_t c110 hJ107
        refine lv_aload_n hx hb dX6_ofStock_182 rfl (lv_at hl 1 rfl) ?_
        refine lv_iload_n hx hb dX6_ofStock_183 rfl (lv_at hl 2 rfl) ?_
        obtain ⟨r111, hc, hJ107⟩ := ob1_s hJ107
        refine g_callVi (As := [.int i1]) (rest := []) ⟨hx, hb, hml, hown, hts⟩ (kX6_holders l dC dI cyI cyA cyT wa ks ts kr ta sa ra H.size hc) (cwV 1 hts gX6_ofStock_X6_holders rfl rfl rfl (by decide +kernel) ⟨Nat.le_of_ble_eq_true rfl, Nat.le_of_ble_eq_true rfl⟩) hK hB hA (g_recv (ci := 6) hK hB 0 rfl rfl rfl) rfl hl.1 rfl (Nat.le_of_ble_eq_true rfl) dX6_ofStock_184 ⟨Nat.zero_le _, Nat.zero_le _⟩ (fun H locs hB => ?_)
        refine lv_goto (tgt := 191) hx hb dX6_ofStock_187 (by decide) ?_
        have e0 := inj1 hJ107
        subst e0
        exact kJ108 _ _ _ hB (lv_sub hl [] rfl)
    · have hJ107 := ite_f c109 hJ107
      refine lv_aload_n hx hb dX6_ofStock_166 rfl (lv_at hl 1 rfl) ?_
      refine g_get (C := RX6) (T := TX6) (N := 6) hx hb hts hinX6 hown hK hB 0 rfl rfl 4 rfl hq4 rfl rfl dX6_ofStock_167 ?_
      refine lv_iload_n hx hb dX6_ofStock_170 rfl (lv_at hl 2 rfl) ?_
      obtain ⟨j112, e9, hJ107⟩ := ob1_s hJ107
      obtain ⟨h_j112, e9⟩ := hixn_s e9
      refine g_aald hx hb hK hB 1 1 rfl rfl e9 dX6_ofStock_171 ?_
      refine lv_iload_n hx hb dX6_ofStock_172 rfl (lv_at hl 3 rfl) ?_
      obtain ⟨x113, e9, hJ107⟩ := ob1_s hJ107
      refine g_iald hx hb hK hB (3 + j112) 0 (cX_krow cyI cyA cyT wa ks ts kr ta sa ra K mT Ns ζ κ Φ Ψ h_j112) rfl (rd_s e9) dX6_ofStock_173 ?_
      refine lv_goto (tgt := 191) hx hb dX6_ofStock_174 (by decide) ?_
      have e0 := inj1 hJ107
      subst e0
      exact kJ108 _ _ _ hB (lv_sub hl [] rfl)
  have key103 : ∀ (n9 : Nat) (v115 : Int32) (v116 : Int32) (H : Heap) (locs : List Loc) (ls : Array Slot), loopM (fun st => mX6_ofStock_L16 fu K mT Ns (nI mT) i1 i2 ζ κ Φ Ψ st.1 st.2) n9 (v115, v116) = some v101 → Bd (dC, dI) [(cyI, .int), (cyA, .array .int), (cyT, .object "UndoJourneysLaw$Trip")] (va_A (cX cyI cyA cyT wa ks ts kr ta sa ra K mT Ns ζ κ Φ Ψ) s.heap.size) s (cX cyI cyA cyT wa ks ts kr ta sa ra K mT Ns ζ κ Φ Ψ) H locs → lv_has ls 13 [(6, .int v115), (5, .int (nI mT)), (4, .ref ts), (3, .int v116), (0, .ref wa), (1, .int i1), (2, .int i2)] → W p l e (headSpec wsX6_ofStock rmX6_ofStock).room s m ([.ref wa, .int i1, .int i2] : List Value).toArray below meth c H locs 0 0 (MQ below (QiF (dC, dI) [(cyI, .int), (cyA, .array .int), (cyT, .object "UndoJourneysLaw$Trip")] (cX cyI cyA cyT wa ks ts kr ta sa ra K mT Ns ζ κ Φ Ψ) (cX cyI cyA cyT wa ks ts kr ta sa ra K mT Ns ζ κ Φ Ψ) s.heap.size r) ([.ref wa, .int i1, .int i2] : List Value).toArray s 0 0 (va_A (cX cyI cyA cyT wa ks ts kr ta sa ra K mT Ns ζ κ Φ Ψ) s.heap.size)) (F0 m 16 ls []) := by
    intro n9
    induction n9 with
    | zero => intro v115 v116 H locs ls hL104; exact (loopM_z hL104).elim
    | succ n9 ih9 =>
      intro v115 v116 H locs ls hL104 hB hl
      obtain ⟨o117, hg105, hL104⟩ := loopM_s hL104
      have hg105 : mX6_ofStock_L16 fu K mT Ns (nI mT) i1 i2 ζ κ Φ Ψ v115 v116 = some o117 := hg105
      unfold mX6_ofStock_L16 at hg105
      refine lv_iload hx hb dX6_ofStock_16 (lv_at hl 0 rfl) ?_
      refine lv_iload hx hb dX6_ofStock_18 (lv_at hl 1 rfl) ?_
      refine lv_icmp_ge (tgt := 161) hx hb dX6_ofStock_20 (by decide) (fun c118 => ?_) (fun c118 => ?_)
      · have hg105 := ite_t c118 hg105
        have hL104 := el1_l (inj1 hg105) hL104
        have e0 := inj1 hL104
        subst e0
        exact kE102 _ _ _ hB (lv_sub hl [3, 4, 5, 6] rfl)
      · have hg105 := ite_f c118 hg105
        refine lv_aload hx hb dX6_ofStock_23 (lv_at hl 2 rfl) ?_
        refine lv_iload hx hb dX6_ofStock_25 (lv_at hl 0 rfl) ?_
        obtain ⟨j119, e9, hg105⟩ := ob1_s hg105
        obtain ⟨h_j119, e9⟩ := hixn_s e9
        refine g_aaldq hx hb hK hB 2 2 rfl rfl e9 dX6_ofStock_27 ?_
        refine lv_astore (lv' := [(7, .ref (ta j119)), (6, .int v115), (5, .int (nI mT)), (4, .ref ts), (3, .int v116), (0, .ref wa), (1, .int i1), (2, .int i2)]) hx hb dX6_ofStock_28 hl (by decide) rfl (fun ls hl => ?_)
        refine lv_aload hx hb dX6_ofStock_30 (lv_at hl 0 rfl) ?_
        refine g_get (C := RX5) (T := TX5) (N := 7) hx hb hts hinX5 hown hK (hB.perm (cX_view cyI cyA cyT wa ks ts kr ta sa ra K mT Ns ζ κ Φ Ψ h_j119)) 0 rfl rfl 6 rfl hq2 rfl rfl dX6_ofStock_32 ?_
        refine lv_astore (lv' := [(8, .ref (sa j119)), (7, .ref (ta j119)), (6, .int v115), (5, .int (nI mT)), (4, .ref ts), (3, .int v116), (0, .ref wa), (1, .int i1), (2, .int i2)]) hx hb dX6_ofStock_35 hl (by decide) rfl (fun ls hl => ?_)
        refine lv_aload hx hb dX6_ofStock_37 (lv_at hl 0 rfl) ?_
        refine g_alen hx hb hK (hB.perm (cX_view cyI cyA cyT wa ks ts kr ta sa ra K mT Ns ζ κ Φ Ψ h_j119)) 1 1 rfl rfl (v := (nI (Ns j119))) rfl dX6_ofStock_39 ?_
        refine lv_istore (lv' := [(9, .int (nI (Ns j119))), (8, .ref (sa j119)), (7, .ref (ta j119)), (6, .int v115), (5, .int (nI mT)), (4, .ref ts), (3, .int v116), (0, .ref wa), (1, .int i1), (2, .int i2)]) hx hb dX6_ofStock_40 hl (by decide) rfl (fun ls hl => ?_)
        refine lv_iconst (v := (0 : Int32)) hx hb dX6_ofStock_42 (by decide) ?_
        refine lv_istore (lv' := [(10, .int (0 : Int32)), (9, .int (nI (Ns j119))), (8, .ref (sa j119)), (7, .ref (ta j119)), (6, .int v115), (5, .int (nI mT)), (4, .ref ts), (3, .int v116), (0, .ref wa), (1, .int i1), (2, .int i2)]) hx hb dX6_ofStock_43 hl (by decide) rfl (fun ls hl => ?_)
        obtain ⟨v132, hL135, hg105⟩ := ob1_s hg105
        have kE133 : ∀ (H : Heap) (locs : List Loc) (ls : Array Slot), Bd (dC, dI) [(cyI, .int), (cyA, .array .int), (cyT, .object "UndoJourneysLaw$Trip")] (va_A (cX cyI cyA cyT wa ks ts kr ta sa ra K mT Ns ζ κ Φ Ψ) s.heap.size) s (cX cyI cyA cyT wa ks ts kr ta sa ra K mT Ns ζ κ Φ Ψ) H locs → lv_has ls 13 [(6, .int v115), (5, .int (nI mT)), (4, .ref ts), (3, .int v132), (0, .ref wa), (1, .int i1), (2, .int i2)] → W p l e (headSpec wsX6_ofStock rmX6_ofStock).room s m ([.ref wa, .int i1, .int i2] : List Value).toArray below meth c H locs 0 0 (MQ below (QiF (dC, dI) [(cyI, .int), (cyA, .array .int), (cyT, .object "UndoJourneysLaw$Trip")] (cX cyI cyA cyT wa ks ts kr ta sa ra K mT Ns ζ κ Φ Ψ) (cX cyI cyA cyT wa ks ts kr ta sa ra K mT Ns ζ κ Φ Ψ) s.heap.size r) ([.ref wa, .int i1, .int i2] : List Value).toArray s 0 0 (va_A (cX cyI cyA cyT wa ks ts kr ta sa ra K mT Ns ζ κ Φ Ψ) s.heap.size)) (F0 m 155 ls []) := by
          intro H locs ls hB hl
          refine lv_iinc (v := (v115 + (1 : Int32))) (lv' := [(6, .int (v115 + (1 : Int32))), (5, .int (nI mT)), (4, .ref ts), (3, .int v132), (0, .ref wa), (1, .int i1), (2, .int i2)]) hx hb dX6_ofStock_155 hl (k := 0) rfl rfl (by decide) rfl (fun ls hl => ?_)
          refine lv_goto (tgt := 16) hx hb dX6_ofStock_158 (by decide) ?_
          have hL104 := el1_r (inj1 hg105) hL104
          exact ih9 _ _ _ _ _ hL104 hB (lv_sub hl [0, 1, 2, 3, 4, 5, 6] rfl)
        have key134 : ∀ (n9 : Nat) (v138 : Int32) (v139 : Int32) (H : Heap) (locs : List Loc) (ls : Array Slot), loopM (fun st => mX6_ofStock_L45 fu K mT Ns (nI (Ns j119)) j119 v115 (nI mT) i1 i2 ζ κ Φ Ψ st.1 st.2) n9 (v138, v139) = some v132 → Bd (dC, dI) [(cyI, .int), (cyA, .array .int), (cyT, .object "UndoJourneysLaw$Trip")] (va_A (cX cyI cyA cyT wa ks ts kr ta sa ra K mT Ns ζ κ Φ Ψ) s.heap.size) s (cX cyI cyA cyT wa ks ts kr ta sa ra K mT Ns ζ κ Φ Ψ) H locs → lv_has ls 13 [(10, .int v138), (9, .int (nI (Ns j119))), (8, .ref (sa j119)), (7, .ref (ta j119)), (6, .int v115), (5, .int (nI mT)), (4, .ref ts), (3, .int v139), (0, .ref wa), (1, .int i1), (2, .int i2)] → W p l e (headSpec wsX6_ofStock rmX6_ofStock).room s m ([.ref wa, .int i1, .int i2] : List Value).toArray below meth c H locs 0 0 (MQ below (QiF (dC, dI) [(cyI, .int), (cyA, .array .int), (cyT, .object "UndoJourneysLaw$Trip")] (cX cyI cyA cyT wa ks ts kr ta sa ra K mT Ns ζ κ Φ Ψ) (cX cyI cyA cyT wa ks ts kr ta sa ra K mT Ns ζ κ Φ Ψ) s.heap.size r) ([.ref wa, .int i1, .int i2] : List Value).toArray s 0 0 (va_A (cX cyI cyA cyT wa ks ts kr ta sa ra K mT Ns ζ κ Φ Ψ) s.heap.size)) (F0 m 45 ls []) := by
          intro n9
          induction n9 with
          | zero => intro v138 v139 H locs ls hL135; exact (loopM_z hL135).elim
          | succ n9 ih9 =>
            intro v138 v139 H locs ls hL135 hB hl
            obtain ⟨o140, hg136, hL135⟩ := loopM_s hL135
            have hg136 : mX6_ofStock_L45 fu K mT Ns (nI (Ns j119)) j119 v115 (nI mT) i1 i2 ζ κ Φ Ψ v138 v139 = some o140 := hg136
            unfold mX6_ofStock_L45 at hg136
            refine lv_iload hx hb dX6_ofStock_45 (lv_at hl 0 rfl) ?_
            refine lv_iload hx hb dX6_ofStock_47 (lv_at hl 1 rfl) ?_
            refine lv_icmp_ge (tgt := 155) hx hb dX6_ofStock_49 (by decide) (fun c141 => ?_) (fun c141 => ?_)
            · have hg136 := ite_t c141 hg136
              have hL135 := el1_l (inj1 hg136) hL135
              have e0 := inj1 hL135
              subst e0
              exact kE133 _ _ _ hB (lv_sub hl [4, 5, 6, 7, 8, 9, 10] rfl)
            · have hg136 := ite_f c141 hg136
              refine lv_aload hx hb dX6_ofStock_52 (lv_at hl 2 rfl) ?_
              refine lv_iload hx hb dX6_ofStock_54 (lv_at hl 0 rfl) ?_
              obtain ⟨j142, e9, hg136⟩ := ob1_s hg136
              obtain ⟨h_j142, e9⟩ := hixn_s e9
              refine g_aald hx hb hK (hB.perm (cX_view cyI cyA cyT wa ks ts kr ta sa ra K mT Ns ζ κ Φ Ψ h_j119)) 1 1 rfl rfl e9 dX6_ofStock_56 ?_
              refine lv_astore (lv' := [(11, .ref (ra j119 j142)), (10, .int v138), (9, .int (nI (Ns j119))), (8, .ref (sa j119)), (7, .ref (ta j119)), (6, .int v115), (5, .int (nI mT)), (4, .ref ts), (3, .int v139), (0, .ref wa), (1, .int i1), (2, .int i2)]) hx hb dX6_ofStock_57 hl (by decide) rfl (fun ls hl => ?_)
              refine lv_aload hx hb dX6_ofStock_59 (lv_at hl 0 rfl) ?_
              refine lv_iconst (v := (4 : Int32)) hx hb dX6_ofStock_61 (by decide) ?_
              obtain ⟨x143, e9, hg136⟩ := ob1_s hg136
              refine g_iald hx hb hK (hB.perm (cX_view cyI cyA cyT wa ks ts kr ta sa ra K mT Ns ζ κ Φ Ψ h_j119)) (2 + j142) 0 (cT_row cyI cyA (ta j119) (sa j119) (ra j119) (Ns j119) (Φ j119) (Ψ j119) _ h_j142) rfl (rd_s e9) dX6_ofStock_62 ?_
              refine lv_iconst (v := (2 : Int32)) hx hb dX6_ofStock_63 (by decide) ?_
              obtain ⟨v144, hJ146, hg136⟩ := ob1_s hg136
              have kJ147 : (v144 = 0 ∨ v144 = 1) → ∀ (H : Heap) (locs : List Loc) (ls : Array Slot), Bd (dC, dI) [(cyI, .int), (cyA, .array .int), (cyT, .object "UndoJourneysLaw$Trip")] (va_A (cX cyI cyA cyT wa ks ts kr ta sa ra K mT Ns ζ κ Φ Ψ) s.heap.size) s (cX cyI cyA cyT wa ks ts kr ta sa ra K mT Ns ζ κ Φ Ψ) H locs → lv_has ls 13 [(11, .ref (ra j119 j142)), (10, .int v138), (9, .int (nI (Ns j119))), (8, .ref (sa j119)), (7, .ref (ta j119)), (6, .int v115), (5, .int (nI mT)), (4, .ref ts), (3, .int v139), (0, .ref wa), (1, .int i1), (2, .int i2)] → W p l e (headSpec wsX6_ofStock rmX6_ofStock).room s m ([.ref wa, .int i1, .int i2] : List Value).toArray below meth c H locs 0 0 (MQ below (QiF (dC, dI) [(cyI, .int), (cyA, .array .int), (cyT, .object "UndoJourneysLaw$Trip")] (cX cyI cyA cyT wa ks ts kr ta sa ra K mT Ns ζ κ Φ Ψ) (cX cyI cyA cyT wa ks ts kr ta sa ra K mT Ns ζ κ Φ Ψ) s.heap.size r) ([.ref wa, .int i1, .int i2] : List Value).toArray s 0 0 (va_A (cX cyI cyA cyT wa ks ts kr ta sa ra K mT Ns ζ κ Φ Ψ) s.heap.size)) (F0 m 80 ls [.int v144]) := by
                intro z145 H locs ls hB hl
                refine lv_istore (lv' := [(12, .int v144), (11, .ref (ra j119 j142)), (10, .int v138), (9, .int (nI (Ns j119))), (8, .ref (sa j119)), (7, .ref (ta j119)), (6, .int v115), (5, .int (nI mT)), (4, .ref ts), (3, .int v139), (0, .ref wa), (1, .int i1), (2, .int i2)]) hx hb dX6_ofStock_80 hl (by decide) rfl (fun ls hl => ?_)
                refine lv_aload hx hb dX6_ofStock_82 (lv_at hl 1 rfl) ?_
                refine lv_iconst (v := (1 : Int32)) hx hb dX6_ofStock_84 (by decide) ?_
                obtain ⟨x153, e9, hg136⟩ := ob1_s hg136
                refine g_iald hx hb hK (hB.perm (cX_view cyI cyA cyT wa ks ts kr ta sa ra K mT Ns ζ κ Φ Ψ h_j119)) (2 + j142) 0 (cT_row cyI cyA (ta j119) (sa j119) (ra j119) (Ns j119) (Φ j119) (Ψ j119) _ h_j142) rfl (rd_s e9) dX6_ofStock_85 ?_
                refine lv_iload_n hx hb dX6_ofStock_86 rfl (lv_at hl 11 rfl) ?_
                obtain ⟨v154, hJ155, hg136⟩ := ob1_s hg136
                have kJ156 : ∀ (H : Heap) (locs : List Loc) (ls : Array Slot), Bd (dC, dI) [(cyI, .int), (cyA, .array .int), (cyT, .object "UndoJourneysLaw$Trip")] (va_A (cX cyI cyA cyT wa ks ts kr ta sa ra K mT Ns ζ κ Φ Ψ) s.heap.size) s (cX cyI cyA cyT wa ks ts kr ta sa ra K mT Ns ζ κ Φ Ψ) H locs → lv_has ls 13 [(10, .int v138), (9, .int (nI (Ns j119))), (8, .ref (sa j119)), (7, .ref (ta j119)), (6, .int v115), (5, .int (nI mT)), (4, .ref ts), (3, .int v154), (0, .ref wa), (1, .int i1), (2, .int i2)] → W p l e (headSpec wsX6_ofStock rmX6_ofStock).room s m ([.ref wa, .int i1, .int i2] : List Value).toArray below meth c H locs 0 0 (MQ below (QiF (dC, dI) [(cyI, .int), (cyA, .array .int), (cyT, .object "UndoJourneysLaw$Trip")] (cX cyI cyA cyT wa ks ts kr ta sa ra K mT Ns ζ κ Φ Ψ) (cX cyI cyA cyT wa ks ts kr ta sa ra K mT Ns ζ κ Φ Ψ) s.heap.size r) ([.ref wa, .int i1, .int i2] : List Value).toArray s 0 0 (va_A (cX cyI cyA cyT wa ks ts kr ta sa ra K mT Ns ζ κ Φ Ψ) s.heap.size)) (F0 m 149 ls []) := by
                  intro H locs ls hB hl
                  refine lv_iinc (v := (v138 + (1 : Int32))) (lv' := [(10, .int (v138 + (1 : Int32))), (9, .int (nI (Ns j119))), (8, .ref (sa j119)), (7, .ref (ta j119)), (6, .int v115), (5, .int (nI mT)), (4, .ref ts), (3, .int v154), (0, .ref wa), (1, .int i1), (2, .int i2)]) hx hb dX6_ofStock_149 hl (k := 0) rfl rfl (by decide) rfl (fun ls hl => ?_)
                  refine lv_goto (tgt := 45) hx hb dX6_ofStock_152 (by decide) ?_
                  have hL135 := el1_r (inj1 hg136) hL135
                  exact ih9 _ _ _ _ _ hL135 hB (lv_sub hl [0, 1, 2, 3, 4, 5, 6, 7, 8, 9, 10] rfl)
                refine lv_icmp_ne (tgt := 149) hx hb dX6_ofStock_87 (by decide) (fun c157 => ?_) (fun c157 => ?_)
                · have hJ155 := ite_f c157 hJ155
                  have e0 := inj1 hJ155
                  subst e0
                  exact kJ156 _ _ _ hB (lv_sub hl [2, 3, 4, 5, 6, 7, 8, 9, 10, 11, 12] rfl)
                · have hJ155 := ite_t c157 hJ155
                  refine lv_iload_n hx hb dX6_ofStock_90 rfl (lv_at hl 12 rfl) ?_
                  refine lv_iconst (v := (3 : Int32)) hx hb dX6_ofStock_91 (by decide) ?_
                  refine lv_icmp_ne (tgt := 111) hx hb dX6_ofStock_92 (by decide) (fun c158 => ?_) (fun c158 => ?_)
                  · have hJ155 := ite_f c158 hJ155
                    refine lv_iload_n hx hb dX6_ofStock_111 rfl (lv_at hl 12 rfl) ?_
                    refine lv_iconst (v := (4 : Int32)) hx hb dX6_ofStock_112 (by decide) ?_
                    refine lv_icmp_ne (tgt := 133) hx hb dX6_ofStock_113 (by decide) (fun c159 => ?_) (fun c159 => ?_)
                    · have hJ155 := ite_f c159 hJ155
                      refine lv_aload hx hb dX6_ofStock_133 (lv_at hl 1 rfl) ?_
                      refine lv_iconst (v := (4 : Int32)) hx hb dX6_ofStock_135 (by decide) ?_
                      obtain ⟨x160, e9, hJ155⟩ := ob1_s hJ155
                      refine g_iald hx hb hK (hB.perm (cX_view cyI cyA cyT wa ks ts kr ta sa ra K mT Ns ζ κ Φ Ψ h_j119)) (2 + j142) 0 (cT_row cyI cyA (ta j119) (sa j119) (ra j119) (Ns j119) (Φ j119) (Ψ j119) _ h_j142) rfl (rd_s e9) dX6_ofStock_136 ?_
                      refine lv_bipush (v := (6 : Int32)) hx hb dX6_ofStock_137 (by decide) ?_
                      refine lv_icmp_ne (tgt := 149) hx hb dX6_ofStock_139 (by decide) (fun c161 => ?_) (fun c161 => ?_)
                      · have hJ155 := ite_f c161 hJ155
                        have e0 := inj1 hJ155
                        subst e0
                        exact kJ156 _ _ _ hB (lv_sub hl [2, 3, 4, 5, 6, 7, 8, 9, 10, 11, 12] rfl)
                      · have hJ155 := ite_t c161 hJ155
                        refine lv_iload_n hx hb dX6_ofStock_142 rfl (lv_at hl 9 rfl) ?_
                        refine lv_aload hx hb dX6_ofStock_143 (lv_at hl 1 rfl) ?_
                        refine lv_iconst (v := (2 : Int32)) hx hb dX6_ofStock_145 (by decide) ?_
                        obtain ⟨x162, e9, hJ155⟩ := ob1_s hJ155
                        refine g_iald hx hb hK (hB.perm (cX_view cyI cyA cyT wa ks ts kr ta sa ra K mT Ns ζ κ Φ Ψ h_j119)) (2 + j142) 0 (cT_row cyI cyA (ta j119) (sa j119) (ra j119) (Ns j119) (Φ j119) (Ψ j119) _ h_j142) rfl (rd_s e9) dX6_ofStock_146 ?_
                        refine lv_iadd hx hb dX6_ofStock_147 ?_
                        refine lv_istore_n (lv' := [(3, .int (v139 + x162)), (12, .int v144), (11, .ref (ra j119 j142)), (10, .int v138), (9, .int (nI (Ns j119))), (8, .ref (sa j119)), (7, .ref (ta j119)), (6, .int v115), (5, .int (nI mT)), (4, .ref ts), (0, .ref wa), (1, .int i1), (2, .int i2)]) hx hb dX6_ofStock_148 rfl hl (by decide) rfl (fun ls hl => ?_)
                        have e0 := inj1 hJ155
                        subst e0
                        exact kJ156 _ _ _ hB (lv_sub hl [3, 4, 5, 6, 7, 8, 9, 0, 10, 11, 12] rfl)
                    · have hJ155 := ite_t c159 hJ155
                      refine lv_iload hx hb dX6_ofStock_116 (lv_at hl 0 rfl) ?_
                      obtain ⟨t163, hD164, hJ155⟩ := ob1_s hJ155
                      have kTt163 : t163 = true → ∀ (H : Heap) (locs : List Loc), Bd (dC, dI) [(cyI, .int), (cyA, .array .int), (cyT, .object "UndoJourneysLaw$Trip")] (va_A (cX cyI cyA cyT wa ks ts kr ta sa ra K mT Ns ζ κ Φ Ψ) s.heap.size) s (cX cyI cyA cyT wa ks ts kr ta sa ra K mT Ns ζ κ Φ Ψ) H locs → W p l e (headSpec wsX6_ofStock rmX6_ofStock).room s m ([.ref wa, .int i1, .int i2] : List Value).toArray below meth c H locs 0 0 (MQ below (QiF (dC, dI) [(cyI, .int), (cyA, .array .int), (cyT, .object "UndoJourneysLaw$Trip")] (cX cyI cyA cyT wa ks ts kr ta sa ra K mT Ns ζ κ Φ Ψ) (cX cyI cyA cyT wa ks ts kr ta sa ra K mT Ns ζ κ Φ Ψ) s.heap.size r) ([.ref wa, .int i1, .int i2] : List Value).toArray s 0 0 (va_A (cX cyI cyA cyT wa ks ts kr ta sa ra K mT Ns ζ κ Φ Ψ) s.heap.size)) (F0 m 130 ls []) := by
                        intro ht H locs hB
                        have hJ155 := cnd_t ht hJ155
                        refine lv_goto (tgt := 142) hx hb dX6_ofStock_130 (by decide) ?_
                        refine lv_iload_n hx hb dX6_ofStock_142 rfl (lv_at hl 9 rfl) ?_
                        refine lv_aload hx hb dX6_ofStock_143 (lv_at hl 1 rfl) ?_
                        refine lv_iconst (v := (2 : Int32)) hx hb dX6_ofStock_145 (by decide) ?_
                        obtain ⟨x167, e9, hJ155⟩ := ob1_s hJ155
                        refine g_iald hx hb hK (hB.perm (cX_view cyI cyA cyT wa ks ts kr ta sa ra K mT Ns ζ κ Φ Ψ h_j119)) (2 + j142) 0 (cT_row cyI cyA (ta j119) (sa j119) (ra j119) (Ns j119) (Φ j119) (Ψ j119) _ h_j142) rfl (rd_s e9) dX6_ofStock_146 ?_
                        refine lv_iadd hx hb dX6_ofStock_147 ?_
                        refine lv_istore_n (lv' := [(3, .int (v139 + x167)), (12, .int v144), (11, .ref (ra j119 j142)), (10, .int v138), (9, .int (nI (Ns j119))), (8, .ref (sa j119)), (7, .ref (ta j119)), (6, .int v115), (5, .int (nI mT)), (4, .ref ts), (0, .ref wa), (1, .int i1), (2, .int i2)]) hx hb dX6_ofStock_148 rfl hl (by decide) rfl (fun ls hl => ?_)
                        have e0 := inj1 hJ155
                        subst e0
                        exact kJ156 _ _ _ hB (lv_sub hl [3, 4, 5, 6, 7, 8, 9, 0, 10, 11, 12] rfl)
                      have kFt163 : t163 = false → ∀ (H : Heap) (locs : List Loc), Bd (dC, dI) [(cyI, .int), (cyA, .array .int), (cyT, .object "UndoJourneysLaw$Trip")] (va_A (cX cyI cyA cyT wa ks ts kr ta sa ra K mT Ns ζ κ Φ Ψ) s.heap.size) s (cX cyI cyA cyT wa ks ts kr ta sa ra K mT Ns ζ κ Φ Ψ) H locs → W p l e (headSpec wsX6_ofStock rmX6_ofStock).room s m ([.ref wa, .int i1, .int i2] : List Value).toArray below meth c H locs 0 0 (MQ below (QiF (dC, dI) [(cyI, .int), (cyA, .array .int), (cyT, .object "UndoJourneysLaw$Trip")] (cX cyI cyA cyT wa ks ts kr ta sa ra K mT Ns ζ κ Φ Ψ) (cX cyI cyA cyT wa ks ts kr ta sa ra K mT Ns ζ κ Φ Ψ) s.heap.size r) ([.ref wa, .int i1, .int i2] : List Value).toArray s 0 0 (va_A (cX cyI cyA cyT wa ks ts kr ta sa ra K mT Ns ζ κ Φ Ψ) s.heap.size)) (F0 m 149 ls []) := by
                        intro ht H locs hB
                        have hJ155 := cnd_f ht hJ155
                        have e0 := inj1 hJ155
                        subst e0
                        exact kJ156 _ _ _ hB (lv_sub hl [2, 3, 4, 5, 6, 7, 8, 9, 10, 11, 12] rfl)
                      refine lv_if_eq (tgt := 149) hx hb dX6_ofStock_118 (by decide) (fun c165 => ?_) (fun c165 => ?_)
                      · have hD164 := ite_t c165 hD164
                        have e0 := inj1 hD164
                        exact kFt163 e0.symm _ _ hB
                      · have hD164 := ite_f c165 hD164
                        refine lv_aload hx hb dX6_ofStock_121 (lv_at hl 5 rfl) ?_
                        refine g_get (C := RX5) (T := TX5) (N := 7) hx hb hts hinX5 hown hK (hB.perm (cX_view cyI cyA cyT wa ks ts kr ta sa ra K mT Ns ζ κ Φ Ψ h_j119)) 0 rfl rfl 2 rfl hq3 rfl rfl dX6_ofStock_123 ?_
                        refine lv_iconst (v := (3 : Int32)) hx hb dX6_ofStock_126 (by decide) ?_
                        refine lv_icmp_ne (tgt := 149) hx hb dX6_ofStock_127 (by decide) (fun c166 => ?_) (fun c166 => ?_)
                        · have hD164 := ite_f c166 hD164
                          have e0 := inj1 hD164
                          exact kFt163 e0.symm _ _ hB
                        · have hD164 := ite_t c166 hD164
                          have e0 := inj1 hD164
                          exact kTt163 e0.symm _ _ hB
                  · have hJ155 := ite_t c158 hJ155
                    refine lv_iload hx hb dX6_ofStock_95 (lv_at hl 0 rfl) ?_
                    obtain ⟨t168, hD169, hJ155⟩ := ob1_s hJ155
                    have kTt168 : t168 = true → ∀ (H : Heap) (locs : List Loc), Bd (dC, dI) [(cyI, .int), (cyA, .array .int), (cyT, .object "UndoJourneysLaw$Trip")] (va_A (cX cyI cyA cyT wa ks ts kr ta sa ra K mT Ns ζ κ Φ Ψ) s.heap.size) s (cX cyI cyA cyT wa ks ts kr ta sa ra K mT Ns ζ κ Φ Ψ) H locs → W p l e (headSpec wsX6_ofStock rmX6_ofStock).room s m ([.ref wa, .int i1, .int i2] : List Value).toArray below meth c H locs 0 0 (MQ below (QiF (dC, dI) [(cyI, .int), (cyA, .array .int), (cyT, .object "UndoJourneysLaw$Trip")] (cX cyI cyA cyT wa ks ts kr ta sa ra K mT Ns ζ κ Φ Ψ) (cX cyI cyA cyT wa ks ts kr ta sa ra K mT Ns ζ κ Φ Ψ) s.heap.size r) ([.ref wa, .int i1, .int i2] : List Value).toArray s 0 0 (va_A (cX cyI cyA cyT wa ks ts kr ta sa ra K mT Ns ζ κ Φ Ψ) s.heap.size)) (F0 m 108 ls []) := by
                      intro ht H locs hB
                      have hJ155 := cnd_t ht hJ155
                      refine lv_goto (tgt := 142) hx hb dX6_ofStock_108 (by decide) ?_
                      refine lv_iload_n hx hb dX6_ofStock_142 rfl (lv_at hl 9 rfl) ?_
                      refine lv_aload hx hb dX6_ofStock_143 (lv_at hl 1 rfl) ?_
                      refine lv_iconst (v := (2 : Int32)) hx hb dX6_ofStock_145 (by decide) ?_
                      obtain ⟨x174, e9, hJ155⟩ := ob1_s hJ155
                      refine g_iald hx hb hK (hB.perm (cX_view cyI cyA cyT wa ks ts kr ta sa ra K mT Ns ζ κ Φ Ψ h_j119)) (2 + j142) 0 (cT_row cyI cyA (ta j119) (sa j119) (ra j119) (Ns j119) (Φ j119) (Ψ j119) _ h_j142) rfl (rd_s e9) dX6_ofStock_146 ?_
                      refine lv_iadd hx hb dX6_ofStock_147 ?_
                      refine lv_istore_n (lv' := [(3, .int (v139 + x174)), (12, .int v144), (11, .ref (ra j119 j142)), (10, .int v138), (9, .int (nI (Ns j119))), (8, .ref (sa j119)), (7, .ref (ta j119)), (6, .int v115), (5, .int (nI mT)), (4, .ref ts), (0, .ref wa), (1, .int i1), (2, .int i2)]) hx hb dX6_ofStock_148 rfl hl (by decide) rfl (fun ls hl => ?_)
                      have e0 := inj1 hJ155
                      subst e0
                      exact kJ156 _ _ _ hB (lv_sub hl [3, 4, 5, 6, 7, 8, 9, 0, 10, 11, 12] rfl)
                    have kFt168 : t168 = false → ∀ (H : Heap) (locs : List Loc), Bd (dC, dI) [(cyI, .int), (cyA, .array .int), (cyT, .object "UndoJourneysLaw$Trip")] (va_A (cX cyI cyA cyT wa ks ts kr ta sa ra K mT Ns ζ κ Φ Ψ) s.heap.size) s (cX cyI cyA cyT wa ks ts kr ta sa ra K mT Ns ζ κ Φ Ψ) H locs → W p l e (headSpec wsX6_ofStock rmX6_ofStock).room s m ([.ref wa, .int i1, .int i2] : List Value).toArray below meth c H locs 0 0 (MQ below (QiF (dC, dI) [(cyI, .int), (cyA, .array .int), (cyT, .object "UndoJourneysLaw$Trip")] (cX cyI cyA cyT wa ks ts kr ta sa ra K mT Ns ζ κ Φ Ψ) (cX cyI cyA cyT wa ks ts kr ta sa ra K mT Ns ζ κ Φ Ψ) s.heap.size r) ([.ref wa, .int i1, .int i2] : List Value).toArray s 0 0 (va_A (cX cyI cyA cyT wa ks ts kr ta sa ra K mT Ns ζ κ Φ Ψ) s.heap.size)) (F0 m 149 ls []) := by
                      intro ht H locs hB
                      have hJ155 := cnd_f ht hJ155
                      have e0 := inj1 hJ155
                      subst e0
                      exact kJ156 _ _ _ hB (lv_sub hl [2, 3, 4, 5, 6, 7, 8, 9, 10, 11, 12] rfl)
                    refine lv_if_eq (tgt := 149) hx hb dX6_ofStock_97 (by decide) (fun c170 => ?_) (fun c170 => ?_)
                    · have hD169 := ite_t c170 hD169
                      have e0 := inj1 hD169
                      exact kFt168 e0.symm _ _ hB
                    · have hD169 := ite_f c170 hD169
                      refine lv_aload hx hb dX6_ofStock_100 (lv_at hl 5 rfl) ?_
                      obtain ⟨r171, hc, hD169⟩ := ob1_s hD169
                      refine g_pcutVz (As := []) (rest := []) (w2 := (cX cyI cyA cyT wa ks ts kr ta sa ra K mT Ns ζ κ Φ Ψ)) ⟨hx, hb, hml, hown, hts⟩ (kX5_isOpen l dC dI cyI cyA (ta j119) (sa j119) (ra j119) H.size hc) (cwV 0 hts gX6_ofStock_X5_isOpen rfl rfl rfl (by decide +kernel) ⟨Nat.le_of_ble_eq_true rfl, Nat.le_of_ble_eq_true rfl⟩) (hK.sub [0, 1] rfl) hB hA (g_recv (ci := 5) hK (hB.perm (cX_view cyI cyA cyT wa ks ts kr ta sa ra K mT Ns ζ κ Φ Ψ h_j119)) 0 rfl rfl rfl) (cX_view cyI cyA cyT wa ks ts kr ta sa ra K mT Ns ζ κ Φ Ψ h_j119) (cX_view cyI cyA cyT wa ks ts kr ta sa ra K mT Ns ζ κ Φ Ψ h_j119).symm rfl hl.1 rfl (Nat.le_of_ble_eq_true rfl) dX6_ofStock_102 ⟨Nat.zero_le _, Nat.zero_le _⟩ (fun z172 H locs hB => ?_)
                      refine lv_if_eq (tgt := 149) hx hb dX6_ofStock_105 (by decide) (fun c173 => ?_) (fun c173 => ?_)
                      · have hD169 := ite_t c173 hD169
                        have e0 := inj1 hD169
                        exact kFt168 e0.symm _ _ hB
                      · have hD169 := ite_f c173 hD169
                        have e0 := inj1 hD169
                        exact kTt168 e0.symm _ _ hB
              obtain ⟨t148, hD149, hJ146⟩ := ob1_s hJ146
              have kTt148 : t148 = true → ∀ (H : Heap) (locs : List Loc), Bd (dC, dI) [(cyI, .int), (cyA, .array .int), (cyT, .object "UndoJourneysLaw$Trip")] (va_A (cX cyI cyA cyT wa ks ts kr ta sa ra K mT Ns ζ κ Φ Ψ) s.heap.size) s (cX cyI cyA cyT wa ks ts kr ta sa ra K mT Ns ζ κ Φ Ψ) H locs → W p l e (headSpec wsX6_ofStock rmX6_ofStock).room s m ([.ref wa, .int i1, .int i2] : List Value).toArray below meth c H locs 0 0 (MQ below (QiF (dC, dI) [(cyI, .int), (cyA, .array .int), (cyT, .object "UndoJourneysLaw$Trip")] (cX cyI cyA cyT wa ks ts kr ta sa ra K mT Ns ζ κ Φ Ψ) (cX cyI cyA cyT wa ks ts kr ta sa ra K mT Ns ζ κ Φ Ψ) s.heap.size r) ([.ref wa, .int i1, .int i2] : List Value).toArray s 0 0 (va_A (cX cyI cyA cyT wa ks ts kr ta sa ra K mT Ns ζ κ Φ Ψ) s.heap.size)) (F0 m 75 ls []) := by
                intro ht H locs hB
                have hJ146 := cnd_t ht hJ146
                refine lv_iconst (v := (1 : Int32)) hx hb dX6_ofStock_75 (by decide) ?_
                refine lv_goto (tgt := 80) hx hb dX6_ofStock_76 (by decide) ?_
                have e0 := inj1 hJ146
                subst e0
                exact kJ147 (Or.inr rfl) _ _ _ hB (lv_sub hl [0, 1, 2, 3, 4, 5, 6, 7, 8, 9, 10, 11] rfl)
              have kFt148 : t148 = false → ∀ (H : Heap) (locs : List Loc), Bd (dC, dI) [(cyI, .int), (cyA, .array .int), (cyT, .object "UndoJourneysLaw$Trip")] (va_A (cX cyI cyA cyT wa ks ts kr ta sa ra K mT Ns ζ κ Φ Ψ) s.heap.size) s (cX cyI cyA cyT wa ks ts kr ta sa ra K mT Ns ζ κ Φ Ψ) H locs → W p l e (headSpec wsX6_ofStock rmX6_ofStock).room s m ([.ref wa, .int i1, .int i2] : List Value).toArray below meth c H locs 0 0 (MQ below (QiF (dC, dI) [(cyI, .int), (cyA, .array .int), (cyT, .object "UndoJourneysLaw$Trip")] (cX cyI cyA cyT wa ks ts kr ta sa ra K mT Ns ζ κ Φ Ψ) (cX cyI cyA cyT wa ks ts kr ta sa ra K mT Ns ζ κ Φ Ψ) s.heap.size r) ([.ref wa, .int i1, .int i2] : List Value).toArray s 0 0 (va_A (cX cyI cyA cyT wa ks ts kr ta sa ra K mT Ns ζ κ Φ Ψ) s.heap.size)) (F0 m 79 ls []) := by
                intro ht H locs hB
                have hJ146 := cnd_f ht hJ146
                refine lv_iconst (v := (0 : Int32)) hx hb dX6_ofStock_79 (by decide) ?_
                have e0 := inj1 hJ146
                subst e0
                exact kJ147 (Or.inl rfl) _ _ _ hB (lv_sub hl [0, 1, 2, 3, 4, 5, 6, 7, 8, 9, 10, 11] rfl)
              refine lv_icmp_eq (tgt := 75) hx hb dX6_ofStock_64 (by decide) (fun c150 => ?_) (fun c150 => ?_)
              · have hD149 := ite_t c150 hD149
                have e0 := inj1 hD149
                exact kTt148 e0.symm _ _ hB
              · have hD149 := ite_f c150 hD149
                refine lv_aload hx hb dX6_ofStock_67 (lv_at hl 0 rfl) ?_
                refine lv_iconst (v := (4 : Int32)) hx hb dX6_ofStock_69 (by decide) ?_
                obtain ⟨x151, e9, hD149⟩ := ob1_s hD149
                refine g_iald hx hb hK (hB.perm (cX_view cyI cyA cyT wa ks ts kr ta sa ra K mT Ns ζ κ Φ Ψ h_j119)) (2 + j142) 0 (cT_row cyI cyA (ta j119) (sa j119) (ra j119) (Ns j119) (Φ j119) (Ψ j119) _ h_j142) rfl (rd_s e9) dX6_ofStock_70 ?_
                refine lv_iconst (v := (3 : Int32)) hx hb dX6_ofStock_71 (by decide) ?_
                refine lv_icmp_ne (tgt := 79) hx hb dX6_ofStock_72 (by decide) (fun c152 => ?_) (fun c152 => ?_)
                · have hD149 := ite_f c152 hD149
                  have e0 := inj1 hD149
                  exact kFt148 e0.symm _ _ hB
                · have hD149 := ite_t c152 hD149
                  have e0 := inj1 hD149
                  exact kTt148 e0.symm _ _ hB
        exact key134 fu _ _ _ _ _ hL135 hB (lv_sub hl [0, 1, 2, 3, 4, 5, 6, 7, 8, 9, 10] rfl)
  exact key103 fu _ _ _ _ _ hL104 hB (lv_sub hl [0, 1, 2, 3, 4, 5, 6] rfl)

abbrev rmX6_ofTrip : Room := { frames := 1, cells := 0, slots := 0, locals := 25 }

set_option maxHeartbeats 4000000 in
set_option maxRecDepth 100000 in
theorem kX6_ofTrip (l : Launch) (dC : Nat → ClassId) (dI : Nat → Nat → Nat) (cyI cyA cyT : ClassId) (wa ks ts : Nat) (kr ta sa : PA) (ra : Nat → PA) (sz : Nat) {fu : Nat} {K : Nat} {mT : Nat} {Ns : PA} {ζ : MS} {κ : MS} {Φ : WS} {Ψ : WS} {i1 : Int32} {i2 : Int32} {r : Int32} (hf : mX6_ofTrip fu K mT Ns ζ κ Φ Ψ i1 i2 = some r) : Met l yX6_ofTrip wsX6_ofTrip rmX6_ofTrip (PcF (dC, dI) [(cyI, .int), (cyA, .array .int), (cyT, .object "UndoJourneysLaw$Trip")] (cX cyI cyA cyT wa ks ts kr ta sa ra K mT Ns ζ κ Φ Ψ) sz [.ref wa, .int i1, .int i2]) (QiF (dC, dI) [(cyI, .int), (cyA, .array .int), (cyT, .object "UndoJourneysLaw$Trip")] (cX cyI cyA cyT wa ks ts kr ta sa ra K mT Ns ζ κ Φ Ψ) (cX cyI cyA cyT wa ks ts kr ta sa ra K mT Ns ζ κ Φ Ψ) sz r) 0 0 (va_A (cX cyI cyA cyT wa ks ts kr ta sa ra K mT Ns ζ κ Φ Ψ) sz) := by
  refine Met.ofW (cc := cX6_ofTrip) (maxL := 4) (ret := (some .int)) (by decide) rfl ?_
  intro p e s m args below meth c s₁ B hml hv
  obtain ⟨rfl, hsz, hP, hK, hD0⟩ := hv
  have hx := B.exec
  have hb := B.bytes
  have hr := B.returns
  have hts := atoms_spec (ws := wsX6_ofTrip) B.pre
  have hown : s.vm.findClass RX6 = some m.cls := findClass_of_methodNamed B.named
  have hlocks := B.notSynchronized
  subst hsz
  have hA : ∀ q : Nat, s.heap.size ≤ q → va_A (cX cyI cyA cyT wa ks ts kr ta sa ra K mT Ns ζ κ Φ Ψ) s.heap.size q := fun q h => Or.inr h
  have hB : Bd (dC, dI) [(cyI, .int), (cyA, .array .int), (cyT, .object "UndoJourneysLaw$Trip")] (va_A (cX cyI cyA cyT wa ks ts kr ta sa ra K mT Ns ζ κ Φ Ψ) s.heap.size) s (cX cyI cyA cyT wa ks ts kr ta sa ra K mT Ns ζ κ Φ Ψ) s.heap [] := ⟨hP, hD0.self, va_S.rf⟩
  have hq1 : (Cond.fieldLink RX6 24 "UndoJourneysLaw$World" "trips" "[LUndoJourneysLaw$Trip;").before _ s = true := hts _ (List.mem_of_getElem? (i := 1) rfl)
  have hq2 : (Cond.fieldLink RX6 93 "UndoJourneysLaw$Trip" "state" "I").before _ s = true := hts _ (List.mem_of_getElem? (i := 2) rfl)
  have hq3 : (Cond.fieldLink RX6 96 "UndoJourneysLaw$Trip" "start" "I").before _ s = true := hts _ (List.mem_of_getElem? (i := 3) rfl)
  have hq4 : (Cond.fieldLink RX6 68 "UndoJourneysLaw$Trip" "stages" "I").before _ s = true := hts _ (List.mem_of_getElem? (i := 4) rfl)
  have hq5 : (Cond.fieldLink RX6 54 "UndoJourneysLaw$Trip" "steps" "[[I").before _ s = true := hts _ (List.mem_of_getElem? (i := 5) rfl)
  have hq6 : (Cond.fieldLink RX6 51 "UndoJourneysLaw$Trip" "stage" "I").before _ s = true := hts _ (List.mem_of_getElem? (i := 6) rfl)
  have hq7 : (Cond.fieldLink RX6 112 "UndoJourneysLaw$Trip" "end" "I").before _ s = true := hts _ (List.mem_of_getElem? (i := 7) rfl)
  have hinX5 : ∀ w ∈ wsX50, w ∈ wsX6_ofTrip := fun w h => List.mem_cons_of_mem _ (List.mem_append_right _ h)
  have hinX6 : ∀ w ∈ wsX60, w ∈ wsX6_ofTrip := fun w h => List.mem_cons_of_mem _ (List.mem_append_left _ (List.mem_append_right _ h))
  have hl := lv_entry [.ref wa, .int i1, .int i2] (n := 4) (Nat.le_of_ble_eq_true rfl)
  rw [lg_entry_eq]
  generalize (lg_sl [.ref wa, .int i1, .int i2] ++ List.replicate (4 - (lg_sl [.ref wa, .int i1, .int i2]).length) Slot.unset).toArray = ls at hl ⊢
  have hl : lv_has ls 4 [(0, .ref wa), (1, .int i1), (2, .int i2)] := hl
  clear hP hD0
  suffices main : ∀ (H : Heap) (locs : List Loc), Bd (dC, dI) [(cyI, .int), (cyA, .array .int), (cyT, .object "UndoJourneysLaw$Trip")] (va_A (cX cyI cyA cyT wa ks ts kr ta sa ra K mT Ns ζ κ Φ Ψ) s.heap.size) s (cX cyI cyA cyT wa ks ts kr ta sa ra K mT Ns ζ κ Φ Ψ) H locs → W p l e (headSpec wsX6_ofTrip rmX6_ofTrip).room s m ([.ref wa, .int i1, .int i2] : List Value).toArray below meth c H locs 0 0 (MQ below (QiF (dC, dI) [(cyI, .int), (cyA, .array .int), (cyT, .object "UndoJourneysLaw$Trip")] (cX cyI cyA cyT wa ks ts kr ta sa ra K mT Ns ζ κ Φ Ψ) (cX cyI cyA cyT wa ks ts kr ta sa ra K mT Ns ζ κ Φ Ψ) s.heap.size r) ([.ref wa, .int i1, .int i2] : List Value).toArray s 0 0 (va_A (cX cyI cyA cyT wa ks ts kr ta sa ra K mT Ns ζ κ Φ Ψ) s.heap.size)) (F0 m 0 ls []) from main _ _ hB
  clear hB
  intro H locs hB
  unfold mX6_ofTrip at hf
  refine lv_aload_n hx hb dX6_ofTrip_0 rfl (lv_at hl 0 rfl) ?_
  refine g_get (C := RX6) (T := TX6) (N := 6) hx hb hts hinX6 hown hK hB 0 rfl rfl 5 rfl hq1 rfl rfl dX6_ofTrip_1 ?_
  refine lv_iload_n hx hb dX6_ofTrip_4 rfl (lv_at hl 1 rfl) ?_
  obtain ⟨j1, e9, hf⟩ := ob1_s hf
  obtain ⟨h_j1, e9⟩ := hixn_s e9
  refine g_aaldq hx hb hK hB 2 2 rfl rfl e9 dX6_ofTrip_5 ?_
  refine lv_astore_n (lv' := [(3, .ref (ta j1)), (0, .ref wa), (1, .int i1), (2, .int i2)]) hx hb dX6_ofTrip_6 rfl hl (by decide) rfl (fun ls hl => ?_)
  refine lv_iload_n hx hb dX6_ofTrip_7 rfl (lv_at hl 3 rfl) ?_
  obtain ⟨v2, hJ3, hf⟩ := ob1_s hf
  have kJ4 : ∀ (H : Heap) (locs : List Loc) (ls : Array Slot), Bd (dC, dI) [(cyI, .int), (cyA, .array .int), (cyT, .object "UndoJourneysLaw$Trip")] (va_A (cX cyI cyA cyT wa ks ts kr ta sa ra K mT Ns ζ κ Φ Ψ) s.heap.size) s (cX cyI cyA cyT wa ks ts kr ta sa ra K mT Ns ζ κ Φ Ψ) H locs → lv_has ls 4 [] → W p l e (headSpec wsX6_ofTrip rmX6_ofTrip).room s m ([.ref wa, .int i1, .int i2] : List Value).toArray below meth c H locs 0 0 (MQ below (QiF (dC, dI) [(cyI, .int), (cyA, .array .int), (cyT, .object "UndoJourneysLaw$Trip")] (cX cyI cyA cyT wa ks ts kr ta sa ra K mT Ns ζ κ Φ Ψ) (cX cyI cyA cyT wa ks ts kr ta sa ra K mT Ns ζ κ Φ Ψ) s.heap.size r) ([.ref wa, .int i1, .int i2] : List Value).toArray s 0 0 (va_A (cX cyI cyA cyT wa ks ts kr ta sa ra K mT Ns ζ κ Φ Ψ) s.heap.size)) (F0 m 83 ls [.int v2]) := by
    intro H locs ls hB hl
    have e0 := inj1 hf
    subst e0
    exact g_iret hx hb hr hlocks hK hB dX6_ofTrip_83
  refine lv_if_ne (tgt := 18) hx hb dX6_ofTrip_8 (by decide) (fun c5 => ?_) (fun c5 => ?_)
  · have hJ3 := ite_f c5 hJ3
    refine lv_iload_n hx hb dX6_ofTrip_18 rfl (lv_at hl 3 rfl) ?_
    refine lv_iconst (v := (1 : Int32)) hx hb dX6_ofTrip_19 (by decide) ?_
    refine lv_icmp_ne (tgt := 30) hx hb dX6_ofTrip_20 (by decide) (fun c6 => ?_) (fun c6 => ?_)
    · have hJ3 := ite_f c6 hJ3
      refine lv_iload_n hx hb dX6_ofTrip_30 rfl (lv_at hl 3 rfl) ?_
      refine lv_iconst (v := (2 : Int32)) hx hb dX6_ofTrip_31 (by decide) ?_
      refine lv_icmp_ne (tgt := 42) hx hb dX6_ofTrip_32 (by decide) (fun c7 => ?_) (fun c7 => ?_)
      · have hJ3 := ite_f c7 hJ3
        refine lv_iload_n hx hb dX6_ofTrip_42 rfl (lv_at hl 3 rfl) ?_
        refine lv_iconst (v := (3 : Int32)) hx hb dX6_ofTrip_43 (by decide) ?_
        refine lv_icmp_ne (tgt := 55) hx hb dX6_ofTrip_44 (by decide) (fun c8 => ?_) (fun c8 => ?_)
        · have hJ3 := ite_f c8 hJ3
          refine lv_iload_n hx hb dX6_ofTrip_55 rfl (lv_at hl 3 rfl) ?_
          refine lv_iconst (v := (4 : Int32)) hx hb dX6_ofTrip_56 (by decide) ?_
          refine lv_icmp_ne (tgt := 67) hx hb dX6_ofTrip_57 (by decide) (fun c9 => ?_) (fun c9 => ?_)
          · have hJ3 := ite_f c9 hJ3
            refine lv_iload_n hx hb dX6_ofTrip_67 rfl (lv_at hl 3 rfl) ?_
            refine lv_iconst (v := (5 : Int32)) hx hb dX6_ofTrip_68 (by decide) ?_
            refine lv_icmp_ne (tgt := 79) hx hb dX6_ofTrip_69 (by decide) (fun c10 => ?_) (fun c10 => ?_)
            · have hJ3 := ite_f c10 hJ3
              refine lv_aload_n hx hb dX6_ofTrip_79 rfl (lv_at hl 0 rfl) ?_
              obtain ⟨r11, hc, hJ3⟩ := ob1_s hJ3
              refine g_pcutVi (As := []) (rest := []) (w2 := (cX cyI cyA cyT wa ks ts kr ta sa ra K mT Ns ζ κ Φ Ψ)) ⟨hx, hb, hml, hown, hts⟩ (kX5_owes l dC dI cyI cyA (ta j1) (sa j1) (ra j1) H.size hc) (cwV 0 hts gX6_ofTrip_X5_owes rfl rfl rfl (by decide +kernel) ⟨Nat.le_of_ble_eq_true rfl, Nat.le_of_ble_eq_true rfl⟩) (hK.sub [0, 1] rfl) hB hA (g_recv (ci := 5) hK (hB.perm (cX_view cyI cyA cyT wa ks ts kr ta sa ra K mT Ns ζ κ Φ Ψ h_j1)) 0 rfl rfl rfl) (cX_view cyI cyA cyT wa ks ts kr ta sa ra K mT Ns ζ κ Φ Ψ h_j1) (cX_view cyI cyA cyT wa ks ts kr ta sa ra K mT Ns ζ κ Φ Ψ h_j1).symm rfl hl.1 rfl (Nat.le_of_ble_eq_true rfl) dX6_ofTrip_80 ⟨Nat.zero_le _, Nat.zero_le _⟩ (fun H locs hB => ?_)
              have e0 := inj1 hJ3
              subst e0
              exact kJ4 _ _ _ hB (lv_sub hl [] rfl)
            · have hJ3 := ite_t c10 hJ3
              refine lv_aload_n hx hb dX6_ofTrip_72 rfl (lv_at hl 0 rfl) ?_
              refine g_get (C := RX5) (T := TX5) (N := 7) hx hb hts hinX5 hown hK (hB.perm (cX_view cyI cyA cyT wa ks ts kr ta sa ra K mT Ns ζ κ Φ Ψ h_j1)) 0 rfl rfl 4 rfl hq7 rfl rfl dX6_ofTrip_73 ?_
              refine lv_goto (tgt := 83) hx hb dX6_ofTrip_76 (by decide) ?_
              have e0 := inj1 hJ3
              subst e0
              exact kJ4 _ _ _ hB (lv_sub hl [] rfl)
          · have hJ3 := ite_t c9 hJ3
            refine lv_aload_n hx hb dX6_ofTrip_60 rfl (lv_at hl 0 rfl) ?_
            refine g_get (C := RX5) (T := TX5) (N := 7) hx hb hts hinX5 hown hK (hB.perm (cX_view cyI cyA cyT wa ks ts kr ta sa ra K mT Ns ζ κ Φ Ψ h_j1)) 0 rfl rfl 3 rfl hq6 rfl rfl dX6_ofTrip_61 ?_
            refine lv_goto (tgt := 83) hx hb dX6_ofTrip_64 (by decide) ?_
            have e0 := inj1 hJ3
            subst e0
            exact kJ4 _ _ _ hB (lv_sub hl [] rfl)
        · have hJ3 := ite_t c8 hJ3
          refine lv_aload_n hx hb dX6_ofTrip_47 rfl (lv_at hl 0 rfl) ?_
          refine g_get (C := RX5) (T := TX5) (N := 7) hx hb hts hinX5 hown hK (hB.perm (cX_view cyI cyA cyT wa ks ts kr ta sa ra K mT Ns ζ κ Φ Ψ h_j1)) 0 rfl rfl 6 rfl hq5 rfl rfl dX6_ofTrip_48 ?_
          refine g_alen hx hb hK (hB.perm (cX_view cyI cyA cyT wa ks ts kr ta sa ra K mT Ns ζ κ Φ Ψ h_j1)) 1 1 rfl rfl (v := (nI (Ns j1))) rfl dX6_ofTrip_51 ?_
          refine lv_goto (tgt := 83) hx hb dX6_ofTrip_52 (by decide) ?_
          have e0 := inj1 hJ3
          subst e0
          exact kJ4 _ _ _ hB (lv_sub hl [] rfl)
      · have hJ3 := ite_t c7 hJ3
        refine lv_aload_n hx hb dX6_ofTrip_35 rfl (lv_at hl 0 rfl) ?_
        refine g_get (C := RX5) (T := TX5) (N := 7) hx hb hts hinX5 hown hK (hB.perm (cX_view cyI cyA cyT wa ks ts kr ta sa ra K mT Ns ζ κ Φ Ψ h_j1)) 0 rfl rfl 1 rfl hq4 rfl rfl dX6_ofTrip_36 ?_
        refine lv_goto (tgt := 83) hx hb dX6_ofTrip_39 (by decide) ?_
        have e0 := inj1 hJ3
        subst e0
        exact kJ4 _ _ _ hB (lv_sub hl [] rfl)
    · have hJ3 := ite_t c6 hJ3
      refine lv_aload_n hx hb dX6_ofTrip_23 rfl (lv_at hl 0 rfl) ?_
      refine g_get (C := RX5) (T := TX5) (N := 7) hx hb hts hinX5 hown hK (hB.perm (cX_view cyI cyA cyT wa ks ts kr ta sa ra K mT Ns ζ κ Φ Ψ h_j1)) 0 rfl rfl 0 rfl hq3 rfl rfl dX6_ofTrip_24 ?_
      refine lv_goto (tgt := 83) hx hb dX6_ofTrip_27 (by decide) ?_
      have e0 := inj1 hJ3
      subst e0
      exact kJ4 _ _ _ hB (lv_sub hl [] rfl)
  · have hJ3 := ite_t c5 hJ3
    refine lv_aload_n hx hb dX6_ofTrip_11 rfl (lv_at hl 0 rfl) ?_
    refine g_get (C := RX5) (T := TX5) (N := 7) hx hb hts hinX5 hown hK (hB.perm (cX_view cyI cyA cyT wa ks ts kr ta sa ra K mT Ns ζ κ Φ Ψ h_j1)) 0 rfl rfl 2 rfl hq2 rfl rfl dX6_ofTrip_12 ?_
    refine lv_goto (tgt := 83) hx hb dX6_ofTrip_15 (by decide) ?_
    have e0 := inj1 hJ3
    subst e0
    exact kJ4 _ _ _ hB (lv_sub hl [] rfl)

abbrev rmX6_checksum : Room := { frames := 4, cells := 0, slots := 0, locals := 104 }

set_option maxHeartbeats 4000000 in
set_option maxRecDepth 100000 in
theorem kX6_checksum (l : Launch) (dC : Nat → ClassId) (dI : Nat → Nat → Nat) (cyI cyA cyT : ClassId) (wa ks ts : Nat) (kr ta sa : PA) (ra : Nat → PA) (sz : Nat) {fu : Nat} {K : Nat} {mT : Nat} {Ns : PA} {ζ : MS} {κ : MS} {Φ : WS} {Ψ : WS} {r : Int64} (hf : mX6_checksum fu K mT Ns ζ κ Φ Ψ = some r) : Met l yX6_checksum wsX6_checksum rmX6_checksum (PcF (dC, dI) [(cyI, .int), (cyA, .array .int), (cyT, .object "UndoJourneysLaw$Trip")] (cX cyI cyA cyT wa ks ts kr ta sa ra K mT Ns ζ κ Φ Ψ) sz [.ref wa]) (QlF (dC, dI) [(cyI, .int), (cyA, .array .int), (cyT, .object "UndoJourneysLaw$Trip")] (cX cyI cyA cyT wa ks ts kr ta sa ra K mT Ns ζ κ Φ Ψ) (cX cyI cyA cyT wa ks ts kr ta sa ra K mT Ns ζ κ Φ Ψ) sz r) 0 0 (va_A (cX cyI cyA cyT wa ks ts kr ta sa ra K mT Ns ζ κ Φ Ψ) sz) := by
  refine Met.ofW (cc := cX6_checksum) (maxL := 8) (ret := (some .long)) (by decide) rfl ?_
  intro p e s m args below meth c s₁ B hml hv
  obtain ⟨rfl, hsz, hP, hK, hD0⟩ := hv
  have hx := B.exec
  have hb := B.bytes
  have hr := B.returns
  have hts := atoms_spec (ws := wsX6_checksum) B.pre
  have hown : s.vm.findClass RX6 = some m.cls := findClass_of_methodNamed B.named
  have hlocks := B.notSynchronized
  subst hsz
  have hA : ∀ q : Nat, s.heap.size ≤ q → va_A (cX cyI cyA cyT wa ks ts kr ta sa ra K mT Ns ζ κ Φ Ψ) s.heap.size q := fun q h => Or.inr h
  have hB : Bd (dC, dI) [(cyI, .int), (cyA, .array .int), (cyT, .object "UndoJourneysLaw$Trip")] (va_A (cX cyI cyA cyT wa ks ts kr ta sa ra K mT Ns ζ κ Φ Ψ) s.heap.size) s (cX cyI cyA cyT wa ks ts kr ta sa ra K mT Ns ζ κ Φ Ψ) s.heap [] := ⟨hP, hD0.self, va_S.rf⟩
  have hq1 : (Cond.constantLong RX6 118 (31)).before _ s = true := hts _ (List.mem_of_getElem? (i := 1) rfl)
  have hq2 : (Cond.fieldLink RX6 18 "UndoJourneysLaw$World" "stocks" "[[I").before _ s = true := hts _ (List.mem_of_getElem? (i := 2) rfl)
  have hq3 : (Cond.fieldLink RX6 24 "UndoJourneysLaw$World" "trips" "[LUndoJourneysLaw$Trip;").before _ s = true := hts _ (List.mem_of_getElem? (i := 3) rfl)
  have hq4 : (Cond.fieldLink RX6 54 "UndoJourneysLaw$Trip" "steps" "[[I").before _ s = true := hts _ (List.mem_of_getElem? (i := 4) rfl)
  have hinX5 : ∀ w ∈ wsX50, w ∈ wsX6_checksum := fun w h => List.mem_cons_of_mem _ (List.mem_append_right _ h)
  have hinX6 : ∀ w ∈ wsX60, w ∈ wsX6_checksum := fun w h => List.mem_cons_of_mem _ (List.mem_append_left _ (List.mem_append_right _ h))
  have hl := lv_entry [.ref wa] (n := 8) (Nat.le_of_ble_eq_true rfl)
  rw [lg_entry_eq]
  generalize (lg_sl [.ref wa] ++ List.replicate (8 - (lg_sl [.ref wa]).length) Slot.unset).toArray = ls at hl ⊢
  have hl : lv_has ls 8 [(0, .ref wa)] := hl
  clear hP hD0
  suffices main : ∀ (H : Heap) (locs : List Loc), Bd (dC, dI) [(cyI, .int), (cyA, .array .int), (cyT, .object "UndoJourneysLaw$Trip")] (va_A (cX cyI cyA cyT wa ks ts kr ta sa ra K mT Ns ζ κ Φ Ψ) s.heap.size) s (cX cyI cyA cyT wa ks ts kr ta sa ra K mT Ns ζ κ Φ Ψ) H locs → W p l e (headSpec wsX6_checksum rmX6_checksum).room s m ([.ref wa] : List Value).toArray below meth c H locs 0 0 (MQ below (QlF (dC, dI) [(cyI, .int), (cyA, .array .int), (cyT, .object "UndoJourneysLaw$Trip")] (cX cyI cyA cyT wa ks ts kr ta sa ra K mT Ns ζ κ Φ Ψ) (cX cyI cyA cyT wa ks ts kr ta sa ra K mT Ns ζ κ Φ Ψ) s.heap.size r) ([.ref wa] : List Value).toArray s 0 0 (va_A (cX cyI cyA cyT wa ks ts kr ta sa ra K mT Ns ζ κ Φ Ψ) s.heap.size)) (F0 m 0 ls []) from main _ _ hB
  clear hB
  intro H locs hB
  unfold mX6_checksum at hf
  refine lv_lconst (v := (0 : Int64)) hx hb dX6_checksum_0 (by decide) ?_
  refine lv_lstore_n (lv' := [(1, .long (0 : Int64)), (0, .ref wa)]) hx hb dX6_checksum_1 rfl hl (by decide) rfl (fun ls hl => ?_)
  refine lv_iconst (v := (0 : Int32)) hx hb dX6_checksum_2 (by decide) ?_
  refine lv_istore_n (lv' := [(3, .int (0 : Int32)), (1, .long (0 : Int64)), (0, .ref wa)]) hx hb dX6_checksum_3 rfl hl (by decide) rfl (fun ls hl => ?_)
  obtain ⟨v9, hL12, hf⟩ := ob1_s hf
  have kE10 : ∀ (H : Heap) (locs : List Loc) (ls : Array Slot), Bd (dC, dI) [(cyI, .int), (cyA, .array .int), (cyT, .object "UndoJourneysLaw$Trip")] (va_A (cX cyI cyA cyT wa ks ts kr ta sa ra K mT Ns ζ κ Φ Ψ) s.heap.size) s (cX cyI cyA cyT wa ks ts kr ta sa ra K mT Ns ζ κ Φ Ψ) H locs → lv_has ls 8 [(1, .long v9), (0, .ref wa)] → W p l e (headSpec wsX6_checksum rmX6_checksum).room s m ([.ref wa] : List Value).toArray below meth c H locs 0 0 (MQ below (QlF (dC, dI) [(cyI, .int), (cyA, .array .int), (cyT, .object "UndoJourneysLaw$Trip")] (cX cyI cyA cyT wa ks ts kr ta sa ra K mT Ns ζ κ Φ Ψ) (cX cyI cyA cyT wa ks ts kr ta sa ra K mT Ns ζ κ Φ Ψ) s.heap.size r) ([.ref wa] : List Value).toArray s 0 0 (va_A (cX cyI cyA cyT wa ks ts kr ta sa ra K mT Ns ζ κ Φ Ψ) s.heap.size)) (F0 m 29 ls []) := by
    intro H locs ls hB hl
    refine lv_iconst (v := (0 : Int32)) hx hb dX6_checksum_29 (by decide) ?_
    refine lv_istore_n (lv' := [(3, .int (0 : Int32)), (1, .long v9), (0, .ref wa)]) hx hb dX6_checksum_30 rfl hl (by decide) rfl (fun ls hl => ?_)
    obtain ⟨v41, hL44, hf⟩ := ob1_s hf
    have kE42 : ∀ (H : Heap) (locs : List Loc) (ls : Array Slot), Bd (dC, dI) [(cyI, .int), (cyA, .array .int), (cyT, .object "UndoJourneysLaw$Trip")] (va_A (cX cyI cyA cyT wa ks ts kr ta sa ra K mT Ns ζ κ Φ Ψ) s.heap.size) s (cX cyI cyA cyT wa ks ts kr ta sa ra K mT Ns ζ κ Φ Ψ) H locs → lv_has ls 8 [(1, .long v41), (0, .ref wa)] → W p l e (headSpec wsX6_checksum rmX6_checksum).room s m ([.ref wa] : List Value).toArray below meth c H locs 0 0 (MQ below (QlF (dC, dI) [(cyI, .int), (cyA, .array .int), (cyT, .object "UndoJourneysLaw$Trip")] (cX cyI cyA cyT wa ks ts kr ta sa ra K mT Ns ζ κ Φ Ψ) (cX cyI cyA cyT wa ks ts kr ta sa ra K mT Ns ζ κ Φ Ψ) s.heap.size r) ([.ref wa] : List Value).toArray s 0 0 (va_A (cX cyI cyA cyT wa ks ts kr ta sa ra K mT Ns ζ κ Φ Ψ) s.heap.size)) (F0 m 77 ls []) := by
      intro H locs ls hB hl
      refine lv_iconst (v := (0 : Int32)) hx hb dX6_checksum_77 (by decide) ?_
      refine lv_istore_n (lv' := [(3, .int (0 : Int32)), (1, .long v41), (0, .ref wa)]) hx hb dX6_checksum_78 rfl hl (by decide) rfl (fun ls hl => ?_)
      obtain ⟨v102, hL105, hf⟩ := ob1_s hf
      have kE103 : ∀ (H : Heap) (locs : List Loc) (ls : Array Slot), Bd (dC, dI) [(cyI, .int), (cyA, .array .int), (cyT, .object "UndoJourneysLaw$Trip")] (va_A (cX cyI cyA cyT wa ks ts kr ta sa ra K mT Ns ζ κ Φ Ψ) s.heap.size) s (cX cyI cyA cyT wa ks ts kr ta sa ra K mT Ns ζ κ Φ Ψ) H locs → lv_has ls 8 [(1, .long v102)] → W p l e (headSpec wsX6_checksum rmX6_checksum).room s m ([.ref wa] : List Value).toArray below meth c H locs 0 0 (MQ below (QlF (dC, dI) [(cyI, .int), (cyA, .array .int), (cyT, .object "UndoJourneysLaw$Trip")] (cX cyI cyA cyT wa ks ts kr ta sa ra K mT Ns ζ κ Φ Ψ) (cX cyI cyA cyT wa ks ts kr ta sa ra K mT Ns ζ κ Φ Ψ) s.heap.size r) ([.ref wa] : List Value).toArray s 0 0 (va_A (cX cyI cyA cyT wa ks ts kr ta sa ra K mT Ns ζ κ Φ Ψ) s.heap.size)) (F0 m 197 ls []) := by
        intro H locs ls hB hl
        refine lv_lload_n hx hb dX6_checksum_197 rfl (lv_at hl 0 rfl) ?_
        have e0 := inj1 hf
        subst e0
        exact g_lret hx hb hr hlocks hK hB dX6_checksum_198
      have key104 : ∀ (n9 : Nat) (v108 : Int32) (v109 : Int64) (H : Heap) (locs : List Loc) (ls : Array Slot), loopM (fun st => mX6_checksum_L79 fu K mT Ns ζ κ Φ Ψ st.1 st.2) n9 (v108, v109) = some v102 → Bd (dC, dI) [(cyI, .int), (cyA, .array .int), (cyT, .object "UndoJourneysLaw$Trip")] (va_A (cX cyI cyA cyT wa ks ts kr ta sa ra K mT Ns ζ κ Φ Ψ) s.heap.size) s (cX cyI cyA cyT wa ks ts kr ta sa ra K mT Ns ζ κ Φ Ψ) H locs → lv_has ls 8 [(3, .int v108), (1, .long v109), (0, .ref wa)] → W p l e (headSpec wsX6_checksum rmX6_checksum).room s m ([.ref wa] : List Value).toArray below meth c H locs 0 0 (MQ below (QlF (dC, dI) [(cyI, .int), (cyA, .array .int), (cyT, .object "UndoJourneysLaw$Trip")] (cX cyI cyA cyT wa ks ts kr ta sa ra K mT Ns ζ κ Φ Ψ) (cX cyI cyA cyT wa ks ts kr ta sa ra K mT Ns ζ κ Φ Ψ) s.heap.size r) ([.ref wa] : List Value).toArray s 0 0 (va_A (cX cyI cyA cyT wa ks ts kr ta sa ra K mT Ns ζ κ Φ Ψ) s.heap.size)) (F0 m 79 ls []) := by
        intro n9
        induction n9 with
        | zero => intro v108 v109 H locs ls hL105; exact (loopM_z hL105).elim
        | succ n9 ih9 =>
          intro v108 v109 H locs ls hL105 hB hl
          obtain ⟨o110, hg106, hL105⟩ := loopM_s hL105
          have hg106 : mX6_checksum_L79 fu K mT Ns ζ κ Φ Ψ v108 v109 = some o110 := hg106
          unfold mX6_checksum_L79 at hg106
          refine lv_iload_n hx hb dX6_checksum_79 rfl (lv_at hl 0 rfl) ?_
          refine lv_aload_n hx hb dX6_checksum_80 rfl (lv_at hl 2 rfl) ?_
          refine g_get (C := RX6) (T := TX6) (N := 6) hx hb hts hinX6 hown hK hB 0 rfl rfl 5 rfl hq3 rfl rfl dX6_checksum_81 ?_
          refine g_alen hx hb hK hB 2 2 rfl rfl (v := (nI mT)) rfl dX6_checksum_84 ?_
          refine lv_icmp_ge (tgt := 197) hx hb dX6_checksum_85 (by decide) (fun c111 => ?_) (fun c111 => ?_)
          · have hg106 := ite_t c111 hg106
            have hL105 := el1_l (inj1 hg106) hL105
            have e0 := inj1 hL105
            subst e0
            exact kE103 _ _ _ hB (lv_sub hl [1] rfl)
          · have hg106 := ite_f c111 hg106
            refine lv_iconst (v := (0 : Int32)) hx hb dX6_checksum_88 (by decide) ?_
            refine lv_istore (lv' := [(4, .int (0 : Int32)), (3, .int v108), (1, .long v109), (0, .ref wa)]) hx hb dX6_checksum_89 hl (by decide) rfl (fun ls hl => ?_)
            obtain ⟨v119, hL122, hg106⟩ := ob1_s hg106
            have kE120 : ∀ (H : Heap) (locs : List Loc) (ls : Array Slot), Bd (dC, dI) [(cyI, .int), (cyA, .array .int), (cyT, .object "UndoJourneysLaw$Trip")] (va_A (cX cyI cyA cyT wa ks ts kr ta sa ra K mT Ns ζ κ Φ Ψ) s.heap.size) s (cX cyI cyA cyT wa ks ts kr ta sa ra K mT Ns ζ κ Φ Ψ) H locs → lv_has ls 8 [(3, .int v108), (1, .long v119), (0, .ref wa)] → W p l e (headSpec wsX6_checksum rmX6_checksum).room s m ([.ref wa] : List Value).toArray below meth c H locs 0 0 (MQ below (QlF (dC, dI) [(cyI, .int), (cyA, .array .int), (cyT, .object "UndoJourneysLaw$Trip")] (cX cyI cyA cyT wa ks ts kr ta sa ra K mT Ns ζ κ Φ Ψ) (cX cyI cyA cyT wa ks ts kr ta sa ra K mT Ns ζ κ Φ Ψ) s.heap.size r) ([.ref wa] : List Value).toArray s 0 0 (va_A (cX cyI cyA cyT wa ks ts kr ta sa ra K mT Ns ζ κ Φ Ψ) s.heap.size)) (F0 m 119 ls []) := by
              intro H locs ls hB hl
              refine lv_aload_n hx hb dX6_checksum_119 rfl (lv_at hl 2 rfl) ?_
              refine g_get (C := RX6) (T := TX6) (N := 6) hx hb hts hinX6 hown hK hB 0 rfl rfl 5 rfl hq3 rfl rfl dX6_checksum_120 ?_
              refine lv_iload_n hx hb dX6_checksum_123 rfl (lv_at hl 0 rfl) ?_
              obtain ⟨j124, e9, hg106⟩ := ob1_s hg106
              obtain ⟨h_j124, e9⟩ := hixn_s e9
              refine g_aaldq hx hb hK hB 2 2 rfl rfl e9 dX6_checksum_124 ?_
              refine g_get (C := RX5) (T := TX5) (N := 7) hx hb hts hinX5 hown hK (hB.perm (cX_view cyI cyA cyT wa ks ts kr ta sa ra K mT Ns ζ κ Φ Ψ h_j124)) 0 rfl rfl 6 rfl hq4 rfl rfl dX6_checksum_125 ?_
              refine lv_astore (lv' := [(4, .ref (sa j124)), (3, .int v108), (1, .long v119), (0, .ref wa)]) hx hb dX6_checksum_128 hl (by decide) rfl (fun ls hl => ?_)
              refine lv_aload hx hb dX6_checksum_130 (lv_at hl 0 rfl) ?_
              refine g_alen hx hb hK (hB.perm (cX_view cyI cyA cyT wa ks ts kr ta sa ra K mT Ns ζ κ Φ Ψ h_j124)) 1 1 rfl rfl (v := (nI (Ns j124))) rfl dX6_checksum_132 ?_
              refine lv_istore (lv' := [(5, .int (nI (Ns j124))), (4, .ref (sa j124)), (3, .int v108), (1, .long v119), (0, .ref wa)]) hx hb dX6_checksum_133 hl (by decide) rfl (fun ls hl => ?_)
              refine lv_iconst (v := (0 : Int32)) hx hb dX6_checksum_135 (by decide) ?_
              refine lv_istore (lv' := [(6, .int (0 : Int32)), (5, .int (nI (Ns j124))), (4, .ref (sa j124)), (3, .int v108), (1, .long v119), (0, .ref wa)]) hx hb dX6_checksum_136 hl (by decide) rfl (fun ls hl => ?_)
              obtain ⟨v134, hL137, hg106⟩ := ob1_s hg106
              have kE135 : ∀ (H : Heap) (locs : List Loc) (ls : Array Slot), Bd (dC, dI) [(cyI, .int), (cyA, .array .int), (cyT, .object "UndoJourneysLaw$Trip")] (va_A (cX cyI cyA cyT wa ks ts kr ta sa ra K mT Ns ζ κ Φ Ψ) s.heap.size) s (cX cyI cyA cyT wa ks ts kr ta sa ra K mT Ns ζ κ Φ Ψ) H locs → lv_has ls 8 [(3, .int v108), (1, .long v134), (0, .ref wa)] → W p l e (headSpec wsX6_checksum rmX6_checksum).room s m ([.ref wa] : List Value).toArray below meth c H locs 0 0 (MQ below (QlF (dC, dI) [(cyI, .int), (cyA, .array .int), (cyT, .object "UndoJourneysLaw$Trip")] (cX cyI cyA cyT wa ks ts kr ta sa ra K mT Ns ζ κ Φ Ψ) (cX cyI cyA cyT wa ks ts kr ta sa ra K mT Ns ζ κ Φ Ψ) s.heap.size r) ([.ref wa] : List Value).toArray s 0 0 (va_A (cX cyI cyA cyT wa ks ts kr ta sa ra K mT Ns ζ κ Φ Ψ) s.heap.size)) (F0 m 191 ls []) := by
                intro H locs ls hB hl
                refine lv_iinc (v := (v108 + (1 : Int32))) (lv' := [(3, .int (v108 + (1 : Int32))), (1, .long v134), (0, .ref wa)]) hx hb dX6_checksum_191 hl (k := 0) rfl rfl (by decide) rfl (fun ls hl => ?_)
                refine lv_goto (tgt := 79) hx hb dX6_checksum_194 (by decide) ?_
                have hL105 := el1_r (inj1 hg106) hL105
                exact ih9 _ _ _ _ _ hL105 hB (lv_sub hl [0, 1, 2] rfl)
              have key136 : ∀ (n9 : Nat) (v140 : Int32) (v141 : Int64) (H : Heap) (locs : List Loc) (ls : Array Slot), loopM (fun st => mX6_checksum_L138 fu K mT Ns (nI (Ns j124)) j124 v108 ζ κ Φ Ψ st.1 st.2) n9 (v140, v141) = some v134 → Bd (dC, dI) [(cyI, .int), (cyA, .array .int), (cyT, .object "UndoJourneysLaw$Trip")] (va_A (cX cyI cyA cyT wa ks ts kr ta sa ra K mT Ns ζ κ Φ Ψ) s.heap.size) s (cX cyI cyA cyT wa ks ts kr ta sa ra K mT Ns ζ κ Φ Ψ) H locs → lv_has ls 8 [(6, .int v140), (5, .int (nI (Ns j124))), (4, .ref (sa j124)), (3, .int v108), (1, .long v141), (0, .ref wa)] → W p l e (headSpec wsX6_checksum rmX6_checksum).room s m ([.ref wa] : List Value).toArray below meth c H locs 0 0 (MQ below (QlF (dC, dI) [(cyI, .int), (cyA, .array .int), (cyT, .object "UndoJourneysLaw$Trip")] (cX cyI cyA cyT wa ks ts kr ta sa ra K mT Ns ζ κ Φ Ψ) (cX cyI cyA cyT wa ks ts kr ta sa ra K mT Ns ζ κ Φ Ψ) s.heap.size r) ([.ref wa] : List Value).toArray s 0 0 (va_A (cX cyI cyA cyT wa ks ts kr ta sa ra K mT Ns ζ κ Φ Ψ) s.heap.size)) (F0 m 138 ls []) := by
                intro n9
                induction n9 with
                | zero => intro v140 v141 H locs ls hL137; exact (loopM_z hL137).elim
                | succ n9 ih9 =>
                  intro v140 v141 H locs ls hL137 hB hl
                  obtain ⟨o142, hg138, hL137⟩ := loopM_s hL137
                  have hg138 : mX6_checksum_L138 fu K mT Ns (nI (Ns j124)) j124 v108 ζ κ Φ Ψ v140 v141 = some o142 := hg138
                  unfold mX6_checksum_L138 at hg138
                  refine lv_iload hx hb dX6_checksum_138 (lv_at hl 0 rfl) ?_
                  refine lv_iload hx hb dX6_checksum_140 (lv_at hl 1 rfl) ?_
                  refine lv_icmp_ge (tgt := 191) hx hb dX6_checksum_142 (by decide) (fun c143 => ?_) (fun c143 => ?_)
                  · have hg138 := ite_t c143 hg138
                    have hL137 := el1_l (inj1 hg138) hL137
                    have e0 := inj1 hL137
                    subst e0
                    exact kE135 _ _ _ hB (lv_sub hl [3, 4, 5] rfl)
                  · have hg138 := ite_f c143 hg138
                    refine lv_aload hx hb dX6_checksum_145 (lv_at hl 2 rfl) ?_
                    refine lv_iload hx hb dX6_checksum_147 (lv_at hl 0 rfl) ?_
                    obtain ⟨j144, e9, hg138⟩ := ob1_s hg138
                    obtain ⟨h_j144, e9⟩ := hixn_s e9
                    refine g_aald hx hb hK (hB.perm (cX_view cyI cyA cyT wa ks ts kr ta sa ra K mT Ns ζ κ Φ Ψ h_j124)) 1 1 rfl rfl e9 dX6_checksum_149 ?_
                    refine lv_astore (lv' := [(7, .ref (ra j124 j144)), (6, .int v140), (5, .int (nI (Ns j124))), (4, .ref (sa j124)), (3, .int v108), (1, .long v141), (0, .ref wa)]) hx hb dX6_checksum_150 hl (by decide) rfl (fun ls hl => ?_)
                    refine lv_ldc2 (v := (31 : Int64)) hx hb hown hq1 dX6_checksum_152 ?_
                    refine lv_ldc2 (v := (31 : Int64)) hx hb hown hq1 dX6_checksum_155 ?_
                    refine lv_ldc2 (v := (31 : Int64)) hx hb hown hq1 dX6_checksum_158 ?_
                    refine lv_lload_n hx hb dX6_checksum_161 rfl (lv_at hl 5 rfl) ?_
                    refine lv_lmul hx hb dX6_checksum_162 ?_
                    refine lv_aload hx hb dX6_checksum_163 (lv_at hl 0 rfl) ?_
                    refine lv_iconst (v := (4 : Int32)) hx hb dX6_checksum_165 (by decide) ?_
                    obtain ⟨x145, e9, hg138⟩ := ob1_s hg138
                    refine g_iald hx hb hK (hB.perm (cX_view cyI cyA cyT wa ks ts kr ta sa ra K mT Ns ζ κ Φ Ψ h_j124)) (2 + j144) 0 (cT_row cyI cyA (ta j124) (sa j124) (ra j124) (Ns j124) (Φ j124) (Ψ j124) _ h_j144) rfl (rd_s e9) dX6_checksum_166 ?_
                    refine lv_i2l hx hb dX6_checksum_167 rfl ?_
                    refine lv_ladd hx hb dX6_checksum_168 ?_
                    refine lv_lmul hx hb dX6_checksum_169 ?_
                    refine lv_aload hx hb dX6_checksum_170 (lv_at hl 0 rfl) ?_
                    refine lv_iconst (v := (5 : Int32)) hx hb dX6_checksum_172 (by decide) ?_
                    obtain ⟨x146, e9, hg138⟩ := ob1_s hg138
                    refine g_iald hx hb hK (hB.perm (cX_view cyI cyA cyT wa ks ts kr ta sa ra K mT Ns ζ κ Φ Ψ h_j124)) (2 + j144) 0 (cT_row cyI cyA (ta j124) (sa j124) (ra j124) (Ns j124) (Φ j124) (Ψ j124) _ h_j144) rfl (rd_s e9) dX6_checksum_173 ?_
                    refine lv_i2l hx hb dX6_checksum_174 rfl ?_
                    refine lv_ladd hx hb dX6_checksum_175 ?_
                    refine lv_lmul hx hb dX6_checksum_176 ?_
                    refine lv_aload hx hb dX6_checksum_177 (lv_at hl 0 rfl) ?_
                    refine lv_bipush (v := (6 : Int32)) hx hb dX6_checksum_179 (by decide) ?_
                    obtain ⟨x147, e9, hg138⟩ := ob1_s hg138
                    refine g_iald hx hb hK (hB.perm (cX_view cyI cyA cyT wa ks ts kr ta sa ra K mT Ns ζ κ Φ Ψ h_j124)) (2 + j144) 0 (cT_row cyI cyA (ta j124) (sa j124) (ra j124) (Ns j124) (Φ j124) (Ψ j124) _ h_j144) rfl (rd_s e9) dX6_checksum_181 ?_
                    refine lv_i2l hx hb dX6_checksum_182 rfl ?_
                    refine lv_ladd hx hb dX6_checksum_183 ?_
                    refine lv_lstore_n (lv' := [(1, .long (((31 : Int64) * (((31 : Int64) * (((31 : Int64) * v141) + (x145.toInt64))) + (x146.toInt64))) + (x147.toInt64))), (7, .ref (ra j124 j144)), (6, .int v140), (5, .int (nI (Ns j124))), (4, .ref (sa j124)), (3, .int v108), (0, .ref wa)]) hx hb dX6_checksum_184 rfl hl (by decide) rfl (fun ls hl => ?_)
                    refine lv_iinc (v := (v140 + (1 : Int32))) (lv' := [(6, .int (v140 + (1 : Int32))), (1, .long (((31 : Int64) * (((31 : Int64) * (((31 : Int64) * v141) + (x145.toInt64))) + (x146.toInt64))) + (x147.toInt64))), (7, .ref (ra j124 j144)), (5, .int (nI (Ns j124))), (4, .ref (sa j124)), (3, .int v108), (0, .ref wa)]) hx hb dX6_checksum_185 hl (k := 2) rfl rfl (by decide) rfl (fun ls hl => ?_)
                    refine lv_goto (tgt := 138) hx hb dX6_checksum_188 (by decide) ?_
                    have hL137 := el1_r (inj1 hg138) hL137
                    exact ih9 _ _ _ _ _ hL137 hB (lv_sub hl [0, 3, 4, 5, 1, 6] rfl)
              exact key136 fu _ _ _ _ _ hL137 hB (lv_sub hl [0, 1, 2, 3, 4, 5] rfl)
            have key121 : ∀ (n9 : Nat) (v149 : Int32) (v150 : Int64) (H : Heap) (locs : List Loc) (ls : Array Slot), loopM (fun st => mX6_checksum_L91 fu K mT Ns v108 ζ κ Φ Ψ st.1 st.2) n9 (v149, v150) = some v119 → Bd (dC, dI) [(cyI, .int), (cyA, .array .int), (cyT, .object "UndoJourneysLaw$Trip")] (va_A (cX cyI cyA cyT wa ks ts kr ta sa ra K mT Ns ζ κ Φ Ψ) s.heap.size) s (cX cyI cyA cyT wa ks ts kr ta sa ra K mT Ns ζ κ Φ Ψ) H locs → lv_has ls 8 [(4, .int v149), (3, .int v108), (1, .long v150), (0, .ref wa)] → W p l e (headSpec wsX6_checksum rmX6_checksum).room s m ([.ref wa] : List Value).toArray below meth c H locs 0 0 (MQ below (QlF (dC, dI) [(cyI, .int), (cyA, .array .int), (cyT, .object "UndoJourneysLaw$Trip")] (cX cyI cyA cyT wa ks ts kr ta sa ra K mT Ns ζ κ Φ Ψ) (cX cyI cyA cyT wa ks ts kr ta sa ra K mT Ns ζ κ Φ Ψ) s.heap.size r) ([.ref wa] : List Value).toArray s 0 0 (va_A (cX cyI cyA cyT wa ks ts kr ta sa ra K mT Ns ζ κ Φ Ψ) s.heap.size)) (F0 m 91 ls []) := by
              intro n9
              induction n9 with
              | zero => intro v149 v150 H locs ls hL122; exact (loopM_z hL122).elim
              | succ n9 ih9 =>
                intro v149 v150 H locs ls hL122 hB hl
                obtain ⟨o151, hg123, hL122⟩ := loopM_s hL122
                have hg123 : mX6_checksum_L91 fu K mT Ns v108 ζ κ Φ Ψ v149 v150 = some o151 := hg123
                unfold mX6_checksum_L91 at hg123
                refine lv_iload hx hb dX6_checksum_91 (lv_at hl 0 rfl) ?_
                refine lv_bipush (v := (7 : Int32)) hx hb dX6_checksum_93 (by decide) ?_
                refine lv_icmp_ge (tgt := 119) hx hb dX6_checksum_95 (by decide) (fun c152 => ?_) (fun c152 => ?_)
                · have hg123 := ite_t c152 hg123
                  have hL122 := el1_l (inj1 hg123) hL122
                  have e0 := inj1 hL122
                  subst e0
                  exact kE120 _ _ _ hB (lv_sub hl [1, 2, 3] rfl)
                · have hg123 := ite_f c152 hg123
                  refine lv_ldc2 (v := (31 : Int64)) hx hb hown hq1 dX6_checksum_98 ?_
                  refine lv_lload_n hx hb dX6_checksum_101 rfl (lv_at hl 2 rfl) ?_
                  refine lv_lmul hx hb dX6_checksum_102 ?_
                  refine lv_aload_n hx hb dX6_checksum_103 rfl (lv_at hl 3 rfl) ?_
                  refine lv_iload_n hx hb dX6_checksum_104 rfl (lv_at hl 1 rfl) ?_
                  refine lv_iload hx hb dX6_checksum_105 (lv_at hl 0 rfl) ?_
                  obtain ⟨r153, hc, hg123⟩ := ob1_s hg123
                  refine g_callVi (As := [.int v108, .int v149]) (rest := [.long ((31 : Int64) * v150)]) ⟨hx, hb, hml, hown, hts⟩ (kX6_ofTrip l dC dI cyI cyA cyT wa ks ts kr ta sa ra H.size hc) (cwV 2 hts gX6_checksum_X6_ofTrip rfl rfl rfl (by decide +kernel) ⟨Nat.le_of_ble_eq_true rfl, Nat.le_of_ble_eq_true rfl⟩) hK hB hA (g_recv (ci := 6) hK hB 0 rfl rfl rfl) rfl hl.1 rfl (Nat.le_of_ble_eq_true rfl) dX6_checksum_107 ⟨Nat.zero_le _, Nat.zero_le _⟩ (fun H locs hB => ?_)
                  refine lv_i2l hx hb dX6_checksum_110 rfl ?_
                  refine lv_ladd hx hb dX6_checksum_111 ?_
                  refine lv_lstore_n (lv' := [(1, .long (((31 : Int64) * v150) + (r153.toInt64))), (4, .int v149), (3, .int v108), (0, .ref wa)]) hx hb dX6_checksum_112 rfl hl (by decide) rfl (fun ls hl => ?_)
                  refine lv_iinc (v := (v149 + (1 : Int32))) (lv' := [(4, .int (v149 + (1 : Int32))), (1, .long (((31 : Int64) * v150) + (r153.toInt64))), (3, .int v108), (0, .ref wa)]) hx hb dX6_checksum_113 hl (k := 1) rfl rfl (by decide) rfl (fun ls hl => ?_)
                  refine lv_goto (tgt := 91) hx hb dX6_checksum_116 (by decide) ?_
                  have hL122 := el1_r (inj1 hg123) hL122
                  exact ih9 _ _ _ _ _ hL122 hB (lv_sub hl [0, 2, 1, 3] rfl)
            exact key121 fu _ _ _ _ _ hL122 hB (lv_sub hl [0, 1, 2, 3] rfl)
      exact key104 fu _ _ _ _ _ hL105 hB (lv_sub hl [0, 1, 2] rfl)
    have key43 : ∀ (n9 : Nat) (v155 : Int32) (v156 : Int64) (H : Heap) (locs : List Loc) (ls : Array Slot), loopM (fun st => mX6_checksum_L31 fu K mT Ns ζ κ Φ Ψ st.1 st.2) n9 (v155, v156) = some v41 → Bd (dC, dI) [(cyI, .int), (cyA, .array .int), (cyT, .object "UndoJourneysLaw$Trip")] (va_A (cX cyI cyA cyT wa ks ts kr ta sa ra K mT Ns ζ κ Φ Ψ) s.heap.size) s (cX cyI cyA cyT wa ks ts kr ta sa ra K mT Ns ζ κ Φ Ψ) H locs → lv_has ls 8 [(3, .int v155), (1, .long v156), (0, .ref wa)] → W p l e (headSpec wsX6_checksum rmX6_checksum).room s m ([.ref wa] : List Value).toArray below meth c H locs 0 0 (MQ below (QlF (dC, dI) [(cyI, .int), (cyA, .array .int), (cyT, .object "UndoJourneysLaw$Trip")] (cX cyI cyA cyT wa ks ts kr ta sa ra K mT Ns ζ κ Φ Ψ) (cX cyI cyA cyT wa ks ts kr ta sa ra K mT Ns ζ κ Φ Ψ) s.heap.size r) ([.ref wa] : List Value).toArray s 0 0 (va_A (cX cyI cyA cyT wa ks ts kr ta sa ra K mT Ns ζ κ Φ Ψ) s.heap.size)) (F0 m 31 ls []) := by
      intro n9
      induction n9 with
      | zero => intro v155 v156 H locs ls hL44; exact (loopM_z hL44).elim
      | succ n9 ih9 =>
        intro v155 v156 H locs ls hL44 hB hl
        obtain ⟨o157, hg45, hL44⟩ := loopM_s hL44
        have hg45 : mX6_checksum_L31 fu K mT Ns ζ κ Φ Ψ v155 v156 = some o157 := hg45
        unfold mX6_checksum_L31 at hg45
        refine lv_iload_n hx hb dX6_checksum_31 rfl (lv_at hl 0 rfl) ?_
        refine lv_aload_n hx hb dX6_checksum_32 rfl (lv_at hl 2 rfl) ?_
        refine g_get (C := RX6) (T := TX6) (N := 6) hx hb hts hinX6 hown hK hB 0 rfl rfl 4 rfl hq2 rfl rfl dX6_checksum_33 ?_
        refine g_alen hx hb hK hB 1 1 rfl rfl (v := (nI K)) rfl dX6_checksum_36 ?_
        refine lv_icmp_ge (tgt := 77) hx hb dX6_checksum_37 (by decide) (fun c158 => ?_) (fun c158 => ?_)
        · have hg45 := ite_t c158 hg45
          have hL44 := el1_l (inj1 hg45) hL44
          have e0 := inj1 hL44
          subst e0
          exact kE42 _ _ _ hB (lv_sub hl [1, 2] rfl)
        · have hg45 := ite_f c158 hg45
          refine lv_iconst (v := (0 : Int32)) hx hb dX6_checksum_40 (by decide) ?_
          refine lv_istore (lv' := [(4, .int (0 : Int32)), (3, .int v155), (1, .long v156), (0, .ref wa)]) hx hb dX6_checksum_41 hl (by decide) rfl (fun ls hl => ?_)
          obtain ⟨v166, hL169, hg45⟩ := ob1_s hg45
          have kE167 : ∀ (H : Heap) (locs : List Loc) (ls : Array Slot), Bd (dC, dI) [(cyI, .int), (cyA, .array .int), (cyT, .object "UndoJourneysLaw$Trip")] (va_A (cX cyI cyA cyT wa ks ts kr ta sa ra K mT Ns ζ κ Φ Ψ) s.heap.size) s (cX cyI cyA cyT wa ks ts kr ta sa ra K mT Ns ζ κ Φ Ψ) H locs → lv_has ls 8 [(3, .int v155), (1, .long v166), (0, .ref wa)] → W p l e (headSpec wsX6_checksum rmX6_checksum).room s m ([.ref wa] : List Value).toArray below meth c H locs 0 0 (MQ below (QlF (dC, dI) [(cyI, .int), (cyA, .array .int), (cyT, .object "UndoJourneysLaw$Trip")] (cX cyI cyA cyT wa ks ts kr ta sa ra K mT Ns ζ κ Φ Ψ) (cX cyI cyA cyT wa ks ts kr ta sa ra K mT Ns ζ κ Φ Ψ) s.heap.size r) ([.ref wa] : List Value).toArray s 0 0 (va_A (cX cyI cyA cyT wa ks ts kr ta sa ra K mT Ns ζ κ Φ Ψ) s.heap.size)) (F0 m 71 ls []) := by
            intro H locs ls hB hl
            refine lv_iinc (v := (v155 + (1 : Int32))) (lv' := [(3, .int (v155 + (1 : Int32))), (1, .long v166), (0, .ref wa)]) hx hb dX6_checksum_71 hl (k := 0) rfl rfl (by decide) rfl (fun ls hl => ?_)
            refine lv_goto (tgt := 31) hx hb dX6_checksum_74 (by decide) ?_
            have hL44 := el1_r (inj1 hg45) hL44
            exact ih9 _ _ _ _ _ hL44 hB (lv_sub hl [0, 1, 2] rfl)
          have key168 : ∀ (n9 : Nat) (v172 : Int32) (v173 : Int64) (H : Heap) (locs : List Loc) (ls : Array Slot), loopM (fun st => mX6_checksum_L43 fu K mT Ns v155 ζ κ Φ Ψ st.1 st.2) n9 (v172, v173) = some v166 → Bd (dC, dI) [(cyI, .int), (cyA, .array .int), (cyT, .object "UndoJourneysLaw$Trip")] (va_A (cX cyI cyA cyT wa ks ts kr ta sa ra K mT Ns ζ κ Φ Ψ) s.heap.size) s (cX cyI cyA cyT wa ks ts kr ta sa ra K mT Ns ζ κ Φ Ψ) H locs → lv_has ls 8 [(4, .int v172), (3, .int v155), (1, .long v173), (0, .ref wa)] → W p l e (headSpec wsX6_checksum rmX6_checksum).room s m ([.ref wa] : List Value).toArray below meth c H locs 0 0 (MQ below (QlF (dC, dI) [(cyI, .int), (cyA, .array .int), (cyT, .object "UndoJourneysLaw$Trip")] (cX cyI cyA cyT wa ks ts kr ta sa ra K mT Ns ζ κ Φ Ψ) (cX cyI cyA cyT wa ks ts kr ta sa ra K mT Ns ζ κ Φ Ψ) s.heap.size r) ([.ref wa] : List Value).toArray s 0 0 (va_A (cX cyI cyA cyT wa ks ts kr ta sa ra K mT Ns ζ κ Φ Ψ) s.heap.size)) (F0 m 43 ls []) := by
            intro n9
            induction n9 with
            | zero => intro v172 v173 H locs ls hL169; exact (loopM_z hL169).elim
            | succ n9 ih9 =>
              intro v172 v173 H locs ls hL169 hB hl
              obtain ⟨o174, hg170, hL169⟩ := loopM_s hL169
              have hg170 : mX6_checksum_L43 fu K mT Ns v155 ζ κ Φ Ψ v172 v173 = some o174 := hg170
              unfold mX6_checksum_L43 at hg170
              refine lv_iload hx hb dX6_checksum_43 (lv_at hl 0 rfl) ?_
              refine lv_bipush (v := (6 : Int32)) hx hb dX6_checksum_45 (by decide) ?_
              refine lv_icmp_ge (tgt := 71) hx hb dX6_checksum_47 (by decide) (fun c175 => ?_) (fun c175 => ?_)
              · have hg170 := ite_t c175 hg170
                have hL169 := el1_l (inj1 hg170) hL169
                have e0 := inj1 hL169
                subst e0
                exact kE167 _ _ _ hB (lv_sub hl [1, 2, 3] rfl)
              · have hg170 := ite_f c175 hg170
                refine lv_ldc2 (v := (31 : Int64)) hx hb hown hq1 dX6_checksum_50 ?_
                refine lv_lload_n hx hb dX6_checksum_53 rfl (lv_at hl 2 rfl) ?_
                refine lv_lmul hx hb dX6_checksum_54 ?_
                refine lv_aload_n hx hb dX6_checksum_55 rfl (lv_at hl 3 rfl) ?_
                refine lv_iload_n hx hb dX6_checksum_56 rfl (lv_at hl 1 rfl) ?_
                refine lv_iload hx hb dX6_checksum_57 (lv_at hl 0 rfl) ?_
                obtain ⟨r176, hc, hg170⟩ := ob1_s hg170
                refine g_callVi (As := [.int v155, .int v172]) (rest := [.long ((31 : Int64) * v173)]) ⟨hx, hb, hml, hown, hts⟩ (kX6_ofStock l dC dI cyI cyA cyT wa ks ts kr ta sa ra H.size hc) (cwV 2 hts gX6_checksum_X6_ofStock rfl rfl rfl (by decide +kernel) ⟨Nat.le_of_ble_eq_true rfl, Nat.le_of_ble_eq_true rfl⟩) hK hB hA (g_recv (ci := 6) hK hB 0 rfl rfl rfl) rfl hl.1 rfl (Nat.le_of_ble_eq_true rfl) dX6_checksum_59 ⟨Nat.zero_le _, Nat.zero_le _⟩ (fun H locs hB => ?_)
                refine lv_i2l hx hb dX6_checksum_62 rfl ?_
                refine lv_ladd hx hb dX6_checksum_63 ?_
                refine lv_lstore_n (lv' := [(1, .long (((31 : Int64) * v173) + (r176.toInt64))), (4, .int v172), (3, .int v155), (0, .ref wa)]) hx hb dX6_checksum_64 rfl hl (by decide) rfl (fun ls hl => ?_)
                refine lv_iinc (v := (v172 + (1 : Int32))) (lv' := [(4, .int (v172 + (1 : Int32))), (1, .long (((31 : Int64) * v173) + (r176.toInt64))), (3, .int v155), (0, .ref wa)]) hx hb dX6_checksum_65 hl (k := 1) rfl rfl (by decide) rfl (fun ls hl => ?_)
                refine lv_goto (tgt := 43) hx hb dX6_checksum_68 (by decide) ?_
                have hL169 := el1_r (inj1 hg170) hL169
                exact ih9 _ _ _ _ _ hL169 hB (lv_sub hl [0, 2, 1, 3] rfl)
          exact key168 fu _ _ _ _ _ hL169 hB (lv_sub hl [0, 1, 2, 3] rfl)
    exact key43 fu _ _ _ _ _ hL44 hB (lv_sub hl [0, 1, 2] rfl)
  have key11 : ∀ (n9 : Nat) (v178 : Int32) (v179 : Int64) (H : Heap) (locs : List Loc) (ls : Array Slot), loopM (fun st => mX6_checksum_L4 fu K mT Ns ζ κ Φ Ψ st.1 st.2) n9 (v178, v179) = some v9 → Bd (dC, dI) [(cyI, .int), (cyA, .array .int), (cyT, .object "UndoJourneysLaw$Trip")] (va_A (cX cyI cyA cyT wa ks ts kr ta sa ra K mT Ns ζ κ Φ Ψ) s.heap.size) s (cX cyI cyA cyT wa ks ts kr ta sa ra K mT Ns ζ κ Φ Ψ) H locs → lv_has ls 8 [(3, .int v178), (1, .long v179), (0, .ref wa)] → W p l e (headSpec wsX6_checksum rmX6_checksum).room s m ([.ref wa] : List Value).toArray below meth c H locs 0 0 (MQ below (QlF (dC, dI) [(cyI, .int), (cyA, .array .int), (cyT, .object "UndoJourneysLaw$Trip")] (cX cyI cyA cyT wa ks ts kr ta sa ra K mT Ns ζ κ Φ Ψ) (cX cyI cyA cyT wa ks ts kr ta sa ra K mT Ns ζ κ Φ Ψ) s.heap.size r) ([.ref wa] : List Value).toArray s 0 0 (va_A (cX cyI cyA cyT wa ks ts kr ta sa ra K mT Ns ζ κ Φ Ψ) s.heap.size)) (F0 m 4 ls []) := by
    intro n9
    induction n9 with
    | zero => intro v178 v179 H locs ls hL12; exact (loopM_z hL12).elim
    | succ n9 ih9 =>
      intro v178 v179 H locs ls hL12 hB hl
      obtain ⟨o180, hg13, hL12⟩ := loopM_s hL12
      have hg13 : mX6_checksum_L4 fu K mT Ns ζ κ Φ Ψ v178 v179 = some o180 := hg13
      unfold mX6_checksum_L4 at hg13
      refine lv_iload_n hx hb dX6_checksum_4 rfl (lv_at hl 0 rfl) ?_
      refine lv_bipush (v := (10 : Int32)) hx hb dX6_checksum_5 (by decide) ?_
      refine lv_icmp_ge (tgt := 29) hx hb dX6_checksum_7 (by decide) (fun c181 => ?_) (fun c181 => ?_)
      · have hg13 := ite_t c181 hg13
        have hL12 := el1_l (inj1 hg13) hL12
        have e0 := inj1 hL12
        subst e0
        exact kE10 _ _ _ hB (lv_sub hl [1, 2] rfl)
      · have hg13 := ite_f c181 hg13
        refine lv_ldc2 (v := (31 : Int64)) hx hb hown hq1 dX6_checksum_10 ?_
        refine lv_lload_n hx hb dX6_checksum_13 rfl (lv_at hl 1 rfl) ?_
        refine lv_lmul hx hb dX6_checksum_14 ?_
        refine lv_aload_n hx hb dX6_checksum_15 rfl (lv_at hl 2 rfl) ?_
        refine lv_iload_n hx hb dX6_checksum_16 rfl (lv_at hl 0 rfl) ?_
        obtain ⟨r182, hc, hg13⟩ := ob1_s hg13
        refine g_callVi (As := [.int v178]) (rest := [.long ((31 : Int64) * v179)]) ⟨hx, hb, hml, hown, hts⟩ (kX6_told l dC dI cyI cyA cyT wa ks ts kr ta sa ra H.size hc) (cwV 1 hts gX6_checksum_X6_told rfl rfl rfl (by decide +kernel) ⟨Nat.le_of_ble_eq_true rfl, Nat.le_of_ble_eq_true rfl⟩) hK hB hA (g_recv (ci := 6) hK hB 0 rfl rfl rfl) rfl hl.1 rfl (Nat.le_of_ble_eq_true rfl) dX6_checksum_17 ⟨Nat.zero_le _, Nat.zero_le _⟩ (fun H locs hB => ?_)
        refine lv_i2l hx hb dX6_checksum_20 rfl ?_
        refine lv_ladd hx hb dX6_checksum_21 ?_
        refine lv_lstore_n (lv' := [(1, .long (((31 : Int64) * v179) + (r182.toInt64))), (3, .int v178), (0, .ref wa)]) hx hb dX6_checksum_22 rfl hl (by decide) rfl (fun ls hl => ?_)
        refine lv_iinc (v := (v178 + (1 : Int32))) (lv' := [(3, .int (v178 + (1 : Int32))), (1, .long (((31 : Int64) * v179) + (r182.toInt64))), (0, .ref wa)]) hx hb dX6_checksum_23 hl (k := 1) rfl rfl (by decide) rfl (fun ls hl => ?_)
        refine lv_goto (tgt := 4) hx hb dX6_checksum_26 (by decide) ?_
        have hL12 := el1_r (inj1 hg13) hL12
        exact ih9 _ _ _ _ _ hL12 hB (lv_sub hl [0, 1, 2] rfl)
  exact key11 fu _ _ _ _ _ hL12 hB (lv_sub hl [0, 1, 2] rfl)

