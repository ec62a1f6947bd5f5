abbrev rmX6_tick : Room := { frames := 5, cells := 1, slots := 8, locals := 122 }

set_option maxHeartbeats 8000000 in
set_option maxRecDepth 100000 in
theorem kX6_tick (l : Launch) (hl0 : l.stackTraces = false) (dC : Nat → ClassId) (dI : Nat → Nat → Nat) (cyI cyB cyO cyA cyT cyW cyZ : ClassId) (kS : Nat → Nat) (wa ks ts : Nat) (kr ta sa : PA) (ra : Nat → PA) (sz : Nat) {fu : Nat} {K : Nat} {mT : Nat} {Ns : PA} {ζ : MS} {κ : MS} {Φ : WS} {Ψ : WS} {ζ_ : MS} {κ_ : MS} {Φ_ : WS} {Ψ_ : WS} (hf : mX6_tick fu K mT Ns ζ κ Φ Ψ = some (ζ_, κ_, Φ_, Ψ_)) : Met l yX6_tick wqX6_tick rmX6_tick (PcE (dC, dI) [(cyI, .int), (cyB, .byte), (cyO, .object "UndoJourneys$World"), (cyA, .array .int), (cyT, .object "UndoJourneysLaw$Trip"), (cyW, .object "UndoJourneysLaw$World"), (cyZ, .boolean)] kS (wF [cX cyI cyA cyT wa ks ts kr ta sa ra K mT Ns ζ κ Φ Ψ]) sz [.ref wa]) (QvF (dC, dI) [(cyI, .int), (cyB, .byte), (cyO, .object "UndoJourneys$World"), (cyA, .array .int), (cyT, .object "UndoJourneysLaw$Trip"), (cyW, .object "UndoJourneysLaw$World"), (cyZ, .boolean)] (wF [cX cyI cyA cyT wa ks ts kr ta sa ra K mT Ns ζ κ Φ Ψ]) (wF [cX cyI cyA cyT wa ks ts kr ta sa ra K mT Ns ζ_ κ_ Φ_ Ψ_]) sz) 1 8 (va_A (wF [cX cyI cyA cyT wa ks ts kr ta sa ra K mT Ns ζ κ Φ Ψ]) sz) := by
  refine Met.ofW (cc := cX6_tick) (maxL := 6) (ret := none) (by decide) rfl ?_
  intro p e s m args below meth c s₁ B hml hv
  obtain ⟨rfl, ⟨hsz, hP, hK, hD0⟩, hEV⟩ := hv
  obtain ⟨hEX, hNC, hJ, hNw, hNw3, hAOw, hN6, hN5, hAOT, hAOW, hAOA, hCl⟩ := id hEV
  have hx := B.exec
  have hb := B.bytes
  have hr := B.returns
  have hts := atoms_spec (ws := wqX6_tick) B.pre
  have hgb : ∀ w ∈ gw_tbl, w ∈ wqX6_tick := fun w h => List.mem_cons_of_mem _ h
  have hown : s.vm.findClass RX6 = some m.cls := findClass_of_methodNamed B.named
  have hlocks := B.notSynchronized
  subst hsz
  have hA : ∀ q : Nat, s.heap.size ≤ q → va_A (wF [cX cyI cyA cyT wa ks ts kr ta sa ra K mT Ns ζ κ Φ Ψ]) s.heap.size q := fun q h => Or.inr h
  have hB : Bd (dC, dI) [(cyI, .int), (cyB, .byte), (cyO, .object "UndoJourneys$World"), (cyA, .array .int), (cyT, .object "UndoJourneysLaw$Trip"), (cyW, .object "UndoJourneysLaw$World"), (cyZ, .boolean)] (va_A (wF [cX cyI cyA cyT wa ks ts kr ta sa ra K mT Ns ζ κ Φ Ψ]) s.heap.size) s (wF [cX cyI cyA cyT wa ks ts kr ta sa ra K mT Ns ζ κ Φ Ψ]) s.heap [] := ⟨hP, hD0.self, va_S.rf⟩
  have hq0 : (Cond.fieldLink RX6 24 "UndoJourneysLaw$World" "trips" "[LUndoJourneysLaw$Trip;").before _ s = true := hts _ (hgb _ (gwt (tb2 27 rfl) (by decide +kernel)))
  have hq1 : (Cond.arrayClass .boolean).before _ s = true := hts _ (hgb _ (gwt (tb2 142 rfl) (by decide +kernel)))
  have hq2 : (Cond.fieldLink RX6 93 "UndoJourneysLaw$Trip" "state" "I").before _ s = true := hts _ (hgb _ (gwt (tb2 72 rfl) (by decide +kernel)))
  have hq3 : (Cond.fieldLink RX6 96 "UndoJourneysLaw$Trip" "start" "I").before _ s = true := hts _ (hgb _ (gwt (tb2 66 rfl) (by decide +kernel)))
  have hq4 : (Cond.fieldLink RX6 29 "UndoJourneysLaw$World" "time" "I").before _ s = true := hts _ (hgb _ (gwt (tb2 19 rfl) (by decide +kernel)))
  have hinX5 : ∀ w ∈ wsX50, w ∈ wqX6_tick := fun w h => hgb _ (gwt (t_wsX50 w h) (List.all_eq_true.mp (by decide +kernel : wsX50.all goodWord = true) w h))
  have hinX6 : ∀ w ∈ wsX60, w ∈ wqX6_tick := fun w h => hgb _ (gwt (t_wsX60 w h) (List.all_eq_true.mp (by decide +kernel : wsX60.all goodWord = true) w h))
  have hl := lv_entry [.ref wa] (n := 6) (Nat.le_of_ble_eq_true rfl)
  rw [lg_entry_eq]
  generalize (lg_sl [.ref wa] ++ List.replicate (6 - (lg_sl [.ref wa]).length) Slot.unset).toArray = ls at hl ⊢
  have hl : lv_has ls 6 [(0, .ref wa)] := hl
  clear hP hD0
  suffices main : ∀ (H : Heap) (locs : List Loc), Bd (dC, dI) [(cyI, .int), (cyB, .byte), (cyO, .object "UndoJourneys$World"), (cyA, .array .int), (cyT, .object "UndoJourneysLaw$Trip"), (cyW, .object "UndoJourneysLaw$World"), (cyZ, .boolean)] (va_A (wF [cX cyI cyA cyT wa ks ts kr ta sa ra K mT Ns ζ κ Φ Ψ]) s.heap.size) s (wF [cX cyI cyA cyT wa ks ts kr ta sa ra K mT Ns ζ κ Φ Ψ]) H locs → W p l e (headSpec wqX6_tick rmX6_tick).room s m ([.ref wa] : List Value).toArray below meth c H locs 0 0 (MQ below (QvF (dC, dI) [(cyI, .int), (cyB, .byte), (cyO, .object "UndoJourneys$World"), (cyA, .array .int), (cyT, .object "UndoJourneysLaw$Trip"), (cyW, .object "UndoJourneysLaw$World"), (cyZ, .boolean)] (wF [cX cyI cyA cyT wa ks ts kr ta sa ra K mT Ns ζ κ Φ Ψ]) (wF [cX cyI cyA cyT wa ks ts kr ta sa ra K mT Ns ζ_ κ_ Φ_ Ψ_]) s.heap.size) ([.ref wa] : List Value).toArray s 1 8 (va_A (wF [cX cyI cyA cyT wa ks ts kr ta sa ra K mT Ns ζ κ Φ Ψ]) s.heap.size)) (F0 m 0 ls []) from main _ _ hB
  clear hB
  intro H locs hB
  unfold mX6_tick at hf
  refine lv_aload_n hx hb dX6_tick_0 rfl (lv_at hl 0 rfl) ?_
  refine g_get (C := RX6) (T := TX6) (N := 6) hx hb hts hinX6 hown hK (hB.perm (wperm (L' := [cX cyI cyA cyT wa ks ts kr ta sa ra K mT Ns ζ κ Φ Ψ]) [0] (by decide +kernel) rfl rfl)) 0 rfl rfl 5 rfl hq0 rfl rfl dX6_tick_1 ?_
  refine g_alen hx hb hK (hB.perm (wperm (L' := [cX cyI cyA cyT wa ks ts kr ta sa ra K mT Ns ζ κ Φ Ψ]) [0] (by decide +kernel) rfl rfl)) 2 4 rfl rfl (v := (nI mT)) rfl dX6_tick_4 ?_
  obtain ⟨_, g1, hf⟩ := ob1_s hf
  have g1 := gLt_s g1
  refine g_newa (atype := .boolean) (cA := cyZ) 6 rfl hx hb hq1 rfl hK hB hA mT (fun _ => rfl) (fun _ h => h) (nI_pos (by omega)) (nI_clamp (by omega)) (by show mT * 1 ≤ 536870912; omega) (by show _ ≤ 1; omega) (by show _ ≤ 8; omega) dX6_tick_5 (fun qz H locs hB => ?_)
  have hB := hB.perm wF_push
  refine W.widen (k := 1) (n := 8) (by omega) (by omega) ?_
  refine lv_astore_n (lv' := [(1, .ref qz), (0, .ref wa)]) hx hb dX6_tick_7 rfl hl (by decide) rfl (fun ls hl => ?_)
  refine lv_iconst (v := (0 : Int32)) hx hb dX6_tick_8 (by decide) ?_
  refine lv_istore_n (lv' := [(2, .int (0 : Int32)), (1, .ref qz), (0, .ref wa)]) hx hb dX6_tick_9 rfl hl (by decide) rfl (fun ls hl => ?_)
  obtain ⟨Φ30, Ψ31, bo32, hL35, hf⟩ := ob3_s hf
  have kE33 : ∀  (H : Heap) (locs : List Loc) (ls : Array Slot), Bd (dC, dI) [(cyI, .int), (cyB, .byte), (cyO, .object "UndoJourneys$World"), (cyA, .array .int), (cyT, .object "UndoJourneysLaw$Trip"), (cyW, .object "UndoJourneysLaw$World"), (cyZ, .boolean)] (va_A (wF [cX cyI cyA cyT wa ks ts kr ta sa ra K mT Ns ζ κ Φ Ψ]) s.heap.size) s (wF [cX cyI cyA cyT wa ks ts kr ta sa ra K mT Ns ζ κ Φ30 Ψ31, [(qz, .inl (cyZ, mT, .inl bo32))]]) H locs → lv_has ls 6 [(1, .ref qz), (0, .ref wa)] → W p l e (headSpec wqX6_tick rmX6_tick).room s m ([.ref wa] : List Value).toArray below meth c H locs 1 8 (MQ below (QvF (dC, dI) [(cyI, .int), (cyB, .byte), (cyO, .object "UndoJourneys$World"), (cyA, .array .int), (cyT, .object "UndoJourneysLaw$Trip"), (cyW, .object "UndoJourneysLaw$World"), (cyZ, .boolean)] (wF [cX cyI cyA cyT wa ks ts kr ta sa ra K mT Ns ζ κ Φ Ψ]) (wF [cX cyI cyA cyT wa ks ts kr ta sa ra K mT Ns ζ_ κ_ Φ_ Ψ_]) s.heap.size) ([.ref wa] : List Value).toArray s 1 8 (va_A (wF [cX cyI cyA cyT wa ks ts kr ta sa ra K mT Ns ζ κ Φ Ψ]) s.heap.size)) (F0 m 76 ls []) := by
    intro H locs ls hB hl
    refine lv_aload_n hx hb dX6_tick_76 rfl (lv_at hl 1 rfl) ?_
    refine g_get (C := RX6) (T := TX6) (N := 6) hx hb hts hinX6 hown hK (hB.perm (wperm (L' := [cX cyI cyA cyT wa ks ts kr ta sa ra K mT Ns ζ κ Φ30 Ψ31, [(qz, .inl (cyZ, mT, .inl bo32))]]) [0, 1] (by decide +kernel) rfl rfl)) 0 rfl rfl 5 rfl hq0 rfl rfl dX6_tick_77 ?_
    refine lv_astore_n (lv' := [(2, .ref ts), (1, .ref qz), (0, .ref wa)]) hx hb dX6_tick_80 rfl hl (by decide) rfl (fun ls hl => ?_)
    refine lv_aload_n hx hb dX6_tick_81 rfl (lv_at hl 0 rfl) ?_
    refine g_alen hx hb hK (hB.perm (wperm (L' := [cX cyI cyA cyT wa ks ts kr ta sa ra K mT Ns ζ κ Φ30 Ψ31, [(qz, .inl (cyZ, mT, .inl bo32))]]) [0, 1] (by decide +kernel) rfl rfl)) 2 4 rfl rfl (v := (nI mT)) rfl dX6_tick_82 ?_
    refine lv_istore_n (lv' := [(3, .int (nI mT)), (2, .ref ts), (1, .ref qz), (0, .ref wa)]) hx hb dX6_tick_83 rfl hl (by decide) rfl (fun ls hl => ?_)
    refine lv_iconst (v := (0 : Int32)) hx hb dX6_tick_84 (by decide) ?_
    refine lv_istore (lv' := [(4, .int (0 : Int32)), (3, .int (nI mT)), (2, .ref ts), (1, .ref qz), (0, .ref wa)]) hx hb dX6_tick_85 hl (by decide) rfl (fun ls hl => ?_)
    obtain ⟨κ55, Φ56, Ψ57, hL60, hf⟩ := ob3_s hf
    have kE58 : ∀  (H : Heap) (locs : List Loc) (ls : Array Slot), Bd (dC, dI) [(cyI, .int), (cyB, .byte), (cyO, .object "UndoJourneys$World"), (cyA, .array .int), (cyT, .object "UndoJourneysLaw$Trip"), (cyW, .object "UndoJourneysLaw$World"), (cyZ, .boolean)] (va_A (wF [cX cyI cyA cyT wa ks ts kr ta sa ra K mT Ns ζ κ Φ Ψ]) s.heap.size) s (wF [cX cyI cyA cyT wa ks ts kr ta sa ra K mT Ns ζ κ55 Φ56 Ψ57, [(qz, .inl (cyZ, mT, .inl bo32))]]) H locs → lv_has ls 6 [(1, .ref qz), (0, .ref wa)] → W p l e (headSpec wqX6_tick rmX6_tick).room s m ([.ref wa] : List Value).toArray below meth c H locs 1 8 (MQ below (QvF (dC, dI) [(cyI, .int), (cyB, .byte), (cyO, .object "UndoJourneys$World"), (cyA, .array .int), (cyT, .object "UndoJourneysLaw$Trip"), (cyW, .object "UndoJourneysLaw$World"), (cyZ, .boolean)] (wF [cX cyI cyA cyT wa ks ts kr ta sa ra K mT Ns ζ κ Φ Ψ]) (wF [cX cyI cyA cyT wa ks ts kr ta sa ra K mT Ns ζ_ κ_ Φ_ Ψ_]) s.heap.size) ([.ref wa] : List Value).toArray s 1 8 (va_A (wF [cX cyI cyA cyT wa ks ts kr ta sa ra K mT Ns ζ κ Φ Ψ]) s.heap.size)) (F0 m 120 ls []) := by
      intro H locs ls hB hl
      refine lv_iconst (v := (0 : Int32)) hx hb dX6_tick_120 (by decide) ?_
      refine lv_istore_n (lv' := [(2, .int (0 : Int32)), (1, .ref qz), (0, .ref wa)]) hx hb dX6_tick_121 rfl hl (by decide) rfl (fun ls hl => ?_)
      obtain ⟨ζ82, κ83, Φ84, Ψ85, hL88, hf⟩ := ob4_s hf
      have kE86 : ∀  (H : Heap) (locs : List Loc) (ls : Array Slot), Bd (dC, dI) [(cyI, .int), (cyB, .byte), (cyO, .object "UndoJourneys$World"), (cyA, .array .int), (cyT, .object "UndoJourneysLaw$Trip"), (cyW, .object "UndoJourneysLaw$World"), (cyZ, .boolean)] (va_A (wF [cX cyI cyA cyT wa ks ts kr ta sa ra K mT Ns ζ κ Φ Ψ]) s.heap.size) s (wF [cX cyI cyA cyT wa ks ts kr ta sa ra K mT Ns ζ82 κ83 Φ84 Ψ85, [(qz, .inl (cyZ, mT, .inl bo32))]]) H locs → lv_has ls 6 [(0, .ref wa)] → W p l e (headSpec wqX6_tick rmX6_tick).room s m ([.ref wa] : List Value).toArray below meth c H locs 1 8 (MQ below (QvF (dC, dI) [(cyI, .int), (cyB, .byte), (cyO, .object "UndoJourneys$World"), (cyA, .array .int), (cyT, .object "UndoJourneysLaw$Trip"), (cyW, .object "UndoJourneysLaw$World"), (cyZ, .boolean)] (wF [cX cyI cyA cyT wa ks ts kr ta sa ra K mT Ns ζ κ Φ Ψ]) (wF [cX cyI cyA cyT wa ks ts kr ta sa ra K mT Ns ζ_ κ_ Φ_ Ψ_]) s.heap.size) ([.ref wa] : List Value).toArray s 1 8 (va_A (wF [cX cyI cyA cyT wa ks ts kr ta sa ra K mT Ns ζ κ Φ Ψ]) s.heap.size)) (F0 m 153 ls []) := by
        intro H locs ls hB hl
        refine lv_aload_n hx hb dX6_tick_153 rfl (lv_at hl 0 rfl) ?_
        refine lv_dup hx hb dX6_tick_154 rfl ?_
        refine g_get (C := RX6) (T := TX6) (N := 6) hx hb hts hinX6 hown hK (hB.perm (wperm (L' := [cX cyI cyA cyT wa ks ts kr ta sa ra K mT Ns ζ82 κ83 Φ84 Ψ85, [(qz, .inl (cyZ, mT, .inl bo32))]]) [0, 1] (by decide +kernel) rfl rfl)) 0 rfl rfl 0 rfl hq4 rfl rfl dX6_tick_155 ?_
        refine lv_iconst (v := (1 : Int32)) hx hb dX6_tick_158 (by decide) ?_
        refine lv_iadd hx hb dX6_tick_159 ?_
        obtain ⟨ζ90, e9, hf⟩ := ob1_s hf
        have e9 := inj1 e9
        refine g_put (C := RX6) (T := TX6) (N := 6) hx hb hts hinX6 tyX6 tyX6_ok nmX6 hown hK (hB.perm (wperm (L' := [cX cyI cyA cyT wa ks ts kr ta sa ra K mT Ns ζ82 κ83 Φ84 Ψ85, [(qz, .inl (cyZ, mT, .inl bo32))]]) [0, 1] (by decide +kernel) rfl rfl)) 0 rfl rfl 0 rfl hq4 rfl rfl rfl rfl rfl rfl dX6_tick_160 (w2 := (wF [cX cyI cyA cyT wa ks ts kr ta sa ra K mT Ns ζ90 κ83 Φ84 Ψ85, [(qz, .inl (cyZ, mT, .inl bo32))]])) (by rw [← e9]; rfl) (fun H locs hB => ?_)
        have hB := hB.perm (wperm (L' := [cX cyI cyA cyT wa ks ts kr ta sa ra K mT Ns ζ90 κ83 Φ84 Ψ85, [(qz, .inl (cyZ, mT, .inl bo32))]]) [0, 1] (by decide +kernel) rfl rfl)
        obtain ⟨e0, e1, e2, e3⟩ := inj4 hf
        subst e0
        subst e1
        subst e2
        subst e3
        have hB := Bd.keep (L1 := [cX cyI cyA cyT wa ks ts kr ta sa ra K mT Ns ζ90 κ83 Φ84 Ψ85]) (L2 := [[(qz, .inl (cyZ, mT, .inl bo32))]]) hB
        exact g_lvret (v := 0) (r := 0) hx hb hr hlocks hK hB (Nat.le_of_ble_eq_true rfl) (Nat.le_of_ble_eq_true rfl) dX6_tick_163
      have key87 : ∀ (n9 : Nat) (v92 : Int32) (ζ93 : MS) (κ94 : MS) (Φ95 : WS) (Ψ96 : WS)  (H : Heap) (locs : List Loc) (ls : Array Slot), loopM (fun st => mX6_tick_L122 fu K mT Ns bo32 st.1 st.2.1 st.2.2.1 st.2.2.2.1 st.2.2.2.2) n9 (v92, ζ93, κ94, Φ95, Ψ96) = some (ζ82, κ83, Φ84, Ψ85) → Bd (dC, dI) [(cyI, .int), (cyB, .byte), (cyO, .object "UndoJourneys$World"), (cyA, .array .int), (cyT, .object "UndoJourneysLaw$Trip"), (cyW, .object "UndoJourneysLaw$World"), (cyZ, .boolean)] (va_A (wF [cX cyI cyA cyT wa ks ts kr ta sa ra K mT Ns ζ κ Φ Ψ]) s.heap.size) s (wF [cX cyI cyA cyT wa ks ts kr ta sa ra K mT Ns ζ93 κ94 Φ95 Ψ96, [(qz, .inl (cyZ, mT, .inl bo32))]]) H locs → lv_has ls 6 [(2, .int v92), (1, .ref qz), (0, .ref wa)] → W p l e (headSpec wqX6_tick rmX6_tick).room s m ([.ref wa] : List Value).toArray below meth c H locs 1 8 (MQ below (QvF (dC, dI) [(cyI, .int), (cyB, .byte), (cyO, .object "UndoJourneys$World"), (cyA, .array .int), (cyT, .object "UndoJourneysLaw$Trip"), (cyW, .object "UndoJourneysLaw$World"), (cyZ, .boolean)] (wF [cX cyI cyA cyT wa ks ts kr ta sa ra K mT Ns ζ κ Φ Ψ]) (wF [cX cyI cyA cyT wa ks ts kr ta sa ra K mT Ns ζ_ κ_ Φ_ Ψ_]) s.heap.size) ([.ref wa] : List Value).toArray s 1 8 (va_A (wF [cX cyI cyA cyT wa ks ts kr ta sa ra K mT Ns ζ κ Φ Ψ]) s.heap.size)) (F0 m 122 ls []) := by
        intro n9
        induction n9 with
        | zero => intro v92 ζ93 κ94 Φ95 Ψ96 H locs ls hL88; exact (loopM_z hL88).elim
        | succ n9 ih9 =>
          intro v92 ζ93 κ94 Φ95 Ψ96 H locs ls hL88 hB hl
          obtain ⟨o98, hg89, hL88⟩ := loopM_s hL88
          have hg89 : mX6_tick_L122 fu K mT Ns bo32 v92 ζ93 κ94 Φ95 Ψ96 = some o98 := hg89
          unfold mX6_tick_L122 at hg89
          refine lv_iload_n hx hb dX6_tick_122 rfl (lv_at hl 0 rfl) ?_
          refine lv_aload_n hx hb dX6_tick_123 rfl (lv_at hl 2 rfl) ?_
          refine g_get (C := RX6) (T := TX6) (N := 6) hx hb hts hinX6 hown hK (hB.perm (wperm (L' := [cX cyI cyA cyT wa ks ts kr ta sa ra K mT Ns ζ93 κ94 Φ95 Ψ96, [(qz, .inl (cyZ, mT, .inl bo32))]]) [0, 1] (by decide +kernel) rfl rfl)) 0 rfl rfl 5 rfl hq0 rfl rfl dX6_tick_124 ?_
          refine g_alen hx hb hK (hB.perm (wperm (L' := [cX cyI cyA cyT wa ks ts kr ta sa ra K mT Ns ζ93 κ94 Φ95 Ψ96, [(qz, .inl (cyZ, mT, .inl bo32))]]) [0, 1] (by decide +kernel) rfl rfl)) 2 4 rfl rfl (v := (nI mT)) rfl dX6_tick_127 ?_
          refine lv_icmp_ge (tgt := 153) hx hb dX6_tick_128 (by decide) (fun c100 => ?_) (fun c100 => ?_)
          · have hg89 := ite_t c100 hg89
            have hL88 := el1_l (inj1 hg89) hL88
            obtain ⟨e0, e1, e2, e3⟩ := inj4 hL88
            subst e0
            subst e1
            subst e2
            subst e3
            exact kE86 _ _ _ hB (lv_sub hl [2] rfl)
          · have hg89 := ite_f c100 hg89
            refine lv_aload_n hx hb dX6_tick_131 rfl (lv_at hl 1 rfl) ?_
            refine lv_iload_n hx hb dX6_tick_132 rfl (lv_at hl 0 rfl) ?_
            obtain ⟨x101, e9, hg89⟩ := ob1_s hg89
            refine g_zald hx hb hK (hB.perm (wperm (L' := [[(qz, .inl (cyZ, mT, .inl bo32))], cX cyI cyA cyT wa ks ts kr ta sa ra K mT Ns ζ93 κ94 Φ95 Ψ96]) [1, 0] (by decide +kernel) rfl rfl)) 0 6 rfl rfl (rd_s e9) dX6_tick_133 ?_
            obtain ⟨ζ102, κ103, Φ104, Ψ105, hJ106, hg89⟩ := ob4_s hg89
            have kJ107 : ∀ (H : Heap) (locs : List Loc) (ls : Array Slot), Bd (dC, dI) [(cyI, .int), (cyB, .byte), (cyO, .object "UndoJourneys$World"), (cyA, .array .int), (cyT, .object "UndoJourneysLaw$Trip"), (cyW, .object "UndoJourneysLaw$World"), (cyZ, .boolean)] (va_A (wF [cX cyI cyA cyT wa ks ts kr ta sa ra K mT Ns ζ κ Φ Ψ]) s.heap.size) s (wF [cX cyI cyA cyT wa ks ts kr ta sa ra K mT Ns ζ102 κ103 Φ104 Ψ105, [(qz, .inl (cyZ, mT, .inl bo32))]]) H locs → lv_has ls 6 [(2, .int v92), (1, .ref qz), (0, .ref wa)] → W p l e (headSpec wqX6_tick rmX6_tick).room s m ([.ref wa] : List Value).toArray below meth c H locs 1 8 (MQ below (QvF (dC, dI) [(cyI, .int), (cyB, .byte), (cyO, .object "UndoJourneys$World"), (cyA, .array .int), (cyT, .object "UndoJourneysLaw$Trip"), (cyW, .object "UndoJourneysLaw$World"), (cyZ, .boolean)] (wF [cX cyI cyA cyT wa ks ts kr ta sa ra K mT Ns ζ κ Φ Ψ]) (wF [cX cyI cyA cyT wa ks ts kr ta sa ra K mT Ns ζ_ κ_ Φ_ Ψ_]) s.heap.size) ([.ref wa] : List Value).toArray s 1 8 (va_A (wF [cX cyI cyA cyT wa ks ts kr ta sa ra K mT Ns ζ κ Φ Ψ]) s.heap.size)) (F0 m 147 ls []) := by
              intro H locs ls hB hl
              refine lv_iinc (v := (v92 + (1 : Int32))) (lv' := [(2, .int (v92 + (1 : Int32))), (1, .ref qz), (0, .ref wa)]) hx hb dX6_tick_147 hl (k := 0) rfl rfl (by decide) rfl (fun ls hl => ?_)
              refine lv_goto (tgt := 122) hx hb dX6_tick_150 (by decide) ?_
              have hL88 := el1_r (inj1 hg89) hL88
              exact ih9 _ _ _ _ _ _ _ _ hL88 hB (lv_sub hl [0, 1, 2] rfl)
            refine lv_if_eq (tgt := 147) hx hb dX6_tick_134 (by decide) (fun c108 => ?_) (fun c108 => ?_)
            · have hJ106 := ite_t c108 hJ106
              obtain ⟨e0, e1, e2, e3⟩ := inj4 hJ106
              subst e0
              subst e1
              subst e2
              subst e3
              exact kJ107 _ _ _ hB (lv_sub hl [0, 1, 2] rfl)
            · have hJ106 := ite_f c108 hJ106
              refine lv_aload_n hx hb dX6_tick_137 rfl (lv_at hl 2 rfl) ?_
              refine lv_aload_n hx hb dX6_tick_138 rfl (lv_at hl 2 rfl) ?_
              refine g_get (C := RX6) (T := TX6) (N := 6) hx hb hts hinX6 hown hK (hB.perm (wperm (L' := [cX cyI cyA cyT wa ks ts kr ta sa ra K mT Ns ζ93 κ94 Φ95 Ψ96, [(qz, .inl (cyZ, mT, .inl bo32))]]) [0, 1] (by decide +kernel) rfl rfl)) 0 rfl rfl 5 rfl hq0 rfl rfl dX6_tick_139 ?_
              refine lv_iload_n hx hb dX6_tick_142 rfl (lv_at hl 0 rfl) ?_
              obtain ⟨j109, e9, hJ106⟩ := ob1_s hJ106
              obtain ⟨h_j109, e9⟩ := hixn_s e9
              refine g_aaldq hx hb hK (hB.perm (wperm (L' := [cX cyI cyA cyT wa ks ts kr ta sa ra K mT Ns ζ93 κ94 Φ95 Ψ96, [(qz, .inl (cyZ, mT, .inl bo32))]]) [0, 1] (by decide +kernel) rfl rfl)) 2 4 rfl rfl e9 dX6_tick_143 ?_
              obtain ⟨ζ110, κ111, Φ112, Ψ113, hc, hJ106⟩ := ob4_s hJ106
              refine e_Vv (S := Unit) (As := [.ref (ta j109)]) (rest := []) (wc := cX cyI cyA cyT wa ks ts kr ta sa ra K mT Ns ζ93 κ94 Φ95 Ψ96) (wr := (wF [[(qz, .inl (cyZ, mT, .inl bo32))]])) (w1 := fun _ => cX cyI cyA cyT wa ks ts kr ta sa ra K mT Ns ζ110 κ111 Φ112 Ψ113) ⟨hx, hb, hml, hown, hts⟩ (kX6_back l dC dI cyI cyA cyT wa ks ts kr ta sa ra H.size hc) (cwV 1 hts (gv_X6_back_103 hgb) rfl rfl rfl (by decide +kernel) ⟨(Nat.le_of_ble_eq_true rfl), (Nat.le_of_ble_eq_true rfl)⟩) (pcut_pre (hB.perm (wperm (L' := [cX cyI cyA cyT wa ks ts kr ta sa ra K mT Ns ζ93 κ94 Φ95 Ψ96, [(qz, .inl (cyZ, mT, .inl bo32))]]) [0, 1] (by decide +kernel) rfl rfl)) (hK.sub [0, 3, 4] rfl) (.ref wa :: [.ref (ta j109)])) hB hA (g_recv (ci := 6) hK (hB.perm (wperm (L' := [cX cyI cyA cyT wa ks ts kr ta sa ra K mT Ns ζ93 κ94 Φ95 Ψ96, [(qz, .inl (cyZ, mT, .inl bo32))]]) [0, 1] (by decide +kernel) rfl rfl)) 0 rfl rfl rfl) (wperm (L' := [cX cyI cyA cyT wa ks ts kr ta sa ra K mT Ns ζ93 κ94 Φ95 Ψ96, [(qz, .inl (cyZ, mT, .inl bo32))]]) [0, 1] (by decide +kernel) rfl rfl) rfl hl.1 rfl (Nat.le_of_ble_eq_true rfl) dX6_tick_144 ⟨(Nat.le_of_ble_eq_true rfl), (Nat.le_of_ble_eq_true rfl)⟩ (fun _ H locs hr9 hB => ?_)
              have hB := hB.perm wF_un1
              have hB := hB.perm (wperm (L' := [cX cyI cyA cyT wa ks ts kr ta sa ra K mT Ns ζ110 κ111 Φ112 Ψ113, [(qz, .inl (cyZ, mT, .inl bo32))]]) [0, 1] (by decide +kernel) rfl rfl)
              obtain ⟨e0, e1, e2, e3⟩ := inj4 hJ106
              subst e0
              subst e1
              subst e2
              subst e3
              exact kJ107 _ _ _ hB (lv_sub hl [0, 1, 2] rfl)
      exact key87 fu _ _ _ _ _ _ _ _ hL88 hB (lv_sub hl [0, 1, 2] rfl)
    have key59 : ∀ (n9 : Nat) (v115 : Int32) (κ116 : MS) (Φ117 : WS) (Ψ118 : WS)  (H : Heap) (locs : List Loc) (ls : Array Slot), loopM (fun st => mX6_tick_L87 fu K mT Ns (nI mT) ζ bo32 st.1 st.2.1 st.2.2.1 st.2.2.2) n9 (v115, κ116, Φ117, Ψ118) = some (κ55, Φ56, Ψ57) → Bd (dC, dI) [(cyI, .int), (cyB, .byte), (cyO, .object "UndoJourneys$World"), (cyA, .array .int), (cyT, .object "UndoJourneysLaw$Trip"), (cyW, .object "UndoJourneysLaw$World"), (cyZ, .boolean)] (va_A (wF [cX cyI cyA cyT wa ks ts kr ta sa ra K mT Ns ζ κ Φ Ψ]) s.heap.size) s (wF [cX cyI cyA cyT wa ks ts kr ta sa ra K mT Ns ζ κ116 Φ117 Ψ118, [(qz, .inl (cyZ, mT, .inl bo32))]]) H locs → lv_has ls 6 [(4, .int v115), (3, .int (nI mT)), (2, .ref ts), (1, .ref qz), (0, .ref wa)] → W p l e (headSpec wqX6_tick rmX6_tick).room s m ([.ref wa] : List Value).toArray below meth c H locs 1 8 (MQ below (QvF (dC, dI) [(cyI, .int), (cyB, .byte), (cyO, .object "UndoJourneys$World"), (cyA, .array .int), (cyT, .object "UndoJourneysLaw$Trip"), (cyW, .object "UndoJourneysLaw$World"), (cyZ, .boolean)] (wF [cX cyI cyA cyT wa ks ts kr ta sa ra K mT Ns ζ κ Φ Ψ]) (wF [cX cyI cyA cyT wa ks ts kr ta sa ra K mT Ns ζ_ κ_ Φ_ Ψ_]) s.heap.size) ([.ref wa] : List Value).toArray s 1 8 (va_A (wF [cX cyI cyA cyT wa ks ts kr ta sa ra K mT Ns ζ κ Φ Ψ]) s.heap.size)) (F0 m 87 ls []) := by
      intro n9
      induction n9 with
      | zero => intro v115 κ116 Φ117 Ψ118 H locs ls hL60; exact (loopM_z hL60).elim
      | succ n9 ih9 =>
        intro v115 κ116 Φ117 Ψ118 H locs ls hL60 hB hl
        obtain ⟨o120, hg61, hL60⟩ := loopM_s hL60
        have hg61 : mX6_tick_L87 fu K mT Ns (nI mT) ζ bo32 v115 κ116 Φ117 Ψ118 = some o120 := hg61
        unfold mX6_tick_L87 at hg61
        refine lv_iload hx hb dX6_tick_87 (lv_at hl 0 rfl) ?_
        refine lv_iload_n hx hb dX6_tick_89 rfl (lv_at hl 1 rfl) ?_
        refine lv_icmp_ge (tgt := 120) hx hb dX6_tick_90 (by decide) (fun c122 => ?_) (fun c122 => ?_)
        · have hg61 := ite_t c122 hg61
          have hL60 := el1_l (inj1 hg61) hL60
          obtain ⟨e0, e1, e2⟩ := inj3 hL60
          subst e0
          subst e1
          subst e2
          exact kE58 _ _ _ hB (lv_sub hl [3, 4] rfl)
        · have hg61 := ite_f c122 hg61
          refine lv_aload_n hx hb dX6_tick_93 rfl (lv_at hl 2 rfl) ?_
          refine lv_iload hx hb dX6_tick_94 (lv_at hl 0 rfl) ?_
          obtain ⟨j123, e9, hg61⟩ := ob1_s hg61
          obtain ⟨h_j123, e9⟩ := hixn_s e9
          refine g_aaldq hx hb hK (hB.perm (wperm (L' := [cX cyI cyA cyT wa ks ts kr ta sa ra K mT Ns ζ κ116 Φ117 Ψ118, [(qz, .inl (cyZ, mT, .inl bo32))]]) [0, 1] (by decide +kernel) rfl rfl)) 2 4 rfl rfl e9 dX6_tick_96 ?_
          refine lv_astore (lv' := [(5, .ref (ta j123)), (4, .int v115), (3, .int (nI mT)), (2, .ref ts), (1, .ref qz), (0, .ref wa)]) hx hb dX6_tick_97 hl (by decide) rfl (fun ls hl => ?_)
          refine lv_aload hx hb dX6_tick_99 (lv_at hl 0 rfl) ?_
          refine g_get (C := RX5) (T := TX5) (N := 7) hx hb hts hinX5 hown hK ((hB.perm (wperm (L' := [cX cyI cyA cyT wa ks ts kr ta sa ra K mT Ns ζ κ116 Φ117 Ψ118, [(qz, .inl (cyZ, mT, .inl bo32))]]) [0, 1] (by decide +kernel) rfl rfl)).perm (cX_viewr cyI cyA cyT wa ks ts kr ta sa ra K mT Ns ζ κ116 Φ117 Ψ118 h_j123 _)) 0 rfl rfl 2 rfl hq2 rfl rfl dX6_tick_101 ?_
          refine lv_iconst (v := (1 : Int32)) hx hb dX6_tick_104 (by decide) ?_
          obtain ⟨κ124, Φ125, Ψ126, hJ127, hg61⟩ := ob3_s hg61
          have kJ128 : ∀ (H : Heap) (locs : List Loc) (ls : Array Slot), Bd (dC, dI) [(cyI, .int), (cyB, .byte), (cyO, .object "UndoJourneys$World"), (cyA, .array .int), (cyT, .object "UndoJourneysLaw$Trip"), (cyW, .object "UndoJourneysLaw$World"), (cyZ, .boolean)] (va_A (wF [cX cyI cyA cyT wa ks ts kr ta sa ra K mT Ns ζ κ Φ Ψ]) s.heap.size) s (wF [cX cyI cyA cyT wa ks ts kr ta sa ra K mT Ns ζ κ124 Φ125 Ψ126, [(qz, .inl (cyZ, mT, .inl bo32))]]) H locs → lv_has ls 6 [(4, .int v115), (3, .int (nI mT)), (2, .ref ts), (1, .ref qz), (0, .ref wa)] → W p l e (headSpec wqX6_tick rmX6_tick).room s m ([.ref wa] : List Value).toArray below meth c H locs 1 8 (MQ below (QvF (dC, dI) [(cyI, .int), (cyB, .byte), (cyO, .object "UndoJourneys$World"), (cyA, .array .int), (cyT, .object "UndoJourneysLaw$Trip"), (cyW, .object "UndoJourneysLaw$World"), (cyZ, .boolean)] (wF [cX cyI cyA cyT wa ks ts kr ta sa ra K mT Ns ζ κ Φ Ψ]) (wF [cX cyI cyA cyT wa ks ts kr ta sa ra K mT Ns ζ_ κ_ Φ_ Ψ_]) s.heap.size) ([.ref wa] : List Value).toArray s 1 8 (va_A (wF [cX cyI cyA cyT wa ks ts kr ta sa ra K mT Ns ζ κ Φ Ψ]) s.heap.size)) (F0 m 114 ls []) := by
            intro H locs ls hB hl
            refine lv_iinc (v := (v115 + (1 : Int32))) (lv' := [(4, .int (v115 + (1 : Int32))), (3, .int (nI mT)), (2, .ref ts), (1, .ref qz), (0, .ref wa)]) hx hb dX6_tick_114 hl (k := 0) rfl rfl (by decide) rfl (fun ls hl => ?_)
            refine lv_goto (tgt := 87) hx hb dX6_tick_117 (by decide) ?_
            have hL60 := el1_r (inj1 hg61) hL60
            exact ih9 _ _ _ _ _ _ _ hL60 hB (lv_sub hl [0, 1, 2, 3, 4] rfl)
          refine lv_icmp_ne (tgt := 114) hx hb dX6_tick_105 (by decide) (fun c129 => ?_) (fun c129 => ?_)
          · have hJ127 := ite_f c129 hJ127
            obtain ⟨e0, e1, e2⟩ := inj3 hJ127
            subst e0
            subst e1
            subst e2
            exact kJ128 _ _ _ hB (lv_sub hl [1, 2, 3, 4, 5] rfl)
          · have hJ127 := ite_t c129 hJ127
            refine lv_aload_n hx hb dX6_tick_108 rfl (lv_at hl 5 rfl) ?_
            refine lv_aload hx hb dX6_tick_109 (lv_at hl 0 rfl) ?_
            obtain ⟨κ130, Φ131, Ψ132, hc, hJ127⟩ := ob3_s hJ127
            refine e_Vv (S := Unit) (As := [.ref (ta j123)]) (rest := []) (wc := cX cyI cyA cyT wa ks ts kr ta sa ra K mT Ns ζ κ116 Φ117 Ψ118) (wr := (wF [[(qz, .inl (cyZ, mT, .inl bo32))]])) (w1 := fun _ => cX cyI cyA cyT wa ks ts kr ta sa ra K mT Ns ζ κ130 Φ131 Ψ132) ⟨hx, hb, hml, hown, hts⟩ (kX6_goes l dC dI cyI cyA cyT wa ks ts kr ta sa ra H.size hc) (cwV 1 hts (gv_X6_goes_99 hgb) rfl rfl rfl (by decide +kernel) ⟨(Nat.le_of_ble_eq_true rfl), (Nat.le_of_ble_eq_true rfl)⟩) (pcut_pre (hB.perm (wperm (L' := [cX cyI cyA cyT wa ks ts kr ta sa ra K mT Ns ζ κ116 Φ117 Ψ118, [(qz, .inl (cyZ, mT, .inl bo32))]]) [0, 1] (by decide +kernel) rfl rfl)) (hK.sub [0, 3, 4] rfl) (.ref wa :: [.ref (ta j123)])) hB hA (g_recv (ci := 6) hK (hB.perm (wperm (L' := [cX cyI cyA cyT wa ks ts kr ta sa ra K mT Ns ζ κ116 Φ117 Ψ118, [(qz, .inl (cyZ, mT, .inl bo32))]]) [0, 1] (by decide +kernel) rfl rfl)) 0 rfl rfl rfl) (wperm (L' := [cX cyI cyA cyT wa ks ts kr ta sa ra K mT Ns ζ κ116 Φ117 Ψ118, [(qz, .inl (cyZ, mT, .inl bo32))]]) [0, 1] (by decide +kernel) rfl rfl) rfl hl.1 rfl (Nat.le_of_ble_eq_true rfl) dX6_tick_111 ⟨(Nat.le_of_ble_eq_true rfl), (Nat.le_of_ble_eq_true rfl)⟩ (fun _ H locs hr9 hB => ?_)
            have hB := hB.perm wF_un1
            have hB := hB.perm (wperm (L' := [cX cyI cyA cyT wa ks ts kr ta sa ra K mT Ns ζ κ130 Φ131 Ψ132, [(qz, .inl (cyZ, mT, .inl bo32))]]) [0, 1] (by decide +kernel) rfl rfl)
            obtain ⟨e0, e1, e2⟩ := inj3 hJ127
            subst e0
            subst e1
            subst e2
            exact kJ128 _ _ _ hB (lv_sub hl [1, 2, 3, 4, 5] rfl)
    exact key59 fu _ _ _ _ _ _ _ hL60 hB (lv_sub hl [0, 1, 2, 3, 4] rfl)
  have key34 : ∀ (n9 : Nat) (v134 : Int32) (Φ135 : WS) (Ψ136 : WS) (bo137 : FS)  (H : Heap) (locs : List Loc) (ls : Array Slot), loopM (fun st => mX6_tick_L10 fu K mT Ns ζ κ st.1 st.2.1 st.2.2.1 st.2.2.2) n9 (v134, Φ135, Ψ136, bo137) = some (Φ30, Ψ31, bo32) → Bd (dC, dI) [(cyI, .int), (cyB, .byte), (cyO, .object "UndoJourneys$World"), (cyA, .array .int), (cyT, .object "UndoJourneysLaw$Trip"), (cyW, .object "UndoJourneysLaw$World"), (cyZ, .boolean)] (va_A (wF [cX cyI cyA cyT wa ks ts kr ta sa ra K mT Ns ζ κ Φ Ψ]) s.heap.size) s (wF [cX cyI cyA cyT wa ks ts kr ta sa ra K mT Ns ζ κ Φ135 Ψ136, [(qz, .inl (cyZ, mT, .inl bo137))]]) H locs → lv_has ls 6 [(2, .int v134), (1, .ref qz), (0, .ref wa)] → W p l e (headSpec wqX6_tick rmX6_tick).room s m ([.ref wa] : List Value).toArray below meth c H locs 1 8 (MQ below (QvF (dC, dI) [(cyI, .int), (cyB, .byte), (cyO, .object "UndoJourneys$World"), (cyA, .array .int), (cyT, .object "UndoJourneysLaw$Trip"), (cyW, .object "UndoJourneysLaw$World"), (cyZ, .boolean)] (wF [cX cyI cyA cyT wa ks ts kr ta sa ra K mT Ns ζ κ Φ Ψ]) (wF [cX cyI cyA cyT wa ks ts kr ta sa ra K mT Ns ζ_ κ_ Φ_ Ψ_]) s.heap.size) ([.ref wa] : List Value).toArray s 1 8 (va_A (wF [cX cyI cyA cyT wa ks ts kr ta sa ra K mT Ns ζ κ Φ Ψ]) s.heap.size)) (F0 m 10 ls []) := by
    intro n9
    induction n9 with
    | zero => intro v134 Φ135 Ψ136 bo137 H locs ls hL35; exact (loopM_z hL35).elim
    | succ n9 ih9 =>
      intro v134 Φ135 Ψ136 bo137 H locs ls hL35 hB hl
      obtain ⟨o139, hg36, hL35⟩ := loopM_s hL35
      have hg36 : mX6_tick_L10 fu K mT Ns ζ κ v134 Φ135 Ψ136 bo137 = some o139 := hg36
      unfold mX6_tick_L10 at hg36
      refine lv_iload_n hx hb dX6_tick_10 rfl (lv_at hl 0 rfl) ?_
      refine lv_aload_n hx hb dX6_tick_11 rfl (lv_at hl 2 rfl) ?_
      refine g_get (C := RX6) (T := TX6) (N := 6) hx hb hts hinX6 hown hK (hB.perm (wperm (L' := [cX cyI cyA cyT wa ks ts kr ta sa ra K mT Ns ζ κ Φ135 Ψ136, [(qz, .inl (cyZ, mT, .inl bo137))]]) [0, 1] (by decide +kernel) rfl rfl)) 0 rfl rfl 5 rfl hq0 rfl rfl dX6_tick_12 ?_
      refine g_alen hx hb hK (hB.perm (wperm (L' := [cX cyI cyA cyT wa ks ts kr ta sa ra K mT Ns ζ κ Φ135 Ψ136, [(qz, .inl (cyZ, mT, .inl bo137))]]) [0, 1] (by decide +kernel) rfl rfl)) 2 4 rfl rfl (v := (nI mT)) rfl dX6_tick_15 ?_
      refine lv_icmp_ge (tgt := 76) hx hb dX6_tick_16 (by decide) (fun c141 => ?_) (fun c141 => ?_)
      · have hg36 := ite_t c141 hg36
        have hL35 := el1_l (inj1 hg36) hL35
        obtain ⟨e0, e1, e2⟩ := inj3 hL35
        subst e0
        subst e1
        subst e2
        exact kE33 _ _ _ hB (lv_sub hl [1, 2] rfl)
      · have hg36 := ite_f c141 hg36
        refine lv_aload_n hx hb dX6_tick_19 rfl (lv_at hl 2 rfl) ?_
        refine g_get (C := RX6) (T := TX6) (N := 6) hx hb hts hinX6 hown hK (hB.perm (wperm (L' := [cX cyI cyA cyT wa ks ts kr ta sa ra K mT Ns ζ κ Φ135 Ψ136, [(qz, .inl (cyZ, mT, .inl bo137))]]) [0, 1] (by decide +kernel) rfl rfl)) 0 rfl rfl 5 rfl hq0 rfl rfl dX6_tick_20 ?_
        refine lv_iload_n hx hb dX6_tick_23 rfl (lv_at hl 0 rfl) ?_
        obtain ⟨j142, e9, hg36⟩ := ob1_s hg36
        obtain ⟨h_j142, e9⟩ := hixn_s e9
        refine g_aaldq hx hb hK (hB.perm (wperm (L' := [cX cyI cyA cyT wa ks ts kr ta sa ra K mT Ns ζ κ Φ135 Ψ136, [(qz, .inl (cyZ, mT, .inl bo137))]]) [0, 1] (by decide +kernel) rfl rfl)) 2 4 rfl rfl e9 dX6_tick_24 ?_
        refine lv_astore_n (lv' := [(3, .ref (ta j142)), (2, .int v134), (1, .ref qz), (0, .ref wa)]) hx hb dX6_tick_25 rfl hl (by decide) rfl (fun ls hl => ?_)
        refine lv_aload_n hx hb dX6_tick_26 rfl (lv_at hl 2 rfl) ?_
        refine lv_iload_n hx hb dX6_tick_27 rfl (lv_at hl 1 rfl) ?_
        refine lv_aload_n hx hb dX6_tick_28 rfl (lv_at hl 0 rfl) ?_
        refine g_get (C := RX5) (T := TX5) (N := 7) hx hb hts hinX5 hown hK ((hB.perm (wperm (L' := [cX cyI cyA cyT wa ks ts kr ta sa ra K mT Ns ζ κ Φ135 Ψ136, [(qz, .inl (cyZ, mT, .inl bo137))]]) [0, 1] (by decide +kernel) rfl rfl)).perm (cX_viewr cyI cyA cyT wa ks ts kr ta sa ra K mT Ns ζ κ Φ135 Ψ136 h_j142 _)) 0 rfl rfl 2 rfl hq2 rfl rfl dX6_tick_29 ?_
        refine lv_iconst (v := (2 : Int32)) hx hb dX6_tick_32 (by decide) ?_
        obtain ⟨v143, hJ145, hg36⟩ := ob1_s hg36
        have kJ146 : (v143 = 0 ∨ v143 = 1) → ∀ (H : Heap) (locs : List Loc) (ls : Array Slot), Bd (dC, dI) [(cyI, .int), (cyB, .byte), (cyO, .object "UndoJourneys$World"), (cyA, .array .int), (cyT, .object "UndoJourneysLaw$Trip"), (cyW, .object "UndoJourneysLaw$World"), (cyZ, .boolean)] (va_A (wF [cX cyI cyA cyT wa ks ts kr ta sa ra K mT Ns ζ κ Φ Ψ]) s.heap.size) s (wF [cX cyI cyA cyT wa ks ts kr ta sa ra K mT Ns ζ κ Φ135 Ψ136, [(qz, .inl (cyZ, mT, .inl bo137))]]) H locs → lv_has ls 6 [(3, .ref (ta j142)), (2, .int v134), (1, .ref qz), (0, .ref wa)] → W p l e (headSpec wqX6_tick rmX6_tick).room s m ([.ref wa] : List Value).toArray below meth c H locs 1 8 (MQ below (QvF (dC, dI) [(cyI, .int), (cyB, .byte), (cyO, .object "UndoJourneys$World"), (cyA, .array .int), (cyT, .object "UndoJourneysLaw$Trip"), (cyW, .object "UndoJourneysLaw$World"), (cyZ, .boolean)] (wF [cX cyI cyA cyT wa ks ts kr ta sa ra K mT Ns ζ κ Φ Ψ]) (wF [cX cyI cyA cyT wa ks ts kr ta sa ra K mT Ns ζ_ κ_ Φ_ Ψ_]) s.heap.size) ([.ref wa] : List Value).toArray s 1 8 (va_A (wF [cX cyI cyA cyT wa ks ts kr ta sa ra K mT Ns ζ κ Φ Ψ]) s.heap.size)) (F0 m 41 ls [.int v143, .int v134, .ref qz]) := by
          intro z144 H locs ls hB hl
          obtain ⟨bo148, e9, hg36⟩ := ob1_s hg36
          obtain ⟨hi, e9⟩ := wr_s e9
          refine g_zast hx hb hK (hB.perm (wperm (L' := [[(qz, .inl (cyZ, mT, .inl bo137))], cX cyI cyA cyT wa ks ts kr ta sa ra K mT Ns ζ κ Φ135 Ψ136]) [1, 0] (by decide +kernel) rfl rfl)) 0 6 rfl rfl hi e9 dX6_tick_41 (w2 := (wF [[(qz, .inl (cyZ, mT, .inl bo148))], cX cyI cyA cyT wa ks ts kr ta sa ra K mT Ns ζ κ Φ135 Ψ136])) rfl (fun H locs hB => ?_)
          have hB := hB.perm (wperm (L' := [cX cyI cyA cyT wa ks ts kr ta sa ra K mT Ns ζ κ Φ135 Ψ136, [(qz, .inl (cyZ, mT, .inl bo148))]]) [1, 0] (by decide +kernel) rfl rfl)
          refine lv_aload_n hx hb dX6_tick_42 rfl (lv_at hl 0 rfl) ?_
          refine g_get (C := RX5) (T := TX5) (N := 7) hx hb hts hinX5 hown hK ((hB.perm (wperm (L' := [cX cyI cyA cyT wa ks ts kr ta sa ra K mT Ns ζ κ Φ135 Ψ136, [(qz, .inl (cyZ, mT, .inl bo148))]]) [0, 1] (by decide +kernel) rfl rfl)).perm (cX_viewr cyI cyA cyT wa ks ts kr ta sa ra K mT Ns ζ κ Φ135 Ψ136 h_j142 _)) 0 rfl rfl 2 rfl hq2 rfl rfl dX6_tick_43 ?_
          obtain ⟨Φ149, Ψ150, hJ151, hg36⟩ := ob2_s hg36
          have kJ152 : ∀ (H : Heap) (locs : List Loc) (ls : Array Slot), Bd (dC, dI) [(cyI, .int), (cyB, .byte), (cyO, .object "UndoJourneys$World"), (cyA, .array .int), (cyT, .object "UndoJourneysLaw$Trip"), (cyW, .object "UndoJourneysLaw$World"), (cyZ, .boolean)] (va_A (wF [cX cyI cyA cyT wa ks ts kr ta sa ra K mT Ns ζ κ Φ Ψ]) s.heap.size) s (wF [cX cyI cyA cyT wa ks ts kr ta sa ra K mT Ns ζ κ Φ149 Ψ150, [(qz, .inl (cyZ, mT, .inl bo148))]]) H locs → lv_has ls 6 [(2, .int v134), (1, .ref qz), (0, .ref wa)] → W p l e (headSpec wqX6_tick rmX6_tick).room s m ([.ref wa] : List Value).toArray below meth c H locs 1 8 (MQ below (QvF (dC, dI) [(cyI, .int), (cyB, .byte), (cyO, .object "UndoJourneys$World"), (cyA, .array .int), (cyT, .object "UndoJourneysLaw$Trip"), (cyW, .object "UndoJourneysLaw$World"), (cyZ, .boolean)] (wF [cX cyI cyA cyT wa ks ts kr ta sa ra K mT Ns ζ κ Φ Ψ]) (wF [cX cyI cyA cyT wa ks ts kr ta sa ra K mT Ns ζ_ κ_ Φ_ Ψ_]) s.heap.size) ([.ref wa] : List Value).toArray s 1 8 (va_A (wF [cX cyI cyA cyT wa ks ts kr ta sa ra K mT Ns ζ κ Φ Ψ]) s.heap.size)) (F0 m 70 ls []) := by
            intro H locs ls hB hl
            refine lv_iinc (v := (v134 + (1 : Int32))) (lv' := [(2, .int (v134 + (1 : Int32))), (1, .ref qz), (0, .ref wa)]) hx hb dX6_tick_70 hl (k := 0) rfl rfl (by decide) rfl (fun ls hl => ?_)
            refine lv_goto (tgt := 10) hx hb dX6_tick_73 (by decide) ?_
            have hL35 := el1_r (inj1 hg36) hL35
            exact ih9 _ _ _ _ _ _ _ hL35 hB (lv_sub hl [0, 1, 2] rfl)
          obtain ⟨t153, hD154, hJ151⟩ := ob1_s hJ151
          have kTt153 : t153 = true → ∀ (H : Heap) (locs : List Loc), Bd (dC, dI) [(cyI, .int), (cyB, .byte), (cyO, .object "UndoJourneys$World"), (cyA, .array .int), (cyT, .object "UndoJourneysLaw$Trip"), (cyW, .object "UndoJourneysLaw$World"), (cyZ, .boolean)] (va_A (wF [cX cyI cyA cyT wa ks ts kr ta sa ra K mT Ns ζ κ Φ Ψ]) s.heap.size) s (wF [cX cyI cyA cyT wa ks ts kr ta sa ra K mT Ns ζ κ Φ135 Ψ136, [(qz, .inl (cyZ, mT, .inl bo148))]]) H locs → W p l e (headSpec wqX6_tick rmX6_tick).room s m ([.ref wa] : List Value).toArray below meth c H locs 1 8 (MQ below (QvF (dC, dI) [(cyI, .int), (cyB, .byte), (cyO, .object "UndoJourneys$World"), (cyA, .array .int), (cyT, .object "UndoJourneysLaw$Trip"), (cyW, .object "UndoJourneysLaw$World"), (cyZ, .boolean)] (wF [cX cyI cyA cyT wa ks ts kr ta sa ra K mT Ns ζ κ Φ Ψ]) (wF [cX cyI cyA cyT wa ks ts kr ta sa ra K mT Ns ζ_ κ_ Φ_ Ψ_]) s.heap.size) ([.ref wa] : List Value).toArray s 1 8 (va_A (wF [cX cyI cyA cyT wa ks ts kr ta sa ra K mT Ns ζ κ Φ Ψ]) s.heap.size)) (F0 m 60 ls []) := by
            intro ht H locs hB
            have hJ151 := cnd_t ht hJ151
            refine lv_aload_n hx hb dX6_tick_60 rfl (lv_at hl 0 rfl) ?_
            refine lv_iconst (v := (1 : Int32)) hx hb dX6_tick_61 (by decide) ?_
            obtain ⟨φ157, e9, hJ151⟩ := ob1_s hJ151
            have e9 := inj1 e9
            obtain ⟨Φ158, e8, hJ151⟩ := ob1_s hJ151
            have e8 := inj1 e8
            refine g_put (C := RX5) (T := TX5) (N := 7) hx hb hts hinX5 tyX5 tyX5_ok nmX5 hown hK ((hB.perm (wperm (L' := [cX cyI cyA cyT wa ks ts kr ta sa ra K mT Ns ζ κ Φ135 Ψ136, [(qz, .inl (cyZ, mT, .inl bo148))]]) [0, 1] (by decide +kernel) rfl rfl)).perm (cX_viewr cyI cyA cyT wa ks ts kr ta sa ra K mT Ns ζ κ Φ135 Ψ136 h_j142 _)) 0 rfl rfl 2 rfl hq2 rfl rfl rfl rfl rfl rfl dX6_tick_62 (w2 := cT cyI cyA (ta j142) (sa j142) (ra j142) (Ns j142) φ157 (Ψ136 j142) ++ (rX cyI cyA cyT wa ks ts kr ta sa ra K mT Ns ζ κ Φ135 Ψ136 j142 ++ (wF [[(qz, .inl (cyZ, mT, .inl bo148))]]))) (by rw [← e9]; rfl) (fun H locs hB => ?_)
            have hB := hB.perm (cX_brF cyI cyA cyT wa ks ts kr ta sa ra K mT Ns ζ κ Φ135 Ψ136 h_j142 φ157 _)
            rw [e8] at hB
            have hB := hB.perm wF_un1
            have hB := hB.perm (wperm (L' := [cX cyI cyA cyT wa ks ts kr ta sa ra K mT Ns ζ κ Φ158 Ψ136, [(qz, .inl (cyZ, mT, .inl bo148))]]) [0, 1] (by decide +kernel) rfl rfl)
            refine lv_aload_n hx hb dX6_tick_65 rfl (lv_at hl 0 rfl) ?_
            refine lv_iconst (v := (0 : Int32)) hx hb dX6_tick_66 (by decide) ?_
            obtain ⟨φ159, ψ160, hc, hJ151⟩ := ob2_s hJ151
            refine e_Vv (S := Unit) (As := [.int (0 : Int32)]) (rest := []) (wc := cT cyI cyA (ta j142) (sa j142) (ra j142) (Ns j142) (Φ158 j142) (Ψ136 j142)) (wr := (rX cyI cyA cyT wa ks ts kr ta sa ra K mT Ns ζ κ Φ158 Ψ136 j142 ++ (wF [[(qz, .inl (cyZ, mT, .inl bo148))]]))) (w1 := fun _ => cT cyI cyA (ta j142) (sa j142) (ra j142) (Ns j142) φ159 ψ160) ⟨hx, hb, hml, hown, hts⟩ (kX5_opens l dC dI cyI cyA (ta j142) (sa j142) (ra j142) H.size hc) (cwV 1 hts (gv_X5_opens_71 hgb) rfl rfl rfl (by decide +kernel) ⟨(Nat.le_of_ble_eq_true rfl), (Nat.le_of_ble_eq_true rfl)⟩) (pcut_pre (hB.perm ((wperm (L' := [cX cyI cyA cyT wa ks ts kr ta sa ra K mT Ns ζ κ Φ158 Ψ136, [(qz, .inl (cyZ, mT, .inl bo148))]]) [0, 1] (by decide +kernel) rfl rfl).trans (cX_viewr cyI cyA cyT wa ks ts kr ta sa ra K mT Ns ζ κ Φ158 Ψ136 h_j142 _))) (hK.sub [0, 3] rfl) (.ref (ta j142) :: [.int (0 : Int32)])) hB hA (g_recv (ci := 5) hK (hB.perm ((wperm (L' := [cX cyI cyA cyT wa ks ts kr ta sa ra K mT Ns ζ κ Φ158 Ψ136, [(qz, .inl (cyZ, mT, .inl bo148))]]) [0, 1] (by decide +kernel) rfl rfl).trans (cX_viewr cyI cyA cyT wa ks ts kr ta sa ra K mT Ns ζ κ Φ158 Ψ136 h_j142 _))) 0 rfl rfl rfl) ((wperm (L' := [cX cyI cyA cyT wa ks ts kr ta sa ra K mT Ns ζ κ Φ158 Ψ136, [(qz, .inl (cyZ, mT, .inl bo148))]]) [0, 1] (by decide +kernel) rfl rfl).trans (cX_viewr cyI cyA cyT wa ks ts kr ta sa ra K mT Ns ζ κ Φ158 Ψ136 h_j142 _)) rfl hl.1 rfl (Nat.le_of_ble_eq_true rfl) dX6_tick_67 ⟨(Nat.le_of_ble_eq_true rfl), (Nat.le_of_ble_eq_true rfl)⟩ (fun _ H locs hr9 hB => ?_)
            obtain ⟨Φ161, eΦ161, hJ151⟩ := ob1_s hJ151
            have eΦ161 := inj1 eΦ161
            obtain ⟨Ψ162, eΨ162, hJ151⟩ := ob1_s hJ151
            have eΨ162 := inj1 eΨ162
            have hB := hB.perm (cX_br cyI cyA cyT wa ks ts kr ta sa ra K mT Ns ζ κ Φ158 Ψ136 h_j142 φ159 ψ160 _)
            rw [eΦ161, eΨ162] at hB
            have hB := hB.perm wF_un1
            have hB := hB.perm (wperm (L' := [cX cyI cyA cyT wa ks ts kr ta sa ra K mT Ns ζ κ Φ161 Ψ162, [(qz, .inl (cyZ, mT, .inl bo148))]]) [0, 1] (by decide +kernel) rfl rfl)
            obtain ⟨e0, e1⟩ := inj2 hJ151
            subst e0
            subst e1
            exact kJ152 _ _ _ hB (lv_sub hl [1, 2, 3] rfl)
          have kFt153 : t153 = false → ∀ (H : Heap) (locs : List Loc), Bd (dC, dI) [(cyI, .int), (cyB, .byte), (cyO, .object "UndoJourneys$World"), (cyA, .array .int), (cyT, .object "UndoJourneysLaw$Trip"), (cyW, .object "UndoJourneysLaw$World"), (cyZ, .boolean)] (va_A (wF [cX cyI cyA cyT wa ks ts kr ta sa ra K mT Ns ζ κ Φ Ψ]) s.heap.size) s (wF [cX cyI cyA cyT wa ks ts kr ta sa ra K mT Ns ζ κ Φ135 Ψ136, [(qz, .inl (cyZ, mT, .inl bo148))]]) H locs → W p l e (headSpec wqX6_tick rmX6_tick).room s m ([.ref wa] : List Value).toArray below meth c H locs 1 8 (MQ below (QvF (dC, dI) [(cyI, .int), (cyB, .byte), (cyO, .object "UndoJourneys$World"), (cyA, .array .int), (cyT, .object "UndoJourneysLaw$Trip"), (cyW, .object "UndoJourneysLaw$World"), (cyZ, .boolean)] (wF [cX cyI cyA cyT wa ks ts kr ta sa ra K mT Ns ζ κ Φ Ψ]) (wF [cX cyI cyA cyT wa ks ts kr ta sa ra K mT Ns ζ_ κ_ Φ_ Ψ_]) s.heap.size) ([.ref wa] : List Value).toArray s 1 8 (va_A (wF [cX cyI cyA cyT wa ks ts kr ta sa ra K mT Ns ζ κ Φ Ψ]) s.heap.size)) (F0 m 70 ls []) := by
            intro ht H locs hB
            have hJ151 := cnd_f ht hJ151
            obtain ⟨e0, e1⟩ := inj2 hJ151
            subst e0
            subst e1
            exact kJ152 _ _ _ hB (lv_sub hl [1, 2, 3] rfl)
          refine lv_if_ne (tgt := 70) hx hb dX6_tick_46 (by decide) (fun c155 => ?_) (fun c155 => ?_)
          · have hD154 := ite_f c155 hD154
            have e0 := inj1 hD154
            exact kFt153 e0.symm _ _ hB
          · have hD154 := ite_t c155 hD154
            refine lv_aload_n hx hb dX6_tick_49 rfl (lv_at hl 0 rfl) ?_
            refine g_get (C := RX5) (T := TX5) (N := 7) hx hb hts hinX5 hown hK ((hB.perm (wperm (L' := [cX cyI cyA cyT wa ks ts kr ta sa ra K mT Ns ζ κ Φ135 Ψ136, [(qz, .inl (cyZ, mT, .inl bo148))]]) [0, 1] (by decide +kernel) rfl rfl)).perm (cX_viewr cyI cyA cyT wa ks ts kr ta sa ra K mT Ns ζ κ Φ135 Ψ136 h_j142 _)) 0 rfl rfl 0 rfl hq3 rfl rfl dX6_tick_50 ?_
            refine lv_aload_n hx hb dX6_tick_53 rfl (lv_at hl 3 rfl) ?_
            refine g_get (C := RX6) (T := TX6) (N := 6) hx hb hts hinX6 hown hK (hB.perm (wperm (L' := [cX cyI cyA cyT wa ks ts kr ta sa ra K mT Ns ζ κ Φ135 Ψ136, [(qz, .inl (cyZ, mT, .inl bo148))]]) [0, 1] (by decide +kernel) rfl rfl)) 0 rfl rfl 0 rfl hq4 rfl rfl dX6_tick_54 ?_
            refine lv_icmp_ne (tgt := 70) hx hb dX6_tick_57 (by decide) (fun c156 => ?_) (fun c156 => ?_)
            · have hD154 := ite_f c156 hD154
              have e0 := inj1 hD154
              exact kFt153 e0.symm _ _ hB
            · have hD154 := ite_t c156 hD154
              have e0 := inj1 hD154
              exact kTt153 e0.symm _ _ hB
        refine lv_icmp_ne (tgt := 40) hx hb dX6_tick_33 (by decide) (fun c147 => ?_) (fun c147 => ?_)
        · have hJ145 := ite_f c147 hJ145
          refine lv_iconst (v := (0 : Int32)) hx hb dX6_tick_40 (by decide) ?_
          have e0 := inj1 hJ145
          subst e0
          exact kJ146 (Or.inl rfl) _ _ _ hB (lv_sub hl [0, 1, 2, 3] rfl)
        · have hJ145 := ite_t c147 hJ145
          refine lv_iconst (v := (1 : Int32)) hx hb dX6_tick_36 (by decide) ?_
          refine lv_goto (tgt := 41) hx hb dX6_tick_37 (by decide) ?_
          have e0 := inj1 hJ145
          subst e0
          exact kJ146 (Or.inr rfl) _ _ _ hB (lv_sub hl [0, 1, 2, 3] rfl)
  exact key34 fu _ _ _ _ _ _ _ hL35 hB (lv_sub hl [0, 1, 2] rfl)
