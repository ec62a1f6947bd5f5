abbrev rmX2_journeysIn : Room := { frames := 0, cells := 0, slots := 0, locals := 0 }

set_option maxHeartbeats 4000000 in
set_option maxRecDepth 100000 in
theorem kX2_journeysIn (l : Launch) (dC : Nat → ClassId) (dI : Nat → Nat → Nat) (cyI : ClassId) (ad bd : Nat → Nat) (sz : Nat) {fu : Nat} {τ : MS} {σ : MS} {i1 : Int32} {r : Int32} (hf : mX2_journeysIn fu τ σ i1 = some r) : Met l yX2_journeysIn wsX2_journeysIn rmX2_journeysIn (PcF (dC, dI) [(cyI, .int)] (cW cyI ad bd τ σ) sz [.ref (ad 0), .int i1]) (QiF (dC, dI) [(cyI, .int)] (cW cyI ad bd τ σ) (cW cyI ad bd τ σ) sz r) 0 0 (va_A (cW cyI ad bd τ σ) sz) := by
  refine Met.ofW (cc := cX2_journeysIn) (maxL := 4) (ret := (some .int)) (by decide) rfl ?_
  intro p e s m args below meth c s₁ B hml hv
  obtain ⟨rfl, hsz, hP, hK, hD0⟩ := hv
  have hx := B.exec
  have hb := B.bytes
  have hr := B.returns
  have hts := atoms_spec (ws := wsX2_journeysIn) B.pre
  have hown : s.vm.findClass RX2 = some m.cls := findClass_of_methodNamed B.named
  have hlocks := B.notSynchronized
  subst hsz
  have hA : ∀ q : Nat, s.heap.size ≤ q → va_A (cW cyI ad bd τ σ) s.heap.size q := fun q h => Or.inr h
  have hB : Bd (dC, dI) [(cyI, .int)] (va_A (cW cyI ad bd τ σ) s.heap.size) s (cW cyI ad bd τ σ) s.heap [] := ⟨hP, hD0.self, va_S.rf⟩
  have hq1 : (Cond.fieldLink RX2 52 "UndoJourneys$World" "setup" "LUndoJourneys$Setup;").before _ s = true := hts _ (List.mem_of_getElem? (i := 1) rfl)
  have hq2 : (Cond.fieldLink RX2 83 "UndoJourneys$Setup" "journeys" "I").before _ s = true := hts _ (List.mem_of_getElem? (i := 2) rfl)
  have hq3 : (Cond.fieldLink RX2 25 "UndoJourneys$World" "journeyState" "[I").before _ s = true := hts _ (List.mem_of_getElem? (i := 3) rfl)
  have hinX0 : ∀ w ∈ wsX00, w ∈ wsX2_journeysIn := fun w h => List.mem_cons_of_mem _ (List.mem_append_right _ h)
  have hinX2 : ∀ w ∈ wsX20, w ∈ wsX2_journeysIn := fun w h => List.mem_cons_of_mem _ (List.mem_append_left _ (List.mem_append_right _ h))
  have hl := lv_entry [.ref (ad 0), .int i1] (n := 4) (Nat.le_of_ble_eq_true rfl)
  rw [lg_entry_eq]
  generalize (lg_sl [.ref (ad 0), .int i1] ++ List.replicate (4 - (lg_sl [.ref (ad 0), .int i1]).length) Slot.unset).toArray = ls at hl ⊢
  have hl : lv_has ls 4 [(0, .ref (ad 0)), (1, .int i1)] := hl
  clear hP hD0
  suffices main : ∀ (H : Heap) (locs : List Loc), Bd (dC, dI) [(cyI, .int)] (va_A (cW cyI ad bd τ σ) s.heap.size) s (cW cyI ad bd τ σ) H locs → W p l e (headSpec wsX2_journeysIn rmX2_journeysIn).room s m ([.ref (ad 0), .int i1] : List Value).toArray below meth c H locs 0 0 (MQ below (QiF (dC, dI) [(cyI, .int)] (cW cyI ad bd τ σ) (cW cyI ad bd τ σ) s.heap.size r) ([.ref (ad 0), .int i1] : List Value).toArray s 0 0 (va_A (cW cyI ad bd τ σ) s.heap.size)) (F0 m 0 ls []) from main _ _ hB
  clear hB
  intro H locs hB
  unfold mX2_journeysIn at hf
  refine lv_iconst (v := (0 : Int32)) hx hb dX2_journeysIn_0 (by decide) ?_
  refine lv_istore_n (lv' := [(2, .int (0 : Int32)), (0, .ref (ad 0)), (1, .int i1)]) hx hb dX2_journeysIn_1 rfl hl (by decide) rfl (fun ls hl => ?_)
  refine lv_iconst (v := (0 : Int32)) hx hb dX2_journeysIn_2 (by decide) ?_
  refine lv_istore_n (lv' := [(3, .int (0 : Int32)), (2, .int (0 : Int32)), (0, .ref (ad 0)), (1, .int i1)]) hx hb dX2_journeysIn_3 rfl hl (by decide) rfl (fun ls hl => ?_)
  obtain ⟨v12, hL15, hf⟩ := ob1_s hf
  have kE13 : ∀ (H : Heap) (locs : List Loc) (ls : Array Slot), Bd (dC, dI) [(cyI, .int)] (va_A (cW cyI ad bd τ σ) s.heap.size) s (cW cyI ad bd τ σ) H locs → lv_has ls 4 [(2, .int v12)] → W p l e (headSpec wsX2_journeysIn rmX2_journeysIn).room s m ([.ref (ad 0), .int i1] : List Value).toArray below meth c H locs 0 0 (MQ below (QiF (dC, dI) [(cyI, .int)] (cW cyI ad bd τ σ) (cW cyI ad bd τ σ) s.heap.size r) ([.ref (ad 0), .int i1] : List Value).toArray s 0 0 (va_A (cW cyI ad bd τ σ) s.heap.size)) (F0 m 34 ls []) := by
    intro H locs ls hB hl
    refine lv_iload_n hx hb dX2_journeysIn_34 rfl (lv_at hl 0 rfl) ?_
    have e0 := inj1 hf
    subst e0
    exact g_iret hx hb hr hlocks hK hB dX2_journeysIn_35
  have key14 : ∀ (n9 : Nat) (v18 : Int32) (v19 : Int32) (H : Heap) (locs : List Loc) (ls : Array Slot), loopM (fun st => mX2_journeysIn_L4 fu i1 τ σ st.1 st.2) n9 (v18, v19) = some v12 → Bd (dC, dI) [(cyI, .int)] (va_A (cW cyI ad bd τ σ) s.heap.size) s (cW cyI ad bd τ σ) H locs → lv_has ls 4 [(3, .int v18), (2, .int v19), (0, .ref (ad 0)), (1, .int i1)] → W p l e (headSpec wsX2_journeysIn rmX2_journeysIn).room s m ([.ref (ad 0), .int i1] : List Value).toArray below meth c H locs 0 0 (MQ below (QiF (dC, dI) [(cyI, .int)] (cW cyI ad bd τ σ) (cW cyI ad bd τ σ) s.heap.size r) ([.ref (ad 0), .int i1] : List Value).toArray s 0 0 (va_A (cW cyI ad bd τ σ) s.heap.size)) (F0 m 4 ls []) := by
    intro n9
    induction n9 with
    | zero => intro v18 v19 H locs ls hL15; exact (loopM_z hL15).elim
    | succ n9 ih9 =>
      intro v18 v19 H locs ls hL15 hB hl
      obtain ⟨o20, hg16, hL15⟩ := loopM_s hL15
      have hg16 : mX2_journeysIn_L4 fu i1 τ σ v18 v19 = some o20 := hg16
      unfold mX2_journeysIn_L4 at hg16
      refine lv_iload_n hx hb dX2_journeysIn_4 rfl (lv_at hl 0 rfl) ?_
      refine lv_aload_n hx hb dX2_journeysIn_5 rfl (lv_at hl 2 rfl) ?_
      refine g_get (C := RX2) (T := TX2) (N := 14) hx hb hts hinX2 hown hK hB 0 rfl rfl 0 rfl hq1 rfl rfl dX2_journeysIn_6 ?_
      refine g_get (C := RX0) (T := TX0) (N := 17) hx hb hts hinX0 hown hK hB 12 rfl rfl 5 rfl hq2 rfl rfl dX2_journeysIn_9 ?_
      refine lv_icmp_ge (tgt := 34) hx hb dX2_journeysIn_12 (by decide) (fun c21 => ?_) (fun c21 => ?_)
      · have hg16 := ite_t c21 hg16
        have hL15 := el1_l (inj1 hg16) hL15
        have e0 := inj1 hL15
        subst e0
        exact kE13 _ _ _ hB (lv_sub hl [1] rfl)
      · have hg16 := ite_f c21 hg16
        refine lv_aload_n hx hb dX2_journeysIn_15 rfl (lv_at hl 2 rfl) ?_
        refine g_get (C := RX2) (T := TX2) (N := 14) hx hb hts hinX2 hown hK hB 0 rfl rfl 5 rfl hq3 rfl rfl dX2_journeysIn_16 ?_
        refine lv_iload_n hx hb dX2_journeysIn_19 rfl (lv_at hl 0 rfl) ?_
        obtain ⟨x22, e9, hg16⟩ := ob1_s hg16
        refine g_iald hx hb hK hB 3 0 rfl rfl (rd_s e9) dX2_journeysIn_20 ?_
        refine lv_iload_n hx hb dX2_journeysIn_21 rfl (lv_at hl 3 rfl) ?_
        obtain ⟨v23, hJ24, hg16⟩ := ob1_s hg16
        have kJ25 : ∀ (H : Heap) (locs : List Loc) (ls : Array Slot), Bd (dC, dI) [(cyI, .int)] (va_A (cW cyI ad bd τ σ) s.heap.size) s (cW cyI ad bd τ σ) H locs → lv_has ls 4 [(3, .int v18), (2, .int v23), (0, .ref (ad 0)), (1, .int i1)] → W p l e (headSpec wsX2_journeysIn rmX2_journeysIn).room s m ([.ref (ad 0), .int i1] : List Value).toArray below meth c H locs 0 0 (MQ below (QiF (dC, dI) [(cyI, .int)] (cW cyI ad bd τ σ) (cW cyI ad bd τ σ) s.heap.size r) ([.ref (ad 0), .int i1] : List Value).toArray s 0 0 (va_A (cW cyI ad bd τ σ) s.heap.size)) (F0 m 28 ls []) := by
          intro H locs ls hB hl
          refine lv_iinc (v := (v18 + (1 : Int32))) (lv' := [(3, .int (v18 + (1 : Int32))), (2, .int v23), (0, .ref (ad 0)), (1, .int i1)]) hx hb dX2_journeysIn_28 hl (k := 0) rfl rfl (by decide) rfl (fun ls hl => ?_)
          refine lv_goto (tgt := 4) hx hb dX2_journeysIn_31 (by decide) ?_
          have hL15 := el1_r (inj1 hg16) hL15
          exact ih9 _ _ _ _ _ hL15 hB (lv_sub hl [0, 1, 2, 3] rfl)
        refine lv_icmp_ne (tgt := 28) hx hb dX2_journeysIn_22 (by decide) (fun c26 => ?_) (fun c26 => ?_)
        · have hJ24 := ite_f c26 hJ24
          have e0 := inj1 hJ24
          subst e0
          exact kJ25 _ _ _ hB (lv_sub hl [0, 1, 2, 3] rfl)
        · have hJ24 := ite_t c26 hJ24
          refine lv_iinc (v := (v19 + (1 : Int32))) (lv' := [(2, .int (v19 + (1 : Int32))), (3, .int v18), (0, .ref (ad 0)), (1, .int i1)]) hx hb dX2_journeysIn_25 hl (k := 1) rfl rfl (by decide) rfl (fun ls hl => ?_)
          have e0 := inj1 hJ24
          subst e0
          exact kJ25 _ _ _ hB (lv_sub hl [1, 0, 2, 3] rfl)
  exact key14 fu _ _ _ _ _ hL15 hB (lv_sub hl [0, 1, 2, 3] rfl)

abbrev rmX2_numberOfAll : Room := { frames := 1, cells := 0, slots := 0, locals := 23 }

set_option maxHeartbeats 4000000 in
set_option maxRecDepth 100000 in
theorem kX2_numberOfAll (l : Launch) (dC : Nat → ClassId) (dI : Nat → Nat → Nat) (cyI : ClassId) (ad bd : Nat → Nat) (sz : Nat) {fu : Nat} {τ : MS} {σ : MS} {i1 : Int32} {r : Int32} (hf : mX2_numberOfAll fu τ σ i1 = some r) : Met l yX2_numberOfAll wsX2_numberOfAll rmX2_numberOfAll (PcF (dC, dI) [(cyI, .int)] (cW cyI ad bd τ σ) sz [.ref (ad 0), .int i1]) (QiF (dC, dI) [(cyI, .int)] (cW cyI ad bd τ σ) (cW cyI ad bd τ σ) sz r) 0 0 (va_A (cW cyI ad bd τ σ) sz) := by
  refine Met.ofW (cc := cX2_numberOfAll) (maxL := 2) (ret := (some .int)) (by decide) rfl ?_
  intro p e s m args below meth c s₁ B hml hv
  obtain ⟨rfl, hsz, hP, hK, hD0⟩ := hv
  have hx := B.exec
  have hb := B.bytes
  have hr := B.returns
  have hts := atoms_spec (ws := wsX2_numberOfAll) B.pre
  have hown : s.vm.findClass RX2 = some m.cls := findClass_of_methodNamed B.named
  have hlocks := B.notSynchronized
  subst hsz
  have hA : ∀ q : Nat, s.heap.size ≤ q → va_A (cW cyI ad bd τ σ) s.heap.size q := fun q h => Or.inr h
  have hB : Bd (dC, dI) [(cyI, .int)] (va_A (cW cyI ad bd τ σ) s.heap.size) s (cW cyI ad bd τ σ) s.heap [] := ⟨hP, hD0.self, va_S.rf⟩
  have hq1 : (Cond.fieldLink RX2 9 "UndoJourneys$World" "time" "I").before _ s = true := hts _ (List.mem_of_getElem? (i := 1) rfl)
  have hq2 : (Cond.fieldLink RX2 52 "UndoJourneys$World" "setup" "LUndoJourneys$Setup;").before _ s = true := hts _ (List.mem_of_getElem? (i := 2) rfl)
  have hq3 : (Cond.fieldLink RX2 80 "UndoJourneys$Setup" "stocks" "I").before _ s = true := hts _ (List.mem_of_getElem? (i := 3) rfl)
  have hq4 : (Cond.fieldLink RX2 83 "UndoJourneys$Setup" "journeys" "I").before _ s = true := hts _ (List.mem_of_getElem? (i := 4) rfl)
  have hq5 : (Cond.fieldLink RX2 86 "UndoJourneys$Setup" "steps" "I").before _ s = true := hts _ (List.mem_of_getElem? (i := 5) rfl)
  have hq6 : (Cond.fieldLink RX2 89 "UndoJourneys$Setup" "wait" "I").before _ s = true := hts _ (List.mem_of_getElem? (i := 6) rfl)
  have hq7 : (Cond.fieldLink RX2 92 "UndoJourneys$Setup" "patience" "I").before _ s = true := hts _ (List.mem_of_getElem? (i := 7) rfl)
  have hq8 : (Cond.fieldLink RX2 15 "UndoJourneys$World" "failedUndos" "I").before _ s = true := hts _ (List.mem_of_getElem? (i := 8) rfl)
  have hinX0 : ∀ w ∈ wsX00, w ∈ wsX2_numberOfAll := fun w h => List.mem_cons_of_mem _ (List.mem_append_right _ h)
  have hinX2 : ∀ w ∈ wsX20, w ∈ wsX2_numberOfAll := fun w h => List.mem_cons_of_mem _ (List.mem_append_left _ (List.mem_append_right _ h))
  have hl := lv_entry [.ref (ad 0), .int i1] (n := 2) (Nat.le_of_ble_eq_true rfl)
  rw [lg_entry_eq]
  generalize (lg_sl [.ref (ad 0), .int i1] ++ List.replicate (2 - (lg_sl [.ref (ad 0), .int i1]).length) Slot.unset).toArray = ls at hl ⊢
  have hl : lv_has ls 2 [(0, .ref (ad 0)), (1, .int i1)] := hl
  clear hP hD0
  suffices main : ∀ (H : Heap) (locs : List Loc), Bd (dC, dI) [(cyI, .int)] (va_A (cW cyI ad bd τ σ) s.heap.size) s (cW cyI ad bd τ σ) H locs → W p l e (headSpec wsX2_numberOfAll rmX2_numberOfAll).room s m ([.ref (ad 0), .int i1] : List Value).toArray below meth c H locs 0 0 (MQ below (QiF (dC, dI) [(cyI, .int)] (cW cyI ad bd τ σ) (cW cyI ad bd τ σ) s.heap.size r) ([.ref (ad 0), .int i1] : List Value).toArray s 0 0 (va_A (cW cyI ad bd τ σ) s.heap.size)) (F0 m 0 ls []) from main _ _ hB
  clear hB
  intro H locs hB
  unfold mX2_numberOfAll at hf
  refine lv_iload_n hx hb dX2_numberOfAll_0 rfl (lv_at hl 1 rfl) ?_
  by_cases c1 : i1 = 0
  · have hf := ite_t c1 hf
    refine lv_tableIn (tgt := 52) (off := 51) hx hb dX2_numberOfAll_1 (by rw [c1]; decide) (by rw [c1]; decide) (by rw [c1]; rfl) (by decide) ?_
    refine lv_aload_n hx hb dX2_numberOfAll_52 rfl (lv_at hl 0 rfl) ?_
    refine g_get (C := RX2) (T := TX2) (N := 14) hx hb hts hinX2 hown hK hB 0 rfl rfl 1 rfl hq1 rfl rfl dX2_numberOfAll_53 ?_
    have e0 := inj1 hf
    subst e0
    exact g_iret hx hb hr hlocks hK hB dX2_numberOfAll_56
  · have hf := ite_f c1 hf
    by_cases c2 : i1 = 1
    · have hf := ite_t c2 hf
      refine lv_tableIn (tgt := 57) (off := 56) hx hb dX2_numberOfAll_1 (by rw [c2]; decide) (by rw [c2]; decide) (by rw [c2]; rfl) (by decide) ?_
      refine lv_aload_n hx hb dX2_numberOfAll_57 rfl (lv_at hl 0 rfl) ?_
      refine g_get (C := RX2) (T := TX2) (N := 14) hx hb hts hinX2 hown hK hB 0 rfl rfl 0 rfl hq2 rfl rfl dX2_numberOfAll_58 ?_
      refine g_get (C := RX0) (T := TX0) (N := 17) hx hb hts hinX0 hown hK hB 12 rfl rfl 2 rfl hq3 rfl rfl dX2_numberOfAll_61 ?_
      have e0 := inj1 hf
      subst e0
      exact g_iret hx hb hr hlocks hK hB dX2_numberOfAll_64
    · have hf := ite_f c2 hf
      by_cases c3 : i1 = 2
      · have hf := ite_t c3 hf
        refine lv_tableIn (tgt := 65) (off := 64) hx hb dX2_numberOfAll_1 (by rw [c3]; decide) (by rw [c3]; decide) (by rw [c3]; rfl) (by decide) ?_
        refine lv_aload_n hx hb dX2_numberOfAll_65 rfl (lv_at hl 0 rfl) ?_
        refine g_get (C := RX2) (T := TX2) (N := 14) hx hb hts hinX2 hown hK hB 0 rfl rfl 0 rfl hq2 rfl rfl dX2_numberOfAll_66 ?_
        refine g_get (C := RX0) (T := TX0) (N := 17) hx hb hts hinX0 hown hK hB 12 rfl rfl 5 rfl hq4 rfl rfl dX2_numberOfAll_69 ?_
        have e0 := inj1 hf
        subst e0
        exact g_iret hx hb hr hlocks hK hB dX2_numberOfAll_72
      · have hf := ite_f c3 hf
        by_cases c4 : i1 = 3
        · have hf := ite_t c4 hf
          refine lv_tableIn (tgt := 73) (off := 72) hx hb dX2_numberOfAll_1 (by rw [c4]; decide) (by rw [c4]; decide) (by rw [c4]; rfl) (by decide) ?_
          refine lv_aload_n hx hb dX2_numberOfAll_73 rfl (lv_at hl 0 rfl) ?_
          refine g_get (C := RX2) (T := TX2) (N := 14) hx hb hts hinX2 hown hK hB 0 rfl rfl 0 rfl hq2 rfl rfl dX2_numberOfAll_74 ?_
          refine g_get (C := RX0) (T := TX0) (N := 17) hx hb hts hinX0 hown hK hB 12 rfl rfl 10 rfl hq5 rfl rfl dX2_numberOfAll_77 ?_
          have e0 := inj1 hf
          subst e0
          exact g_iret hx hb hr hlocks hK hB dX2_numberOfAll_80
        · have hf := ite_f c4 hf
          by_cases c5 : i1 = 4
          · have hf := ite_t c5 hf
            refine lv_tableIn (tgt := 81) (off := 80) hx hb dX2_numberOfAll_1 (by rw [c5]; decide) (by rw [c5]; decide) (by rw [c5]; rfl) (by decide) ?_
            refine lv_aload_n hx hb dX2_numberOfAll_81 rfl (lv_at hl 0 rfl) ?_
            refine g_get (C := RX2) (T := TX2) (N := 14) hx hb hts hinX2 hown hK hB 0 rfl rfl 0 rfl hq2 rfl rfl dX2_numberOfAll_82 ?_
            refine g_get (C := RX0) (T := TX0) (N := 17) hx hb hts hinX0 hown hK hB 12 rfl rfl 0 rfl hq6 rfl rfl dX2_numberOfAll_85 ?_
            have e0 := inj1 hf
            subst e0
            exact g_iret hx hb hr hlocks hK hB dX2_numberOfAll_88
          · have hf := ite_f c5 hf
            by_cases c6 : i1 = 5
            · have hf := ite_t c6 hf
              refine lv_tableIn (tgt := 89) (off := 88) hx hb dX2_numberOfAll_1 (by rw [c6]; decide) (by rw [c6]; decide) (by rw [c6]; rfl) (by decide) ?_
              refine lv_aload_n hx hb dX2_numberOfAll_89 rfl (lv_at hl 0 rfl) ?_
              refine g_get (C := RX2) (T := TX2) (N := 14) hx hb hts hinX2 hown hK hB 0 rfl rfl 0 rfl hq2 rfl rfl dX2_numberOfAll_90 ?_
              refine g_get (C := RX0) (T := TX0) (N := 17) hx hb hts hinX0 hown hK hB 12 rfl rfl 1 rfl hq7 rfl rfl dX2_numberOfAll_93 ?_
              have e0 := inj1 hf
              subst e0
              exact g_iret hx hb hr hlocks hK hB dX2_numberOfAll_96
            · have hf := ite_f c6 hf
              by_cases c7 : i1 = 6
              · have hf := ite_t c7 hf
                refine lv_tableIn (tgt := 97) (off := 96) hx hb dX2_numberOfAll_1 (by rw [c7]; decide) (by rw [c7]; decide) (by rw [c7]; rfl) (by decide) ?_
                refine lv_aload_n hx hb dX2_numberOfAll_97 rfl (lv_at hl 0 rfl) ?_
                refine lv_iconst (v := (3 : Int32)) hx hb dX2_numberOfAll_98 (by decide) ?_
                obtain ⟨r8, hc, hf⟩ := ob1_s hf
                refine g_callVi (As := [.int (3 : Int32)]) (rest := []) ⟨hx, hb, hml, hown, hts⟩ (kX2_journeysIn l dC dI cyI ad bd H.size hc) (cwV 1 hts gX2_numberOfAll_X2_journeysIn rfl rfl rfl (by decide +kernel) ⟨Nat.le_of_ble_eq_true rfl, Nat.le_of_ble_eq_true rfl⟩) hK hB hA (g_recv (ci := 2) hK hB 0 rfl rfl rfl) rfl hl.1 rfl (Nat.le_of_ble_eq_true rfl) dX2_numberOfAll_99 ⟨Nat.zero_le _, Nat.zero_le _⟩ (fun H locs hB => ?_)
                have e0 := inj1 hf
                subst e0
                exact g_iret hx hb hr hlocks hK hB dX2_numberOfAll_102
              · have hf := ite_f c7 hf
                by_cases c9 : i1 = 7
                · have hf := ite_t c9 hf
                  refine lv_tableIn (tgt := 103) (off := 102) hx hb dX2_numberOfAll_1 (by rw [c9]; decide) (by rw [c9]; decide) (by rw [c9]; rfl) (by decide) ?_
                  refine lv_aload_n hx hb dX2_numberOfAll_103 rfl (lv_at hl 0 rfl) ?_
                  refine lv_iconst (v := (4 : Int32)) hx hb dX2_numberOfAll_104 (by decide) ?_
                  obtain ⟨r10, hc, hf⟩ := ob1_s hf
                  refine g_callVi (As := [.int (4 : Int32)]) (rest := []) ⟨hx, hb, hml, hown, hts⟩ (kX2_journeysIn l dC dI cyI ad bd H.size hc) (cwV 1 hts gX2_numberOfAll_X2_journeysIn rfl rfl rfl (by decide +kernel) ⟨Nat.le_of_ble_eq_true rfl, Nat.le_of_ble_eq_true rfl⟩) hK hB hA (g_recv (ci := 2) hK hB 0 rfl rfl rfl) rfl hl.1 rfl (Nat.le_of_ble_eq_true rfl) dX2_numberOfAll_105 ⟨Nat.zero_le _, Nat.zero_le _⟩ (fun H locs hB => ?_)
                  have e0 := inj1 hf
                  subst e0
                  exact g_iret hx hb hr hlocks hK hB dX2_numberOfAll_108
                · have hf := ite_f c9 hf
                  by_cases c11 : i1 = 8
                  · have hf := ite_t c11 hf
                    refine lv_tableIn (tgt := 109) (off := 108) hx hb dX2_numberOfAll_1 (by rw [c11]; decide) (by rw [c11]; decide) (by rw [c11]; rfl) (by decide) ?_
                    refine lv_aload_n hx hb dX2_numberOfAll_109 rfl (lv_at hl 0 rfl) ?_
                    refine lv_iconst (v := (5 : Int32)) hx hb dX2_numberOfAll_110 (by decide) ?_
                    obtain ⟨r12, hc, hf⟩ := ob1_s hf
                    refine g_callVi (As := [.int (5 : Int32)]) (rest := []) ⟨hx, hb, hml, hown, hts⟩ (kX2_journeysIn l dC dI cyI ad bd H.size hc) (cwV 1 hts gX2_numberOfAll_X2_journeysIn rfl rfl rfl (by decide +kernel) ⟨Nat.le_of_ble_eq_true rfl, Nat.le_of_ble_eq_true rfl⟩) hK hB hA (g_recv (ci := 2) hK hB 0 rfl rfl rfl) rfl hl.1 rfl (Nat.le_of_ble_eq_true rfl) dX2_numberOfAll_111 ⟨Nat.zero_le _, Nat.zero_le _⟩ (fun H locs hB => ?_)
                    have e0 := inj1 hf
                    subst e0
                    exact g_iret hx hb hr hlocks hK hB dX2_numberOfAll_114
                  · have hf := ite_f c11 hf
                    refine lv_tableOut (tgt := 115) hx hb dX2_numberOfAll_1 (sw_out (n := 8) (by decide) (fun k hk q => by
                        rcases (show k = 0 ∨ k = 1 ∨ k = 2 ∨ k = 3 ∨ k = 4 ∨ k = 5 ∨ k = 6 ∨ k = 7 ∨ k = 8 by omega) with rfl | rfl | rfl | rfl | rfl | rfl | rfl | rfl | rfl
                        · exact c1 (q.trans rfl)
                        · exact c2 (q.trans rfl)
                        · exact c3 (q.trans rfl)
                        · exact c4 (q.trans rfl)
                        · exact c5 (q.trans rfl)
                        · exact c6 (q.trans rfl)
                        · exact c7 (q.trans rfl)
                        · exact c9 (q.trans rfl)
                        · exact c11 (q.trans rfl)))
                      (by decide) ?_
                    refine lv_aload_n hx hb dX2_numberOfAll_115 rfl (lv_at hl 0 rfl) ?_
                    refine g_get (C := RX2) (T := TX2) (N := 14) hx hb hts hinX2 hown hK hB 0 rfl rfl 2 rfl hq8 rfl rfl dX2_numberOfAll_116 ?_
                    have e0 := inj1 hf
                    subst e0
                    exact g_iret hx hb hr hlocks hK hB dX2_numberOfAll_119

abbrev rmX2_hasEnded : Room := { frames := 0, cells := 0, slots := 0, locals := 0 }

set_option maxHeartbeats 4000000 in
set_option maxRecDepth 100000 in
theorem kX2_hasEnded (l : Launch) (dC : Nat → ClassId) (dI : Nat → Nat → Nat) (cyI : ClassId) (ad bd : Nat → Nat) (sz : Nat) {fu : Nat} {τ : MS} {σ : MS} {i1 : Int32} {r : Int32} (hf : mX2_hasEnded fu τ σ i1 = some r) : Met l yX2_hasEnded wsX2_hasEnded rmX2_hasEnded (PcF (dC, dI) [(cyI, .int)] (cW cyI ad bd τ σ) sz [.ref (ad 0), .int i1]) (QzF (dC, dI) [(cyI, .int)] (cW cyI ad bd τ σ) (cW cyI ad bd τ σ) sz r) 0 0 (va_A (cW cyI ad bd τ σ) sz) := by
  refine Met.ofW (cc := cX2_hasEnded) (maxL := 2) (ret := (some .boolean)) (by decide) rfl ?_
  intro p e s m args below meth c s₁ B hml hv
  obtain ⟨rfl, hsz, hP, hK, hD0⟩ := hv
  have hx := B.exec
  have hb := B.bytes
  have hr := B.returns
  have hts := atoms_spec (ws := wsX2_hasEnded) B.pre
  have hown : s.vm.findClass RX2 = some m.cls := findClass_of_methodNamed B.named
  have hlocks := B.notSynchronized
  subst hsz
  have hA : ∀ q : Nat, s.heap.size ≤ q → va_A (cW cyI ad bd τ σ) s.heap.size q := fun q h => Or.inr h
  have hB : Bd (dC, dI) [(cyI, .int)] (va_A (cW cyI ad bd τ σ) s.heap.size) s (cW cyI ad bd τ σ) s.heap [] := ⟨hP, hD0.self, va_S.rf⟩
  have hq1 : (Cond.fieldLink RX2 25 "UndoJourneys$World" "journeyState" "[I").before _ s = true := hts _ (List.mem_of_getElem? (i := 1) rfl)
  have hinX2 : ∀ w ∈ wsX20, w ∈ wsX2_hasEnded := fun w h => List.mem_cons_of_mem _ (List.mem_append_right _ h)
  have hl := lv_entry [.ref (ad 0), .int i1] (n := 2) (Nat.le_of_ble_eq_true rfl)
  rw [lg_entry_eq]
  generalize (lg_sl [.ref (ad 0), .int i1] ++ List.replicate (2 - (lg_sl [.ref (ad 0), .int i1]).length) Slot.unset).toArray = ls at hl ⊢
  have hl : lv_has ls 2 [(0, .ref (ad 0)), (1, .int i1)] := hl
  clear hP hD0
  suffices main : ∀ (H : Heap) (locs : List Loc), Bd (dC, dI) [(cyI, .int)] (va_A (cW cyI ad bd τ σ) s.heap.size) s (cW cyI ad bd τ σ) H locs → W p l e (headSpec wsX2_hasEnded rmX2_hasEnded).room s m ([.ref (ad 0), .int i1] : List Value).toArray below meth c H locs 0 0 (MQ below (QzF (dC, dI) [(cyI, .int)] (cW cyI ad bd τ σ) (cW cyI ad bd τ σ) s.heap.size r) ([.ref (ad 0), .int i1] : List Value).toArray s 0 0 (va_A (cW cyI ad bd τ σ) s.heap.size)) (F0 m 0 ls []) from main _ _ hB
  clear hB
  intro H locs hB
  unfold mX2_hasEnded at hf
  refine lv_aload_n hx hb dX2_hasEnded_0 rfl (lv_at hl 0 rfl) ?_
  refine g_get (C := RX2) (T := TX2) (N := 14) hx hb hts hinX2 hown hK hB 0 rfl rfl 5 rfl hq1 rfl rfl dX2_hasEnded_1 ?_
  refine lv_iload_n hx hb dX2_hasEnded_4 rfl (lv_at hl 1 rfl) ?_
  obtain ⟨x1, e9, hf⟩ := ob1_s hf
  refine g_iald hx hb hK hB 3 0 rfl rfl (rd_s e9) dX2_hasEnded_5 ?_
  refine lv_iconst (v := (3 : Int32)) hx hb dX2_hasEnded_6 (by decide) ?_
  obtain ⟨v2, hJ4, hf⟩ := ob1_s hf
  have kJ5 : (v2 = 0 ∨ v2 = 1) → ∀ (H : Heap) (locs : List Loc) (ls : Array Slot), Bd (dC, dI) [(cyI, .int)] (va_A (cW cyI ad bd τ σ) s.heap.size) s (cW cyI ad bd τ σ) H locs → lv_has ls 2 [] → W p l e (headSpec wsX2_hasEnded rmX2_hasEnded).room s m ([.ref (ad 0), .int i1] : List Value).toArray below meth c H locs 0 0 (MQ below (QzF (dC, dI) [(cyI, .int)] (cW cyI ad bd τ σ) (cW cyI ad bd τ σ) s.heap.size r) ([.ref (ad 0), .int i1] : List Value).toArray s 0 0 (va_A (cW cyI ad bd τ σ) s.heap.size)) (F0 m 25 ls [.int v2]) := by
    intro z3 H locs ls hB hl
    have e0 := inj1 hf
    subst e0
    exact g_zret hx hb hr hlocks hK hB z3 dX2_hasEnded_25
  obtain ⟨t6, hD7, hJ4⟩ := ob1_s hJ4
  have kTt6 : t6 = true → ∀ (H : Heap) (locs : List Loc), Bd (dC, dI) [(cyI, .int)] (va_A (cW cyI ad bd τ σ) s.heap.size) s (cW cyI ad bd τ σ) H locs → W p l e (headSpec wsX2_hasEnded rmX2_hasEnded).room s m ([.ref (ad 0), .int i1] : List Value).toArray below meth c H locs 0 0 (MQ below (QzF (dC, dI) [(cyI, .int)] (cW cyI ad bd τ σ) (cW cyI ad bd τ σ) s.heap.size r) ([.ref (ad 0), .int i1] : List Value).toArray s 0 0 (va_A (cW cyI ad bd τ σ) s.heap.size)) (F0 m 20 ls []) := by
    intro ht H locs hB
    have hJ4 := cnd_t ht hJ4
    refine lv_iconst (v := (1 : Int32)) hx hb dX2_hasEnded_20 (by decide) ?_
    refine lv_goto (tgt := 25) hx hb dX2_hasEnded_21 (by decide) ?_
    have e0 := inj1 hJ4
    subst e0
    exact kJ5 (Or.inr rfl) _ _ _ hB (lv_sub hl [] rfl)
  have kFt6 : t6 = false → ∀ (H : Heap) (locs : List Loc), Bd (dC, dI) [(cyI, .int)] (va_A (cW cyI ad bd τ σ) s.heap.size) s (cW cyI ad bd τ σ) H locs → W p l e (headSpec wsX2_hasEnded rmX2_hasEnded).room s m ([.ref (ad 0), .int i1] : List Value).toArray below meth c H locs 0 0 (MQ below (QzF (dC, dI) [(cyI, .int)] (cW cyI ad bd τ σ) (cW cyI ad bd τ σ) s.heap.size r) ([.ref (ad 0), .int i1] : List Value).toArray s 0 0 (va_A (cW cyI ad bd τ σ) s.heap.size)) (F0 m 24 ls []) := by
    intro ht H locs hB
    have hJ4 := cnd_f ht hJ4
    refine lv_iconst (v := (0 : Int32)) hx hb dX2_hasEnded_24 (by decide) ?_
    have e0 := inj1 hJ4
    subst e0
    exact kJ5 (Or.inl rfl) _ _ _ hB (lv_sub hl [] rfl)
  refine lv_icmp_eq (tgt := 20) hx hb dX2_hasEnded_7 (by decide) (fun c8 => ?_) (fun c8 => ?_)
  · have hD7 := ite_t c8 hD7
    have e0 := inj1 hD7
    exact kTt6 e0.symm _ _ hB
  · have hD7 := ite_f c8 hD7
    refine lv_aload_n hx hb dX2_hasEnded_10 rfl (lv_at hl 0 rfl) ?_
    refine g_get (C := RX2) (T := TX2) (N := 14) hx hb hts hinX2 hown hK hB 0 rfl rfl 5 rfl hq1 rfl rfl dX2_hasEnded_11 ?_
    refine lv_iload_n hx hb dX2_hasEnded_14 rfl (lv_at hl 1 rfl) ?_
    obtain ⟨x9, e9, hD7⟩ := ob1_s hD7
    refine g_iald hx hb hK hB 3 0 rfl rfl (rd_s e9) dX2_hasEnded_15 ?_
    refine lv_iconst (v := (4 : Int32)) hx hb dX2_hasEnded_16 (by decide) ?_
    refine lv_icmp_ne (tgt := 24) hx hb dX2_hasEnded_17 (by decide) (fun c10 => ?_) (fun c10 => ?_)
    · have hD7 := ite_f c10 hD7
      have e0 := inj1 hD7
      exact kFt6 e0.symm _ _ hB
    · have hD7 := ite_t c10 hD7
      have e0 := inj1 hD7
      exact kTt6 e0.symm _ _ hB

abbrev rmX2_amountTakenBy : Room := { frames := 0, cells := 0, slots := 0, locals := 0 }

set_option maxHeartbeats 4000000 in
set_option maxRecDepth 100000 in
theorem kX2_amountTakenBy (l : Launch) (dC : Nat → ClassId) (dI : Nat → Nat → Nat) (cyI : ClassId) (ad bd : Nat → Nat) (sz : Nat) {fu : Nat} {τ : MS} {σ : MS} {i1 : Int32} {i2 : Int32} {r : Int32} (hf : mX2_amountTakenBy fu τ σ i1 i2 = some r) : Met l yX2_amountTakenBy wsX2_amountTakenBy rmX2_amountTakenBy (PcF (dC, dI) [(cyI, .int)] (cW cyI ad bd τ σ) sz [.ref (ad 0), .int i1, .int i2]) (QiF (dC, dI) [(cyI, .int)] (cW cyI ad bd τ σ) (cW cyI ad bd τ σ) sz r) 0 0 (va_A (cW cyI ad bd τ σ) sz) := by
  refine Met.ofW (cc := cX2_amountTakenBy) (maxL := 7) (ret := (some .int)) (by decide) rfl ?_
  intro p e s m args below meth c s₁ B hml hv
  obtain ⟨rfl, hsz, hP, hK, hD0⟩ := hv
  have hx := B.exec
  have hb := B.bytes
  have hr := B.returns
  have hts := atoms_spec (ws := wsX2_amountTakenBy) B.pre
  have hown : s.vm.findClass RX2 = some m.cls := findClass_of_methodNamed B.named
  have hlocks := B.notSynchronized
  subst hsz
  have hA : ∀ q : Nat, s.heap.size ≤ q → va_A (cW cyI ad bd τ σ) s.heap.size q := fun q h => Or.inr h
  have hB : Bd (dC, dI) [(cyI, .int)] (va_A (cW cyI ad bd τ σ) s.heap.size) s (cW cyI ad bd τ σ) s.heap [] := ⟨hP, hD0.self, va_S.rf⟩
  have hq1 : (Cond.fieldLink RX2 52 "UndoJourneys$World" "setup" "LUndoJourneys$Setup;").before _ s = true := hts _ (List.mem_of_getElem? (i := 1) rfl)
  have hq2 : (Cond.fieldLink RX2 145 "UndoJourneys$Setup" "endStep" "[I").before _ s = true := hts _ (List.mem_of_getElem? (i := 2) rfl)
  have hq3 : (Cond.fieldLink RX2 148 "UndoJourneys$Setup" "firstStep" "[I").before _ s = true := hts _ (List.mem_of_getElem? (i := 3) rfl)
  have hq4 : (Cond.fieldLink RX2 37 "UndoJourneys$World" "stepState" "[I").before _ s = true := hts _ (List.mem_of_getElem? (i := 4) rfl)
  have hq5 : (Cond.fieldLink RX2 133 "UndoJourneys$Setup" "stockOf" "[I").before _ s = true := hts _ (List.mem_of_getElem? (i := 5) rfl)
  have hq6 : (Cond.fieldLink RX2 136 "UndoJourneys$Setup" "amount" "[I").before _ s = true := hts _ (List.mem_of_getElem? (i := 6) rfl)
  have hinX0 : ∀ w ∈ wsX00, w ∈ wsX2_amountTakenBy := fun w h => List.mem_cons_of_mem _ (List.mem_append_right _ h)
  have hinX2 : ∀ w ∈ wsX20, w ∈ wsX2_amountTakenBy := fun w h => List.mem_cons_of_mem _ (List.mem_append_left _ (List.mem_append_right _ h))
  have hl := lv_entry [.ref (ad 0), .int i1, .int i2] (n := 7) (Nat.le_of_ble_eq_true rfl)
  rw [lg_entry_eq]
  generalize (lg_sl [.ref (ad 0), .int i1, .int i2] ++ List.replicate (7 - (lg_sl [.ref (ad 0), .int i1, .int i2]).length) Slot.unset).toArray = ls at hl ⊢
  have hl : lv_has ls 7 [(0, .ref (ad 0)), (1, .int i1), (2, .int i2)] := hl
  clear hP hD0
  suffices main : ∀ (H : Heap) (locs : List Loc), Bd (dC, dI) [(cyI, .int)] (va_A (cW cyI ad bd τ σ) s.heap.size) s (cW cyI ad bd τ σ) H locs → W p l e (headSpec wsX2_amountTakenBy rmX2_amountTakenBy).room s m ([.ref (ad 0), .int i1, .int i2] : List Value).toArray below meth c H locs 0 0 (MQ below (QiF (dC, dI) [(cyI, .int)] (cW cyI ad bd τ σ) (cW cyI ad bd τ σ) s.heap.size r) ([.ref (ad 0), .int i1, .int i2] : List Value).toArray s 0 0 (va_A (cW cyI ad bd τ σ) s.heap.size)) (F0 m 0 ls []) from main _ _ hB
  clear hB
  intro H locs hB
  unfold mX2_amountTakenBy at hf
  refine lv_iconst (v := (0 : Int32)) hx hb dX2_amountTakenBy_0 (by decide) ?_
  refine lv_istore_n (lv' := [(3, .int (0 : Int32)), (0, .ref (ad 0)), (1, .int i1), (2, .int i2)]) hx hb dX2_amountTakenBy_1 rfl hl (by decide) rfl (fun ls hl => ?_)
  refine lv_aload_n hx hb dX2_amountTakenBy_2 rfl (lv_at hl 1 rfl) ?_
  refine g_get (C := RX2) (T := TX2) (N := 14) hx hb hts hinX2 hown hK hB 0 rfl rfl 0 rfl hq1 rfl rfl dX2_amountTakenBy_3 ?_
  refine g_get (C := RX0) (T := TX0) (N := 17) hx hb hts hinX0 hown hK hB 12 rfl rfl 9 rfl hq2 rfl rfl dX2_amountTakenBy_6 ?_
  refine lv_iload_n hx hb dX2_amountTakenBy_9 rfl (lv_at hl 2 rfl) ?_
  obtain ⟨x1, e9, hf⟩ := ob1_s hf
  refine g_iald hx hb hK hB 18 0 rfl rfl (rd_s e9) dX2_amountTakenBy_10 ?_
  refine lv_istore (lv' := [(4, .int x1), (3, .int (0 : Int32)), (0, .ref (ad 0)), (1, .int i1), (2, .int i2)]) hx hb dX2_amountTakenBy_11 hl (by decide) rfl (fun ls hl => ?_)
  refine lv_aload_n hx hb dX2_amountTakenBy_13 rfl (lv_at hl 2 rfl) ?_
  refine g_get (C := RX2) (T := TX2) (N := 14) hx hb hts hinX2 hown hK hB 0 rfl rfl 0 rfl hq1 rfl rfl dX2_amountTakenBy_14 ?_
  refine g_get (C := RX0) (T := TX0) (N := 17) hx hb hts hinX0 hown hK hB 12 rfl rfl 8 rfl hq3 rfl rfl dX2_amountTakenBy_17 ?_
  refine lv_iload_n hx hb dX2_amountTakenBy_20 rfl (lv_at hl 3 rfl) ?_
  obtain ⟨x2, e9, hf⟩ := ob1_s hf
  refine g_iald hx hb hK hB 17 0 rfl rfl (rd_s e9) dX2_amountTakenBy_21 ?_
  refine lv_istore (lv' := [(5, .int x2), (4, .int x1), (3, .int (0 : Int32)), (0, .ref (ad 0)), (1, .int i1), (2, .int i2)]) hx hb dX2_amountTakenBy_22 hl (by decide) rfl (fun ls hl => ?_)
  obtain ⟨v29, hL32, hf⟩ := ob1_s hf
  have kE30 : ∀ (H : Heap) (locs : List Loc) (ls : Array Slot), Bd (dC, dI) [(cyI, .int)] (va_A (cW cyI ad bd τ σ) s.heap.size) s (cW cyI ad bd τ σ) H locs → lv_has ls 7 [(3, .int v29)] → W p l e (headSpec wsX2_amountTakenBy rmX2_amountTakenBy).room s m ([.ref (ad 0), .int i1, .int i2] : List Value).toArray below meth c H locs 0 0 (MQ below (QiF (dC, dI) [(cyI, .int)] (cW cyI ad bd τ σ) (cW cyI ad bd τ σ) s.heap.size r) ([.ref (ad 0), .int i1, .int i2] : List Value).toArray s 0 0 (va_A (cW cyI ad bd τ σ) s.heap.size)) (F0 m 98 ls []) := by
    intro H locs ls hB hl
    refine lv_iload_n hx hb dX2_amountTakenBy_98 rfl (lv_at hl 0 rfl) ?_
    have e0 := inj1 hf
    subst e0
    exact g_iret hx hb hr hlocks hK hB dX2_amountTakenBy_99
  have key31 : ∀ (n9 : Nat) (v35 : Int32) (v36 : Int32) (H : Heap) (locs : List Loc) (ls : Array Slot), loopM (fun st => mX2_amountTakenBy_L24 fu x1 i2 τ σ st.1 st.2) n9 (v35, v36) = some v29 → Bd (dC, dI) [(cyI, .int)] (va_A (cW cyI ad bd τ σ) s.heap.size) s (cW cyI ad bd τ σ) H locs → lv_has ls 7 [(5, .int v35), (4, .int x1), (3, .int v36), (0, .ref (ad 0)), (2, .int i2)] → W p l e (headSpec wsX2_amountTakenBy rmX2_amountTakenBy).room s m ([.ref (ad 0), .int i1, .int i2] : List Value).toArray below meth c H locs 0 0 (MQ below (QiF (dC, dI) [(cyI, .int)] (cW cyI ad bd τ σ) (cW cyI ad bd τ σ) s.heap.size r) ([.ref (ad 0), .int i1, .int i2] : List Value).toArray s 0 0 (va_A (cW cyI ad bd τ σ) s.heap.size)) (F0 m 24 ls []) := by
    intro n9
    induction n9 with
    | zero => intro v35 v36 H locs ls hL32; exact (loopM_z hL32).elim
    | succ n9 ih9 =>
      intro v35 v36 H locs ls hL32 hB hl
      obtain ⟨o37, hg33, hL32⟩ := loopM_s hL32
      have hg33 : mX2_amountTakenBy_L24 fu x1 i2 τ σ v35 v36 = some o37 := hg33
      unfold mX2_amountTakenBy_L24 at hg33
      refine lv_iload hx hb dX2_amountTakenBy_24 (lv_at hl 0 rfl) ?_
      refine lv_iload hx hb dX2_amountTakenBy_26 (lv_at hl 1 rfl) ?_
      refine lv_icmp_ge (tgt := 98) hx hb dX2_amountTakenBy_28 (by decide) (fun c38 => ?_) (fun c38 => ?_)
      · have hg33 := ite_t c38 hg33
        have hL32 := el1_l (inj1 hg33) hL32
        have e0 := inj1 hL32
        subst e0
        exact kE30 _ _ _ hB (lv_sub hl [2] rfl)
      · have hg33 := ite_f c38 hg33
        refine lv_aload_n hx hb dX2_amountTakenBy_31 rfl (lv_at hl 3 rfl) ?_
        refine g_get (C := RX2) (T := TX2) (N := 14) hx hb hts hinX2 hown hK hB 0 rfl rfl 9 rfl hq4 rfl rfl dX2_amountTakenBy_32 ?_
        refine lv_iload hx hb dX2_amountTakenBy_35 (lv_at hl 0 rfl) ?_
        obtain ⟨x39, e9, hg33⟩ := ob1_s hg33
        refine g_iald hx hb hK hB 7 0 rfl rfl (rd_s e9) dX2_amountTakenBy_37 ?_
        refine lv_iconst (v := (2 : Int32)) hx hb dX2_amountTakenBy_38 (by decide) ?_
        obtain ⟨v40, hJ42, hg33⟩ := ob1_s hg33
        have kJ43 : (v40 = 0 ∨ v40 = 1) → ∀ (H : Heap) (locs : List Loc) (ls : Array Slot), Bd (dC, dI) [(cyI, .int)] (va_A (cW cyI ad bd τ σ) s.heap.size) s (cW cyI ad bd τ σ) H locs → lv_has ls 7 [(5, .int v35), (4, .int x1), (3, .int v36), (0, .ref (ad 0)), (2, .int i2)] → W p l e (headSpec wsX2_amountTakenBy rmX2_amountTakenBy).room s m ([.ref (ad 0), .int i1, .int i2] : List Value).toArray below meth c H locs 0 0 (MQ below (QiF (dC, dI) [(cyI, .int)] (cW cyI ad bd τ σ) (cW cyI ad bd τ σ) s.heap.size r) ([.ref (ad 0), .int i1, .int i2] : List Value).toArray s 0 0 (va_A (cW cyI ad bd τ σ) s.heap.size)) (F0 m 58 ls [.int v40]) := by
          intro z41 H locs ls hB hl
          refine lv_istore (lv' := [(6, .int v40), (5, .int v35), (4, .int x1), (3, .int v36), (0, .ref (ad 0)), (2, .int i2)]) hx hb dX2_amountTakenBy_58 hl (by decide) rfl (fun ls hl => ?_)
          refine lv_iload hx hb dX2_amountTakenBy_60 (lv_at hl 0 rfl) ?_
          obtain ⟨v49, hJ50, hg33⟩ := ob1_s hg33
          have kJ51 : ∀ (H : Heap) (locs : List Loc) (ls : Array Slot), Bd (dC, dI) [(cyI, .int)] (va_A (cW cyI ad bd τ σ) s.heap.size) s (cW cyI ad bd τ σ) H locs → lv_has ls 7 [(3, .int v49), (5, .int v35), (4, .int x1), (0, .ref (ad 0)), (2, .int i2)] → W p l e (headSpec wsX2_amountTakenBy rmX2_amountTakenBy).room s m ([.ref (ad 0), .int i1, .int i2] : List Value).toArray below meth c H locs 0 0 (MQ below (QiF (dC, dI) [(cyI, .int)] (cW cyI ad bd τ σ) (cW cyI ad bd τ σ) s.heap.size r) ([.ref (ad 0), .int i1, .int i2] : List Value).toArray s 0 0 (va_A (cW cyI ad bd τ σ) s.heap.size)) (F0 m 92 ls []) := by
            intro H locs ls hB hl
            refine lv_iinc (v := (v35 + (1 : Int32))) (lv' := [(5, .int (v35 + (1 : Int32))), (3, .int v49), (4, .int x1), (0, .ref (ad 0)), (2, .int i2)]) hx hb dX2_amountTakenBy_92 hl (k := 1) rfl rfl (by decide) rfl (fun ls hl => ?_)
            refine lv_goto (tgt := 24) hx hb dX2_amountTakenBy_95 (by decide) ?_
            have hL32 := el1_r (inj1 hg33) hL32
            exact ih9 _ _ _ _ _ hL32 hB (lv_sub hl [0, 2, 1, 3, 4] rfl)
          obtain ⟨t52, hD53, hJ50⟩ := ob1_s hJ50
          have kTt52 : t52 = true → ∀ (H : Heap) (locs : List Loc), Bd (dC, dI) [(cyI, .int)] (va_A (cW cyI ad bd τ σ) s.heap.size) s (cW cyI ad bd τ σ) H locs → W p l e (headSpec wsX2_amountTakenBy rmX2_amountTakenBy).room s m ([.ref (ad 0), .int i1, .int i2] : List Value).toArray below meth c H locs 0 0 (MQ below (QiF (dC, dI) [(cyI, .int)] (cW cyI ad bd τ σ) (cW cyI ad bd τ σ) s.heap.size r) ([.ref (ad 0), .int i1, .int i2] : List Value).toArray s 0 0 (va_A (cW cyI ad bd τ σ) s.heap.size)) (F0 m 79 ls []) := by
            intro ht H locs hB
            have hJ50 := cnd_t ht hJ50
            refine lv_iload_n hx hb dX2_amountTakenBy_79 rfl (lv_at hl 3 rfl) ?_
            refine lv_aload_n hx hb dX2_amountTakenBy_80 rfl (lv_at hl 4 rfl) ?_
            refine g_get (C := RX2) (T := TX2) (N := 14) hx hb hts hinX2 hown hK hB 0 rfl rfl 0 rfl hq1 rfl rfl dX2_amountTakenBy_81 ?_
            refine g_get (C := RX0) (T := TX0) (N := 17) hx hb hts hinX0 hown hK hB 12 rfl rfl 13 rfl hq6 rfl rfl dX2_amountTakenBy_84 ?_
            refine lv_iload hx hb dX2_amountTakenBy_87 (lv_at hl 1 rfl) ?_
            obtain ⟨x57, e9, hJ50⟩ := ob1_s hJ50
            refine g_iald hx hb hK hB 21 0 rfl rfl (rd_s e9) dX2_amountTakenBy_89 ?_
            refine lv_iadd hx hb dX2_amountTakenBy_90 ?_
            refine lv_istore_n (lv' := [(3, .int (v36 + x57)), (6, .int v40), (5, .int v35), (4, .int x1), (0, .ref (ad 0)), (2, .int i2)]) hx hb dX2_amountTakenBy_91 rfl hl (by decide) rfl (fun ls hl => ?_)
            have e0 := inj1 hJ50
            subst e0
            exact kJ51 _ _ _ hB (lv_sub hl [0, 2, 3, 4, 5] rfl)
          have kFt52 : t52 = false → ∀ (H : Heap) (locs : List Loc), Bd (dC, dI) [(cyI, .int)] (va_A (cW cyI ad bd τ σ) s.heap.size) s (cW cyI ad bd τ σ) H locs → W p l e (headSpec wsX2_amountTakenBy rmX2_amountTakenBy).room s m ([.ref (ad 0), .int i1, .int i2] : List Value).toArray below meth c H locs 0 0 (MQ below (QiF (dC, dI) [(cyI, .int)] (cW cyI ad bd τ σ) (cW cyI ad bd τ σ) s.heap.size r) ([.ref (ad 0), .int i1, .int i2] : List Value).toArray s 0 0 (va_A (cW cyI ad bd τ σ) s.heap.size)) (F0 m 92 ls []) := by
            intro ht H locs hB
            have hJ50 := cnd_f ht hJ50
            have e0 := inj1 hJ50
            subst e0
            exact kJ51 _ _ _ hB (lv_sub hl [3, 1, 2, 4, 5] rfl)
          refine lv_if_eq (tgt := 92) hx hb dX2_amountTakenBy_62 (by decide) (fun c54 => ?_) (fun c54 => ?_)
          · have hD53 := ite_t c54 hD53
            have e0 := inj1 hD53
            exact kFt52 e0.symm _ _ hB
          · have hD53 := ite_f c54 hD53
            refine lv_aload_n hx hb dX2_amountTakenBy_65 rfl (lv_at hl 4 rfl) ?_
            refine g_get (C := RX2) (T := TX2) (N := 14) hx hb hts hinX2 hown hK hB 0 rfl rfl 0 rfl hq1 rfl rfl dX2_amountTakenBy_66 ?_
            refine g_get (C := RX0) (T := TX0) (N := 17) hx hb hts hinX0 hown hK hB 12 rfl rfl 12 rfl hq5 rfl rfl dX2_amountTakenBy_69 ?_
            refine lv_iload hx hb dX2_amountTakenBy_72 (lv_at hl 1 rfl) ?_
            obtain ⟨x55, e9, hD53⟩ := ob1_s hD53
            refine g_iald hx hb hK hB 20 0 rfl rfl (rd_s e9) dX2_amountTakenBy_74 ?_
            refine lv_iload_n hx hb dX2_amountTakenBy_75 rfl (lv_at hl 5 rfl) ?_
            refine lv_icmp_ne (tgt := 92) hx hb dX2_amountTakenBy_76 (by decide) (fun c56 => ?_) (fun c56 => ?_)
            · have hD53 := ite_f c56 hD53
              have e0 := inj1 hD53
              exact kFt52 e0.symm _ _ hB
            · have hD53 := ite_t c56 hD53
              have e0 := inj1 hD53
              exact kTt52 e0.symm _ _ hB
        obtain ⟨t44, hD45, hJ42⟩ := ob1_s hJ42
        have kTt44 : t44 = true → ∀ (H : Heap) (locs : List Loc), Bd (dC, dI) [(cyI, .int)] (va_A (cW cyI ad bd τ σ) s.heap.size) s (cW cyI ad bd τ σ) H locs → W p l e (headSpec wsX2_amountTakenBy rmX2_amountTakenBy).room s m ([.ref (ad 0), .int i1, .int i2] : List Value).toArray below meth c H locs 0 0 (MQ below (QiF (dC, dI) [(cyI, .int)] (cW cyI ad bd τ σ) (cW cyI ad bd τ σ) s.heap.size r) ([.ref (ad 0), .int i1, .int i2] : List Value).toArray s 0 0 (va_A (cW cyI ad bd τ σ) s.heap.size)) (F0 m 53 ls []) := by
          intro ht H locs hB
          have hJ42 := cnd_t ht hJ42
          refine lv_iconst (v := (1 : Int32)) hx hb dX2_amountTakenBy_53 (by decide) ?_
          refine lv_goto (tgt := 58) hx hb dX2_amountTakenBy_54 (by decide) ?_
          have e0 := inj1 hJ42
          subst e0
          exact kJ43 (Or.inr rfl) _ _ _ hB (lv_sub hl [0, 1, 2, 3, 4] rfl)
        have kFt44 : t44 = false → ∀ (H : Heap) (locs : List Loc), Bd (dC, dI) [(cyI, .int)] (va_A (cW cyI ad bd τ σ) s.heap.size) s (cW cyI ad bd τ σ) H locs → W p l e (headSpec wsX2_amountTakenBy rmX2_amountTakenBy).room s m ([.ref (ad 0), .int i1, .int i2] : List Value).toArray below meth c H locs 0 0 (MQ below (QiF (dC, dI) [(cyI, .int)] (cW cyI ad bd τ σ) (cW cyI ad bd τ σ) s.heap.size r) ([.ref (ad 0), .int i1, .int i2] : List Value).toArray s 0 0 (va_A (cW cyI ad bd τ σ) s.heap.size)) (F0 m 57 ls []) := by
          intro ht H locs hB
          have hJ42 := cnd_f ht hJ42
          refine lv_iconst (v := (0 : Int32)) hx hb dX2_amountTakenBy_57 (by decide) ?_
          have e0 := inj1 hJ42
          subst e0
          exact kJ43 (Or.inl rfl) _ _ _ hB (lv_sub hl [0, 1, 2, 3, 4] rfl)
        refine lv_icmp_eq (tgt := 53) hx hb dX2_amountTakenBy_39 (by decide) (fun c46 => ?_) (fun c46 => ?_)
        · have hD45 := ite_t c46 hD45
          have e0 := inj1 hD45
          exact kTt44 e0.symm _ _ hB
        · have hD45 := ite_f c46 hD45
          refine lv_aload_n hx hb dX2_amountTakenBy_42 rfl (lv_at hl 3 rfl) ?_
          refine g_get (C := RX2) (T := TX2) (N := 14) hx hb hts hinX2 hown hK hB 0 rfl rfl 9 rfl hq4 rfl rfl dX2_amountTakenBy_43 ?_
          refine lv_iload hx hb dX2_amountTakenBy_46 (lv_at hl 0 rfl) ?_
          obtain ⟨x47, e9, hD45⟩ := ob1_s hD45
          refine g_iald hx hb hK hB 7 0 rfl rfl (rd_s e9) dX2_amountTakenBy_48 ?_
          refine lv_iconst (v := (3 : Int32)) hx hb dX2_amountTakenBy_49 (by decide) ?_
          refine lv_icmp_ne (tgt := 57) hx hb dX2_amountTakenBy_50 (by decide) (fun c48 => ?_) (fun c48 => ?_)
          · have hD45 := ite_f c48 hD45
            have e0 := inj1 hD45
            exact kFt44 e0.symm _ _ hB
          · have hD45 := ite_t c48 hD45
            have e0 := inj1 hD45
            exact kTt44 e0.symm _ _ hB
  exact key31 fu _ _ _ _ _ hL32 hB (lv_sub hl [0, 1, 2, 3, 5] rfl)

abbrev rmX2_holdersOf : Room := { frames := 1, cells := 0, slots := 0, locals := 26 }

set_option maxHeartbeats 4000000 in
set_option maxRecDepth 100000 in
theorem kX2_holdersOf (l : Launch) (dC : Nat → ClassId) (dI : Nat → Nat → Nat) (cyI : ClassId) (ad bd : Nat → Nat) (sz : Nat) {fu : Nat} {τ : MS} {σ : MS} {i1 : Int32} {r : Int32} (hf : mX2_holdersOf fu τ σ i1 = some r) : Met l yX2_holdersOf wsX2_holdersOf rmX2_holdersOf (PcF (dC, dI) [(cyI, .int)] (cW cyI ad bd τ σ) sz [.ref (ad 0), .int i1]) (QiF (dC, dI) [(cyI, .int)] (cW cyI ad bd τ σ) (cW cyI ad bd τ σ) sz r) 0 0 (va_A (cW cyI ad bd τ σ) sz) := by
  refine Met.ofW (cc := cX2_holdersOf) (maxL := 4) (ret := (some .int)) (by decide) rfl ?_
  intro p e s m args below meth c s₁ B hml hv
  obtain ⟨rfl, hsz, hP, hK, hD0⟩ := hv
  have hx := B.exec
  have hb := B.bytes
  have hr := B.returns
  have hts := atoms_spec (ws := wsX2_holdersOf) B.pre
  have hown : s.vm.findClass RX2 = some m.cls := findClass_of_methodNamed B.named
  have hlocks := B.notSynchronized
  subst hsz
  have hA : ∀ q : Nat, s.heap.size ≤ q → va_A (cW cyI ad bd τ σ) s.heap.size q := fun q h => Or.inr h
  have hB : Bd (dC, dI) [(cyI, .int)] (va_A (cW cyI ad bd τ σ) s.heap.size) s (cW cyI ad bd τ σ) s.heap [] := ⟨hP, hD0.self, va_S.rf⟩
  have hq1 : (Cond.fieldLink RX2 52 "UndoJourneys$World" "setup" "LUndoJourneys$Setup;").before _ s = true := hts _ (List.mem_of_getElem? (i := 1) rfl)
  have hq2 : (Cond.fieldLink RX2 83 "UndoJourneys$Setup" "journeys" "I").before _ s = true := hts _ (List.mem_of_getElem? (i := 2) rfl)
  have hinX0 : ∀ w ∈ wsX00, w ∈ wsX2_holdersOf := fun w h => List.mem_cons_of_mem _ (List.mem_append_right _ h)
  have hinX2 : ∀ w ∈ wsX20, w ∈ wsX2_holdersOf := fun w h => List.mem_cons_of_mem _ (List.mem_append_left _ (List.mem_append_right _ h))
  have hl := lv_entry [.ref (ad 0), .int i1] (n := 4) (Nat.le_of_ble_eq_true rfl)
  rw [lg_entry_eq]
  generalize (lg_sl [.ref (ad 0), .int i1] ++ List.replicate (4 - (lg_sl [.ref (ad 0), .int i1]).length) Slot.unset).toArray = ls at hl ⊢
  have hl : lv_has ls 4 [(0, .ref (ad 0)), (1, .int i1)] := hl
  clear hP hD0
  suffices main : ∀ (H : Heap) (locs : List Loc), Bd (dC, dI) [(cyI, .int)] (va_A (cW cyI ad bd τ σ) s.heap.size) s (cW cyI ad bd τ σ) H locs → W p l e (headSpec wsX2_holdersOf rmX2_holdersOf).room s m ([.ref (ad 0), .int i1] : List Value).toArray below meth c H locs 0 0 (MQ below (QiF (dC, dI) [(cyI, .int)] (cW cyI ad bd τ σ) (cW cyI ad bd τ σ) s.heap.size r) ([.ref (ad 0), .int i1] : List Value).toArray s 0 0 (va_A (cW cyI ad bd τ σ) s.heap.size)) (F0 m 0 ls []) from main _ _ hB
  clear hB
  intro H locs hB
  unfold mX2_holdersOf at hf
  refine lv_iconst (v := (0 : Int32)) hx hb dX2_holdersOf_0 (by decide) ?_
  refine lv_istore_n (lv' := [(2, .int (0 : Int32)), (0, .ref (ad 0)), (1, .int i1)]) hx hb dX2_holdersOf_1 rfl hl (by decide) rfl (fun ls hl => ?_)
  refine lv_iconst (v := (0 : Int32)) hx hb dX2_holdersOf_2 (by decide) ?_
  refine lv_istore_n (lv' := [(3, .int (0 : Int32)), (2, .int (0 : Int32)), (0, .ref (ad 0)), (1, .int i1)]) hx hb dX2_holdersOf_3 rfl hl (by decide) rfl (fun ls hl => ?_)
  obtain ⟨v17, hL20, hf⟩ := ob1_s hf
  have kE18 : ∀ (H : Heap) (locs : List Loc) (ls : Array Slot), Bd (dC, dI) [(cyI, .int)] (va_A (cW cyI ad bd τ σ) s.heap.size) s (cW cyI ad bd τ σ) H locs → lv_has ls 4 [(2, .int v17)] → W p l e (headSpec wsX2_holdersOf rmX2_holdersOf).room s m ([.ref (ad 0), .int i1] : List Value).toArray below meth c H locs 0 0 (MQ below (QiF (dC, dI) [(cyI, .int)] (cW cyI ad bd τ σ) (cW cyI ad bd τ σ) s.heap.size r) ([.ref (ad 0), .int i1] : List Value).toArray s 0 0 (va_A (cW cyI ad bd τ σ) s.heap.size)) (F0 m 41 ls []) := by
    intro H locs ls hB hl
    refine lv_iload_n hx hb dX2_holdersOf_41 rfl (lv_at hl 0 rfl) ?_
    have e0 := inj1 hf
    subst e0
    exact g_iret hx hb hr hlocks hK hB dX2_holdersOf_42
  have key19 : ∀ (n9 : Nat) (v23 : Int32) (v24 : Int32) (H : Heap) (locs : List Loc) (ls : Array Slot), loopM (fun st => mX2_holdersOf_L4 fu i1 τ σ st.1 st.2) n9 (v23, v24) = some v17 → Bd (dC, dI) [(cyI, .int)] (va_A (cW cyI ad bd τ σ) s.heap.size) s (cW cyI ad bd τ σ) H locs → lv_has ls 4 [(3, .int v23), (2, .int v24), (0, .ref (ad 0)), (1, .int i1)] → W p l e (headSpec wsX2_holdersOf rmX2_holdersOf).room s m ([.ref (ad 0), .int i1] : List Value).toArray below meth c H locs 0 0 (MQ below (QiF (dC, dI) [(cyI, .int)] (cW cyI ad bd τ σ) (cW cyI ad bd τ σ) s.heap.size r) ([.ref (ad 0), .int i1] : List Value).toArray s 0 0 (va_A (cW cyI ad bd τ σ) s.heap.size)) (F0 m 4 ls []) := by
    intro n9
    induction n9 with
    | zero => intro v23 v24 H locs ls hL20; exact (loopM_z hL20).elim
    | succ n9 ih9 =>
      intro v23 v24 H locs ls hL20 hB hl
      obtain ⟨o25, hg21, hL20⟩ := loopM_s hL20
      have hg21 : mX2_holdersOf_L4 fu i1 τ σ v23 v24 = some o25 := hg21
      unfold mX2_holdersOf_L4 at hg21
      refine lv_iload_n hx hb dX2_holdersOf_4 rfl (lv_at hl 0 rfl) ?_
      refine lv_aload_n hx hb dX2_holdersOf_5 rfl (lv_at hl 2 rfl) ?_
      refine g_get (C := RX2) (T := TX2) (N := 14) hx hb hts hinX2 hown hK hB 0 rfl rfl 0 rfl hq1 rfl rfl dX2_holdersOf_6 ?_
      refine g_get (C := RX0) (T := TX0) (N := 17) hx hb hts hinX0 hown hK hB 12 rfl rfl 5 rfl hq2 rfl rfl dX2_holdersOf_9 ?_
      refine lv_icmp_ge (tgt := 41) hx hb dX2_holdersOf_12 (by decide) (fun c26 => ?_) (fun c26 => ?_)
      · have hg21 := ite_t c26 hg21
        have hL20 := el1_l (inj1 hg21) hL20
        have e0 := inj1 hL20
        subst e0
        exact kE18 _ _ _ hB (lv_sub hl [1] rfl)
      · have hg21 := ite_f c26 hg21
        refine lv_aload_n hx hb dX2_holdersOf_15 rfl (lv_at hl 2 rfl) ?_
        refine lv_iload_n hx hb dX2_holdersOf_16 rfl (lv_at hl 0 rfl) ?_
        obtain ⟨r27, hc, hg21⟩ := ob1_s hg21
        refine g_callVz (As := [.int v23]) (rest := []) ⟨hx, hb, hml, hown, hts⟩ (kX2_hasEnded l dC dI cyI ad bd H.size hc) (cwV 1 hts gX2_holdersOf_X2_hasEnded rfl rfl rfl (by decide +kernel) ⟨Nat.le_of_ble_eq_true rfl, Nat.le_of_ble_eq_true rfl⟩) hK hB hA (g_recv (ci := 2) hK hB 0 rfl rfl rfl) rfl hl.1 rfl (Nat.le_of_ble_eq_true rfl) dX2_holdersOf_17 ⟨Nat.zero_le _, Nat.zero_le _⟩ (fun z28 H locs hB => ?_)
        obtain ⟨v29, hJ30, hg21⟩ := ob1_s hg21
        have kJ31 : ∀ (H : Heap) (locs : List Loc) (ls : Array Slot), Bd (dC, dI) [(cyI, .int)] (va_A (cW cyI ad bd τ σ) s.heap.size) s (cW cyI ad bd τ σ) H locs → lv_has ls 4 [(2, .int v29), (3, .int v23), (0, .ref (ad 0)), (1, .int i1)] → W p l e (headSpec wsX2_holdersOf rmX2_holdersOf).room s m ([.ref (ad 0), .int i1] : List Value).toArray below meth c H locs 0 0 (MQ below (QiF (dC, dI) [(cyI, .int)] (cW cyI ad bd τ σ) (cW cyI ad bd τ σ) s.heap.size r) ([.ref (ad 0), .int i1] : List Value).toArray s 0 0 (va_A (cW cyI ad bd τ σ) s.heap.size)) (F0 m 35 ls []) := by
          intro H locs ls hB hl
          refine lv_iinc (v := (v23 + (1 : Int32))) (lv' := [(3, .int (v23 + (1 : Int32))), (2, .int v29), (0, .ref (ad 0)), (1, .int i1)]) hx hb dX2_holdersOf_35 hl (k := 1) rfl rfl (by decide) rfl (fun ls hl => ?_)
          refine lv_goto (tgt := 4) hx hb dX2_holdersOf_38 (by decide) ?_
          have hL20 := el1_r (inj1 hg21) hL20
          exact ih9 _ _ _ _ _ hL20 hB (lv_sub hl [0, 1, 2, 3] rfl)
        obtain ⟨t32, hD33, hJ30⟩ := ob1_s hJ30
        have kTt32 : t32 = true → ∀ (H : Heap) (locs : List Loc), Bd (dC, dI) [(cyI, .int)] (va_A (cW cyI ad bd τ σ) s.heap.size) s (cW cyI ad bd τ σ) H locs → W p l e (headSpec wsX2_holdersOf rmX2_holdersOf).room s m ([.ref (ad 0), .int i1] : List Value).toArray below meth c H locs 0 0 (MQ below (QiF (dC, dI) [(cyI, .int)] (cW cyI ad bd τ σ) (cW cyI ad bd τ σ) s.heap.size r) ([.ref (ad 0), .int i1] : List Value).toArray s 0 0 (va_A (cW cyI ad bd τ σ) s.heap.size)) (F0 m 32 ls []) := by
          intro ht H locs hB
          have hJ30 := cnd_t ht hJ30
          refine lv_iinc (v := (v24 + (1 : Int32))) (lv' := [(2, .int (v24 + (1 : Int32))), (3, .int v23), (0, .ref (ad 0)), (1, .int i1)]) hx hb dX2_holdersOf_32 hl (k := 1) rfl rfl (by decide) rfl (fun ls hl => ?_)
          have e0 := inj1 hJ30
          subst e0
          exact kJ31 _ _ _ hB (lv_sub hl [0, 1, 2, 3] rfl)
        have kFt32 : t32 = false → ∀ (H : Heap) (locs : List Loc), Bd (dC, dI) [(cyI, .int)] (va_A (cW cyI ad bd τ σ) s.heap.size) s (cW cyI ad bd τ σ) H locs → W p l e (headSpec wsX2_holdersOf rmX2_holdersOf).room s m ([.ref (ad 0), .int i1] : List Value).toArray below meth c H locs 0 0 (MQ below (QiF (dC, dI) [(cyI, .int)] (cW cyI ad bd τ σ) (cW cyI ad bd τ σ) s.heap.size r) ([.ref (ad 0), .int i1] : List Value).toArray s 0 0 (va_A (cW cyI ad bd τ σ) s.heap.size)) (F0 m 35 ls []) := by
          intro ht H locs hB
          have hJ30 := cnd_f ht hJ30
          have e0 := inj1 hJ30
          subst e0
          exact kJ31 _ _ _ hB (lv_sub hl [1, 0, 2, 3] rfl)
        refine lv_if_ne (tgt := 35) hx hb dX2_holdersOf_20 (by decide) (fun c34 => ?_) (fun c34 => ?_)
        · have hD33 := ite_f c34 hD33
          have e0 := inj1 hD33
          exact kFt32 e0.symm _ _ hB
        · have hD33 := ite_t c34 hD33
          refine lv_aload_n hx hb dX2_holdersOf_23 rfl (lv_at hl 2 rfl) ?_
          refine lv_iload_n hx hb dX2_holdersOf_24 rfl (lv_at hl 0 rfl) ?_
          refine lv_iload_n hx hb dX2_holdersOf_25 rfl (lv_at hl 3 rfl) ?_
          obtain ⟨r35, hc, hD33⟩ := ob1_s hD33
          refine g_callVi (As := [.int v23, .int i1]) (rest := []) ⟨hx, hb, hml, hown, hts⟩ (kX2_amountTakenBy l dC dI cyI ad bd H.size hc) (cwV 2 hts gX2_holdersOf_X2_amountTakenBy rfl rfl rfl (by decide +kernel) ⟨Nat.le_of_ble_eq_true rfl, Nat.le_of_ble_eq_true rfl⟩) hK hB hA (g_recv (ci := 2) hK hB 0 rfl rfl rfl) rfl hl.1 rfl (Nat.le_of_ble_eq_true rfl) dX2_holdersOf_26 ⟨Nat.zero_le _, Nat.zero_le _⟩ (fun H locs hB => ?_)
          refine lv_if_le (tgt := 35) hx hb dX2_holdersOf_29 (by decide) (fun c36 => ?_) (fun c36 => ?_)
          · have hD33 := ite_t c36 hD33
            have e0 := inj1 hD33
            exact kFt32 e0.symm _ _ hB
          · have hD33 := ite_f c36 hD33
            have e0 := inj1 hD33
            exact kTt32 e0.symm _ _ hB
  exact key19 fu _ _ _ _ _ hL20 hB (lv_sub hl [0, 1, 2, 3] rfl)

abbrev rmX2_amountInOpenJourneys : Room := { frames := 1, cells := 0, slots := 0, locals := 26 }

set_option maxHeartbeats 4000000 in
set_option maxRecDepth 100000 in
theorem kX2_amountInOpenJourneys (l : Launch) (dC : Nat → ClassId) (dI : Nat → Nat → Nat) (cyI : ClassId) (ad bd : Nat → Nat) (sz : Nat) {fu : Nat} {τ : MS} {σ : MS} {i1 : Int32} {r : Int32} (hf : mX2_amountInOpenJourneys fu τ σ i1 = some r) : Met l yX2_amountInOpenJourneys wsX2_amountInOpenJourneys rmX2_amountInOpenJourneys (PcF (dC, dI) [(cyI, .int)] (cW cyI ad bd τ σ) sz [.ref (ad 0), .int i1]) (QiF (dC, dI) [(cyI, .int)] (cW cyI ad bd τ σ) (cW cyI ad bd τ σ) sz r) 0 0 (va_A (cW cyI ad bd τ σ) sz) := by
  refine Met.ofW (cc := cX2_amountInOpenJourneys) (maxL := 4) (ret := (some .int)) (by decide) rfl ?_
  intro p e s m args below meth c s₁ B hml hv
  obtain ⟨rfl, hsz, hP, hK, hD0⟩ := hv
  have hx := B.exec
  have hb := B.bytes
  have hr := B.returns
  have hts := atoms_spec (ws := wsX2_amountInOpenJourneys) B.pre
  have hown : s.vm.findClass RX2 = some m.cls := findClass_of_methodNamed B.named
  have hlocks := B.notSynchronized
  subst hsz
  have hA : ∀ q : Nat, s.heap.size ≤ q → va_A (cW cyI ad bd τ σ) s.heap.size q := fun q h => Or.inr h
  have hB : Bd (dC, dI) [(cyI, .int)] (va_A (cW cyI ad bd τ σ) s.heap.size) s (cW cyI ad bd τ σ) s.heap [] := ⟨hP, hD0.self, va_S.rf⟩
  have hq1 : (Cond.fieldLink RX2 52 "UndoJourneys$World" "setup" "LUndoJourneys$Setup;").before _ s = true := hts _ (List.mem_of_getElem? (i := 1) rfl)
  have hq2 : (Cond.fieldLink RX2 83 "UndoJourneys$Setup" "journeys" "I").before _ s = true := hts _ (List.mem_of_getElem? (i := 2) rfl)
  have hinX0 : ∀ w ∈ wsX00, w ∈ wsX2_amountInOpenJourneys := fun w h => List.mem_cons_of_mem _ (List.mem_append_right _ h)
  have hinX2 : ∀ w ∈ wsX20, w ∈ wsX2_amountInOpenJourneys := fun w h => List.mem_cons_of_mem _ (List.mem_append_left _ (List.mem_append_right _ h))
  have hl := lv_entry [.ref (ad 0), .int i1] (n := 4) (Nat.le_of_ble_eq_true rfl)
  rw [lg_entry_eq]
  generalize (lg_sl [.ref (ad 0), .int i1] ++ List.replicate (4 - (lg_sl [.ref (ad 0), .int i1]).length) Slot.unset).toArray = ls at hl ⊢
  have hl : lv_has ls 4 [(0, .ref (ad 0)), (1, .int i1)] := hl
  clear hP hD0
  suffices main : ∀ (H : Heap) (locs : List Loc), Bd (dC, dI) [(cyI, .int)] (va_A (cW cyI ad bd τ σ) s.heap.size) s (cW cyI ad bd τ σ) H locs → W p l e (headSpec wsX2_amountInOpenJourneys rmX2_amountInOpenJourneys).room s m ([.ref (ad 0), .int i1] : List Value).toArray below meth c H locs 0 0 (MQ below (QiF (dC, dI) [(cyI, .int)] (cW cyI ad bd τ σ) (cW cyI ad bd τ σ) s.heap.size r) ([.ref (ad 0), .int i1] : List Value).toArray s 0 0 (va_A (cW cyI ad bd τ σ) s.heap.size)) (F0 m 0 ls []) from main _ _ hB
  clear hB
  intro H locs hB
  unfold mX2_amountInOpenJourneys at hf
  refine lv_iconst (v := (0 : Int32)) hx hb dX2_amountInOpenJourneys_0 (by decide) ?_
  refine lv_istore_n (lv' := [(2, .int (0 : Int32)), (0, .ref (ad 0)), (1, .int i1)]) hx hb dX2_amountInOpenJourneys_1 rfl hl (by decide) rfl (fun ls hl => ?_)
  refine lv_iconst (v := (0 : Int32)) hx hb dX2_amountInOpenJourneys_2 (by decide) ?_
  refine lv_istore_n (lv' := [(3, .int (0 : Int32)), (2, .int (0 : Int32)), (0, .ref (ad 0)), (1, .int i1)]) hx hb dX2_amountInOpenJourneys_3 rfl hl (by decide) rfl (fun ls hl => ?_)
  obtain ⟨v14, hL17, hf⟩ := ob1_s hf
  have kE15 : ∀ (H : Heap) (locs : List Loc) (ls : Array Slot), Bd (dC, dI) [(cyI, .int)] (va_A (cW cyI ad bd τ σ) s.heap.size) s (cW cyI ad bd τ σ) H locs → lv_has ls 4 [(2, .int v14)] → W p l e (headSpec wsX2_amountInOpenJourneys rmX2_amountInOpenJourneys).room s m ([.ref (ad 0), .int i1] : List Value).toArray below meth c H locs 0 0 (MQ below (QiF (dC, dI) [(cyI, .int)] (cW cyI ad bd τ σ) (cW cyI ad bd τ σ) s.heap.size r) ([.ref (ad 0), .int i1] : List Value).toArray s 0 0 (va_A (cW cyI ad bd τ σ) s.heap.size)) (F0 m 42 ls []) := by
    intro H locs ls hB hl
    refine lv_iload_n hx hb dX2_amountInOpenJourneys_42 rfl (lv_at hl 0 rfl) ?_
    have e0 := inj1 hf
    subst e0
    exact g_iret hx hb hr hlocks hK hB dX2_amountInOpenJourneys_43
  have key16 : ∀ (n9 : Nat) (v20 : Int32) (v21 : Int32) (H : Heap) (locs : List Loc) (ls : Array Slot), loopM (fun st => mX2_amountInOpenJourneys_L4 fu i1 τ σ st.1 st.2) n9 (v20, v21) = some v14 → Bd (dC, dI) [(cyI, .int)] (va_A (cW cyI ad bd τ σ) s.heap.size) s (cW cyI ad bd τ σ) H locs → lv_has ls 4 [(3, .int v20), (2, .int v21), (0, .ref (ad 0)), (1, .int i1)] → W p l e (headSpec wsX2_amountInOpenJourneys rmX2_amountInOpenJourneys).room s m ([.ref (ad 0), .int i1] : List Value).toArray below meth c H locs 0 0 (MQ below (QiF (dC, dI) [(cyI, .int)] (cW cyI ad bd τ σ) (cW cyI ad bd τ σ) s.heap.size r) ([.ref (ad 0), .int i1] : List Value).toArray s 0 0 (va_A (cW cyI ad bd τ σ) s.heap.size)) (F0 m 4 ls []) := by
    intro n9
    induction n9 with
    | zero => intro v20 v21 H locs ls hL17; exact (loopM_z hL17).elim
    | succ n9 ih9 =>
      intro v20 v21 H locs ls hL17 hB hl
      obtain ⟨o22, hg18, hL17⟩ := loopM_s hL17
      have hg18 : mX2_amountInOpenJourneys_L4 fu i1 τ σ v20 v21 = some o22 := hg18
      unfold mX2_amountInOpenJourneys_L4 at hg18
      refine lv_iload_n hx hb dX2_amountInOpenJourneys_4 rfl (lv_at hl 0 rfl) ?_
      refine lv_aload_n hx hb dX2_amountInOpenJourneys_5 rfl (lv_at hl 2 rfl) ?_
      refine g_get (C := RX2) (T := TX2) (N := 14) hx hb hts hinX2 hown hK hB 0 rfl rfl 0 rfl hq1 rfl rfl dX2_amountInOpenJourneys_6 ?_
      refine g_get (C := RX0) (T := TX0) (N := 17) hx hb hts hinX0 hown hK hB 12 rfl rfl 5 rfl hq2 rfl rfl dX2_amountInOpenJourneys_9 ?_
      refine lv_icmp_ge (tgt := 42) hx hb dX2_amountInOpenJourneys_12 (by decide) (fun c23 => ?_) (fun c23 => ?_)
      · have hg18 := ite_t c23 hg18
        have hL17 := el1_l (inj1 hg18) hL17
        have e0 := inj1 hL17
        subst e0
        exact kE15 _ _ _ hB (lv_sub hl [1] rfl)
      · have hg18 := ite_f c23 hg18
        refine lv_iload_n hx hb dX2_amountInOpenJourneys_15 rfl (lv_at hl 1 rfl) ?_
        refine lv_aload_n hx hb dX2_amountInOpenJourneys_16 rfl (lv_at hl 2 rfl) ?_
        refine lv_iload_n hx hb dX2_amountInOpenJourneys_17 rfl (lv_at hl 0 rfl) ?_
        obtain ⟨r24, hc, hg18⟩ := ob1_s hg18
        refine g_callVz (As := [.int v20]) (rest := [.int v21]) ⟨hx, hb, hml, hown, hts⟩ (kX2_hasEnded l dC dI cyI ad bd H.size hc) (cwV 1 hts gX2_amountInOpenJourneys_X2_hasEnded rfl rfl rfl (by decide +kernel) ⟨Nat.le_of_ble_eq_true rfl, Nat.le_of_ble_eq_true rfl⟩) hK hB hA (g_recv (ci := 2) hK hB 0 rfl rfl rfl) rfl hl.1 rfl (Nat.le_of_ble_eq_true rfl) dX2_amountInOpenJourneys_18 ⟨Nat.zero_le _, Nat.zero_le _⟩ (fun z25 H locs hB => ?_)
        obtain ⟨v26, hJ27, hg18⟩ := ob1_s hg18
        have kJ28 : ∀ (H : Heap) (locs : List Loc) (ls : Array Slot), Bd (dC, dI) [(cyI, .int)] (va_A (cW cyI ad bd τ σ) s.heap.size) s (cW cyI ad bd τ σ) H locs → lv_has ls 4 [(3, .int v20), (0, .ref (ad 0)), (1, .int i1)] → W p l e (headSpec wsX2_amountInOpenJourneys rmX2_amountInOpenJourneys).room s m ([.ref (ad 0), .int i1] : List Value).toArray below meth c H locs 0 0 (MQ below (QiF (dC, dI) [(cyI, .int)] (cW cyI ad bd τ σ) (cW cyI ad bd τ σ) s.heap.size r) ([.ref (ad 0), .int i1] : List Value).toArray s 0 0 (va_A (cW cyI ad bd τ σ) s.heap.size)) (F0 m 34 ls [.int v26, .int v21]) := by
          intro H locs ls hB hl
          refine lv_iadd hx hb dX2_amountInOpenJourneys_34 ?_
          refine lv_istore_n (lv' := [(2, .int (v21 + v26)), (3, .int v20), (0, .ref (ad 0)), (1, .int i1)]) hx hb dX2_amountInOpenJourneys_35 rfl hl (by decide) rfl (fun ls hl => ?_)
          refine lv_iinc (v := (v20 + (1 : Int32))) (lv' := [(3, .int (v20 + (1 : Int32))), (2, .int (v21 + v26)), (0, .ref (ad 0)), (1, .int i1)]) hx hb dX2_amountInOpenJourneys_36 hl (k := 1) rfl rfl (by decide) rfl (fun ls hl => ?_)
          refine lv_goto (tgt := 4) hx hb dX2_amountInOpenJourneys_39 (by decide) ?_
          have hL17 := el1_r (inj1 hg18) hL17
          exact ih9 _ _ _ _ _ hL17 hB (lv_sub hl [0, 1, 2, 3] rfl)
        refine lv_if_eq (tgt := 28) hx hb dX2_amountInOpenJourneys_21 (by decide) (fun c29 => ?_) (fun c29 => ?_)
        · have hJ27 := ite_t c29 hJ27
          refine lv_aload_n hx hb dX2_amountInOpenJourneys_28 rfl (lv_at hl 2 rfl) ?_
          refine lv_iload_n hx hb dX2_amountInOpenJourneys_29 rfl (lv_at hl 0 rfl) ?_
          refine lv_iload_n hx hb dX2_amountInOpenJourneys_30 rfl (lv_at hl 3 rfl) ?_
          obtain ⟨r30, hc, hJ27⟩ := ob1_s hJ27
          refine g_callVi (As := [.int v20, .int i1]) (rest := [.int v21]) ⟨hx, hb, hml, hown, hts⟩ (kX2_amountTakenBy l dC dI cyI ad bd H.size hc) (cwV 2 hts gX2_amountInOpenJourneys_X2_amountTakenBy rfl rfl rfl (by decide +kernel) ⟨Nat.le_of_ble_eq_true rfl, Nat.le_of_ble_eq_true rfl⟩) hK hB hA (g_recv (ci := 2) hK hB 0 rfl rfl rfl) rfl hl.1 rfl (Nat.le_of_ble_eq_true rfl) dX2_amountInOpenJourneys_31 ⟨Nat.zero_le _, Nat.zero_le _⟩ (fun H locs hB => ?_)
          have e0 := inj1 hJ27
          subst e0
          exact kJ28 _ _ _ hB (lv_sub hl [0, 2, 3] rfl)
        · have hJ27 := ite_f c29 hJ27
          refine lv_iconst (v := (0 : Int32)) hx hb dX2_amountInOpenJourneys_24 (by decide) ?_
          refine lv_goto (tgt := 34) hx hb dX2_amountInOpenJourneys_25 (by decide) ?_
          have e0 := inj1 hJ27
          subst e0
          exact kJ28 _ _ _ hB (lv_sub hl [0, 2, 3] rfl)
  exact key16 fu _ _ _ _ _ hL17 hB (lv_sub hl [0, 1, 2, 3] rfl)

abbrev rmX2_amountInDoneJourneys : Room := { frames := 1, cells := 0, slots := 0, locals := 26 }

set_option maxHeartbeats 4000000 in
set_option maxRecDepth 100000 in
theorem kX2_amountInDoneJourneys (l : Launch) (dC : Nat → ClassId) (dI : Nat → Nat → Nat) (cyI : ClassId) (ad bd : Nat → Nat) (sz : Nat) {fu : Nat} {τ : MS} {σ : MS} {i1 : Int32} {r : Int32} (hf : mX2_amountInDoneJourneys fu τ σ i1 = some r) : Met l yX2_amountInDoneJourneys wsX2_amountInDoneJourneys rmX2_amountInDoneJourneys (PcF (dC, dI) [(cyI, .int)] (cW cyI ad bd τ σ) sz [.ref (ad 0), .int i1]) (QiF (dC, dI) [(cyI, .int)] (cW cyI ad bd τ σ) (cW cyI ad bd τ σ) sz r) 0 0 (va_A (cW cyI ad bd τ σ) sz) := by
  refine Met.ofW (cc := cX2_amountInDoneJourneys) (maxL := 4) (ret := (some .int)) (by decide) rfl ?_
  intro p e s m args below meth c s₁ B hml hv
  obtain ⟨rfl, hsz, hP, hK, hD0⟩ := hv
  have hx := B.exec
  have hb := B.bytes
  have hr := B.returns
  have hts := atoms_spec (ws := wsX2_amountInDoneJourneys) B.pre
  have hown : s.vm.findClass RX2 = some m.cls := findClass_of_methodNamed B.named
  have hlocks := B.notSynchronized
  subst hsz
  have hA : ∀ q : Nat, s.heap.size ≤ q → va_A (cW cyI ad bd τ σ) s.heap.size q := fun q h => Or.inr h
  have hB : Bd (dC, dI) [(cyI, .int)] (va_A (cW cyI ad bd τ σ) s.heap.size) s (cW cyI ad bd τ σ) s.heap [] := ⟨hP, hD0.self, va_S.rf⟩
  have hq1 : (Cond.fieldLink RX2 52 "UndoJourneys$World" "setup" "LUndoJourneys$Setup;").before _ s = true := hts _ (List.mem_of_getElem? (i := 1) rfl)
  have hq2 : (Cond.fieldLink RX2 83 "UndoJourneys$Setup" "journeys" "I").before _ s = true := hts _ (List.mem_of_getElem? (i := 2) rfl)
  have hq3 : (Cond.fieldLink RX2 25 "UndoJourneys$World" "journeyState" "[I").before _ s = true := hts _ (List.mem_of_getElem? (i := 3) rfl)
  have hinX0 : ∀ w ∈ wsX00, w ∈ wsX2_amountInDoneJourneys := fun w h => List.mem_cons_of_mem _ (List.mem_append_right _ h)
  have hinX2 : ∀ w ∈ wsX20, w ∈ wsX2_amountInDoneJourneys := fun w h => List.mem_cons_of_mem _ (List.mem_append_left _ (List.mem_append_right _ h))
  have hl := lv_entry [.ref (ad 0), .int i1] (n := 4) (Nat.le_of_ble_eq_true rfl)
  rw [lg_entry_eq]
  generalize (lg_sl [.ref (ad 0), .int i1] ++ List.replicate (4 - (lg_sl [.ref (ad 0), .int i1]).length) Slot.unset).toArray = ls at hl ⊢
  have hl : lv_has ls 4 [(0, .ref (ad 0)), (1, .int i1)] := hl
  clear hP hD0
  suffices main : ∀ (H : Heap) (locs : List Loc), Bd (dC, dI) [(cyI, .int)] (va_A (cW cyI ad bd τ σ) s.heap.size) s (cW cyI ad bd τ σ) H locs → W p l e (headSpec wsX2_amountInDoneJourneys rmX2_amountInDoneJourneys).room s m ([.ref (ad 0), .int i1] : List Value).toArray below meth c H locs 0 0 (MQ below (QiF (dC, dI) [(cyI, .int)] (cW cyI ad bd τ σ) (cW cyI ad bd τ σ) s.heap.size r) ([.ref (ad 0), .int i1] : List Value).toArray s 0 0 (va_A (cW cyI ad bd τ σ) s.heap.size)) (F0 m 0 ls []) from main _ _ hB
  clear hB
  intro H locs hB
  unfold mX2_amountInDoneJourneys at hf
  refine lv_iconst (v := (0 : Int32)) hx hb dX2_amountInDoneJourneys_0 (by decide) ?_
  refine lv_istore_n (lv' := [(2, .int (0 : Int32)), (0, .ref (ad 0)), (1, .int i1)]) hx hb dX2_amountInDoneJourneys_1 rfl hl (by decide) rfl (fun ls hl => ?_)
  refine lv_iconst (v := (0 : Int32)) hx hb dX2_amountInDoneJourneys_2 (by decide) ?_
  refine lv_istore_n (lv' := [(3, .int (0 : Int32)), (2, .int (0 : Int32)), (0, .ref (ad 0)), (1, .int i1)]) hx hb dX2_amountInDoneJourneys_3 rfl hl (by decide) rfl (fun ls hl => ?_)
  obtain ⟨v13, hL16, hf⟩ := ob1_s hf
  have kE14 : ∀ (H : Heap) (locs : List Loc) (ls : Array Slot), Bd (dC, dI) [(cyI, .int)] (va_A (cW cyI ad bd τ σ) s.heap.size) s (cW cyI ad bd τ σ) H locs → lv_has ls 4 [(2, .int v13)] → W p l e (headSpec wsX2_amountInDoneJourneys rmX2_amountInDoneJourneys).room s m ([.ref (ad 0), .int i1] : List Value).toArray below meth c H locs 0 0 (MQ below (QiF (dC, dI) [(cyI, .int)] (cW cyI ad bd τ σ) (cW cyI ad bd τ σ) s.heap.size r) ([.ref (ad 0), .int i1] : List Value).toArray s 0 0 (va_A (cW cyI ad bd τ σ) s.heap.size)) (F0 m 44 ls []) := by
    intro H locs ls hB hl
    refine lv_iload_n hx hb dX2_amountInDoneJourneys_44 rfl (lv_at hl 0 rfl) ?_
    have e0 := inj1 hf
    subst e0
    exact g_iret hx hb hr hlocks hK hB dX2_amountInDoneJourneys_45
  have key15 : ∀ (n9 : Nat) (v19 : Int32) (v20 : Int32) (H : Heap) (locs : List Loc) (ls : Array Slot), loopM (fun st => mX2_amountInDoneJourneys_L4 fu i1 τ σ st.1 st.2) n9 (v19, v20) = some v13 → Bd (dC, dI) [(cyI, .int)] (va_A (cW cyI ad bd τ σ) s.heap.size) s (cW cyI ad bd τ σ) H locs → lv_has ls 4 [(3, .int v19), (2, .int v20), (0, .ref (ad 0)), (1, .int i1)] → W p l e (headSpec wsX2_amountInDoneJourneys rmX2_amountInDoneJourneys).room s m ([.ref (ad 0), .int i1] : List Value).toArray below meth c H locs 0 0 (MQ below (QiF (dC, dI) [(cyI, .int)] (cW cyI ad bd τ σ) (cW cyI ad bd τ σ) s.heap.size r) ([.ref (ad 0), .int i1] : List Value).toArray s 0 0 (va_A (cW cyI ad bd τ σ) s.heap.size)) (F0 m 4 ls []) := by
    intro n9
    induction n9 with
    | zero => intro v19 v20 H locs ls hL16; exact (loopM_z hL16).elim
    | succ n9 ih9 =>
      intro v19 v20 H locs ls hL16 hB hl
      obtain ⟨o21, hg17, hL16⟩ := loopM_s hL16
      have hg17 : mX2_amountInDoneJourneys_L4 fu i1 τ σ v19 v20 = some o21 := hg17
      unfold mX2_amountInDoneJourneys_L4 at hg17
      refine lv_iload_n hx hb dX2_amountInDoneJourneys_4 rfl (lv_at hl 0 rfl) ?_
      refine lv_aload_n hx hb dX2_amountInDoneJourneys_5 rfl (lv_at hl 2 rfl) ?_
      refine g_get (C := RX2) (T := TX2) (N := 14) hx hb hts hinX2 hown hK hB 0 rfl rfl 0 rfl hq1 rfl rfl dX2_amountInDoneJourneys_6 ?_
      refine g_get (C := RX0) (T := TX0) (N := 17) hx hb hts hinX0 hown hK hB 12 rfl rfl 5 rfl hq2 rfl rfl dX2_amountInDoneJourneys_9 ?_
      refine lv_icmp_ge (tgt := 44) hx hb dX2_amountInDoneJourneys_12 (by decide) (fun c22 => ?_) (fun c22 => ?_)
      · have hg17 := ite_t c22 hg17
        have hL16 := el1_l (inj1 hg17) hL16
        have e0 := inj1 hL16
        subst e0
        exact kE14 _ _ _ hB (lv_sub hl [1] rfl)
      · have hg17 := ite_f c22 hg17
        refine lv_iload_n hx hb dX2_amountInDoneJourneys_15 rfl (lv_at hl 1 rfl) ?_
        refine lv_aload_n hx hb dX2_amountInDoneJourneys_16 rfl (lv_at hl 2 rfl) ?_
        refine g_get (C := RX2) (T := TX2) (N := 14) hx hb hts hinX2 hown hK hB 0 rfl rfl 5 rfl hq3 rfl rfl dX2_amountInDoneJourneys_17 ?_
        refine lv_iload_n hx hb dX2_amountInDoneJourneys_20 rfl (lv_at hl 0 rfl) ?_
        obtain ⟨x23, e9, hg17⟩ := ob1_s hg17
        refine g_iald hx hb hK hB 3 0 rfl rfl (rd_s e9) dX2_amountInDoneJourneys_21 ?_
        refine lv_iconst (v := (3 : Int32)) hx hb dX2_amountInDoneJourneys_22 (by decide) ?_
        obtain ⟨v24, hJ25, hg17⟩ := ob1_s hg17
        have kJ26 : ∀ (H : Heap) (locs : List Loc) (ls : Array Slot), Bd (dC, dI) [(cyI, .int)] (va_A (cW cyI ad bd τ σ) s.heap.size) s (cW cyI ad bd τ σ) H locs → lv_has ls 4 [(3, .int v19), (0, .ref (ad 0)), (1, .int i1)] → W p l e (headSpec wsX2_amountInDoneJourneys rmX2_amountInDoneJourneys).room s m ([.ref (ad 0), .int i1] : List Value).toArray below meth c H locs 0 0 (MQ below (QiF (dC, dI) [(cyI, .int)] (cW cyI ad bd τ σ) (cW cyI ad bd τ σ) s.heap.size r) ([.ref (ad 0), .int i1] : List Value).toArray s 0 0 (va_A (cW cyI ad bd τ σ) s.heap.size)) (F0 m 36 ls [.int v24, .int v20]) := by
          intro H locs ls hB hl
          refine lv_iadd hx hb dX2_amountInDoneJourneys_36 ?_
          refine lv_istore_n (lv' := [(2, .int (v20 + v24)), (3, .int v19), (0, .ref (ad 0)), (1, .int i1)]) hx hb dX2_amountInDoneJourneys_37 rfl hl (by decide) rfl (fun ls hl => ?_)
          refine lv_iinc (v := (v19 + (1 : Int32))) (lv' := [(3, .int (v19 + (1 : Int32))), (2, .int (v20 + v24)), (0, .ref (ad 0)), (1, .int i1)]) hx hb dX2_amountInDoneJourneys_38 hl (k := 1) rfl rfl (by decide) rfl (fun ls hl => ?_)
          refine lv_goto (tgt := 4) hx hb dX2_amountInDoneJourneys_41 (by decide) ?_
          have hL16 := el1_r (inj1 hg17) hL16
          exact ih9 _ _ _ _ _ hL16 hB (lv_sub hl [0, 1, 2, 3] rfl)
        refine lv_icmp_ne (tgt := 35) hx hb dX2_amountInDoneJourneys_23 (by decide) (fun c27 => ?_) (fun c27 => ?_)
        · have hJ25 := ite_f c27 hJ25
          refine lv_iconst (v := (0 : Int32)) hx hb dX2_amountInDoneJourneys_35 (by decide) ?_
          have e0 := inj1 hJ25
          subst e0
          exact kJ26 _ _ _ hB (lv_sub hl [0, 2, 3] rfl)
        · have hJ25 := ite_t c27 hJ25
          refine lv_aload_n hx hb dX2_amountInDoneJourneys_26 rfl (lv_at hl 2 rfl) ?_
          refine lv_iload_n hx hb dX2_amountInDoneJourneys_27 rfl (lv_at hl 0 rfl) ?_
          refine lv_iload_n hx hb dX2_amountInDoneJourneys_28 rfl (lv_at hl 3 rfl) ?_
          obtain ⟨r28, hc, hJ25⟩ := ob1_s hJ25
          refine g_callVi (As := [.int v19, .int i1]) (rest := [.int v20]) ⟨hx, hb, hml, hown, hts⟩ (kX2_amountTakenBy l dC dI cyI ad bd H.size hc) (cwV 2 hts gX2_amountInDoneJourneys_X2_amountTakenBy rfl rfl rfl (by decide +kernel) ⟨Nat.le_of_ble_eq_true rfl, Nat.le_of_ble_eq_true rfl⟩) hK hB hA (g_recv (ci := 2) hK hB 0 rfl rfl rfl) rfl hl.1 rfl (Nat.le_of_ble_eq_true rfl) dX2_amountInDoneJourneys_29 ⟨Nat.zero_le _, Nat.zero_le _⟩ (fun H locs hB => ?_)
          refine lv_goto (tgt := 36) hx hb dX2_amountInDoneJourneys_32 (by decide) ?_
          have e0 := inj1 hJ25
          subst e0
          exact kJ26 _ _ _ hB (lv_sub hl [0, 2, 3] rfl)
  exact key15 fu _ _ _ _ _ hL16 hB (lv_sub hl [0, 1, 2, 3] rfl)

abbrev rmX2_amountWrittenOff : Room := { frames := 0, cells := 0, slots := 0, locals := 0 }

set_option maxHeartbeats 4000000 in
set_option maxRecDepth 100000 in
theorem kX2_amountWrittenOff (l : Launch) (dC : Nat → ClassId) (dI : Nat → Nat → Nat) (cyI : ClassId) (ad bd : Nat → Nat) (sz : Nat) {fu : Nat} {τ : MS} {σ : MS} {i1 : Int32} {r : Int32} (hf : mX2_amountWrittenOff fu τ σ i1 = some r) : Met l yX2_amountWrittenOff wsX2_amountWrittenOff rmX2_amountWrittenOff (PcF (dC, dI) [(cyI, .int)] (cW cyI ad bd τ σ) sz [.ref (ad 0), .int i1]) (QiF (dC, dI) [(cyI, .int)] (cW cyI ad bd τ σ) (cW cyI ad bd τ σ) sz r) 0 0 (va_A (cW cyI ad bd τ σ) sz) := by
  refine Met.ofW (cc := cX2_amountWrittenOff) (maxL := 4) (ret := (some .int)) (by decide) rfl ?_
  intro p e s m args below meth c s₁ B hml hv
  obtain ⟨rfl, hsz, hP, hK, hD0⟩ := hv
  have hx := B.exec
  have hb := B.bytes
  have hr := B.returns
  have hts := atoms_spec (ws := wsX2_amountWrittenOff) B.pre
  have hown : s.vm.findClass RX2 = some m.cls := findClass_of_methodNamed B.named
  have hlocks := B.notSynchronized
  subst hsz
  have hA : ∀ q : Nat, s.heap.size ≤ q → va_A (cW cyI ad bd τ σ) s.heap.size q := fun q h => Or.inr h
  have hB : Bd (dC, dI) [(cyI, .int)] (va_A (cW cyI ad bd τ σ) s.heap.size) s (cW cyI ad bd τ σ) s.heap [] := ⟨hP, hD0.self, va_S.rf⟩
  have hq1 : (Cond.fieldLink RX2 52 "UndoJourneys$World" "setup" "LUndoJourneys$Setup;").before _ s = true := hts _ (List.mem_of_getElem? (i := 1) rfl)
  have hq2 : (Cond.fieldLink RX2 86 "UndoJourneys$Setup" "steps" "I").before _ s = true := hts _ (List.mem_of_getElem? (i := 2) rfl)
  have hq3 : (Cond.fieldLink RX2 133 "UndoJourneys$Setup" "stockOf" "[I").before _ s = true := hts _ (List.mem_of_getElem? (i := 3) rfl)
  have hq4 : (Cond.fieldLink RX2 37 "UndoJourneys$World" "stepState" "[I").before _ s = true := hts _ (List.mem_of_getElem? (i := 4) rfl)
  have hq5 : (Cond.fieldLink RX2 136 "UndoJourneys$Setup" "amount" "[I").before _ s = true := hts _ (List.mem_of_getElem? (i := 5) rfl)
  have hinX0 : ∀ w ∈ wsX00, w ∈ wsX2_amountWrittenOff := fun w h => List.mem_cons_of_mem _ (List.mem_append_right _ h)
  have hinX2 : ∀ w ∈ wsX20, w ∈ wsX2_amountWrittenOff := fun w h => List.mem_cons_of_mem _ (List.mem_append_left _ (List.mem_append_right _ h))
  have hl := lv_entry [.ref (ad 0), .int i1] (n := 4) (Nat.le_of_ble_eq_true rfl)
  rw [lg_entry_eq]
  generalize (lg_sl [.ref (ad 0), .int i1] ++ List.replicate (4 - (lg_sl [.ref (ad 0), .int i1]).length) Slot.unset).toArray = ls at hl ⊢
  have hl : lv_has ls 4 [(0, .ref (ad 0)), (1, .int i1)] := hl
  clear hP hD0
  suffices main : ∀ (H : Heap) (locs : List Loc), Bd (dC, dI) [(cyI, .int)] (va_A (cW cyI ad bd τ σ) s.heap.size) s (cW cyI ad bd τ σ) H locs → W p l e (headSpec wsX2_amountWrittenOff rmX2_amountWrittenOff).room s m ([.ref (ad 0), .int i1] : List Value).toArray below meth c H locs 0 0 (MQ below (QiF (dC, dI) [(cyI, .int)] (cW cyI ad bd τ σ) (cW cyI ad bd τ σ) s.heap.size r) ([.ref (ad 0), .int i1] : List Value).toArray s 0 0 (va_A (cW cyI ad bd τ σ) s.heap.size)) (F0 m 0 ls []) from main _ _ hB
  clear hB
  intro H locs hB
  unfold mX2_amountWrittenOff at hf
  refine lv_iconst (v := (0 : Int32)) hx hb dX2_amountWrittenOff_0 (by decide) ?_
  refine lv_istore_n (lv' := [(2, .int (0 : Int32)), (0, .ref (ad 0)), (1, .int i1)]) hx hb dX2_amountWrittenOff_1 rfl hl (by decide) rfl (fun ls hl => ?_)
  refine lv_iconst (v := (0 : Int32)) hx hb dX2_amountWrittenOff_2 (by decide) ?_
  refine lv_istore_n (lv' := [(3, .int (0 : Int32)), (2, .int (0 : Int32)), (0, .ref (ad 0)), (1, .int i1)]) hx hb dX2_amountWrittenOff_3 rfl hl (by decide) rfl (fun ls hl => ?_)
  obtain ⟨v17, hL20, hf⟩ := ob1_s hf
  have kE18 : ∀ (H : Heap) (locs : List Loc) (ls : Array Slot), Bd (dC, dI) [(cyI, .int)] (va_A (cW cyI ad bd τ σ) s.heap.size) s (cW cyI ad bd τ σ) H locs → lv_has ls 4 [(2, .int v17)] → W p l e (headSpec wsX2_amountWrittenOff rmX2_amountWrittenOff).room s m ([.ref (ad 0), .int i1] : List Value).toArray below meth c H locs 0 0 (MQ below (QiF (dC, dI) [(cyI, .int)] (cW cyI ad bd τ σ) (cW cyI ad bd τ σ) s.heap.size r) ([.ref (ad 0), .int i1] : List Value).toArray s 0 0 (va_A (cW cyI ad bd τ σ) s.heap.size)) (F0 m 57 ls []) := by
    intro H locs ls hB hl
    refine lv_iload_n hx hb dX2_amountWrittenOff_57 rfl (lv_at hl 0 rfl) ?_
    have e0 := inj1 hf
    subst e0
    exact g_iret hx hb hr hlocks hK hB dX2_amountWrittenOff_58
  have key19 : ∀ (n9 : Nat) (v23 : Int32) (v24 : Int32) (H : Heap) (locs : List Loc) (ls : Array Slot), loopM (fun st => mX2_amountWrittenOff_L4 fu i1 τ σ st.1 st.2) n9 (v23, v24) = some v17 → Bd (dC, dI) [(cyI, .int)] (va_A (cW cyI ad bd τ σ) s.heap.size) s (cW cyI ad bd τ σ) H locs → lv_has ls 4 [(3, .int v23), (2, .int v24), (0, .ref (ad 0)), (1, .int i1)] → W p l e (headSpec wsX2_amountWrittenOff rmX2_amountWrittenOff).room s m ([.ref (ad 0), .int i1] : List Value).toArray below meth c H locs 0 0 (MQ below (QiF (dC, dI) [(cyI, .int)] (cW cyI ad bd τ σ) (cW cyI ad bd τ σ) s.heap.size r) ([.ref (ad 0), .int i1] : List Value).toArray s 0 0 (va_A (cW cyI ad bd τ σ) s.heap.size)) (F0 m 4 ls []) := by
    intro n9
    induction n9 with
    | zero => intro v23 v24 H locs ls hL20; exact (loopM_z hL20).elim
    | succ n9 ih9 =>
      intro v23 v24 H locs ls hL20 hB hl
      obtain ⟨o25, hg21, hL20⟩ := loopM_s hL20
      have hg21 : mX2_amountWrittenOff_L4 fu i1 τ σ v23 v24 = some o25 := hg21
      unfold mX2_amountWrittenOff_L4 at hg21
      refine lv_iload_n hx hb dX2_amountWrittenOff_4 rfl (lv_at hl 0 rfl) ?_
      refine lv_aload_n hx hb dX2_amountWrittenOff_5 rfl (lv_at hl 2 rfl) ?_
      refine g_get (C := RX2) (T := TX2) (N := 14) hx hb hts hinX2 hown hK hB 0 rfl rfl 0 rfl hq1 rfl rfl dX2_amountWrittenOff_6 ?_
      refine g_get (C := RX0) (T := TX0) (N := 17) hx hb hts hinX0 hown hK hB 12 rfl rfl 10 rfl hq2 rfl rfl dX2_amountWrittenOff_9 ?_
      refine lv_icmp_ge (tgt := 57) hx hb dX2_amountWrittenOff_12 (by decide) (fun c26 => ?_) (fun c26 => ?_)
      · have hg21 := ite_t c26 hg21
        have hL20 := el1_l (inj1 hg21) hL20
        have e0 := inj1 hL20
        subst e0
        exact kE18 _ _ _ hB (lv_sub hl [1] rfl)
      · have hg21 := ite_f c26 hg21
        refine lv_aload_n hx hb dX2_amountWrittenOff_15 rfl (lv_at hl 2 rfl) ?_
        refine g_get (C := RX2) (T := TX2) (N := 14) hx hb hts hinX2 hown hK hB 0 rfl rfl 0 rfl hq1 rfl rfl dX2_amountWrittenOff_16 ?_
        refine g_get (C := RX0) (T := TX0) (N := 17) hx hb hts hinX0 hown hK hB 12 rfl rfl 12 rfl hq3 rfl rfl dX2_amountWrittenOff_19 ?_
        refine lv_iload_n hx hb dX2_amountWrittenOff_22 rfl (lv_at hl 0 rfl) ?_
        obtain ⟨x27, e9, hg21⟩ := ob1_s hg21
        refine g_iald hx hb hK hB 20 0 rfl rfl (rd_s e9) dX2_amountWrittenOff_23 ?_
        refine lv_iload_n hx hb dX2_amountWrittenOff_24 rfl (lv_at hl 3 rfl) ?_
        obtain ⟨v28, hJ29, hg21⟩ := ob1_s hg21
        have kJ30 : ∀ (H : Heap) (locs : List Loc) (ls : Array Slot), Bd (dC, dI) [(cyI, .int)] (va_A (cW cyI ad bd τ σ) s.heap.size) s (cW cyI ad bd τ σ) H locs → lv_has ls 4 [(2, .int v28), (3, .int v23), (0, .ref (ad 0)), (1, .int i1)] → W p l e (headSpec wsX2_amountWrittenOff rmX2_amountWrittenOff).room s m ([.ref (ad 0), .int i1] : List Value).toArray below meth c H locs 0 0 (MQ below (QiF (dC, dI) [(cyI, .int)] (cW cyI ad bd τ σ) (cW cyI ad bd τ σ) s.heap.size r) ([.ref (ad 0), .int i1] : List Value).toArray s 0 0 (va_A (cW cyI ad bd τ σ) s.heap.size)) (F0 m 51 ls []) := by
          intro H locs ls hB hl
          refine lv_iinc (v := (v23 + (1 : Int32))) (lv' := [(3, .int (v23 + (1 : Int32))), (2, .int v28), (0, .ref (ad 0)), (1, .int i1)]) hx hb dX2_amountWrittenOff_51 hl (k := 1) rfl rfl (by decide) rfl (fun ls hl => ?_)
          refine lv_goto (tgt := 4) hx hb dX2_amountWrittenOff_54 (by decide) ?_
          have hL20 := el1_r (inj1 hg21) hL20
          exact ih9 _ _ _ _ _ hL20 hB (lv_sub hl [0, 1, 2, 3] rfl)
        obtain ⟨t31, hD32, hJ29⟩ := ob1_s hJ29
        have kTt31 : t31 = true → ∀ (H : Heap) (locs : List Loc), Bd (dC, dI) [(cyI, .int)] (va_A (cW cyI ad bd τ σ) s.heap.size) s (cW cyI ad bd τ σ) H locs → W p l e (headSpec wsX2_amountWrittenOff rmX2_amountWrittenOff).room s m ([.ref (ad 0), .int i1] : List Value).toArray below meth c H locs 0 0 (MQ below (QiF (dC, dI) [(cyI, .int)] (cW cyI ad bd τ σ) (cW cyI ad bd τ σ) s.heap.size r) ([.ref (ad 0), .int i1] : List Value).toArray s 0 0 (va_A (cW cyI ad bd τ σ) s.heap.size)) (F0 m 39 ls []) := by
          intro ht H locs hB
          have hJ29 := cnd_t ht hJ29
          refine lv_iload_n hx hb dX2_amountWrittenOff_39 rfl (lv_at hl 1 rfl) ?_
          refine lv_aload_n hx hb dX2_amountWrittenOff_40 rfl (lv_at hl 2 rfl) ?_
          refine g_get (C := RX2) (T := TX2) (N := 14) hx hb hts hinX2 hown hK hB 0 rfl rfl 0 rfl hq1 rfl rfl dX2_amountWrittenOff_41 ?_
          refine g_get (C := RX0) (T := TX0) (N := 17) hx hb hts hinX0 hown hK hB 12 rfl rfl 13 rfl hq5 rfl rfl dX2_amountWrittenOff_44 ?_
          refine lv_iload_n hx hb dX2_amountWrittenOff_47 rfl (lv_at hl 0 rfl) ?_
          obtain ⟨x36, e9, hJ29⟩ := ob1_s hJ29
          refine g_iald hx hb hK hB 21 0 rfl rfl (rd_s e9) dX2_amountWrittenOff_48 ?_
          refine lv_iadd hx hb dX2_amountWrittenOff_49 ?_
          refine lv_istore_n (lv' := [(2, .int (v24 + x36)), (3, .int v23), (0, .ref (ad 0)), (1, .int i1)]) hx hb dX2_amountWrittenOff_50 rfl hl (by decide) rfl (fun ls hl => ?_)
          have e0 := inj1 hJ29
          subst e0
          exact kJ30 _ _ _ hB (lv_sub hl [0, 1, 2, 3] rfl)
        have kFt31 : t31 = false → ∀ (H : Heap) (locs : List Loc), Bd (dC, dI) [(cyI, .int)] (va_A (cW cyI ad bd τ σ) s.heap.size) s (cW cyI ad bd τ σ) H locs → W p l e (headSpec wsX2_amountWrittenOff rmX2_amountWrittenOff).room s m ([.ref (ad 0), .int i1] : List Value).toArray below meth c H locs 0 0 (MQ below (QiF (dC, dI) [(cyI, .int)] (cW cyI ad bd τ σ) (cW cyI ad bd τ σ) s.heap.size r) ([.ref (ad 0), .int i1] : List Value).toArray s 0 0 (va_A (cW cyI ad bd τ σ) s.heap.size)) (F0 m 51 ls []) := by
          intro ht H locs hB
          have hJ29 := cnd_f ht hJ29
          have e0 := inj1 hJ29
          subst e0
          exact kJ30 _ _ _ hB (lv_sub hl [1, 0, 2, 3] rfl)
        refine lv_icmp_ne (tgt := 51) hx hb dX2_amountWrittenOff_25 (by decide) (fun c33 => ?_) (fun c33 => ?_)
        · have hD32 := ite_f c33 hD32
          have e0 := inj1 hD32
          exact kFt31 e0.symm _ _ hB
        · have hD32 := ite_t c33 hD32
          refine lv_aload_n hx hb dX2_amountWrittenOff_28 rfl (lv_at hl 2 rfl) ?_
          refine g_get (C := RX2) (T := TX2) (N := 14) hx hb hts hinX2 hown hK hB 0 rfl rfl 9 rfl hq4 rfl rfl dX2_amountWrittenOff_29 ?_
          refine lv_iload_n hx hb dX2_amountWrittenOff_32 rfl (lv_at hl 0 rfl) ?_
          obtain ⟨x34, e9, hD32⟩ := ob1_s hD32
          refine g_iald hx hb hK hB 7 0 rfl rfl (rd_s e9) dX2_amountWrittenOff_33 ?_
          refine lv_bipush (v := (6 : Int32)) hx hb dX2_amountWrittenOff_34 (by decide) ?_
          refine lv_icmp_ne (tgt := 51) hx hb dX2_amountWrittenOff_36 (by decide) (fun c35 => ?_) (fun c35 => ?_)
          · have hD32 := ite_f c35 hD32
            have e0 := inj1 hD32
            exact kFt31 e0.symm _ _ hB
          · have hD32 := ite_t c35 hD32
            have e0 := inj1 hD32
            exact kTt31 e0.symm _ _ hB
  exact key19 fu _ _ _ _ _ hL20 hB (lv_sub hl [0, 1, 2, 3] rfl)

abbrev rmX2_numberOfStock : Room := { frames := 2, cells := 0, slots := 0, locals := 49 }

set_option maxHeartbeats 4000000 in
set_option maxRecDepth 100000 in
theorem kX2_numberOfStock (l : Launch) (dC : Nat → ClassId) (dI : Nat → Nat → Nat) (cyI : ClassId) (ad bd : Nat → Nat) (sz : Nat) {fu : Nat} {τ : MS} {σ : MS} {i1 : Int32} {i2 : Int32} {r : Int32} (hf : mX2_numberOfStock fu τ σ i1 i2 = some r) : Met l yX2_numberOfStock wsX2_numberOfStock rmX2_numberOfStock (PcF (dC, dI) [(cyI, .int)] (cW cyI ad bd τ σ) sz [.ref (ad 0), .int i1, .int i2]) (QiF (dC, dI) [(cyI, .int)] (cW cyI ad bd τ σ) (cW cyI ad bd τ σ) sz r) 0 0 (va_A (cW cyI ad bd τ σ) sz) := by
  refine Met.ofW (cc := cX2_numberOfStock) (maxL := 3) (ret := (some .int)) (by decide) rfl ?_
  intro p e s m args below meth c s₁ B hml hv
  obtain ⟨rfl, hsz, hP, hK, hD0⟩ := hv
  have hx := B.exec
  have hb := B.bytes
  have hr := B.returns
  have hts := atoms_spec (ws := wsX2_numberOfStock) B.pre
  have hown : s.vm.findClass RX2 = some m.cls := findClass_of_methodNamed B.named
  have hlocks := B.notSynchronized
  subst hsz
  have hA : ∀ q : Nat, s.heap.size ≤ q → va_A (cW cyI ad bd τ σ) s.heap.size q := fun q h => Or.inr h
  have hB : Bd (dC, dI) [(cyI, .int)] (va_A (cW cyI ad bd τ σ) s.heap.size) s (cW cyI ad bd τ σ) s.heap [] := ⟨hP, hD0.self, va_S.rf⟩
  have hq1 : (Cond.fieldLink RX2 18 "UndoJourneys$World" "level" "[I").before _ s = true := hts _ (List.mem_of_getElem? (i := 1) rfl)
  have hq2 : (Cond.fieldLink RX2 52 "UndoJourneys$World" "setup" "LUndoJourneys$Setup;").before _ s = true := hts _ (List.mem_of_getElem? (i := 2) rfl)
  have hq3 : (Cond.fieldLink RX2 99 "UndoJourneys$Setup" "guard" "[I").before _ s = true := hts _ (List.mem_of_getElem? (i := 3) rfl)
  have hinX0 : ∀ w ∈ wsX00, w ∈ wsX2_numberOfStock := fun w h => List.mem_cons_of_mem _ (List.mem_append_right _ h)
  have hinX2 : ∀ w ∈ wsX20, w ∈ wsX2_numberOfStock := fun w h => List.mem_cons_of_mem _ (List.mem_append_left _ (List.mem_append_right _ h))
  have hl := lv_entry [.ref (ad 0), .int i1, .int i2] (n := 3) (Nat.le_of_ble_eq_true rfl)
  rw [lg_entry_eq]
  generalize (lg_sl [.ref (ad 0), .int i1, .int i2] ++ List.replicate (3 - (lg_sl [.ref (ad 0), .int i1, .int i2]).length) Slot.unset).toArray = ls at hl ⊢
  have hl : lv_has ls 3 [(0, .ref (ad 0)), (1, .int i1), (2, .int i2)] := hl
  clear hP hD0
  suffices main : ∀ (H : Heap) (locs : List Loc), Bd (dC, dI) [(cyI, .int)] (va_A (cW cyI ad bd τ σ) s.heap.size) s (cW cyI ad bd τ σ) H locs → W p l e (headSpec wsX2_numberOfStock rmX2_numberOfStock).room s m ([.ref (ad 0), .int i1, .int i2] : List Value).toArray below meth c H locs 0 0 (MQ below (QiF (dC, dI) [(cyI, .int)] (cW cyI ad bd τ σ) (cW cyI ad bd τ σ) s.heap.size r) ([.ref (ad 0), .int i1, .int i2] : List Value).toArray s 0 0 (va_A (cW cyI ad bd τ σ) s.heap.size)) (F0 m 0 ls []) from main _ _ hB
  clear hB
  intro H locs hB
  unfold mX2_numberOfStock at hf
  refine lv_iload_n hx hb dX2_numberOfStock_0 rfl (lv_at hl 2 rfl) ?_
  by_cases c1 : i2 = 0
  · have hf := ite_t c1 hf
    refine lv_tableIn (tgt := 36) (off := 35) hx hb dX2_numberOfStock_1 (by rw [c1]; decide) (by rw [c1]; decide) (by rw [c1]; rfl) (by decide) ?_
    refine lv_aload_n hx hb dX2_numberOfStock_36 rfl (lv_at hl 0 rfl) ?_
    refine g_get (C := RX2) (T := TX2) (N := 14) hx hb hts hinX2 hown hK hB 0 rfl rfl 3 rfl hq1 rfl rfl dX2_numberOfStock_37 ?_
    refine lv_iload_n hx hb dX2_numberOfStock_40 rfl (lv_at hl 1 rfl) ?_
    obtain ⟨x2, e9, hf⟩ := ob1_s hf
    refine g_iald hx hb hK hB 1 0 rfl rfl (rd_s e9) dX2_numberOfStock_41 ?_
    have e0 := inj1 hf
    subst e0
    exact g_iret hx hb hr hlocks hK hB dX2_numberOfStock_42
  · have hf := ite_f c1 hf
    by_cases c3 : i2 = 1
    · have hf := ite_t c3 hf
      refine lv_tableIn (tgt := 43) (off := 42) hx hb dX2_numberOfStock_1 (by rw [c3]; decide) (by rw [c3]; decide) (by rw [c3]; rfl) (by decide) ?_
      refine lv_aload_n hx hb dX2_numberOfStock_43 rfl (lv_at hl 0 rfl) ?_
      refine g_get (C := RX2) (T := TX2) (N := 14) hx hb hts hinX2 hown hK hB 0 rfl rfl 0 rfl hq2 rfl rfl dX2_numberOfStock_44 ?_
      refine g_get (C := RX0) (T := TX0) (N := 17) hx hb hts hinX0 hown hK hB 12 rfl rfl 4 rfl hq3 rfl rfl dX2_numberOfStock_47 ?_
      refine lv_iload_n hx hb dX2_numberOfStock_50 rfl (lv_at hl 1 rfl) ?_
      obtain ⟨x4, e9, hf⟩ := ob1_s hf
      refine g_iald hx hb hK hB 14 0 rfl rfl (rd_s e9) dX2_numberOfStock_51 ?_
      have e0 := inj1 hf
      subst e0
      exact g_iret hx hb hr hlocks hK hB dX2_numberOfStock_52
    · have hf := ite_f c3 hf
      by_cases c5 : i2 = 2
      · have hf := ite_t c5 hf
        refine lv_tableIn (tgt := 53) (off := 52) hx hb dX2_numberOfStock_1 (by rw [c5]; decide) (by rw [c5]; decide) (by rw [c5]; rfl) (by decide) ?_
        refine lv_aload_n hx hb dX2_numberOfStock_53 rfl (lv_at hl 0 rfl) ?_
        refine lv_iload_n hx hb dX2_numberOfStock_54 rfl (lv_at hl 1 rfl) ?_
        obtain ⟨r6, hc, hf⟩ := ob1_s hf
        refine g_callVi (As := [.int i1]) (rest := []) ⟨hx, hb, hml, hown, hts⟩ (kX2_holdersOf l dC dI cyI ad bd H.size hc) (cwV 1 hts gX2_numberOfStock_X2_holdersOf rfl rfl rfl (by decide +kernel) ⟨Nat.le_of_ble_eq_true rfl, Nat.le_of_ble_eq_true rfl⟩) hK hB hA (g_recv (ci := 2) hK hB 0 rfl rfl rfl) rfl hl.1 rfl (Nat.le_of_ble_eq_true rfl) dX2_numberOfStock_55 ⟨Nat.zero_le _, Nat.zero_le _⟩ (fun H locs hB => ?_)
        have e0 := inj1 hf
        subst e0
        exact g_iret hx hb hr hlocks hK hB dX2_numberOfStock_58
      · have hf := ite_f c5 hf
        by_cases c7 : i2 = 3
        · have hf := ite_t c7 hf
          refine lv_tableIn (tgt := 59) (off := 58) hx hb dX2_numberOfStock_1 (by rw [c7]; decide) (by rw [c7]; decide) (by rw [c7]; rfl) (by decide) ?_
          refine lv_aload_n hx hb dX2_numberOfStock_59 rfl (lv_at hl 0 rfl) ?_
          refine lv_iload_n hx hb dX2_numberOfStock_60 rfl (lv_at hl 1 rfl) ?_
          obtain ⟨r8, hc, hf⟩ := ob1_s hf
          refine g_callVi (As := [.int i1]) (rest := []) ⟨hx, hb, hml, hown, hts⟩ (kX2_amountInOpenJourneys l dC dI cyI ad bd H.size hc) (cwV 1 hts gX2_numberOfStock_X2_amountInOpenJourneys rfl rfl rfl (by decide +kernel) ⟨Nat.le_of_ble_eq_true rfl, Nat.le_of_ble_eq_true rfl⟩) hK hB hA (g_recv (ci := 2) hK hB 0 rfl rfl rfl) rfl hl.1 rfl (Nat.le_of_ble_eq_true rfl) dX2_numberOfStock_61 ⟨Nat.zero_le _, Nat.zero_le _⟩ (fun H locs hB => ?_)
          have e0 := inj1 hf
          subst e0
          exact g_iret hx hb hr hlocks hK hB dX2_numberOfStock_64
        · have hf := ite_f c7 hf
          by_cases c9 : i2 = 4
          · have hf := ite_t c9 hf
            refine lv_tableIn (tgt := 65) (off := 64) hx hb dX2_numberOfStock_1 (by rw [c9]; decide) (by rw [c9]; decide) (by rw [c9]; rfl) (by decide) ?_
            refine lv_aload_n hx hb dX2_numberOfStock_65 rfl (lv_at hl 0 rfl) ?_
            refine lv_iload_n hx hb dX2_numberOfStock_66 rfl (lv_at hl 1 rfl) ?_
            obtain ⟨r10, hc, hf⟩ := ob1_s hf
            refine g_callVi (As := [.int i1]) (rest := []) ⟨hx, hb, hml, hown, hts⟩ (kX2_amountInDoneJourneys l dC dI cyI ad bd H.size hc) (cwV 1 hts gX2_numberOfStock_X2_amountInDoneJourneys rfl rfl rfl (by decide +kernel) ⟨Nat.le_of_ble_eq_true rfl, Nat.le_of_ble_eq_true rfl⟩) hK hB hA (g_recv (ci := 2) hK hB 0 rfl rfl rfl) rfl hl.1 rfl (Nat.le_of_ble_eq_true rfl) dX2_numberOfStock_67 ⟨Nat.zero_le _, Nat.zero_le _⟩ (fun H locs hB => ?_)
            have e0 := inj1 hf
            subst e0
            exact g_iret hx hb hr hlocks hK hB dX2_numberOfStock_70
          · have hf := ite_f c9 hf
            refine lv_tableOut (tgt := 71) hx hb dX2_numberOfStock_1 (sw_out (n := 4) (by decide) (fun k hk q => by
                rcases (show k = 0 ∨ k = 1 ∨ k = 2 ∨ k = 3 ∨ k = 4 by omega) with rfl | rfl | rfl | rfl | rfl
                · exact c1 (q.trans rfl)
                · exact c3 (q.trans rfl)
                · exact c5 (q.trans rfl)
                · exact c7 (q.trans rfl)
                · exact c9 (q.trans rfl)))
              (by decide) ?_
            refine lv_aload_n hx hb dX2_numberOfStock_71 rfl (lv_at hl 0 rfl) ?_
            refine lv_iload_n hx hb dX2_numberOfStock_72 rfl (lv_at hl 1 rfl) ?_
            obtain ⟨r11, hc, hf⟩ := ob1_s hf
            refine g_callVi (As := [.int i1]) (rest := []) ⟨hx, hb, hml, hown, hts⟩ (kX2_amountWrittenOff l dC dI cyI ad bd H.size hc) (cwV 1 hts gX2_numberOfStock_X2_amountWrittenOff rfl rfl rfl (by decide +kernel) ⟨Nat.le_of_ble_eq_true rfl, Nat.le_of_ble_eq_true rfl⟩) hK hB hA (g_recv (ci := 2) hK hB 0 rfl rfl rfl) rfl hl.1 rfl (Nat.le_of_ble_eq_true rfl) dX2_numberOfStock_73 ⟨Nat.zero_le _, Nat.zero_le _⟩ (fun H locs hB => ?_)
            have e0 := inj1 hf
            subst e0
            exact g_iret hx hb hr hlocks hK hB dX2_numberOfStock_76

abbrev rmX2_rests : Room := { frames := 1, cells := 0, slots := 0, locals := 21 }

set_option maxHeartbeats 4000000 in
set_option maxRecDepth 100000 in
theorem kX2_rests (l : Launch) (dC : Nat → ClassId) (dI : Nat → Nat → Nat) (cyI : ClassId) (ad bd : Nat → Nat) (sz : Nat) {fu : Nat} {τ : MS} {σ : MS} {i1 : Int32} {r : Int32} (hf : mX2_rests fu τ σ i1 = some r) : Met l yX2_rests wsX2_rests rmX2_rests (PcF (dC, dI) [(cyI, .int)] (cW cyI ad bd τ σ) sz [.ref (ad 0), .int i1]) (QzF (dC, dI) [(cyI, .int)] (cW cyI ad bd τ σ) (cW cyI ad bd τ σ) sz r) 0 0 (va_A (cW cyI ad bd τ σ) sz) := by
  refine Met.ofW (cc := cX2_rests) (maxL := 2) (ret := (some .boolean)) (by decide) rfl ?_
  intro p e s m args below meth c s₁ B hml hv
  obtain ⟨rfl, hsz, hP, hK, hD0⟩ := hv
  have hx := B.exec
  have hb := B.bytes
  have hr := B.returns
  have hts := atoms_spec (ws := wsX2_rests) B.pre
  have hown : s.vm.findClass RX2 = some m.cls := findClass_of_methodNamed B.named
  have hlocks := B.notSynchronized
  subst hsz
  have hA : ∀ q : Nat, s.heap.size ≤ q → va_A (cW cyI ad bd τ σ) s.heap.size q := fun q h => Or.inr h
  have hB : Bd (dC, dI) [(cyI, .int)] (va_A (cW cyI ad bd τ σ) s.heap.size) s (cW cyI ad bd τ σ) s.heap [] := ⟨hP, hD0.self, va_S.rf⟩
  have hq1 : (Cond.fieldLink RX2 25 "UndoJourneys$World" "journeyState" "[I").before _ s = true := hts _ (List.mem_of_getElem? (i := 1) rfl)
  have hinX2 : ∀ w ∈ wsX20, w ∈ wsX2_rests := fun w h => List.mem_cons_of_mem _ (List.mem_append_right _ h)
  have hl := lv_entry [.ref (ad 0), .int i1] (n := 2) (Nat.le_of_ble_eq_true rfl)
  rw [lg_entry_eq]
  generalize (lg_sl [.ref (ad 0), .int i1] ++ List.replicate (2 - (lg_sl [.ref (ad 0), .int i1]).length) Slot.unset).toArray = ls at hl ⊢
  have hl : lv_has ls 2 [(0, .ref (ad 0)), (1, .int i1)] := hl
  clear hP hD0
  suffices main : ∀ (H : Heap) (locs : List Loc), Bd (dC, dI) [(cyI, .int)] (va_A (cW cyI ad bd τ σ) s.heap.size) s (cW cyI ad bd τ σ) H locs → W p l e (headSpec wsX2_rests rmX2_rests).room s m ([.ref (ad 0), .int i1] : List Value).toArray below meth c H locs 0 0 (MQ below (QzF (dC, dI) [(cyI, .int)] (cW cyI ad bd τ σ) (cW cyI ad bd τ σ) s.heap.size r) ([.ref (ad 0), .int i1] : List Value).toArray s 0 0 (va_A (cW cyI ad bd τ σ) s.heap.size)) (F0 m 0 ls []) from main _ _ hB
  clear hB
  intro H locs hB
  unfold mX2_rests at hf
  refine lv_aload_n hx hb dX2_rests_0 rfl (lv_at hl 0 rfl) ?_
  refine lv_iload_n hx hb dX2_rests_1 rfl (lv_at hl 1 rfl) ?_
  obtain ⟨r1, hc, hf⟩ := ob1_s hf
  refine g_callVz (As := [.int i1]) (rest := []) ⟨hx, hb, hml, hown, hts⟩ (kX2_hasEnded l dC dI cyI ad bd H.size hc) (cwV 1 hts gX2_rests_X2_hasEnded rfl rfl rfl (by decide +kernel) ⟨Nat.le_of_ble_eq_true rfl, Nat.le_of_ble_eq_true rfl⟩) hK hB hA (g_recv (ci := 2) hK hB 0 rfl rfl rfl) rfl hl.1 rfl (Nat.le_of_ble_eq_true rfl) dX2_rests_2 ⟨Nat.zero_le _, Nat.zero_le _⟩ (fun z2 H locs hB => ?_)
  obtain ⟨v3, hJ5, hf⟩ := ob1_s hf
  have kJ6 : (v3 = 0 ∨ v3 = 1) → ∀ (H : Heap) (locs : List Loc) (ls : Array Slot), Bd (dC, dI) [(cyI, .int)] (va_A (cW cyI ad bd τ σ) s.heap.size) s (cW cyI ad bd τ σ) H locs → lv_has ls 2 [] → W p l e (headSpec wsX2_rests rmX2_rests).room s m ([.ref (ad 0), .int i1] : List Value).toArray below meth c H locs 0 0 (MQ below (QzF (dC, dI) [(cyI, .int)] (cW cyI ad bd τ σ) (cW cyI ad bd τ σ) s.heap.size r) ([.ref (ad 0), .int i1] : List Value).toArray s 0 0 (va_A (cW cyI ad bd τ σ) s.heap.size)) (F0 m 23 ls [.int v3]) := by
    intro z4 H locs ls hB hl
    have e0 := inj1 hf
    subst e0
    exact g_zret hx hb hr hlocks hK hB z4 dX2_rests_23
  obtain ⟨t7, hD8, hJ5⟩ := ob1_s hJ5
  have kTt7 : t7 = true → ∀ (H : Heap) (locs : List Loc), Bd (dC, dI) [(cyI, .int)] (va_A (cW cyI ad bd τ σ) s.heap.size) s (cW cyI ad bd τ σ) H locs → W p l e (headSpec wsX2_rests rmX2_rests).room s m ([.ref (ad 0), .int i1] : List Value).toArray below meth c H locs 0 0 (MQ below (QzF (dC, dI) [(cyI, .int)] (cW cyI ad bd τ σ) (cW cyI ad bd τ σ) s.heap.size r) ([.ref (ad 0), .int i1] : List Value).toArray s 0 0 (va_A (cW cyI ad bd τ σ) s.heap.size)) (F0 m 18 ls []) := by
    intro ht H locs hB
    have hJ5 := cnd_t ht hJ5
    refine lv_iconst (v := (1 : Int32)) hx hb dX2_rests_18 (by decide) ?_
    refine lv_goto (tgt := 23) hx hb dX2_rests_19 (by decide) ?_
    have e0 := inj1 hJ5
    subst e0
    exact kJ6 (Or.inr rfl) _ _ _ hB (lv_sub hl [] rfl)
  have kFt7 : t7 = false → ∀ (H : Heap) (locs : List Loc), Bd (dC, dI) [(cyI, .int)] (va_A (cW cyI ad bd τ σ) s.heap.size) s (cW cyI ad bd τ σ) H locs → W p l e (headSpec wsX2_rests rmX2_rests).room s m ([.ref (ad 0), .int i1] : List Value).toArray below meth c H locs 0 0 (MQ below (QzF (dC, dI) [(cyI, .int)] (cW cyI ad bd τ σ) (cW cyI ad bd τ σ) s.heap.size r) ([.ref (ad 0), .int i1] : List Value).toArray s 0 0 (va_A (cW cyI ad bd τ σ) s.heap.size)) (F0 m 22 ls []) := by
    intro ht H locs hB
    have hJ5 := cnd_f ht hJ5
    refine lv_iconst (v := (0 : Int32)) hx hb dX2_rests_22 (by decide) ?_
    have e0 := inj1 hJ5
    subst e0
    exact kJ6 (Or.inl rfl) _ _ _ hB (lv_sub hl [] rfl)
  refine lv_if_ne (tgt := 18) hx hb dX2_rests_5 (by decide) (fun c9 => ?_) (fun c9 => ?_)
  · have hD8 := ite_f c9 hD8
    have e0 := inj1 hD8
    exact kTt7 e0.symm _ _ hB
  · have hD8 := ite_t c9 hD8
    refine lv_aload_n hx hb dX2_rests_8 rfl (lv_at hl 0 rfl) ?_
    refine g_get (C := RX2) (T := TX2) (N := 14) hx hb hts hinX2 hown hK hB 0 rfl rfl 5 rfl hq1 rfl rfl dX2_rests_9 ?_
    refine lv_iload_n hx hb dX2_rests_12 rfl (lv_at hl 1 rfl) ?_
    obtain ⟨x10, e9, hD8⟩ := ob1_s hD8
    refine g_iald hx hb hK hB 3 0 rfl rfl (rd_s e9) dX2_rests_13 ?_
    refine lv_iconst (v := (5 : Int32)) hx hb dX2_rests_14 (by decide) ?_
    refine lv_icmp_ne (tgt := 22) hx hb dX2_rests_15 (by decide) (fun c11 => ?_) (fun c11 => ?_)
    · have hD8 := ite_f c11 hD8
      have e0 := inj1 hD8
      exact kFt7 e0.symm _ _ hB
    · have hD8 := ite_t c11 hD8
      have e0 := inj1 hD8
      exact kTt7 e0.symm _ _ hB

abbrev rmX2_amountOwed : Room := { frames := 0, cells := 0, slots := 0, locals := 0 }

set_option maxHeartbeats 4000000 in
set_option maxRecDepth 100000 in
theorem kX2_amountOwed (l : Launch) (dC : Nat → ClassId) (dI : Nat → Nat → Nat) (cyI : ClassId) (ad bd : Nat → Nat) (sz : Nat) {fu : Nat} {τ : MS} {σ : MS} {i1 : Int32} {r : Int32} (hf : mX2_amountOwed fu τ σ i1 = some r) : Met l yX2_amountOwed wsX2_amountOwed rmX2_amountOwed (PcF (dC, dI) [(cyI, .int)] (cW cyI ad bd τ σ) sz [.ref (ad 0), .int i1]) (QiF (dC, dI) [(cyI, .int)] (cW cyI ad bd τ σ) (cW cyI ad bd τ σ) sz r) 0 0 (va_A (cW cyI ad bd τ σ) sz) := by
  refine Met.ofW (cc := cX2_amountOwed) (maxL := 5) (ret := (some .int)) (by decide) rfl ?_
  intro p e s m args below meth c s₁ B hml hv
  obtain ⟨rfl, hsz, hP, hK, hD0⟩ := hv
  have hx := B.exec
  have hb := B.bytes
  have hr := B.returns
  have hts := atoms_spec (ws := wsX2_amountOwed) B.pre
  have hown : s.vm.findClass RX2 = some m.cls := findClass_of_methodNamed B.named
  have hlocks := B.notSynchronized
  subst hsz
  have hA : ∀ q : Nat, s.heap.size ≤ q → va_A (cW cyI ad bd τ σ) s.heap.size q := fun q h => Or.inr h
  have hB : Bd (dC, dI) [(cyI, .int)] (va_A (cW cyI ad bd τ σ) s.heap.size) s (cW cyI ad bd τ σ) s.heap [] := ⟨hP, hD0.self, va_S.rf⟩
  have hq1 : (Cond.fieldLink RX2 25 "UndoJourneys$World" "journeyState" "[I").before _ s = true := hts _ (List.mem_of_getElem? (i := 1) rfl)
  have hq2 : (Cond.fieldLink RX2 52 "UndoJourneys$World" "setup" "LUndoJourneys$Setup;").before _ s = true := hts _ (List.mem_of_getElem? (i := 2) rfl)
  have hq3 : (Cond.fieldLink RX2 145 "UndoJourneys$Setup" "endStep" "[I").before _ s = true := hts _ (List.mem_of_getElem? (i := 3) rfl)
  have hq4 : (Cond.fieldLink RX2 148 "UndoJourneys$Setup" "firstStep" "[I").before _ s = true := hts _ (List.mem_of_getElem? (i := 4) rfl)
  have hq5 : (Cond.fieldLink RX2 37 "UndoJourneys$World" "stepState" "[I").before _ s = true := hts _ (List.mem_of_getElem? (i := 5) rfl)
  have hq6 : (Cond.fieldLink RX2 136 "UndoJourneys$Setup" "amount" "[I").before _ s = true := hts _ (List.mem_of_getElem? (i := 6) rfl)
  have hinX0 : ∀ w ∈ wsX00, w ∈ wsX2_amountOwed := fun w h => List.mem_cons_of_mem _ (List.mem_append_right _ h)
  have hinX2 : ∀ w ∈ wsX20, w ∈ wsX2_amountOwed := fun w h => List.mem_cons_of_mem _ (List.mem_append_left _ (List.mem_append_right _ h))
  have hl := lv_entry [.ref (ad 0), .int i1] (n := 5) (Nat.le_of_ble_eq_true rfl)
  rw [lg_entry_eq]
  generalize (lg_sl [.ref (ad 0), .int i1] ++ List.replicate (5 - (lg_sl [.ref (ad 0), .int i1]).length) Slot.unset).toArray = ls at hl ⊢
  have hl : lv_has ls 5 [(0, .ref (ad 0)), (1, .int i1)] := hl
  clear hP hD0
  suffices main : ∀ (H : Heap) (locs : List Loc), Bd (dC, dI) [(cyI, .int)] (va_A (cW cyI ad bd τ σ) s.heap.size) s (cW cyI ad bd τ σ) H locs → W p l e (headSpec wsX2_amountOwed rmX2_amountOwed).room s m ([.ref (ad 0), .int i1] : List Value).toArray below meth c H locs 0 0 (MQ below (QiF (dC, dI) [(cyI, .int)] (cW cyI ad bd τ σ) (cW cyI ad bd τ σ) s.heap.size r) ([.ref (ad 0), .int i1] : List Value).toArray s 0 0 (va_A (cW cyI ad bd τ σ) s.heap.size)) (F0 m 0 ls []) from main _ _ hB
  clear hB
  intro H locs hB
  unfold mX2_amountOwed at hf
  refine lv_aload_n hx hb dX2_amountOwed_0 rfl (lv_at hl 0 rfl) ?_
  refine g_get (C := RX2) (T := TX2) (N := 14) hx hb hts hinX2 hown hK hB 0 rfl rfl 5 rfl hq1 rfl rfl dX2_amountOwed_1 ?_
  refine lv_iload_n hx hb dX2_amountOwed_4 rfl (lv_at hl 1 rfl) ?_
  obtain ⟨x1, e9, hf⟩ := ob1_s hf
  refine g_iald hx hb hK hB 3 0 rfl rfl (rd_s e9) dX2_amountOwed_5 ?_
  refine lv_iconst (v := (2 : Int32)) hx hb dX2_amountOwed_6 (by decide) ?_
  obtain ⟨t2, hD3, hf⟩ := ob1_s hf
  have kTt2 : t2 = true → ∀ (H : Heap) (locs : List Loc), Bd (dC, dI) [(cyI, .int)] (va_A (cW cyI ad bd τ σ) s.heap.size) s (cW cyI ad bd τ σ) H locs → W p l e (headSpec wsX2_amountOwed rmX2_amountOwed).room s m ([.ref (ad 0), .int i1] : List Value).toArray below meth c H locs 0 0 (MQ below (QiF (dC, dI) [(cyI, .int)] (cW cyI ad bd τ σ) (cW cyI ad bd τ σ) s.heap.size r) ([.ref (ad 0), .int i1] : List Value).toArray s 0 0 (va_A (cW cyI ad bd τ σ) s.heap.size)) (F0 m 20 ls []) := by
    intro ht H locs hB
    have hf := cnd_t ht hf
    refine lv_iconst (v := (0 : Int32)) hx hb dX2_amountOwed_20 (by decide) ?_
    have e0 := inj1 hf
    subst e0
    exact g_iret hx hb hr hlocks hK hB dX2_amountOwed_21
  have kFt2 : t2 = false → ∀ (H : Heap) (locs : List Loc), Bd (dC, dI) [(cyI, .int)] (va_A (cW cyI ad bd τ σ) s.heap.size) s (cW cyI ad bd τ σ) H locs → W p l e (headSpec wsX2_amountOwed rmX2_amountOwed).room s m ([.ref (ad 0), .int i1] : List Value).toArray below meth c H locs 0 0 (MQ below (QiF (dC, dI) [(cyI, .int)] (cW cyI ad bd τ σ) (cW cyI ad bd τ σ) s.heap.size r) ([.ref (ad 0), .int i1] : List Value).toArray s 0 0 (va_A (cW cyI ad bd τ σ) s.heap.size)) (F0 m 22 ls []) := by
    intro ht H locs hB
    have hf := cnd_f ht hf
    refine lv_iconst (v := (0 : Int32)) hx hb dX2_amountOwed_22 (by decide) ?_
    refine lv_istore_n (lv' := [(2, .int (0 : Int32)), (0, .ref (ad 0)), (1, .int i1)]) hx hb dX2_amountOwed_23 rfl hl (by decide) rfl (fun ls hl => ?_)
    refine lv_aload_n hx hb dX2_amountOwed_24 rfl (lv_at hl 1 rfl) ?_
    refine g_get (C := RX2) (T := TX2) (N := 14) hx hb hts hinX2 hown hK hB 0 rfl rfl 0 rfl hq2 rfl rfl dX2_amountOwed_25 ?_
    refine g_get (C := RX0) (T := TX0) (N := 17) hx hb hts hinX0 hown hK hB 12 rfl rfl 9 rfl hq3 rfl rfl dX2_amountOwed_28 ?_
    refine lv_iload_n hx hb dX2_amountOwed_31 rfl (lv_at hl 2 rfl) ?_
    obtain ⟨x7, e9, hf⟩ := ob1_s hf
    refine g_iald hx hb hK hB 18 0 rfl rfl (rd_s e9) dX2_amountOwed_32 ?_
    refine lv_istore_n (lv' := [(3, .int x7), (2, .int (0 : Int32)), (0, .ref (ad 0)), (1, .int i1)]) hx hb dX2_amountOwed_33 rfl hl (by decide) rfl (fun ls hl => ?_)
    refine lv_aload_n hx hb dX2_amountOwed_34 rfl (lv_at hl 2 rfl) ?_
    refine g_get (C := RX2) (T := TX2) (N := 14) hx hb hts hinX2 hown hK hB 0 rfl rfl 0 rfl hq2 rfl rfl dX2_amountOwed_35 ?_
    refine g_get (C := RX0) (T := TX0) (N := 17) hx hb hts hinX0 hown hK hB 12 rfl rfl 8 rfl hq4 rfl rfl dX2_amountOwed_38 ?_
    refine lv_iload_n hx hb dX2_amountOwed_41 rfl (lv_at hl 3 rfl) ?_
    obtain ⟨x8, e9, hf⟩ := ob1_s hf
    refine g_iald hx hb hK hB 17 0 rfl rfl (rd_s e9) dX2_amountOwed_42 ?_
    refine lv_istore (lv' := [(4, .int x8), (3, .int x7), (2, .int (0 : Int32)), (0, .ref (ad 0)), (1, .int i1)]) hx hb dX2_amountOwed_43 hl (by decide) rfl (fun ls hl => ?_)
    obtain ⟨v21, hL24, hf⟩ := ob1_s hf
    have kE22 : ∀ (H : Heap) (locs : List Loc) (ls : Array Slot), Bd (dC, dI) [(cyI, .int)] (va_A (cW cyI ad bd τ σ) s.heap.size) s (cW cyI ad bd τ σ) H locs → lv_has ls 5 [(2, .int v21)] → W p l e (headSpec wsX2_amountOwed rmX2_amountOwed).room s m ([.ref (ad 0), .int i1] : List Value).toArray below meth c H locs 0 0 (MQ below (QiF (dC, dI) [(cyI, .int)] (cW cyI ad bd τ σ) (cW cyI ad bd τ σ) s.heap.size r) ([.ref (ad 0), .int i1] : List Value).toArray s 0 0 (va_A (cW cyI ad bd τ σ) s.heap.size)) (F0 m 81 ls []) := by
      intro H locs ls hB hl
      refine lv_iload_n hx hb dX2_amountOwed_81 rfl (lv_at hl 0 rfl) ?_
      have e0 := inj1 hf
      subst e0
      exact g_iret hx hb hr hlocks hK hB dX2_amountOwed_82
    have key23 : ∀ (n9 : Nat) (v27 : Int32) (v28 : Int32) (H : Heap) (locs : List Loc) (ls : Array Slot), loopM (fun st => mX2_amountOwed_L45 fu x7 τ σ st.1 st.2) n9 (v27, v28) = some v21 → Bd (dC, dI) [(cyI, .int)] (va_A (cW cyI ad bd τ σ) s.heap.size) s (cW cyI ad bd τ σ) H locs → lv_has ls 5 [(4, .int v27), (3, .int x7), (2, .int v28), (0, .ref (ad 0))] → W p l e (headSpec wsX2_amountOwed rmX2_amountOwed).room s m ([.ref (ad 0), .int i1] : List Value).toArray below meth c H locs 0 0 (MQ below (QiF (dC, dI) [(cyI, .int)] (cW cyI ad bd τ σ) (cW cyI ad bd τ σ) s.heap.size r) ([.ref (ad 0), .int i1] : List Value).toArray s 0 0 (va_A (cW cyI ad bd τ σ) s.heap.size)) (F0 m 45 ls []) := by
      intro n9
      induction n9 with
      | zero => intro v27 v28 H locs ls hL24; exact (loopM_z hL24).elim
      | succ n9 ih9 =>
        intro v27 v28 H locs ls hL24 hB hl
        obtain ⟨o29, hg25, hL24⟩ := loopM_s hL24
        have hg25 : mX2_amountOwed_L45 fu x7 τ σ v27 v28 = some o29 := hg25
        unfold mX2_amountOwed_L45 at hg25
        refine lv_iload hx hb dX2_amountOwed_45 (lv_at hl 0 rfl) ?_
        refine lv_iload_n hx hb dX2_amountOwed_47 rfl (lv_at hl 1 rfl) ?_
        refine lv_icmp_ge (tgt := 81) hx hb dX2_amountOwed_48 (by decide) (fun c30 => ?_) (fun c30 => ?_)
        · have hg25 := ite_t c30 hg25
          have hL24 := el1_l (inj1 hg25) hL24
          have e0 := inj1 hL24
          subst e0
          exact kE22 _ _ _ hB (lv_sub hl [2] rfl)
        · have hg25 := ite_f c30 hg25
          refine lv_aload_n hx hb dX2_amountOwed_51 rfl (lv_at hl 3 rfl) ?_
          refine g_get (C := RX2) (T := TX2) (N := 14) hx hb hts hinX2 hown hK hB 0 rfl rfl 9 rfl hq5 rfl rfl dX2_amountOwed_52 ?_
          refine lv_iload hx hb dX2_amountOwed_55 (lv_at hl 0 rfl) ?_
          obtain ⟨x31, e9, hg25⟩ := ob1_s hg25
          refine g_iald hx hb hK hB 7 0 rfl rfl (rd_s e9) dX2_amountOwed_57 ?_
          refine lv_iconst (v := (3 : Int32)) hx hb dX2_amountOwed_58 (by decide) ?_
          obtain ⟨v32, hJ33, hg25⟩ := ob1_s hg25
          have kJ34 : ∀ (H : Heap) (locs : List Loc) (ls : Array Slot), Bd (dC, dI) [(cyI, .int)] (va_A (cW cyI ad bd τ σ) s.heap.size) s (cW cyI ad bd τ σ) H locs → lv_has ls 5 [(4, .int v27), (3, .int x7), (2, .int v32), (0, .ref (ad 0))] → W p l e (headSpec wsX2_amountOwed rmX2_amountOwed).room s m ([.ref (ad 0), .int i1] : List Value).toArray below meth c H locs 0 0 (MQ below (QiF (dC, dI) [(cyI, .int)] (cW cyI ad bd τ σ) (cW cyI ad bd τ σ) s.heap.size r) ([.ref (ad 0), .int i1] : List Value).toArray s 0 0 (va_A (cW cyI ad bd τ σ) s.heap.size)) (F0 m 75 ls []) := by
            intro H locs ls hB hl
            refine lv_iinc (v := (v27 + (1 : Int32))) (lv' := [(4, .int (v27 + (1 : Int32))), (3, .int x7), (2, .int v32), (0, .ref (ad 0))]) hx hb dX2_amountOwed_75 hl (k := 0) rfl rfl (by decide) rfl (fun ls hl => ?_)
            refine lv_goto (tgt := 45) hx hb dX2_amountOwed_78 (by decide) ?_
            have hL24 := el1_r (inj1 hg25) hL24
            exact ih9 _ _ _ _ _ hL24 hB (lv_sub hl [0, 1, 2, 3] rfl)
          refine lv_icmp_ne (tgt := 75) hx hb dX2_amountOwed_59 (by decide) (fun c35 => ?_) (fun c35 => ?_)
          · have hJ33 := ite_f c35 hJ33
            have e0 := inj1 hJ33
            subst e0
            exact kJ34 _ _ _ hB (lv_sub hl [0, 1, 2, 3] rfl)
          · have hJ33 := ite_t c35 hJ33
            refine lv_iload_n hx hb dX2_amountOwed_62 rfl (lv_at hl 2 rfl) ?_
            refine lv_aload_n hx hb dX2_amountOwed_63 rfl (lv_at hl 3 rfl) ?_
            refine g_get (C := RX2) (T := TX2) (N := 14) hx hb hts hinX2 hown hK hB 0 rfl rfl 0 rfl hq2 rfl rfl dX2_amountOwed_64 ?_
            refine g_get (C := RX0) (T := TX0) (N := 17) hx hb hts hinX0 hown hK hB 12 rfl rfl 13 rfl hq6 rfl rfl dX2_amountOwed_67 ?_
            refine lv_iload hx hb dX2_amountOwed_70 (lv_at hl 0 rfl) ?_
            obtain ⟨x36, e9, hJ33⟩ := ob1_s hJ33
            refine g_iald hx hb hK hB 21 0 rfl rfl (rd_s e9) dX2_amountOwed_72 ?_
            refine lv_iadd hx hb dX2_amountOwed_73 ?_
            refine lv_istore_n (lv' := [(2, .int (v28 + x36)), (4, .int v27), (3, .int x7), (0, .ref (ad 0))]) hx hb dX2_amountOwed_74 rfl hl (by decide) rfl (fun ls hl => ?_)
            have e0 := inj1 hJ33
            subst e0
            exact kJ34 _ _ _ hB (lv_sub hl [1, 2, 0, 3] rfl)
    exact key23 fu _ _ _ _ _ hL24 hB (lv_sub hl [0, 1, 2, 3] rfl)
  refine lv_icmp_eq (tgt := 22) hx hb dX2_amountOwed_7 (by decide) (fun c4 => ?_) (fun c4 => ?_)
  · have hD3 := ite_t c4 hD3
    have e0 := inj1 hD3
    exact kFt2 e0.symm _ _ hB
  · have hD3 := ite_f c4 hD3
    refine lv_aload_n hx hb dX2_amountOwed_10 rfl (lv_at hl 0 rfl) ?_
    refine g_get (C := RX2) (T := TX2) (N := 14) hx hb hts hinX2 hown hK hB 0 rfl rfl 5 rfl hq1 rfl rfl dX2_amountOwed_11 ?_
    refine lv_iload_n hx hb dX2_amountOwed_14 rfl (lv_at hl 1 rfl) ?_
    obtain ⟨x5, e9, hD3⟩ := ob1_s hD3
    refine g_iald hx hb hK hB 3 0 rfl rfl (rd_s e9) dX2_amountOwed_15 ?_
    refine lv_iconst (v := (5 : Int32)) hx hb dX2_amountOwed_16 (by decide) ?_
    refine lv_icmp_eq (tgt := 22) hx hb dX2_amountOwed_17 (by decide) (fun c6 => ?_) (fun c6 => ?_)
    · have hD3 := ite_t c6 hD3
      have e0 := inj1 hD3
      exact kFt2 e0.symm _ _ hB
    · have hD3 := ite_f c6 hD3
      have e0 := inj1 hD3
      exact kTt2 e0.symm _ _ hB

abbrev rmX2_numberOfJourney : Room := { frames := 2, cells := 0, slots := 0, locals := 42 }

set_option maxHeartbeats 4000000 in
set_option maxRecDepth 100000 in
theorem kX2_numberOfJourney (l : Launch) (dC : Nat → ClassId) (dI : Nat → Nat → Nat) (cyI : ClassId) (ad bd : Nat → Nat) (sz : Nat) {fu : Nat} {τ : MS} {σ : MS} {i1 : Int32} {i2 : Int32} {r : Int32} (hf : mX2_numberOfJourney fu τ σ i1 i2 = some r) : Met l yX2_numberOfJourney wsX2_numberOfJourney rmX2_numberOfJourney (PcF (dC, dI) [(cyI, .int)] (cW cyI ad bd τ σ) sz [.ref (ad 0), .int i1, .int i2]) (QiF (dC, dI) [(cyI, .int)] (cW cyI ad bd τ σ) (cW cyI ad bd τ σ) sz r) 0 0 (va_A (cW cyI ad bd τ σ) sz) := by
  refine Met.ofW (cc := cX2_numberOfJourney) (maxL := 3) (ret := (some .int)) (by decide) rfl ?_
  intro p e s m args below meth c s₁ B hml hv
  obtain ⟨rfl, hsz, hP, hK, hD0⟩ := hv
  have hx := B.exec
  have hb := B.bytes
  have hr := B.returns
  have hts := atoms_spec (ws := wsX2_numberOfJourney) B.pre
  have hown : s.vm.findClass RX2 = some m.cls := findClass_of_methodNamed B.named
  have hlocks := B.notSynchronized
  subst hsz
  have hA : ∀ q : Nat, s.heap.size ≤ q → va_A (cW cyI ad bd τ σ) s.heap.size q := fun q h => Or.inr h
  have hB : Bd (dC, dI) [(cyI, .int)] (va_A (cW cyI ad bd τ σ) s.heap.size) s (cW cyI ad bd τ σ) s.heap [] := ⟨hP, hD0.self, va_S.rf⟩
  have hq1 : (Cond.fieldLink RX2 25 "UndoJourneys$World" "journeyState" "[I").before _ s = true := hts _ (List.mem_of_getElem? (i := 1) rfl)
  have hq2 : (Cond.fieldLink RX2 52 "UndoJourneys$World" "setup" "LUndoJourneys$Setup;").before _ s = true := hts _ (List.mem_of_getElem? (i := 2) rfl)
  have hq3 : (Cond.fieldLink RX2 114 "UndoJourneys$Setup" "start" "[I").before _ s = true := hts _ (List.mem_of_getElem? (i := 3) rfl)
  have hq4 : (Cond.fieldLink RX2 117 "UndoJourneys$Setup" "stageCount" "[I").before _ s = true := hts _ (List.mem_of_getElem? (i := 4) rfl)
  have hq5 : (Cond.fieldLink RX2 28 "UndoJourneys$World" "presentStage" "[I").before _ s = true := hts _ (List.mem_of_getElem? (i := 5) rfl)
  have hq6 : (Cond.fieldLink RX2 31 "UndoJourneys$World" "restTime" "[I").before _ s = true := hts _ (List.mem_of_getElem? (i := 6) rfl)
  have hinX0 : ∀ w ∈ wsX00, w ∈ wsX2_numberOfJourney := fun w h => List.mem_cons_of_mem _ (List.mem_append_right _ h)
  have hinX2 : ∀ w ∈ wsX20, w ∈ wsX2_numberOfJourney := fun w h => List.mem_cons_of_mem _ (List.mem_append_left _ (List.mem_append_right _ h))
  have hl := lv_entry [.ref (ad 0), .int i1, .int i2] (n := 3) (Nat.le_of_ble_eq_true rfl)
  rw [lg_entry_eq]
  generalize (lg_sl [.ref (ad 0), .int i1, .int i2] ++ List.replicate (3 - (lg_sl [.ref (ad 0), .int i1, .int i2]).length) Slot.unset).toArray = ls at hl ⊢
  have hl : lv_has ls 3 [(0, .ref (ad 0)), (1, .int i1), (2, .int i2)] := hl
  clear hP hD0
  suffices main : ∀ (H : Heap) (locs : List Loc), Bd (dC, dI) [(cyI, .int)] (va_A (cW cyI ad bd τ σ) s.heap.size) s (cW cyI ad bd τ σ) H locs → W p l e (headSpec wsX2_numberOfJourney rmX2_numberOfJourney).room s m ([.ref (ad 0), .int i1, .int i2] : List Value).toArray below meth c H locs 0 0 (MQ below (QiF (dC, dI) [(cyI, .int)] (cW cyI ad bd τ σ) (cW cyI ad bd τ σ) s.heap.size r) ([.ref (ad 0), .int i1, .int i2] : List Value).toArray s 0 0 (va_A (cW cyI ad bd τ σ) s.heap.size)) (F0 m 0 ls []) from main _ _ hB
  clear hB
  intro H locs hB
  unfold mX2_numberOfJourney at hf
  refine lv_iload_n hx hb dX2_numberOfJourney_0 rfl (lv_at hl 2 rfl) ?_
  by_cases c1 : i2 = 0
  · have hf := ite_t c1 hf
    refine lv_tableIn (tgt := 40) (off := 39) hx hb dX2_numberOfJourney_1 (by rw [c1]; decide) (by rw [c1]; decide) (by rw [c1]; rfl) (by decide) ?_
    refine lv_aload_n hx hb dX2_numberOfJourney_40 rfl (lv_at hl 0 rfl) ?_
    refine g_get (C := RX2) (T := TX2) (N := 14) hx hb hts hinX2 hown hK hB 0 rfl rfl 5 rfl hq1 rfl rfl dX2_numberOfJourney_41 ?_
    refine lv_iload_n hx hb dX2_numberOfJourney_44 rfl (lv_at hl 1 rfl) ?_
    obtain ⟨x2, e9, hf⟩ := ob1_s hf
    refine g_iald hx hb hK hB 3 0 rfl rfl (rd_s e9) dX2_numberOfJourney_45 ?_
    have e0 := inj1 hf
    subst e0
    exact g_iret hx hb hr hlocks hK hB dX2_numberOfJourney_46
  · have hf := ite_f c1 hf
    by_cases c3 : i2 = 1
    · have hf := ite_t c3 hf
      refine lv_tableIn (tgt := 47) (off := 46) hx hb dX2_numberOfJourney_1 (by rw [c3]; decide) (by rw [c3]; decide) (by rw [c3]; rfl) (by decide) ?_
      refine lv_aload_n hx hb dX2_numberOfJourney_47 rfl (lv_at hl 0 rfl) ?_
      refine g_get (C := RX2) (T := TX2) (N := 14) hx hb hts hinX2 hown hK hB 0 rfl rfl 0 rfl hq2 rfl rfl dX2_numberOfJourney_48 ?_
      refine g_get (C := RX0) (T := TX0) (N := 17) hx hb hts hinX0 hown hK hB 12 rfl rfl 6 rfl hq3 rfl rfl dX2_numberOfJourney_51 ?_
      refine lv_iload_n hx hb dX2_numberOfJourney_54 rfl (lv_at hl 1 rfl) ?_
      obtain ⟨x4, e9, hf⟩ := ob1_s hf
      refine g_iald hx hb hK hB 15 0 rfl rfl (rd_s e9) dX2_numberOfJourney_55 ?_
      have e0 := inj1 hf
      subst e0
      exact g_iret hx hb hr hlocks hK hB dX2_numberOfJourney_56
    · have hf := ite_f c3 hf
      by_cases c5 : i2 = 2
      · have hf := ite_t c5 hf
        refine lv_tableIn (tgt := 57) (off := 56) hx hb dX2_numberOfJourney_1 (by rw [c5]; decide) (by rw [c5]; decide) (by rw [c5]; rfl) (by decide) ?_
        refine lv_aload_n hx hb dX2_numberOfJourney_57 rfl (lv_at hl 0 rfl) ?_
        refine g_get (C := RX2) (T := TX2) (N := 14) hx hb hts hinX2 hown hK hB 0 rfl rfl 0 rfl hq2 rfl rfl dX2_numberOfJourney_58 ?_
        refine g_get (C := RX0) (T := TX0) (N := 17) hx hb hts hinX0 hown hK hB 12 rfl rfl 7 rfl hq4 rfl rfl dX2_numberOfJourney_61 ?_
        refine lv_iload_n hx hb dX2_numberOfJourney_64 rfl (lv_at hl 1 rfl) ?_
        obtain ⟨x6, e9, hf⟩ := ob1_s hf
        refine g_iald hx hb hK hB 16 0 rfl rfl (rd_s e9) dX2_numberOfJourney_65 ?_
        have e0 := inj1 hf
        subst e0
        exact g_iret hx hb hr hlocks hK hB dX2_numberOfJourney_66
      · have hf := ite_f c5 hf
        by_cases c7 : i2 = 3
        · have hf := ite_t c7 hf
          refine lv_tableIn (tgt := 67) (off := 66) hx hb dX2_numberOfJourney_1 (by rw [c7]; decide) (by rw [c7]; decide) (by rw [c7]; rfl) (by decide) ?_
          refine lv_aload_n hx hb dX2_numberOfJourney_67 rfl (lv_at hl 0 rfl) ?_
          refine g_get (C := RX2) (T := TX2) (N := 14) hx hb hts hinX2 hown hK hB 0 rfl rfl 0 rfl hq2 rfl rfl dX2_numberOfJourney_68 ?_
          refine lv_iload_n hx hb dX2_numberOfJourney_71 rfl (lv_at hl 1 rfl) ?_
          obtain ⟨r8, hc, hf⟩ := ob1_s hf
          refine g_pcutVi (As := [.int i1]) (rest := []) (w2 := (cW cyI ad bd τ σ)) ⟨hx, hb, hml, hown, hts⟩ (kX0_stepsOf l dC dI cyI bd H.size hc) (cwV 1 hts gX2_numberOfJourney_X0_stepsOf rfl rfl rfl (by decide +kernel) ⟨Nat.le_of_ble_eq_true rfl, Nat.le_of_ble_eq_true rfl⟩) hK hB hA (g_recv (ci := 0) hK hB 12 rfl rfl rfl) (cW_perm cyI ad bd _ _) (cW_perm cyI ad bd _ _).symm rfl hl.1 rfl (Nat.le_of_ble_eq_true rfl) dX2_numberOfJourney_72 ⟨Nat.zero_le _, Nat.zero_le _⟩ (fun H locs hB => ?_)
          have e0 := inj1 hf
          subst e0
          exact g_iret hx hb hr hlocks hK hB dX2_numberOfJourney_75
        · have hf := ite_f c7 hf
          by_cases c9 : i2 = 4
          · have hf := ite_t c9 hf
            refine lv_tableIn (tgt := 76) (off := 75) hx hb dX2_numberOfJourney_1 (by rw [c9]; decide) (by rw [c9]; decide) (by rw [c9]; rfl) (by decide) ?_
            refine lv_aload_n hx hb dX2_numberOfJourney_76 rfl (lv_at hl 0 rfl) ?_
            refine g_get (C := RX2) (T := TX2) (N := 14) hx hb hts hinX2 hown hK hB 0 rfl rfl 5 rfl hq1 rfl rfl dX2_numberOfJourney_77 ?_
            refine lv_iload_n hx hb dX2_numberOfJourney_80 rfl (lv_at hl 1 rfl) ?_
            obtain ⟨x10, e9, hf⟩ := ob1_s hf
            refine g_iald hx hb hK hB 3 0 rfl rfl (rd_s e9) dX2_numberOfJourney_81 ?_
            refine lv_iconst (v := (1 : Int32)) hx hb dX2_numberOfJourney_82 (by decide) ?_
            obtain ⟨v11, hJ12, hf⟩ := ob1_s hf
            have kJ13 : ∀ (H : Heap) (locs : List Loc) (ls : Array Slot), Bd (dC, dI) [(cyI, .int)] (va_A (cW cyI ad bd τ σ) s.heap.size) s (cW cyI ad bd τ σ) H locs → lv_has ls 3 [] → W p l e (headSpec wsX2_numberOfJourney rmX2_numberOfJourney).room s m ([.ref (ad 0), .int i1, .int i2] : List Value).toArray below meth c H locs 0 0 (MQ below (QiF (dC, dI) [(cyI, .int)] (cW cyI ad bd τ σ) (cW cyI ad bd τ σ) s.heap.size r) ([.ref (ad 0), .int i1, .int i2] : List Value).toArray s 0 0 (va_A (cW cyI ad bd τ σ) s.heap.size)) (F0 m 96 ls [.int v11]) := by
              intro H locs ls hB hl
              have e0 := inj1 hf
              subst e0
              exact g_iret hx hb hr hlocks hK hB dX2_numberOfJourney_96
            refine lv_icmp_ne (tgt := 95) hx hb dX2_numberOfJourney_83 (by decide) (fun c14 => ?_) (fun c14 => ?_)
            · have hJ12 := ite_f c14 hJ12
              refine lv_iconst (v := (-1 : Int32)) hx hb dX2_numberOfJourney_95 (by decide) ?_
              have e0 := inj1 hJ12
              subst e0
              exact kJ13 _ _ _ hB (lv_sub hl [] rfl)
            · have hJ12 := ite_t c14 hJ12
              refine lv_aload_n hx hb dX2_numberOfJourney_86 rfl (lv_at hl 0 rfl) ?_
              refine g_get (C := RX2) (T := TX2) (N := 14) hx hb hts hinX2 hown hK hB 0 rfl rfl 6 rfl hq5 rfl rfl dX2_numberOfJourney_87 ?_
              refine lv_iload_n hx hb dX2_numberOfJourney_90 rfl (lv_at hl 1 rfl) ?_
              obtain ⟨x15, e9, hJ12⟩ := ob1_s hJ12
              refine g_iald hx hb hK hB 4 0 rfl rfl (rd_s e9) dX2_numberOfJourney_91 ?_
              refine lv_goto (tgt := 96) hx hb dX2_numberOfJourney_92 (by decide) ?_
              have e0 := inj1 hJ12
              subst e0
              exact kJ13 _ _ _ hB (lv_sub hl [] rfl)
          · have hf := ite_f c9 hf
            by_cases c16 : i2 = 5
            · have hf := ite_t c16 hf
              refine lv_tableIn (tgt := 97) (off := 96) hx hb dX2_numberOfJourney_1 (by rw [c16]; decide) (by rw [c16]; decide) (by rw [c16]; rfl) (by decide) ?_
              refine lv_aload_n hx hb dX2_numberOfJourney_97 rfl (lv_at hl 0 rfl) ?_
              refine lv_iload_n hx hb dX2_numberOfJourney_98 rfl (lv_at hl 1 rfl) ?_
              obtain ⟨r17, hc, hf⟩ := ob1_s hf
              refine g_callVz (As := [.int i1]) (rest := []) ⟨hx, hb, hml, hown, hts⟩ (kX2_rests l dC dI cyI ad bd H.size hc) (cwV 1 hts gX2_numberOfJourney_X2_rests rfl rfl rfl (by decide +kernel) ⟨Nat.le_of_ble_eq_true rfl, Nat.le_of_ble_eq_true rfl⟩) hK hB hA (g_recv (ci := 2) hK hB 0 rfl rfl rfl) rfl hl.1 rfl (Nat.le_of_ble_eq_true rfl) dX2_numberOfJourney_99 ⟨Nat.zero_le _, Nat.zero_le _⟩ (fun z18 H locs hB => ?_)
              obtain ⟨v19, hJ20, hf⟩ := ob1_s hf
              have kJ21 : ∀ (H : Heap) (locs : List Loc) (ls : Array Slot), Bd (dC, dI) [(cyI, .int)] (va_A (cW cyI ad bd τ σ) s.heap.size) s (cW cyI ad bd τ σ) H locs → lv_has ls 3 [] → W p l e (headSpec wsX2_numberOfJourney rmX2_numberOfJourney).room s m ([.ref (ad 0), .int i1, .int i2] : List Value).toArray below meth c H locs 0 0 (MQ below (QiF (dC, dI) [(cyI, .int)] (cW cyI ad bd τ σ) (cW cyI ad bd τ σ) s.heap.size r) ([.ref (ad 0), .int i1, .int i2] : List Value).toArray s 0 0 (va_A (cW cyI ad bd τ σ) s.heap.size)) (F0 m 115 ls [.int v19]) := by
                intro H locs ls hB hl
                have e0 := inj1 hf
                subst e0
                exact g_iret hx hb hr hlocks hK hB dX2_numberOfJourney_115
              refine lv_if_eq (tgt := 114) hx hb dX2_numberOfJourney_102 (by decide) (fun c22 => ?_) (fun c22 => ?_)
              · have hJ20 := ite_t c22 hJ20
                refine lv_iconst (v := (-1 : Int32)) hx hb dX2_numberOfJourney_114 (by decide) ?_
                have e0 := inj1 hJ20
                subst e0
                exact kJ21 _ _ _ hB (lv_sub hl [] rfl)
              · have hJ20 := ite_f c22 hJ20
                refine lv_aload_n hx hb dX2_numberOfJourney_105 rfl (lv_at hl 0 rfl) ?_
                refine g_get (C := RX2) (T := TX2) (N := 14) hx hb hts hinX2 hown hK hB 0 rfl rfl 7 rfl hq6 rfl rfl dX2_numberOfJourney_106 ?_
                refine lv_iload_n hx hb dX2_numberOfJourney_109 rfl (lv_at hl 1 rfl) ?_
                obtain ⟨x23, e9, hJ20⟩ := ob1_s hJ20
                refine g_iald hx hb hK hB 5 0 rfl rfl (rd_s e9) dX2_numberOfJourney_110 ?_
                refine lv_goto (tgt := 115) hx hb dX2_numberOfJourney_111 (by decide) ?_
                have e0 := inj1 hJ20
                subst e0
                exact kJ21 _ _ _ hB (lv_sub hl [] rfl)
            · have hf := ite_f c16 hf
              refine lv_tableOut (tgt := 116) hx hb dX2_numberOfJourney_1 (sw_out (n := 5) (by decide) (fun k hk q => by
                  rcases (show k = 0 ∨ k = 1 ∨ k = 2 ∨ k = 3 ∨ k = 4 ∨ k = 5 by omega) with rfl | rfl | rfl | rfl | rfl | rfl
                  · exact c1 (q.trans rfl)
                  · exact c3 (q.trans rfl)
                  · exact c5 (q.trans rfl)
                  · exact c7 (q.trans rfl)
                  · exact c9 (q.trans rfl)
                  · exact c16 (q.trans rfl)))
                (by decide) ?_
              refine lv_aload_n hx hb dX2_numberOfJourney_116 rfl (lv_at hl 0 rfl) ?_
              refine lv_iload_n hx hb dX2_numberOfJourney_117 rfl (lv_at hl 1 rfl) ?_
              obtain ⟨r24, hc, hf⟩ := ob1_s hf
              refine g_callVi (As := [.int i1]) (rest := []) ⟨hx, hb, hml, hown, hts⟩ (kX2_amountOwed l dC dI cyI ad bd H.size hc) (cwV 1 hts gX2_numberOfJourney_X2_amountOwed rfl rfl rfl (by decide +kernel) ⟨Nat.le_of_ble_eq_true rfl, Nat.le_of_ble_eq_true rfl⟩) hK hB hA (g_recv (ci := 2) hK hB 0 rfl rfl rfl) rfl hl.1 rfl (Nat.le_of_ble_eq_true rfl) dX2_numberOfJourney_118 ⟨Nat.zero_le _, Nat.zero_le _⟩ (fun H locs hB => ?_)
              have e0 := inj1 hf
              subst e0
              exact g_iret hx hb hr hlocks hK hB dX2_numberOfJourney_121

