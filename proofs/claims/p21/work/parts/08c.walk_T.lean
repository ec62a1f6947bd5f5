abbrev rmX4_below : Room := { frames := 0, cells := 0, slots := 0, locals := 0 }

set_option maxHeartbeats 4000000 in
set_option maxRecDepth 100000 in
theorem kX4_below (l : Launch) (dC : Nat → ClassId) (dI : Nat → Nat → Nat) (rn : Nat) (sz : Nat) {fu : Nat} {sd : MS} {i1 : Int32} {r : Int32} {sd_ : MS} (hf : mX4_below fu sd i1 = some (r, sd_)) : Met l yX4_below wsX4_below rmX4_below (PcF (dC, dI) [] (cN rn sd) sz [.ref rn, .int i1]) (QiF (dC, dI) [] (cN rn sd) (cN rn sd_) sz r) 0 0 (va_A (cN rn sd) sz) := by
  refine Met.ofW (cc := cX4_below) (maxL := 2) (ret := (some .int)) (by decide) rfl ?_
  intro p e s m args below meth c s₁ B hml hv
  obtain ⟨rfl, hsz, hP, hK, hD0⟩ := hv
  have hx := B.exec
  have hb := B.bytes
  have hr := B.returns
  have hts := atoms_spec (ws := wsX4_below) B.pre
  have hown : s.vm.findClass RX4 = some m.cls := findClass_of_methodNamed B.named
  have hlocks := B.notSynchronized
  subst hsz
  have hA : ∀ q : Nat, s.heap.size ≤ q → va_A (cN rn sd) s.heap.size q := fun q h => Or.inr h
  have hB : Bd (dC, dI) [] (va_A (cN rn sd) s.heap.size) s (cN rn sd) s.heap [] := ⟨hP, hD0.self, va_S.rf⟩
  have hq1 : (Cond.constant RX4 13 (1103515245)).before _ s = true := hts _ (List.mem_of_getElem? (i := 1) rfl)
  have hq2 : (Cond.fieldLink RX4 7 "UndoJourneysLaw$Random" "seed" "I").before _ s = true := hts _ (List.mem_of_getElem? (i := 2) rfl)
  have hinX4 : ∀ w ∈ wsX40, w ∈ wsX4_below := fun w h => List.mem_cons_of_mem _ (List.mem_append_right _ h)
  have hl := lv_entry [.ref rn, .int i1] (n := 2) (Nat.le_of_ble_eq_true rfl)
  rw [lg_entry_eq]
  generalize (lg_sl [.ref rn, .int i1] ++ List.replicate (2 - (lg_sl [.ref rn, .int i1]).length) Slot.unset).toArray = ls at hl ⊢
  have hl : lv_has ls 2 [(0, .ref rn), (1, .int i1)] := hl
  clear hP hD0
  suffices main : ∀ (H : Heap) (locs : List Loc), Bd (dC, dI) [] (va_A (cN rn sd) s.heap.size) s (cN rn sd) H locs → W p l e (headSpec wsX4_below rmX4_below).room s m ([.ref rn, .int i1] : List Value).toArray below meth c H locs 0 0 (MQ below (QiF (dC, dI) [] (cN rn sd) (cN rn sd_) s.heap.size r) ([.ref rn, .int i1] : List Value).toArray s 0 0 (va_A (cN rn sd) s.heap.size)) (F0 m 0 ls []) from main _ _ hB
  clear hB
  intro H locs hB
  unfold mX4_below at hf
  refine lv_aload_n hx hb dX4_below_0 rfl (lv_at hl 0 rfl) ?_
  refine lv_ldc (v := (1103515245 : Int32)) hx hb hown hq1 dX4_below_1 ?_
  refine lv_aload_n hx hb dX4_below_3 rfl (lv_at hl 0 rfl) ?_
  refine g_get (C := RX4) (T := TX4) (N := 1) hx hb hts hinX4 hown hK hB 0 rfl rfl 0 rfl hq2 rfl rfl dX4_below_4 ?_
  refine lv_imul hx hb dX4_below_7 ?_
  refine lv_sipush (v := (12345 : Int32)) hx hb dX4_below_8 (by decide) ?_
  refine lv_iadd hx hb dX4_below_11 ?_
  obtain ⟨sd1, e9, hf⟩ := ob1_s hf
  have e9 := inj1 e9
  refine g_put (C := RX4) (T := TX4) (N := 1) hx hb hts hinX4 tyX4 tyX4_ok nmX4 hown hK hB 0 rfl rfl 0 rfl hq2 rfl rfl rfl rfl rfl rfl dX4_below_12 (w2 := (cN rn sd1)) (by rw [← e9]; rfl) (fun H locs hB => ?_)
  refine lv_aload_n hx hb dX4_below_15 rfl (lv_at hl 0 rfl) ?_
  refine g_get (C := RX4) (T := TX4) (N := 1) hx hb hts hinX4 hown hK hB 0 rfl rfl 0 rfl hq2 rfl rfl dX4_below_16 ?_
  refine lv_bipush (v := (16 : Int32)) hx hb dX4_below_19 (by decide) ?_
  refine lv_iushr hx hb dX4_below_21 rfl ?_
  refine lv_iload_n hx hb dX4_below_22 rfl (lv_at hl 1 rfl) ?_
  obtain ⟨_, g2, hf⟩ := ob1_s hf
  refine lv_irem hx hb dX4_below_23 (gNz_s g2) ?_
  obtain ⟨e0, e1⟩ := inj2 hf
  subst e0
  subst e1
  exact g_iret hx hb hr hlocks hK hB dX4_below_24

abbrev rmX5_isOpen : Room := { frames := 0, cells := 0, slots := 0, locals := 0 }

set_option maxHeartbeats 4000000 in
set_option maxRecDepth 100000 in
theorem kX5_isOpen (l : Launch) (dC : Nat → ClassId) (dI : Nat → Nat → Nat) (cyI cyA : ClassId) (ta sa : Nat) (ra : PA) (sz : Nat) {fu : Nat} {N : Nat} {φ : MS} {ψ : MS} {r : Int32} (hf : mX5_isOpen fu N φ ψ = some r) : Met l yX5_isOpen wsX5_isOpen rmX5_isOpen (PcF (dC, dI) [(cyI, .int), (cyA, .array .int)] (cT cyI cyA ta sa ra N φ ψ) sz [.ref ta]) (QzF (dC, dI) [(cyI, .int), (cyA, .array .int)] (cT cyI cyA ta sa ra N φ ψ) (cT cyI cyA ta sa ra N φ ψ) sz r) 0 0 (va_A (cT cyI cyA ta sa ra N φ ψ) sz) := by
  refine Met.ofW (cc := cX5_isOpen) (maxL := 1) (ret := (some .boolean)) (by decide) rfl ?_
  intro p e s m args below meth c s₁ B hml hv
  obtain ⟨rfl, hsz, hP, hK, hD0⟩ := hv
  have hx := B.exec
  have hb := B.bytes
  have hr := B.returns
  have hts := atoms_spec (ws := wsX5_isOpen) B.pre
  have hown : s.vm.findClass RX5 = some m.cls := findClass_of_methodNamed B.named
  have hlocks := B.notSynchronized
  subst hsz
  have hA : ∀ q : Nat, s.heap.size ≤ q → va_A (cT cyI cyA ta sa ra N φ ψ) s.heap.size q := fun q h => Or.inr h
  have hB : Bd (dC, dI) [(cyI, .int), (cyA, .array .int)] (va_A (cT cyI cyA ta sa ra N φ ψ) s.heap.size) s (cT cyI cyA ta sa ra N φ ψ) s.heap [] := ⟨hP, hD0.self, va_S.rf⟩
  have hq1 : (Cond.fieldLink RX5 29 "UndoJourneysLaw$Trip" "state" "I").before _ s = true := hts _ (List.mem_of_getElem? (i := 1) rfl)
  have hinX5 : ∀ w ∈ wsX50, w ∈ wsX5_isOpen := fun w h => List.mem_cons_of_mem _ (List.mem_append_right _ h)
  have hl := lv_entry [.ref ta] (n := 1) (Nat.le_of_ble_eq_true rfl)
  rw [lg_entry_eq]
  generalize (lg_sl [.ref ta] ++ List.replicate (1 - (lg_sl [.ref ta]).length) Slot.unset).toArray = ls at hl ⊢
  have hl : lv_has ls 1 [(0, .ref ta)] := hl
  clear hP hD0
  suffices main : ∀ (H : Heap) (locs : List Loc), Bd (dC, dI) [(cyI, .int), (cyA, .array .int)] (va_A (cT cyI cyA ta sa ra N φ ψ) s.heap.size) s (cT cyI cyA ta sa ra N φ ψ) H locs → W p l e (headSpec wsX5_isOpen rmX5_isOpen).room s m ([.ref ta] : List Value).toArray below meth c H locs 0 0 (MQ below (QzF (dC, dI) [(cyI, .int), (cyA, .array .int)] (cT cyI cyA ta sa ra N φ ψ) (cT cyI cyA ta sa ra N φ ψ) s.heap.size r) ([.ref ta] : List Value).toArray s 0 0 (va_A (cT cyI cyA ta sa ra N φ ψ) s.heap.size)) (F0 m 0 ls []) from main _ _ hB
  clear hB
  intro H locs hB
  unfold mX5_isOpen at hf
  refine lv_aload_n hx hb dX5_isOpen_0 rfl (lv_at hl 0 rfl) ?_
  refine g_get (C := RX5) (T := TX5) (N := 7) hx hb hts hinX5 hown hK hB 0 rfl rfl 2 rfl hq1 rfl rfl dX5_isOpen_1 ?_
  refine lv_iconst (v := (3 : Int32)) hx hb dX5_isOpen_4 (by decide) ?_
  obtain ⟨v1, hJ3, hf⟩ := ob1_s hf
  have kJ4 : (v1 = 0 ∨ v1 = 1) → ∀ (H : Heap) (locs : List Loc) (ls : Array Slot), Bd (dC, dI) [(cyI, .int), (cyA, .array .int)] (va_A (cT cyI cyA ta sa ra N φ ψ) s.heap.size) s (cT cyI cyA ta sa ra N φ ψ) H locs → lv_has ls 1 [] → W p l e (headSpec wsX5_isOpen rmX5_isOpen).room s m ([.ref ta] : List Value).toArray below meth c H locs 0 0 (MQ below (QzF (dC, dI) [(cyI, .int), (cyA, .array .int)] (cT cyI cyA ta sa ra N φ ψ) (cT cyI cyA ta sa ra N φ ψ) s.heap.size r) ([.ref ta] : List Value).toArray s 0 0 (va_A (cT cyI cyA ta sa ra N φ ψ) s.heap.size)) (F0 m 21 ls [.int v1]) := by
    intro z2 H locs ls hB hl
    have e0 := inj1 hf
    subst e0
    exact g_zret hx hb hr hlocks hK hB z2 dX5_isOpen_21
  obtain ⟨t5, hD6, hJ3⟩ := ob1_s hJ3
  have kTt5 : t5 = true → ∀ (H : Heap) (locs : List Loc), Bd (dC, dI) [(cyI, .int), (cyA, .array .int)] (va_A (cT cyI cyA ta sa ra N φ ψ) s.heap.size) s (cT cyI cyA ta sa ra N φ ψ) H locs → W p l e (headSpec wsX5_isOpen rmX5_isOpen).room s m ([.ref ta] : List Value).toArray below meth c H locs 0 0 (MQ below (QzF (dC, dI) [(cyI, .int), (cyA, .array .int)] (cT cyI cyA ta sa ra N φ ψ) (cT cyI cyA ta sa ra N φ ψ) s.heap.size r) ([.ref ta] : List Value).toArray s 0 0 (va_A (cT cyI cyA ta sa ra N φ ψ) s.heap.size)) (F0 m 16 ls []) := by
    intro ht H locs hB
    have hJ3 := cnd_t ht hJ3
    refine lv_iconst (v := (1 : Int32)) hx hb dX5_isOpen_16 (by decide) ?_
    refine lv_goto (tgt := 21) hx hb dX5_isOpen_17 (by decide) ?_
    have e0 := inj1 hJ3
    subst e0
    exact kJ4 (Or.inr rfl) _ _ _ hB (lv_sub hl [] rfl)
  have kFt5 : t5 = false → ∀ (H : Heap) (locs : List Loc), Bd (dC, dI) [(cyI, .int), (cyA, .array .int)] (va_A (cT cyI cyA ta sa ra N φ ψ) s.heap.size) s (cT cyI cyA ta sa ra N φ ψ) H locs → W p l e (headSpec wsX5_isOpen rmX5_isOpen).room s m ([.ref ta] : List Value).toArray below meth c H locs 0 0 (MQ below (QzF (dC, dI) [(cyI, .int), (cyA, .array .int)] (cT cyI cyA ta sa ra N φ ψ) (cT cyI cyA ta sa ra N φ ψ) s.heap.size r) ([.ref ta] : List Value).toArray s 0 0 (va_A (cT cyI cyA ta sa ra N φ ψ) s.heap.size)) (F0 m 20 ls []) := by
    intro ht H locs hB
    have hJ3 := cnd_f ht hJ3
    refine lv_iconst (v := (0 : Int32)) hx hb dX5_isOpen_20 (by decide) ?_
    have e0 := inj1 hJ3
    subst e0
    exact kJ4 (Or.inl rfl) _ _ _ hB (lv_sub hl [] rfl)
  refine lv_icmp_eq (tgt := 20) hx hb dX5_isOpen_5 (by decide) (fun c7 => ?_) (fun c7 => ?_)
  · have hD6 := ite_t c7 hD6
    have e0 := inj1 hD6
    exact kFt5 e0.symm _ _ hB
  · have hD6 := ite_f c7 hD6
    refine lv_aload_n hx hb dX5_isOpen_8 rfl (lv_at hl 0 rfl) ?_
    refine g_get (C := RX5) (T := TX5) (N := 7) hx hb hts hinX5 hown hK hB 0 rfl rfl 2 rfl hq1 rfl rfl dX5_isOpen_9 ?_
    refine lv_iconst (v := (4 : Int32)) hx hb dX5_isOpen_12 (by decide) ?_
    refine lv_icmp_eq (tgt := 20) hx hb dX5_isOpen_13 (by decide) (fun c8 => ?_) (fun c8 => ?_)
    · have hD6 := ite_t c8 hD6
      have e0 := inj1 hD6
      exact kFt5 e0.symm _ _ hB
    · have hD6 := ite_f c8 hD6
      have e0 := inj1 hD6
      exact kTt5 e0.symm _ _ hB

abbrev rmX5_holds : Room := { frames := 1, cells := 0, slots := 0, locals := 20 }

set_option maxHeartbeats 4000000 in
set_option maxRecDepth 100000 in
theorem kX5_holds (l : Launch) (dC : Nat → ClassId) (dI : Nat → Nat → Nat) (cyI cyA : ClassId) (ta sa : Nat) (ra : PA) (sz : Nat) {fu : Nat} {N : Nat} {φ : MS} {ψ : MS} {i1 : Int32} {r : Int32} (hf : mX5_holds fu N φ ψ i1 = some r) : Met l yX5_holds wsX5_holds rmX5_holds (PcF (dC, dI) [(cyI, .int), (cyA, .array .int)] (cT cyI cyA ta sa ra N φ ψ) sz [.ref ta, .int i1]) (QzF (dC, dI) [(cyI, .int), (cyA, .array .int)] (cT cyI cyA ta sa ra N φ ψ) (cT cyI cyA ta sa ra N φ ψ) sz r) 0 0 (va_A (cT cyI cyA ta sa ra N φ ψ) sz) := by
  refine Met.ofW (cc := cX5_holds) (maxL := 7) (ret := (some .boolean)) (by decide) rfl ?_
  intro p e s m args below meth c s₁ B hml hv
  obtain ⟨rfl, hsz, hP, hK, hD0⟩ := hv
  have hx := B.exec
  have hb := B.bytes
  have hr := B.returns
  have hts := atoms_spec (ws := wsX5_holds) B.pre
  have hown : s.vm.findClass RX5 = some m.cls := findClass_of_methodNamed B.named
  have hlocks := B.notSynchronized
  subst hsz
  have hA : ∀ q : Nat, s.heap.size ≤ q → va_A (cT cyI cyA ta sa ra N φ ψ) s.heap.size q := fun q h => Or.inr h
  have hB : Bd (dC, dI) [(cyI, .int), (cyA, .array .int)] (va_A (cT cyI cyA ta sa ra N φ ψ) s.heap.size) s (cT cyI cyA ta sa ra N φ ψ) s.heap [] := ⟨hP, hD0.self, va_S.rf⟩
  have hq1 : (Cond.fieldLink RX5 18 "UndoJourneysLaw$Trip" "steps" "[[I").before _ s = true := hts _ (List.mem_of_getElem? (i := 1) rfl)
  have hinX5 : ∀ w ∈ wsX50, w ∈ wsX5_holds := fun w h => List.mem_cons_of_mem _ (List.mem_append_right _ h)
  have hl := lv_entry [.ref ta, .int i1] (n := 7) (Nat.le_of_ble_eq_true rfl)
  rw [lg_entry_eq]
  generalize (lg_sl [.ref ta, .int i1] ++ List.replicate (7 - (lg_sl [.ref ta, .int i1]).length) Slot.unset).toArray = ls at hl ⊢
  have hl : lv_has ls 7 [(0, .ref ta), (1, .int i1)] := hl
  clear hP hD0
  suffices main : ∀ (H : Heap) (locs : List Loc), Bd (dC, dI) [(cyI, .int), (cyA, .array .int)] (va_A (cT cyI cyA ta sa ra N φ ψ) s.heap.size) s (cT cyI cyA ta sa ra N φ ψ) H locs → W p l e (headSpec wsX5_holds rmX5_holds).room s m ([.ref ta, .int i1] : List Value).toArray below meth c H locs 0 0 (MQ below (QzF (dC, dI) [(cyI, .int), (cyA, .array .int)] (cT cyI cyA ta sa ra N φ ψ) (cT cyI cyA ta sa ra N φ ψ) s.heap.size r) ([.ref ta, .int i1] : List Value).toArray s 0 0 (va_A (cT cyI cyA ta sa ra N φ ψ) s.heap.size)) (F0 m 0 ls []) from main _ _ hB
  clear hB
  intro H locs hB
  unfold mX5_holds at hf
  refine lv_iconst (v := (0 : Int32)) hx hb dX5_holds_0 (by decide) ?_
  refine lv_istore_n (lv' := [(2, .int (0 : Int32)), (0, .ref ta), (1, .int i1)]) hx hb dX5_holds_1 rfl hl (by decide) rfl (fun ls hl => ?_)
  refine lv_aload_n hx hb dX5_holds_2 rfl (lv_at hl 1 rfl) ?_
  refine g_get (C := RX5) (T := TX5) (N := 7) hx hb hts hinX5 hown hK hB 0 rfl rfl 6 rfl hq1 rfl rfl dX5_holds_3 ?_
  refine lv_astore_n (lv' := [(3, .ref sa), (2, .int (0 : Int32)), (0, .ref ta), (1, .int i1)]) hx hb dX5_holds_6 rfl hl (by decide) rfl (fun ls hl => ?_)
  refine lv_aload_n hx hb dX5_holds_7 rfl (lv_at hl 0 rfl) ?_
  refine g_alen hx hb hK hB 1 1 rfl rfl (v := (nI N)) rfl dX5_holds_8 ?_
  refine lv_istore (lv' := [(4, .int (nI N)), (3, .ref sa), (2, .int (0 : Int32)), (0, .ref ta), (1, .int i1)]) hx hb dX5_holds_9 hl (by decide) rfl (fun ls hl => ?_)
  refine lv_iconst (v := (0 : Int32)) hx hb dX5_holds_11 (by decide) ?_
  refine lv_istore (lv' := [(5, .int (0 : Int32)), (4, .int (nI N)), (3, .ref sa), (2, .int (0 : Int32)), (0, .ref ta), (1, .int i1)]) hx hb dX5_holds_12 hl (by decide) rfl (fun ls hl => ?_)
  obtain ⟨v21, hL24, hf⟩ := ob1_s hf
  have kE22 : ∀ (H : Heap) (locs : List Loc) (ls : Array Slot), Bd (dC, dI) [(cyI, .int), (cyA, .array .int)] (va_A (cT cyI cyA ta sa ra N φ ψ) s.heap.size) s (cT cyI cyA ta sa ra N φ ψ) H locs → lv_has ls 7 [(2, .int v21), (0, .ref ta)] → W p l e (headSpec wsX5_holds rmX5_holds).room s m ([.ref ta, .int i1] : List Value).toArray below meth c H locs 0 0 (MQ below (QzF (dC, dI) [(cyI, .int), (cyA, .array .int)] (cT cyI cyA ta sa ra N φ ψ) (cT cyI cyA ta sa ra N φ ψ) s.heap.size r) ([.ref ta, .int i1] : List Value).toArray s 0 0 (va_A (cT cyI cyA ta sa ra N φ ψ) s.heap.size)) (F0 m 65 ls []) := by
    intro H locs ls hB hl
    refine lv_iload_n hx hb dX5_holds_65 rfl (lv_at hl 0 rfl) ?_
    obtain ⟨v26, hJ28, hf⟩ := ob1_s hf
    have kJ29 : (v26 = 0 ∨ v26 = 1) → ∀ (H : Heap) (locs : List Loc) (ls : Array Slot), Bd (dC, dI) [(cyI, .int), (cyA, .array .int)] (va_A (cT cyI cyA ta sa ra N φ ψ) s.heap.size) s (cT cyI cyA ta sa ra N φ ψ) H locs → lv_has ls 7 [] → W p l e (headSpec wsX5_holds rmX5_holds).room s m ([.ref ta, .int i1] : List Value).toArray below meth c H locs 0 0 (MQ below (QzF (dC, dI) [(cyI, .int), (cyA, .array .int)] (cT cyI cyA ta sa ra N φ ψ) (cT cyI cyA ta sa ra N φ ψ) s.heap.size r) ([.ref ta, .int i1] : List Value).toArray s 0 0 (va_A (cT cyI cyA ta sa ra N φ ψ) s.heap.size)) (F0 m 81 ls [.int v26]) := by
      intro z27 H locs ls hB hl
      have e0 := inj1 hf
      subst e0
      exact g_zret hx hb hr hlocks hK hB z27 dX5_holds_81
    obtain ⟨t30, hD31, hJ28⟩ := ob1_s hJ28
    have kTt30 : t30 = true → ∀ (H : Heap) (locs : List Loc), Bd (dC, dI) [(cyI, .int), (cyA, .array .int)] (va_A (cT cyI cyA ta sa ra N φ ψ) s.heap.size) s (cT cyI cyA ta sa ra N φ ψ) H locs → W p l e (headSpec wsX5_holds rmX5_holds).room s m ([.ref ta, .int i1] : List Value).toArray below meth c H locs 0 0 (MQ below (QzF (dC, dI) [(cyI, .int), (cyA, .array .int)] (cT cyI cyA ta sa ra N φ ψ) (cT cyI cyA ta sa ra N φ ψ) s.heap.size r) ([.ref ta, .int i1] : List Value).toArray s 0 0 (va_A (cT cyI cyA ta sa ra N φ ψ) s.heap.size)) (F0 m 76 ls []) := by
      intro ht H locs hB
      have hJ28 := cnd_t ht hJ28
      refine lv_iconst (v := (1 : Int32)) hx hb dX5_holds_76 (by decide) ?_
      refine lv_goto (tgt := 81) hx hb dX5_holds_77 (by decide) ?_
      have e0 := inj1 hJ28
      subst e0
      exact kJ29 (Or.inr rfl) _ _ _ hB (lv_sub hl [] rfl)
    have kFt30 : t30 = false → ∀ (H : Heap) (locs : List Loc), Bd (dC, dI) [(cyI, .int), (cyA, .array .int)] (va_A (cT cyI cyA ta sa ra N φ ψ) s.heap.size) s (cT cyI cyA ta sa ra N φ ψ) H locs → W p l e (headSpec wsX5_holds rmX5_holds).room s m ([.ref ta, .int i1] : List Value).toArray below meth c H locs 0 0 (MQ below (QzF (dC, dI) [(cyI, .int), (cyA, .array .int)] (cT cyI cyA ta sa ra N φ ψ) (cT cyI cyA ta sa ra N φ ψ) s.heap.size r) ([.ref ta, .int i1] : List Value).toArray s 0 0 (va_A (cT cyI cyA ta sa ra N φ ψ) s.heap.size)) (F0 m 80 ls []) := by
      intro ht H locs hB
      have hJ28 := cnd_f ht hJ28
      refine lv_iconst (v := (0 : Int32)) hx hb dX5_holds_80 (by decide) ?_
      have e0 := inj1 hJ28
      subst e0
      exact kJ29 (Or.inl rfl) _ _ _ hB (lv_sub hl [] rfl)
    refine lv_if_eq (tgt := 80) hx hb dX5_holds_66 (by decide) (fun c32 => ?_) (fun c32 => ?_)
    · have hD31 := ite_t c32 hD31
      have e0 := inj1 hD31
      exact kFt30 e0.symm _ _ hB
    · have hD31 := ite_f c32 hD31
      refine lv_aload_n hx hb dX5_holds_69 rfl (lv_at hl 1 rfl) ?_
      obtain ⟨r33, hc, hD31⟩ := ob1_s hD31
      refine g_callVz (As := []) (rest := []) ⟨hx, hb, hml, hown, hts⟩ (kX5_isOpen l dC dI cyI cyA ta sa ra H.size hc) (cwV 0 hts gX5_holds_X5_isOpen rfl rfl rfl (by decide +kernel) ⟨Nat.le_of_ble_eq_true rfl, Nat.le_of_ble_eq_true rfl⟩) hK hB hA (g_recv (ci := 5) hK hB 0 rfl rfl rfl) rfl hl.1 rfl (Nat.le_of_ble_eq_true rfl) dX5_holds_70 ⟨Nat.zero_le _, Nat.zero_le _⟩ (fun z34 H locs hB => ?_)
      refine lv_if_eq (tgt := 80) hx hb dX5_holds_73 (by decide) (fun c35 => ?_) (fun c35 => ?_)
      · have hD31 := ite_t c35 hD31
        have e0 := inj1 hD31
        exact kFt30 e0.symm _ _ hB
      · have hD31 := ite_f c35 hD31
        have e0 := inj1 hD31
        exact kTt30 e0.symm _ _ hB
  have key23 : ∀ (n9 : Nat) (v37 : Int32) (v38 : Int32) (H : Heap) (locs : List Loc) (ls : Array Slot), loopM (fun st => mX5_holds_L14 fu N (nI N) i1 φ ψ st.1 st.2) n9 (v37, v38) = some v21 → Bd (dC, dI) [(cyI, .int), (cyA, .array .int)] (va_A (cT cyI cyA ta sa ra N φ ψ) s.heap.size) s (cT cyI cyA ta sa ra N φ ψ) H locs → lv_has ls 7 [(5, .int v37), (4, .int (nI N)), (3, .ref sa), (2, .int v38), (0, .ref ta), (1, .int i1)] → W p l e (headSpec wsX5_holds rmX5_holds).room s m ([.ref ta, .int i1] : List Value).toArray below meth c H locs 0 0 (MQ below (QzF (dC, dI) [(cyI, .int), (cyA, .array .int)] (cT cyI cyA ta sa ra N φ ψ) (cT cyI cyA ta sa ra N φ ψ) s.heap.size r) ([.ref ta, .int i1] : List Value).toArray s 0 0 (va_A (cT cyI cyA ta sa ra N φ ψ) s.heap.size)) (F0 m 14 ls []) := by
    intro n9
    induction n9 with
    | zero => intro v37 v38 H locs ls hL24; exact (loopM_z hL24).elim
    | succ n9 ih9 =>
      intro v37 v38 H locs ls hL24 hB hl
      obtain ⟨o39, hg25, hL24⟩ := loopM_s hL24
      have hg25 : mX5_holds_L14 fu N (nI N) i1 φ ψ v37 v38 = some o39 := hg25
      unfold mX5_holds_L14 at hg25
      refine lv_iload hx hb dX5_holds_14 (lv_at hl 0 rfl) ?_
      refine lv_iload hx hb dX5_holds_16 (lv_at hl 1 rfl) ?_
      refine lv_icmp_ge (tgt := 65) hx hb dX5_holds_18 (by decide) (fun c40 => ?_) (fun c40 => ?_)
      · have hg25 := ite_t c40 hg25
        have hL24 := el1_l (inj1 hg25) hL24
        have e0 := inj1 hL24
        subst e0
        exact kE22 _ _ _ hB (lv_sub hl [3, 4] rfl)
      · have hg25 := ite_f c40 hg25
        refine lv_aload_n hx hb dX5_holds_21 rfl (lv_at hl 2 rfl) ?_
        refine lv_iload hx hb dX5_holds_22 (lv_at hl 0 rfl) ?_
        obtain ⟨j41, e9, hg25⟩ := ob1_s hg25
        obtain ⟨h_j41, e9⟩ := hixn_s e9
        refine g_aald hx hb hK hB 1 1 rfl rfl e9 dX5_holds_24 ?_
        refine lv_astore (lv' := [(6, .ref (ra j41)), (5, .int v37), (4, .int (nI N)), (3, .ref sa), (2, .int v38), (0, .ref ta), (1, .int i1)]) hx hb dX5_holds_25 hl (by decide) rfl (fun ls hl => ?_)
        refine lv_iload_n hx hb dX5_holds_27 rfl (lv_at hl 4 rfl) ?_
        refine lv_aload hx hb dX5_holds_28 (lv_at hl 0 rfl) ?_
        refine lv_iconst (v := (1 : Int32)) hx hb dX5_holds_30 (by decide) ?_
        obtain ⟨x42, e9, hg25⟩ := ob1_s hg25
        refine g_iald hx hb hK hB (2 + j41) 0 (cT_row0 cyI cyA ta sa ra N φ ψ h_j41) rfl (rd_s e9) dX5_holds_31 ?_
        refine lv_iload_n hx hb dX5_holds_32 rfl (lv_at hl 6 rfl) ?_
        obtain ⟨v43, hJ45, hg25⟩ := ob1_s hg25
        have kJ46 : (v43 = 0 ∨ v43 = 1) → ∀ (H : Heap) (locs : List Loc) (ls : Array Slot), Bd (dC, dI) [(cyI, .int), (cyA, .array .int)] (va_A (cT cyI cyA ta sa ra N φ ψ) s.heap.size) s (cT cyI cyA ta sa ra N φ ψ) H locs → lv_has ls 7 [(5, .int v37), (4, .int (nI N)), (3, .ref sa), (0, .ref ta), (1, .int i1)] → W p l e (headSpec wsX5_holds rmX5_holds).room s m ([.ref ta, .int i1] : List Value).toArray below meth c H locs 0 0 (MQ below (QzF (dC, dI) [(cyI, .int), (cyA, .array .int)] (cT cyI cyA ta sa ra N φ ψ) (cT cyI cyA ta sa ra N φ ψ) s.heap.size r) ([.ref ta, .int i1] : List Value).toArray s 0 0 (va_A (cT cyI cyA ta sa ra N φ ψ) s.heap.size)) (F0 m 57 ls [.int v43, .int v38]) := by
          intro z44 H locs ls hB hl
          refine lv_ior hx hb dX5_holds_57 ?_
          refine lv_istore_n (lv' := [(2, .int (v38 ||| v43)), (5, .int v37), (4, .int (nI N)), (3, .ref sa), (0, .ref ta), (1, .int i1)]) hx hb dX5_holds_58 rfl hl (by decide) rfl (fun ls hl => ?_)
          refine lv_iinc (v := (v37 + (1 : Int32))) (lv' := [(5, .int (v37 + (1 : Int32))), (2, .int (v38 ||| v43)), (4, .int (nI N)), (3, .ref sa), (0, .ref ta), (1, .int i1)]) hx hb dX5_holds_59 hl (k := 1) rfl rfl (by decide) rfl (fun ls hl => ?_)
          refine lv_goto (tgt := 14) hx hb dX5_holds_62 (by decide) ?_
          have hL24 := el1_r (inj1 hg25) hL24
          exact ih9 _ _ _ _ _ hL24 hB (lv_sub hl [0, 2, 3, 1, 4, 5] rfl)
        obtain ⟨t47, hD48, hJ45⟩ := ob1_s hJ45
        have kTt47 : t47 = true → ∀ (H : Heap) (locs : List Loc), Bd (dC, dI) [(cyI, .int), (cyA, .array .int)] (va_A (cT cyI cyA ta sa ra N φ ψ) s.heap.size) s (cT cyI cyA ta sa ra N φ ψ) H locs → W p l e (headSpec wsX5_holds rmX5_holds).room s m ([.ref ta, .int i1] : List Value).toArray below meth c H locs 0 0 (MQ below (QzF (dC, dI) [(cyI, .int), (cyA, .array .int)] (cT cyI cyA ta sa ra N φ ψ) (cT cyI cyA ta sa ra N φ ψ) s.heap.size r) ([.ref ta, .int i1] : List Value).toArray s 0 0 (va_A (cT cyI cyA ta sa ra N φ ψ) s.heap.size)) (F0 m 52 ls [.int v38]) := by
          intro ht H locs hB
          have hJ45 := cnd_t ht hJ45
          refine lv_iconst (v := (1 : Int32)) hx hb dX5_holds_52 (by decide) ?_
          refine lv_goto (tgt := 57) hx hb dX5_holds_53 (by decide) ?_
          have e0 := inj1 hJ45
          subst e0
          exact kJ46 (Or.inr rfl) _ _ _ hB (lv_sub hl [1, 2, 3, 5, 6] rfl)
        have kFt47 : t47 = false → ∀ (H : Heap) (locs : List Loc), Bd (dC, dI) [(cyI, .int), (cyA, .array .int)] (va_A (cT cyI cyA ta sa ra N φ ψ) s.heap.size) s (cT cyI cyA ta sa ra N φ ψ) H locs → W p l e (headSpec wsX5_holds rmX5_holds).room s m ([.ref ta, .int i1] : List Value).toArray below meth c H locs 0 0 (MQ below (QzF (dC, dI) [(cyI, .int), (cyA, .array .int)] (cT cyI cyA ta sa ra N φ ψ) (cT cyI cyA ta sa ra N φ ψ) s.heap.size r) ([.ref ta, .int i1] : List Value).toArray s 0 0 (va_A (cT cyI cyA ta sa ra N φ ψ) s.heap.size)) (F0 m 56 ls [.int v38]) := by
          intro ht H locs hB
          have hJ45 := cnd_f ht hJ45
          refine lv_iconst (v := (0 : Int32)) hx hb dX5_holds_56 (by decide) ?_
          have e0 := inj1 hJ45
          subst e0
          exact kJ46 (Or.inl rfl) _ _ _ hB (lv_sub hl [1, 2, 3, 5, 6] rfl)
        refine lv_icmp_ne (tgt := 56) hx hb dX5_holds_33 (by decide) (fun c49 => ?_) (fun c49 => ?_)
        · have hD48 := ite_f c49 hD48
          have e0 := inj1 hD48
          exact kFt47 e0.symm _ _ hB
        · have hD48 := ite_t c49 hD48
          refine lv_aload hx hb dX5_holds_36 (lv_at hl 0 rfl) ?_
          refine lv_iconst (v := (4 : Int32)) hx hb dX5_holds_38 (by decide) ?_
          obtain ⟨x50, e9, hD48⟩ := ob1_s hD48
          refine g_iald hx hb hK hB (2 + j41) 0 (cT_row0 cyI cyA ta sa ra N φ ψ h_j41) rfl (rd_s e9) dX5_holds_39 ?_
          refine lv_iconst (v := (2 : Int32)) hx hb dX5_holds_40 (by decide) ?_
          refine lv_icmp_eq (tgt := 52) hx hb dX5_holds_41 (by decide) (fun c51 => ?_) (fun c51 => ?_)
          · have hD48 := ite_t c51 hD48
            have e0 := inj1 hD48
            exact kTt47 e0.symm _ _ hB
          · have hD48 := ite_f c51 hD48
            refine lv_aload hx hb dX5_holds_44 (lv_at hl 0 rfl) ?_
            refine lv_iconst (v := (4 : Int32)) hx hb dX5_holds_46 (by decide) ?_
            obtain ⟨x52, e9, hD48⟩ := ob1_s hD48
            refine g_iald hx hb hK hB (2 + j41) 0 (cT_row0 cyI cyA ta sa ra N φ ψ h_j41) rfl (rd_s e9) dX5_holds_47 ?_
            refine lv_iconst (v := (3 : Int32)) hx hb dX5_holds_48 (by decide) ?_
            refine lv_icmp_ne (tgt := 56) hx hb dX5_holds_49 (by decide) (fun c53 => ?_) (fun c53 => ?_)
            · have hD48 := ite_f c53 hD48
              have e0 := inj1 hD48
              exact kFt47 e0.symm _ _ hB
            · have hD48 := ite_t c53 hD48
              have e0 := inj1 hD48
              exact kTt47 e0.symm _ _ hB
  exact key23 fu _ _ _ _ _ hL24 hB (lv_sub hl [0, 1, 2, 3, 4, 5] rfl)

abbrev rmX5_count : Room := { frames := 0, cells := 0, slots := 0, locals := 0 }

set_option maxHeartbeats 4000000 in
set_option maxRecDepth 100000 in
theorem kX5_count (l : Launch) (dC : Nat → ClassId) (dI : Nat → Nat → Nat) (cyI cyA : ClassId) (ta sa : Nat) (ra : PA) (sz : Nat) {fu : Nat} {N : Nat} {φ : MS} {ψ : MS} {i1 : Int32} {i2 : Int32} {r : Int32} (hf : mX5_count fu N φ ψ i1 i2 = some r) : Met l yX5_count wsX5_count rmX5_count (PcF (dC, dI) [(cyI, .int), (cyA, .array .int)] (cT cyI cyA ta sa ra N φ ψ) sz [.ref ta, .int i1, .int i2]) (QiF (dC, dI) [(cyI, .int), (cyA, .array .int)] (cT cyI cyA ta sa ra N φ ψ) (cT cyI cyA ta sa ra N φ ψ) sz r) 0 0 (va_A (cT cyI cyA ta sa ra N φ ψ) sz) := by
  refine Met.ofW (cc := cX5_count) (maxL := 8) (ret := (some .int)) (by decide) rfl ?_
  intro p e s m args below meth c s₁ B hml hv
  obtain ⟨rfl, hsz, hP, hK, hD0⟩ := hv
  have hx := B.exec
  have hb := B.bytes
  have hr := B.returns
  have hts := atoms_spec (ws := wsX5_count) B.pre
  have hown : s.vm.findClass RX5 = some m.cls := findClass_of_methodNamed B.named
  have hlocks := B.notSynchronized
  subst hsz
  have hA : ∀ q : Nat, s.heap.size ≤ q → va_A (cT cyI cyA ta sa ra N φ ψ) s.heap.size q := fun q h => Or.inr h
  have hB : Bd (dC, dI) [(cyI, .int), (cyA, .array .int)] (va_A (cT cyI cyA ta sa ra N φ ψ) s.heap.size) s (cT cyI cyA ta sa ra N φ ψ) s.heap [] := ⟨hP, hD0.self, va_S.rf⟩
  have hq1 : (Cond.fieldLink RX5 18 "UndoJourneysLaw$Trip" "steps" "[[I").before _ s = true := hts _ (List.mem_of_getElem? (i := 1) rfl)
  have hinX5 : ∀ w ∈ wsX50, w ∈ wsX5_count := fun w h => List.mem_cons_of_mem _ (List.mem_append_right _ h)
  have hl := lv_entry [.ref ta, .int i1, .int i2] (n := 8) (Nat.le_of_ble_eq_true rfl)
  rw [lg_entry_eq]
  generalize (lg_sl [.ref ta, .int i1, .int i2] ++ List.replicate (8 - (lg_sl [.ref ta, .int i1, .int i2]).length) Slot.unset).toArray = ls at hl ⊢
  have hl : lv_has ls 8 [(0, .ref ta), (1, .int i1), (2, .int i2)] := hl
  clear hP hD0
  suffices main : ∀ (H : Heap) (locs : List Loc), Bd (dC, dI) [(cyI, .int), (cyA, .array .int)] (va_A (cT cyI cyA ta sa ra N φ ψ) s.heap.size) s (cT cyI cyA ta sa ra N φ ψ) H locs → W p l e (headSpec wsX5_count rmX5_count).room s m ([.ref ta, .int i1, .int i2] : List Value).toArray below meth c H locs 0 0 (MQ below (QiF (dC, dI) [(cyI, .int), (cyA, .array .int)] (cT cyI cyA ta sa ra N φ ψ) (cT cyI cyA ta sa ra N φ ψ) s.heap.size r) ([.ref ta, .int i1, .int i2] : List Value).toArray s 0 0 (va_A (cT cyI cyA ta sa ra N φ ψ) s.heap.size)) (F0 m 0 ls []) from main _ _ hB
  clear hB
  intro H locs hB
  unfold mX5_count at hf
  refine lv_iconst (v := (0 : Int32)) hx hb dX5_count_0 (by decide) ?_
  refine lv_istore_n (lv' := [(3, .int (0 : Int32)), (0, .ref ta), (1, .int i1), (2, .int i2)]) hx hb dX5_count_1 rfl hl (by decide) rfl (fun ls hl => ?_)
  refine lv_aload_n hx hb dX5_count_2 rfl (lv_at hl 1 rfl) ?_
  refine g_get (C := RX5) (T := TX5) (N := 7) hx hb hts hinX5 hown hK hB 0 rfl rfl 6 rfl hq1 rfl rfl dX5_count_3 ?_
  refine lv_astore (lv' := [(4, .ref sa), (3, .int (0 : Int32)), (0, .ref ta), (1, .int i1), (2, .int i2)]) hx hb dX5_count_6 hl (by decide) rfl (fun ls hl => ?_)
  refine lv_aload hx hb dX5_count_8 (lv_at hl 0 rfl) ?_
  refine g_alen hx hb hK hB 1 1 rfl rfl (v := (nI N)) rfl dX5_count_10 ?_
  refine lv_istore (lv' := [(5, .int (nI N)), (4, .ref sa), (3, .int (0 : Int32)), (0, .ref ta), (1, .int i1), (2, .int i2)]) hx hb dX5_count_11 hl (by decide) rfl (fun ls hl => ?_)
  refine lv_iconst (v := (0 : Int32)) hx hb dX5_count_13 (by decide) ?_
  refine lv_istore (lv' := [(6, .int (0 : Int32)), (5, .int (nI N)), (4, .ref sa), (3, .int (0 : Int32)), (0, .ref ta), (1, .int i1), (2, .int i2)]) hx hb dX5_count_14 hl (by decide) rfl (fun ls hl => ?_)
  obtain ⟨v19, hL22, hf⟩ := ob1_s hf
  have kE20 : ∀ (H : Heap) (locs : List Loc) (ls : Array Slot), Bd (dC, dI) [(cyI, .int), (cyA, .array .int)] (va_A (cT cyI cyA ta sa ra N φ ψ) s.heap.size) s (cT cyI cyA ta sa ra N φ ψ) H locs → lv_has ls 8 [(3, .int v19)] → W p l e (headSpec wsX5_count rmX5_count).room s m ([.ref ta, .int i1, .int i2] : List Value).toArray below meth c H locs 0 0 (MQ below (QiF (dC, dI) [(cyI, .int), (cyA, .array .int)] (cT cyI cyA ta sa ra N φ ψ) (cT cyI cyA ta sa ra N φ ψ) s.heap.size r) ([.ref ta, .int i1, .int i2] : List Value).toArray s 0 0 (va_A (cT cyI cyA ta sa ra N φ ψ) s.heap.size)) (F0 m 55 ls []) := by
    intro H locs ls hB hl
    refine lv_iload_n hx hb dX5_count_55 rfl (lv_at hl 0 rfl) ?_
    have e0 := inj1 hf
    subst e0
    exact g_iret hx hb hr hlocks hK hB dX5_count_56
  have key21 : ∀ (n9 : Nat) (v25 : Int32) (v26 : Int32) (H : Heap) (locs : List Loc) (ls : Array Slot), loopM (fun st => mX5_count_L16 fu N (nI N) i1 i2 φ ψ st.1 st.2) n9 (v25, v26) = some v19 → Bd (dC, dI) [(cyI, .int), (cyA, .array .int)] (va_A (cT cyI cyA ta sa ra N φ ψ) s.heap.size) s (cT cyI cyA ta sa ra N φ ψ) H locs → lv_has ls 8 [(6, .int v25), (5, .int (nI N)), (4, .ref sa), (3, .int v26), (1, .int i1), (2, .int i2)] → W p l e (headSpec wsX5_count rmX5_count).room s m ([.ref ta, .int i1, .int i2] : List Value).toArray below meth c H locs 0 0 (MQ below (QiF (dC, dI) [(cyI, .int), (cyA, .array .int)] (cT cyI cyA ta sa ra N φ ψ) (cT cyI cyA ta sa ra N φ ψ) s.heap.size r) ([.ref ta, .int i1, .int i2] : List Value).toArray s 0 0 (va_A (cT cyI cyA ta sa ra N φ ψ) s.heap.size)) (F0 m 16 ls []) := by
    intro n9
    induction n9 with
    | zero => intro v25 v26 H locs ls hL22; exact (loopM_z hL22).elim
    | succ n9 ih9 =>
      intro v25 v26 H locs ls hL22 hB hl
      obtain ⟨o27, hg23, hL22⟩ := loopM_s hL22
      have hg23 : mX5_count_L16 fu N (nI N) i1 i2 φ ψ v25 v26 = some o27 := hg23
      unfold mX5_count_L16 at hg23
      refine lv_iload hx hb dX5_count_16 (lv_at hl 0 rfl) ?_
      refine lv_iload hx hb dX5_count_18 (lv_at hl 1 rfl) ?_
      refine lv_icmp_ge (tgt := 55) hx hb dX5_count_20 (by decide) (fun c28 => ?_) (fun c28 => ?_)
      · have hg23 := ite_t c28 hg23
        have hL22 := el1_l (inj1 hg23) hL22
        have e0 := inj1 hL22
        subst e0
        exact kE20 _ _ _ hB (lv_sub hl [3] rfl)
      · have hg23 := ite_f c28 hg23
        refine lv_aload hx hb dX5_count_23 (lv_at hl 2 rfl) ?_
        refine lv_iload hx hb dX5_count_25 (lv_at hl 0 rfl) ?_
        obtain ⟨j29, e9, hg23⟩ := ob1_s hg23
        obtain ⟨h_j29, e9⟩ := hixn_s e9
        refine g_aald hx hb hK hB 1 1 rfl rfl e9 dX5_count_27 ?_
        refine lv_astore (lv' := [(7, .ref (ra j29)), (6, .int v25), (5, .int (nI N)), (4, .ref sa), (3, .int v26), (1, .int i1), (2, .int i2)]) hx hb dX5_count_28 hl (by decide) rfl (fun ls hl => ?_)
        refine lv_aload hx hb dX5_count_30 (lv_at hl 0 rfl) ?_
        refine lv_iconst (v := (0 : Int32)) hx hb dX5_count_32 (by decide) ?_
        obtain ⟨x30, e9, hg23⟩ := ob1_s hg23
        refine g_iald hx hb hK hB (2 + j29) 0 (cT_row0 cyI cyA ta sa ra N φ ψ h_j29) rfl (rd_s e9) dX5_count_33 ?_
        refine lv_iload_n hx hb dX5_count_34 rfl (lv_at hl 5 rfl) ?_
        obtain ⟨v31, hJ32, hg23⟩ := ob1_s hg23
        have kJ33 : ∀ (H : Heap) (locs : List Loc) (ls : Array Slot), Bd (dC, dI) [(cyI, .int), (cyA, .array .int)] (va_A (cT cyI cyA ta sa ra N φ ψ) s.heap.size) s (cT cyI cyA ta sa ra N φ ψ) H locs → lv_has ls 8 [(3, .int v31), (6, .int v25), (5, .int (nI N)), (4, .ref sa), (1, .int i1), (2, .int i2)] → W p l e (headSpec wsX5_count rmX5_count).room s m ([.ref ta, .int i1, .int i2] : List Value).toArray below meth c H locs 0 0 (MQ below (QiF (dC, dI) [(cyI, .int), (cyA, .array .int)] (cT cyI cyA ta sa ra N φ ψ) (cT cyI cyA ta sa ra N φ ψ) s.heap.size r) ([.ref ta, .int i1, .int i2] : List Value).toArray s 0 0 (va_A (cT cyI cyA ta sa ra N φ ψ) s.heap.size)) (F0 m 49 ls []) := by
          intro H locs ls hB hl
          refine lv_iinc (v := (v25 + (1 : Int32))) (lv' := [(6, .int (v25 + (1 : Int32))), (3, .int v31), (5, .int (nI N)), (4, .ref sa), (1, .int i1), (2, .int i2)]) hx hb dX5_count_49 hl (k := 1) rfl rfl (by decide) rfl (fun ls hl => ?_)
          refine lv_goto (tgt := 16) hx hb dX5_count_52 (by decide) ?_
          have hL22 := el1_r (inj1 hg23) hL22
          exact ih9 _ _ _ _ _ hL22 hB (lv_sub hl [0, 2, 3, 1, 4, 5] rfl)
        obtain ⟨t34, hD35, hJ32⟩ := ob1_s hJ32
        have kTt34 : t34 = true → ∀ (H : Heap) (locs : List Loc), Bd (dC, dI) [(cyI, .int), (cyA, .array .int)] (va_A (cT cyI cyA ta sa ra N φ ψ) s.heap.size) s (cT cyI cyA ta sa ra N φ ψ) H locs → W p l e (headSpec wsX5_count rmX5_count).room s m ([.ref ta, .int i1, .int i2] : List Value).toArray below meth c H locs 0 0 (MQ below (QiF (dC, dI) [(cyI, .int), (cyA, .array .int)] (cT cyI cyA ta sa ra N φ ψ) (cT cyI cyA ta sa ra N φ ψ) s.heap.size r) ([.ref ta, .int i1, .int i2] : List Value).toArray s 0 0 (va_A (cT cyI cyA ta sa ra N φ ψ) s.heap.size)) (F0 m 46 ls []) := by
          intro ht H locs hB
          have hJ32 := cnd_t ht hJ32
          refine lv_iinc (v := (v26 + (1 : Int32))) (lv' := [(3, .int (v26 + (1 : Int32))), (7, .ref (ra j29)), (6, .int v25), (5, .int (nI N)), (4, .ref sa), (1, .int i1), (2, .int i2)]) hx hb dX5_count_46 hl (k := 4) rfl rfl (by decide) rfl (fun ls hl => ?_)
          have e0 := inj1 hJ32
          subst e0
          exact kJ33 _ _ _ hB (lv_sub hl [0, 2, 3, 4, 5, 6] rfl)
        have kFt34 : t34 = false → ∀ (H : Heap) (locs : List Loc), Bd (dC, dI) [(cyI, .int), (cyA, .array .int)] (va_A (cT cyI cyA ta sa ra N φ ψ) s.heap.size) s (cT cyI cyA ta sa ra N φ ψ) H locs → W p l e (headSpec wsX5_count rmX5_count).room s m ([.ref ta, .int i1, .int i2] : List Value).toArray below meth c H locs 0 0 (MQ below (QiF (dC, dI) [(cyI, .int), (cyA, .array .int)] (cT cyI cyA ta sa ra N φ ψ) (cT cyI cyA ta sa ra N φ ψ) s.heap.size r) ([.ref ta, .int i1, .int i2] : List Value).toArray s 0 0 (va_A (cT cyI cyA ta sa ra N φ ψ) s.heap.size)) (F0 m 49 ls []) := by
          intro ht H locs hB
          have hJ32 := cnd_f ht hJ32
          have e0 := inj1 hJ32
          subst e0
          exact kJ33 _ _ _ hB (lv_sub hl [4, 1, 2, 3, 5, 6] rfl)
        refine lv_icmp_ne (tgt := 49) hx hb dX5_count_35 (by decide) (fun c36 => ?_) (fun c36 => ?_)
        · have hD35 := ite_f c36 hD35
          have e0 := inj1 hD35
          exact kFt34 e0.symm _ _ hB
        · have hD35 := ite_t c36 hD35
          refine lv_aload hx hb dX5_count_38 (lv_at hl 0 rfl) ?_
          refine lv_iconst (v := (4 : Int32)) hx hb dX5_count_40 (by decide) ?_
          obtain ⟨x37, e9, hD35⟩ := ob1_s hD35
          refine g_iald hx hb hK hB (2 + j29) 0 (cT_row0 cyI cyA ta sa ra N φ ψ h_j29) rfl (rd_s e9) dX5_count_41 ?_
          refine lv_iload_n hx hb dX5_count_42 rfl (lv_at hl 6 rfl) ?_
          refine lv_icmp_ne (tgt := 49) hx hb dX5_count_43 (by decide) (fun c38 => ?_) (fun c38 => ?_)
          · have hD35 := ite_f c38 hD35
            have e0 := inj1 hD35
            exact kFt34 e0.symm _ _ hB
          · have hD35 := ite_t c38 hD35
            have e0 := inj1 hD35
            exact kTt34 e0.symm _ _ hB
  exact key21 fu _ _ _ _ _ hL22 hB (lv_sub hl [0, 1, 2, 3, 5, 6] rfl)

abbrev rmX5_size : Room := { frames := 0, cells := 0, slots := 0, locals := 0 }

set_option maxHeartbeats 4000000 in
set_option maxRecDepth 100000 in
theorem kX5_size (l : Launch) (dC : Nat → ClassId) (dI : Nat → Nat → Nat) (cyI cyA : ClassId) (ta sa : Nat) (ra : PA) (sz : Nat) {fu : Nat} {N : Nat} {φ : MS} {ψ : MS} {i1 : Int32} {r : Int32} (hf : mX5_size fu N φ ψ i1 = some r) : Met l yX5_size wsX5_size rmX5_size (PcF (dC, dI) [(cyI, .int), (cyA, .array .int)] (cT cyI cyA ta sa ra N φ ψ) sz [.ref ta, .int i1]) (QiF (dC, dI) [(cyI, .int), (cyA, .array .int)] (cT cyI cyA ta sa ra N φ ψ) (cT cyI cyA ta sa ra N φ ψ) sz r) 0 0 (va_A (cT cyI cyA ta sa ra N φ ψ) sz) := by
  refine Met.ofW (cc := cX5_size) (maxL := 7) (ret := (some .int)) (by decide) rfl ?_
  intro p e s m args below meth c s₁ B hml hv
  obtain ⟨rfl, hsz, hP, hK, hD0⟩ := hv
  have hx := B.exec
  have hb := B.bytes
  have hr := B.returns
  have hts := atoms_spec (ws := wsX5_size) B.pre
  have hown : s.vm.findClass RX5 = some m.cls := findClass_of_methodNamed B.named
  have hlocks := B.notSynchronized
  subst hsz
  have hA : ∀ q : Nat, s.heap.size ≤ q → va_A (cT cyI cyA ta sa ra N φ ψ) s.heap.size q := fun q h => Or.inr h
  have hB : Bd (dC, dI) [(cyI, .int), (cyA, .array .int)] (va_A (cT cyI cyA ta sa ra N φ ψ) s.heap.size) s (cT cyI cyA ta sa ra N φ ψ) s.heap [] := ⟨hP, hD0.self, va_S.rf⟩
  have hq1 : (Cond.fieldLink RX5 18 "UndoJourneysLaw$Trip" "steps" "[[I").before _ s = true := hts _ (List.mem_of_getElem? (i := 1) rfl)
  have hinX5 : ∀ w ∈ wsX50, w ∈ wsX5_size := fun w h => List.mem_cons_of_mem _ (List.mem_append_right _ h)
  have hl := lv_entry [.ref ta, .int i1] (n := 7) (Nat.le_of_ble_eq_true rfl)
  rw [lg_entry_eq]
  generalize (lg_sl [.ref ta, .int i1] ++ List.replicate (7 - (lg_sl [.ref ta, .int i1]).length) Slot.unset).toArray = ls at hl ⊢
  have hl : lv_has ls 7 [(0, .ref ta), (1, .int i1)] := hl
  clear hP hD0
  suffices main : ∀ (H : Heap) (locs : List Loc), Bd (dC, dI) [(cyI, .int), (cyA, .array .int)] (va_A (cT cyI cyA ta sa ra N φ ψ) s.heap.size) s (cT cyI cyA ta sa ra N φ ψ) H locs → W p l e (headSpec wsX5_size rmX5_size).room s m ([.ref ta, .int i1] : List Value).toArray below meth c H locs 0 0 (MQ below (QiF (dC, dI) [(cyI, .int), (cyA, .array .int)] (cT cyI cyA ta sa ra N φ ψ) (cT cyI cyA ta sa ra N φ ψ) s.heap.size r) ([.ref ta, .int i1] : List Value).toArray s 0 0 (va_A (cT cyI cyA ta sa ra N φ ψ) s.heap.size)) (F0 m 0 ls []) from main _ _ hB
  clear hB
  intro H locs hB
  unfold mX5_size at hf
  refine lv_iconst (v := (0 : Int32)) hx hb dX5_size_0 (by decide) ?_
  refine lv_istore_n (lv' := [(2, .int (0 : Int32)), (0, .ref ta), (1, .int i1)]) hx hb dX5_size_1 rfl hl (by decide) rfl (fun ls hl => ?_)
  refine lv_aload_n hx hb dX5_size_2 rfl (lv_at hl 1 rfl) ?_
  refine g_get (C := RX5) (T := TX5) (N := 7) hx hb hts hinX5 hown hK hB 0 rfl rfl 6 rfl hq1 rfl rfl dX5_size_3 ?_
  refine lv_astore_n (lv' := [(3, .ref sa), (2, .int (0 : Int32)), (0, .ref ta), (1, .int i1)]) hx hb dX5_size_6 rfl hl (by decide) rfl (fun ls hl => ?_)
  refine lv_aload_n hx hb dX5_size_7 rfl (lv_at hl 0 rfl) ?_
  refine g_alen hx hb hK hB 1 1 rfl rfl (v := (nI N)) rfl dX5_size_8 ?_
  refine lv_istore (lv' := [(4, .int (nI N)), (3, .ref sa), (2, .int (0 : Int32)), (0, .ref ta), (1, .int i1)]) hx hb dX5_size_9 hl (by decide) rfl (fun ls hl => ?_)
  refine lv_iconst (v := (0 : Int32)) hx hb dX5_size_11 (by decide) ?_
  refine lv_istore (lv' := [(5, .int (0 : Int32)), (4, .int (nI N)), (3, .ref sa), (2, .int (0 : Int32)), (0, .ref ta), (1, .int i1)]) hx hb dX5_size_12 hl (by decide) rfl (fun ls hl => ?_)
  obtain ⟨v14, hL17, hf⟩ := ob1_s hf
  have kE15 : ∀ (H : Heap) (locs : List Loc) (ls : Array Slot), Bd (dC, dI) [(cyI, .int), (cyA, .array .int)] (va_A (cT cyI cyA ta sa ra N φ ψ) s.heap.size) s (cT cyI cyA ta sa ra N φ ψ) H locs → lv_has ls 7 [(2, .int v14)] → W p l e (headSpec wsX5_size rmX5_size).room s m ([.ref ta, .int i1] : List Value).toArray below meth c H locs 0 0 (MQ below (QiF (dC, dI) [(cyI, .int), (cyA, .array .int)] (cT cyI cyA ta sa ra N φ ψ) (cT cyI cyA ta sa ra N φ ψ) s.heap.size r) ([.ref ta, .int i1] : List Value).toArray s 0 0 (va_A (cT cyI cyA ta sa ra N φ ψ) s.heap.size)) (F0 m 44 ls []) := by
    intro H locs ls hB hl
    refine lv_iload_n hx hb dX5_size_44 rfl (lv_at hl 0 rfl) ?_
    have e0 := inj1 hf
    subst e0
    exact g_iret hx hb hr hlocks hK hB dX5_size_45
  have key16 : ∀ (n9 : Nat) (v20 : Int32) (v21 : Int32) (H : Heap) (locs : List Loc) (ls : Array Slot), loopM (fun st => mX5_size_L14 fu N (nI N) i1 φ ψ st.1 st.2) n9 (v20, v21) = some v14 → Bd (dC, dI) [(cyI, .int), (cyA, .array .int)] (va_A (cT cyI cyA ta sa ra N φ ψ) s.heap.size) s (cT cyI cyA ta sa ra N φ ψ) H locs → lv_has ls 7 [(5, .int v20), (4, .int (nI N)), (3, .ref sa), (2, .int v21), (1, .int i1)] → W p l e (headSpec wsX5_size rmX5_size).room s m ([.ref ta, .int i1] : List Value).toArray below meth c H locs 0 0 (MQ below (QiF (dC, dI) [(cyI, .int), (cyA, .array .int)] (cT cyI cyA ta sa ra N φ ψ) (cT cyI cyA ta sa ra N φ ψ) s.heap.size r) ([.ref ta, .int i1] : List Value).toArray s 0 0 (va_A (cT cyI cyA ta sa ra N φ ψ) s.heap.size)) (F0 m 14 ls []) := by
    intro n9
    induction n9 with
    | zero => intro v20 v21 H locs ls hL17; exact (loopM_z hL17).elim
    | succ n9 ih9 =>
      intro v20 v21 H locs ls hL17 hB hl
      obtain ⟨o22, hg18, hL17⟩ := loopM_s hL17
      have hg18 : mX5_size_L14 fu N (nI N) i1 φ ψ v20 v21 = some o22 := hg18
      unfold mX5_size_L14 at hg18
      refine lv_iload hx hb dX5_size_14 (lv_at hl 0 rfl) ?_
      refine lv_iload hx hb dX5_size_16 (lv_at hl 1 rfl) ?_
      refine lv_icmp_ge (tgt := 44) hx hb dX5_size_18 (by decide) (fun c23 => ?_) (fun c23 => ?_)
      · have hg18 := ite_t c23 hg18
        have hL17 := el1_l (inj1 hg18) hL17
        have e0 := inj1 hL17
        subst e0
        exact kE15 _ _ _ hB (lv_sub hl [3] rfl)
      · have hg18 := ite_f c23 hg18
        refine lv_aload_n hx hb dX5_size_21 rfl (lv_at hl 2 rfl) ?_
        refine lv_iload hx hb dX5_size_22 (lv_at hl 0 rfl) ?_
        obtain ⟨j24, e9, hg18⟩ := ob1_s hg18
        obtain ⟨h_j24, e9⟩ := hixn_s e9
        refine g_aald hx hb hK hB 1 1 rfl rfl e9 dX5_size_24 ?_
        refine lv_astore (lv' := [(6, .ref (ra j24)), (5, .int v20), (4, .int (nI N)), (3, .ref sa), (2, .int v21), (1, .int i1)]) hx hb dX5_size_25 hl (by decide) rfl (fun ls hl => ?_)
        refine lv_aload hx hb dX5_size_27 (lv_at hl 0 rfl) ?_
        refine lv_iconst (v := (0 : Int32)) hx hb dX5_size_29 (by decide) ?_
        obtain ⟨x25, e9, hg18⟩ := ob1_s hg18
        refine g_iald hx hb hK hB (2 + j24) 0 (cT_row0 cyI cyA ta sa ra N φ ψ h_j24) rfl (rd_s e9) dX5_size_30 ?_
        refine lv_iload_n hx hb dX5_size_31 rfl (lv_at hl 5 rfl) ?_
        obtain ⟨v26, hJ27, hg18⟩ := ob1_s hg18
        have kJ28 : ∀ (H : Heap) (locs : List Loc) (ls : Array Slot), Bd (dC, dI) [(cyI, .int), (cyA, .array .int)] (va_A (cT cyI cyA ta sa ra N φ ψ) s.heap.size) s (cT cyI cyA ta sa ra N φ ψ) H locs → lv_has ls 7 [(5, .int v20), (4, .int (nI N)), (3, .ref sa), (2, .int v26), (1, .int i1)] → W p l e (headSpec wsX5_size rmX5_size).room s m ([.ref ta, .int i1] : List Value).toArray below meth c H locs 0 0 (MQ below (QiF (dC, dI) [(cyI, .int), (cyA, .array .int)] (cT cyI cyA ta sa ra N φ ψ) (cT cyI cyA ta sa ra N φ ψ) s.heap.size r) ([.ref ta, .int i1] : List Value).toArray s 0 0 (va_A (cT cyI cyA ta sa ra N φ ψ) s.heap.size)) (F0 m 38 ls []) := by
          intro H locs ls hB hl
          refine lv_iinc (v := (v20 + (1 : Int32))) (lv' := [(5, .int (v20 + (1 : Int32))), (4, .int (nI N)), (3, .ref sa), (2, .int v26), (1, .int i1)]) hx hb dX5_size_38 hl (k := 0) rfl rfl (by decide) rfl (fun ls hl => ?_)
          refine lv_goto (tgt := 14) hx hb dX5_size_41 (by decide) ?_
          have hL17 := el1_r (inj1 hg18) hL17
          exact ih9 _ _ _ _ _ hL17 hB (lv_sub hl [0, 1, 2, 3, 4] rfl)
        refine lv_icmp_ne (tgt := 38) hx hb dX5_size_32 (by decide) (fun c29 => ?_) (fun c29 => ?_)
        · have hJ27 := ite_f c29 hJ27
          have e0 := inj1 hJ27
          subst e0
          exact kJ28 _ _ _ hB (lv_sub hl [1, 2, 3, 4, 5] rfl)
        · have hJ27 := ite_t c29 hJ27
          refine lv_iinc (v := (v21 + (1 : Int32))) (lv' := [(2, .int (v21 + (1 : Int32))), (6, .ref (ra j24)), (5, .int v20), (4, .int (nI N)), (3, .ref sa), (1, .int i1)]) hx hb dX5_size_35 hl (k := 4) rfl rfl (by decide) rfl (fun ls hl => ?_)
          have e0 := inj1 hJ27
          subst e0
          exact kJ28 _ _ _ hB (lv_sub hl [2, 3, 4, 0, 5] rfl)
  exact key16 fu _ _ _ _ _ hL17 hB (lv_sub hl [0, 1, 2, 3, 5] rfl)

abbrev rmX5_isFinished : Room := { frames := 1, cells := 0, slots := 0, locals := 27 }

set_option maxHeartbeats 4000000 in
set_option maxRecDepth 100000 in
theorem kX5_isFinished (l : Launch) (dC : Nat → ClassId) (dI : Nat → Nat → Nat) (cyI cyA : ClassId) (ta sa : Nat) (ra : PA) (sz : Nat) {fu : Nat} {N : Nat} {φ : MS} {ψ : MS} {i1 : Int32} {r : Int32} (hf : mX5_isFinished fu N φ ψ i1 = some r) : Met l yX5_isFinished wsX5_isFinished rmX5_isFinished (PcF (dC, dI) [(cyI, .int), (cyA, .array .int)] (cT cyI cyA ta sa ra N φ ψ) sz [.ref ta, .int i1]) (QzF (dC, dI) [(cyI, .int), (cyA, .array .int)] (cT cyI cyA ta sa ra N φ ψ) (cT cyI cyA ta sa ra N φ ψ) sz r) 0 0 (va_A (cT cyI cyA ta sa ra N φ ψ) sz) := by
  refine Met.ofW (cc := cX5_isFinished) (maxL := 2) (ret := (some .boolean)) (by decide) rfl ?_
  intro p e s m args below meth c s₁ B hml hv
  obtain ⟨rfl, hsz, hP, hK, hD0⟩ := hv
  have hx := B.exec
  have hb := B.bytes
  have hr := B.returns
  have hts := atoms_spec (ws := wsX5_isFinished) B.pre
  have hown : s.vm.findClass RX5 = some m.cls := findClass_of_methodNamed B.named
  have hlocks := B.notSynchronized
  subst hsz
  have hA : ∀ q : Nat, s.heap.size ≤ q → va_A (cT cyI cyA ta sa ra N φ ψ) s.heap.size q := fun q h => Or.inr h
  have hB : Bd (dC, dI) [(cyI, .int), (cyA, .array .int)] (va_A (cT cyI cyA ta sa ra N φ ψ) s.heap.size) s (cT cyI cyA ta sa ra N φ ψ) s.heap [] := ⟨hP, hD0.self, va_S.rf⟩
  have hinX5 : ∀ w ∈ wsX50, w ∈ wsX5_isFinished := fun w h => List.mem_cons_of_mem _ (List.mem_append_right _ h)
  have hl := lv_entry [.ref ta, .int i1] (n := 2) (Nat.le_of_ble_eq_true rfl)
  rw [lg_entry_eq]
  generalize (lg_sl [.ref ta, .int i1] ++ List.replicate (2 - (lg_sl [.ref ta, .int i1]).length) Slot.unset).toArray = ls at hl ⊢
  have hl : lv_has ls 2 [(0, .ref ta), (1, .int i1)] := hl
  clear hP hD0
  suffices main : ∀ (H : Heap) (locs : List Loc), Bd (dC, dI) [(cyI, .int), (cyA, .array .int)] (va_A (cT cyI cyA ta sa ra N φ ψ) s.heap.size) s (cT cyI cyA ta sa ra N φ ψ) H locs → W p l e (headSpec wsX5_isFinished rmX5_isFinished).room s m ([.ref ta, .int i1] : List Value).toArray below meth c H locs 0 0 (MQ below (QzF (dC, dI) [(cyI, .int), (cyA, .array .int)] (cT cyI cyA ta sa ra N φ ψ) (cT cyI cyA ta sa ra N φ ψ) s.heap.size r) ([.ref ta, .int i1] : List Value).toArray s 0 0 (va_A (cT cyI cyA ta sa ra N φ ψ) s.heap.size)) (F0 m 0 ls []) from main _ _ hB
  clear hB
  intro H locs hB
  unfold mX5_isFinished at hf
  refine lv_aload_n hx hb dX5_isFinished_0 rfl (lv_at hl 0 rfl) ?_
  refine lv_iload_n hx hb dX5_isFinished_1 rfl (lv_at hl 1 rfl) ?_
  refine lv_iconst (v := (3 : Int32)) hx hb dX5_isFinished_2 (by decide) ?_
  obtain ⟨r1, hc, hf⟩ := ob1_s hf
  refine g_callVi (As := [.int i1, .int (3 : Int32)]) (rest := []) ⟨hx, hb, hml, hown, hts⟩ (kX5_count l dC dI cyI cyA ta sa ra H.size hc) (cwV 2 hts gX5_isFinished_X5_count rfl rfl rfl (by decide +kernel) ⟨Nat.le_of_ble_eq_true rfl, Nat.le_of_ble_eq_true rfl⟩) hK hB hA (g_recv (ci := 5) hK hB 0 rfl rfl rfl) rfl hl.1 rfl (Nat.le_of_ble_eq_true rfl) dX5_isFinished_3 ⟨Nat.zero_le _, Nat.zero_le _⟩ (fun H locs hB => ?_)
  refine lv_aload_n hx hb dX5_isFinished_6 rfl (lv_at hl 0 rfl) ?_
  refine lv_iload_n hx hb dX5_isFinished_7 rfl (lv_at hl 1 rfl) ?_
  refine lv_bipush (v := (6 : Int32)) hx hb dX5_isFinished_8 (by decide) ?_
  obtain ⟨r2, hc, hf⟩ := ob1_s hf
  refine g_callVi (As := [.int i1, .int (6 : Int32)]) (rest := [.int r1]) ⟨hx, hb, hml, hown, hts⟩ (kX5_count l dC dI cyI cyA ta sa ra H.size hc) (cwV 2 hts gX5_isFinished_X5_count rfl rfl rfl (by decide +kernel) ⟨Nat.le_of_ble_eq_true rfl, Nat.le_of_ble_eq_true rfl⟩) hK hB hA (g_recv (ci := 5) hK hB 0 rfl rfl rfl) rfl hl.1 rfl (Nat.le_of_ble_eq_true rfl) dX5_isFinished_10 ⟨Nat.zero_le _, Nat.zero_le _⟩ (fun H locs hB => ?_)
  refine lv_iadd hx hb dX5_isFinished_13 ?_
  refine lv_aload_n hx hb dX5_isFinished_14 rfl (lv_at hl 0 rfl) ?_
  refine lv_iload_n hx hb dX5_isFinished_15 rfl (lv_at hl 1 rfl) ?_
  obtain ⟨r3, hc, hf⟩ := ob1_s hf
  refine g_callVi (As := [.int i1]) (rest := [.int (r1 + r2)]) ⟨hx, hb, hml, hown, hts⟩ (kX5_size l dC dI cyI cyA ta sa ra H.size hc) (cwV 1 hts gX5_isFinished_X5_size rfl rfl rfl (by decide +kernel) ⟨Nat.le_of_ble_eq_true rfl, Nat.le_of_ble_eq_true rfl⟩) hK hB hA (g_recv (ci := 5) hK hB 0 rfl rfl rfl) rfl hl.1 rfl (Nat.le_of_ble_eq_true rfl) dX5_isFinished_16 ⟨Nat.zero_le _, Nat.zero_le _⟩ (fun H locs hB => ?_)
  obtain ⟨v4, hJ6, hf⟩ := ob1_s hf
  have kJ7 : (v4 = 0 ∨ v4 = 1) → ∀ (H : Heap) (locs : List Loc) (ls : Array Slot), Bd (dC, dI) [(cyI, .int), (cyA, .array .int)] (va_A (cT cyI cyA ta sa ra N φ ψ) s.heap.size) s (cT cyI cyA ta sa ra N φ ψ) H locs → lv_has ls 2 [] → W p l e (headSpec wsX5_isFinished rmX5_isFinished).room s m ([.ref ta, .int i1] : List Value).toArray below meth c H locs 0 0 (MQ below (QzF (dC, dI) [(cyI, .int), (cyA, .array .int)] (cT cyI cyA ta sa ra N φ ψ) (cT cyI cyA ta sa ra N φ ψ) s.heap.size r) ([.ref ta, .int i1] : List Value).toArray s 0 0 (va_A (cT cyI cyA ta sa ra N φ ψ) s.heap.size)) (F0 m 27 ls [.int v4]) := by
    intro z5 H locs ls hB hl
    have e0 := inj1 hf
    subst e0
    exact g_zret hx hb hr hlocks hK hB z5 dX5_isFinished_27
  refine lv_icmp_ne (tgt := 26) hx hb dX5_isFinished_19 (by decide) (fun c8 => ?_) (fun c8 => ?_)
  · have hJ6 := ite_f c8 hJ6
    refine lv_iconst (v := (0 : Int32)) hx hb dX5_isFinished_26 (by decide) ?_
    have e0 := inj1 hJ6
    subst e0
    exact kJ7 (Or.inl rfl) _ _ _ hB (lv_sub hl [] rfl)
  · have hJ6 := ite_t c8 hJ6
    refine lv_iconst (v := (1 : Int32)) hx hb dX5_isFinished_22 (by decide) ?_
    refine lv_goto (tgt := 27) hx hb dX5_isFinished_23 (by decide) ?_
    have e0 := inj1 hJ6
    subst e0
    exact kJ7 (Or.inr rfl) _ _ _ hB (lv_sub hl [] rfl)

abbrev rmX5_last : Room := { frames := 0, cells := 0, slots := 0, locals := 0 }

set_option maxHeartbeats 4000000 in
set_option maxRecDepth 100000 in
theorem kX5_last (l : Launch) (dC : Nat → ClassId) (dI : Nat → Nat → Nat) (cyI cyA : ClassId) (ta sa : Nat) (ra : PA) (sz : Nat) {fu : Nat} {N : Nat} {φ : MS} {ψ : MS} {r : Int32} (hf : mX5_last fu N φ ψ = some r) : Met l yX5_last wsX5_last rmX5_last (PcF (dC, dI) [(cyI, .int), (cyA, .array .int)] (cT cyI cyA ta sa ra N φ ψ) sz [.ref ta]) (QiF (dC, dI) [(cyI, .int), (cyA, .array .int)] (cT cyI cyA ta sa ra N φ ψ) (cT cyI cyA ta sa ra N φ ψ) sz r) 0 0 (va_A (cT cyI cyA ta sa ra N φ ψ) sz) := by
  refine Met.ofW (cc := cX5_last) (maxL := 3) (ret := (some .int)) (by decide) rfl ?_
  intro p e s m args below meth c s₁ B hml hv
  obtain ⟨rfl, hsz, hP, hK, hD0⟩ := hv
  have hx := B.exec
  have hb := B.bytes
  have hr := B.returns
  have hts := atoms_spec (ws := wsX5_last) B.pre
  have hown : s.vm.findClass RX5 = some m.cls := findClass_of_methodNamed B.named
  have hlocks := B.notSynchronized
  subst hsz
  have hA : ∀ q : Nat, s.heap.size ≤ q → va_A (cT cyI cyA ta sa ra N φ ψ) s.heap.size q := fun q h => Or.inr h
  have hB : Bd (dC, dI) [(cyI, .int), (cyA, .array .int)] (va_A (cT cyI cyA ta sa ra N φ ψ) s.heap.size) s (cT cyI cyA ta sa ra N φ ψ) s.heap [] := ⟨hP, hD0.self, va_S.rf⟩
  have hq1 : (Cond.fieldLink RX5 18 "UndoJourneysLaw$Trip" "steps" "[[I").before _ s = true := hts _ (List.mem_of_getElem? (i := 1) rfl)
  have hinX5 : ∀ w ∈ wsX50, w ∈ wsX5_last := fun w h => List.mem_cons_of_mem _ (List.mem_append_right _ h)
  have hl := lv_entry [.ref ta] (n := 3) (Nat.le_of_ble_eq_true rfl)
  rw [lg_entry_eq]
  generalize (lg_sl [.ref ta] ++ List.replicate (3 - (lg_sl [.ref ta]).length) Slot.unset).toArray = ls at hl ⊢
  have hl : lv_has ls 3 [(0, .ref ta)] := hl
  clear hP hD0
  suffices main : ∀ (H : Heap) (locs : List Loc), Bd (dC, dI) [(cyI, .int), (cyA, .array .int)] (va_A (cT cyI cyA ta sa ra N φ ψ) s.heap.size) s (cT cyI cyA ta sa ra N φ ψ) H locs → W p l e (headSpec wsX5_last rmX5_last).room s m ([.ref ta] : List Value).toArray below meth c H locs 0 0 (MQ below (QiF (dC, dI) [(cyI, .int), (cyA, .array .int)] (cT cyI cyA ta sa ra N φ ψ) (cT cyI cyA ta sa ra N φ ψ) s.heap.size r) ([.ref ta] : List Value).toArray s 0 0 (va_A (cT cyI cyA ta sa ra N φ ψ) s.heap.size)) (F0 m 0 ls []) from main _ _ hB
  clear hB
  intro H locs hB
  unfold mX5_last at hf
  refine lv_iconst (v := (-1 : Int32)) hx hb dX5_last_0 (by decide) ?_
  refine lv_istore_n (lv' := [(1, .int (-1 : Int32)), (0, .ref ta)]) hx hb dX5_last_1 rfl hl (by decide) rfl (fun ls hl => ?_)
  refine lv_iconst (v := (0 : Int32)) hx hb dX5_last_2 (by decide) ?_
  refine lv_istore_n (lv' := [(2, .int (0 : Int32)), (1, .int (-1 : Int32)), (0, .ref ta)]) hx hb dX5_last_3 rfl hl (by decide) rfl (fun ls hl => ?_)
  obtain ⟨v12, hL15, hf⟩ := ob1_s hf
  have kE13 : ∀ (H : Heap) (locs : List Loc) (ls : Array Slot), Bd (dC, dI) [(cyI, .int), (cyA, .array .int)] (va_A (cT cyI cyA ta sa ra N φ ψ) s.heap.size) s (cT cyI cyA ta sa ra N φ ψ) H locs → lv_has ls 3 [(1, .int v12)] → W p l e (headSpec wsX5_last rmX5_last).room s m ([.ref ta] : List Value).toArray below meth c H locs 0 0 (MQ below (QiF (dC, dI) [(cyI, .int), (cyA, .array .int)] (cT cyI cyA ta sa ra N φ ψ) (cT cyI cyA ta sa ra N φ ψ) s.heap.size r) ([.ref ta] : List Value).toArray s 0 0 (va_A (cT cyI cyA ta sa ra N φ ψ) s.heap.size)) (F0 m 33 ls []) := by
    intro H locs ls hB hl
    refine lv_iload_n hx hb dX5_last_33 rfl (lv_at hl 0 rfl) ?_
    have e0 := inj1 hf
    subst e0
    exact g_iret hx hb hr hlocks hK hB dX5_last_34
  have key14 : ∀ (n9 : Nat) (v18 : Int32) (v19 : Int32) (H : Heap) (locs : List Loc) (ls : Array Slot), loopM (fun st => mX5_last_L4 fu N φ ψ st.1 st.2) n9 (v18, v19) = some v12 → Bd (dC, dI) [(cyI, .int), (cyA, .array .int)] (va_A (cT cyI cyA ta sa ra N φ ψ) s.heap.size) s (cT cyI cyA ta sa ra N φ ψ) H locs → lv_has ls 3 [(2, .int v18), (1, .int v19), (0, .ref ta)] → W p l e (headSpec wsX5_last rmX5_last).room s m ([.ref ta] : List Value).toArray below meth c H locs 0 0 (MQ below (QiF (dC, dI) [(cyI, .int), (cyA, .array .int)] (cT cyI cyA ta sa ra N φ ψ) (cT cyI cyA ta sa ra N φ ψ) s.heap.size r) ([.ref ta] : List Value).toArray s 0 0 (va_A (cT cyI cyA ta sa ra N φ ψ) s.heap.size)) (F0 m 4 ls []) := by
    intro n9
    induction n9 with
    | zero => intro v18 v19 H locs ls hL15; exact (loopM_z hL15).elim
    | succ n9 ih9 =>
      intro v18 v19 H locs ls hL15 hB hl
      obtain ⟨o20, hg16, hL15⟩ := loopM_s hL15
      have hg16 : mX5_last_L4 fu N φ ψ v18 v19 = some o20 := hg16
      unfold mX5_last_L4 at hg16
      refine lv_iload_n hx hb dX5_last_4 rfl (lv_at hl 0 rfl) ?_
      refine lv_aload_n hx hb dX5_last_5 rfl (lv_at hl 2 rfl) ?_
      refine g_get (C := RX5) (T := TX5) (N := 7) hx hb hts hinX5 hown hK hB 0 rfl rfl 6 rfl hq1 rfl rfl dX5_last_6 ?_
      refine g_alen hx hb hK hB 1 1 rfl rfl (v := (nI N)) rfl dX5_last_9 ?_
      refine lv_icmp_ge (tgt := 33) hx hb dX5_last_10 (by decide) (fun c21 => ?_) (fun c21 => ?_)
      · have hg16 := ite_t c21 hg16
        have hL15 := el1_l (inj1 hg16) hL15
        have e0 := inj1 hL15
        subst e0
        exact kE13 _ _ _ hB (lv_sub hl [1] rfl)
      · have hg16 := ite_f c21 hg16
        refine lv_aload_n hx hb dX5_last_13 rfl (lv_at hl 2 rfl) ?_
        refine g_get (C := RX5) (T := TX5) (N := 7) hx hb hts hinX5 hown hK hB 0 rfl rfl 6 rfl hq1 rfl rfl dX5_last_14 ?_
        refine lv_iload_n hx hb dX5_last_17 rfl (lv_at hl 0 rfl) ?_
        obtain ⟨j22, e9, hg16⟩ := ob1_s hg16
        obtain ⟨h_j22, e9⟩ := hixn_s e9
        refine g_aald hx hb hK hB 1 1 rfl rfl e9 dX5_last_18 ?_
        refine lv_iconst (v := (4 : Int32)) hx hb dX5_last_19 (by decide) ?_
        obtain ⟨x23, e9, hg16⟩ := ob1_s hg16
        refine g_iald hx hb hK hB (2 + j22) 0 (cT_row0 cyI cyA ta sa ra N φ ψ h_j22) rfl (rd_s e9) dX5_last_20 ?_
        refine lv_iconst (v := (3 : Int32)) hx hb dX5_last_21 (by decide) ?_
        obtain ⟨v24, hJ25, hg16⟩ := ob1_s hg16
        have kJ26 : ∀ (H : Heap) (locs : List Loc) (ls : Array Slot), Bd (dC, dI) [(cyI, .int), (cyA, .array .int)] (va_A (cT cyI cyA ta sa ra N φ ψ) s.heap.size) s (cT cyI cyA ta sa ra N φ ψ) H locs → lv_has ls 3 [(2, .int v18), (1, .int v24), (0, .ref ta)] → W p l e (headSpec wsX5_last rmX5_last).room s m ([.ref ta] : List Value).toArray below meth c H locs 0 0 (MQ below (QiF (dC, dI) [(cyI, .int), (cyA, .array .int)] (cT cyI cyA ta sa ra N φ ψ) (cT cyI cyA ta sa ra N φ ψ) s.heap.size r) ([.ref ta] : List Value).toArray s 0 0 (va_A (cT cyI cyA ta sa ra N φ ψ) s.heap.size)) (F0 m 27 ls []) := by
          intro H locs ls hB hl
          refine lv_iinc (v := (v18 + (1 : Int32))) (lv' := [(2, .int (v18 + (1 : Int32))), (1, .int v24), (0, .ref ta)]) hx hb dX5_last_27 hl (k := 0) rfl rfl (by decide) rfl (fun ls hl => ?_)
          refine lv_goto (tgt := 4) hx hb dX5_last_30 (by decide) ?_
          have hL15 := el1_r (inj1 hg16) hL15
          exact ih9 _ _ _ _ _ hL15 hB (lv_sub hl [0, 1, 2] rfl)
        refine lv_icmp_ne (tgt := 27) hx hb dX5_last_22 (by decide) (fun c27 => ?_) (fun c27 => ?_)
        · have hJ25 := ite_f c27 hJ25
          have e0 := inj1 hJ25
          subst e0
          exact kJ26 _ _ _ hB (lv_sub hl [0, 1, 2] rfl)
        · have hJ25 := ite_t c27 hJ25
          refine lv_iload_n hx hb dX5_last_25 rfl (lv_at hl 0 rfl) ?_
          refine lv_istore_n (lv' := [(1, .int v18), (2, .int v18), (0, .ref ta)]) hx hb dX5_last_26 rfl hl (by decide) rfl (fun ls hl => ?_)
          have e0 := inj1 hJ25
          subst e0
          exact kJ26 _ _ _ hB (lv_sub hl [1, 0, 2] rfl)
  exact key14 fu _ _ _ _ _ hL15 hB (lv_sub hl [0, 1, 2] rfl)

abbrev rmX5_opens : Room := { frames := 0, cells := 0, slots := 0, locals := 0 }

set_option maxHeartbeats 4000000 in
set_option maxRecDepth 100000 in
theorem kX5_opens (l : Launch) (dC : Nat → ClassId) (dI : Nat → Nat → Nat) (cyI cyA : ClassId) (ta sa : Nat) (ra : PA) (sz : Nat) {fu : Nat} {N : Nat} {φ : MS} {ψ : MS} {i1 : Int32} {φ_ : MS} {ψ_ : MS} (hf : mX5_opens fu N φ ψ i1 = some (φ_, ψ_)) : Met l yX5_opens wsX5_opens rmX5_opens (PcF (dC, dI) [(cyI, .int), (cyA, .array .int)] (cT cyI cyA ta sa ra N φ ψ) sz [.ref ta, .int i1]) (QvF (dC, dI) [(cyI, .int), (cyA, .array .int)] (cT cyI cyA ta sa ra N φ ψ) (cT cyI cyA ta sa ra N φ_ ψ_) sz) 0 0 (va_A (cT cyI cyA ta sa ra N φ ψ) sz) := by
  refine Met.ofW (cc := cX5_opens) (maxL := 6) (ret := none) (by decide) rfl ?_
  intro p e s m args below meth c s₁ B hml hv
  obtain ⟨rfl, hsz, hP, hK, hD0⟩ := hv
  have hx := B.exec
  have hb := B.bytes
  have hr := B.returns
  have hts := atoms_spec (ws := wsX5_opens) B.pre
  have hown : s.vm.findClass RX5 = some m.cls := findClass_of_methodNamed B.named
  have hlocks := B.notSynchronized
  subst hsz
  have hA : ∀ q : Nat, s.heap.size ≤ q → va_A (cT cyI cyA ta sa ra N φ ψ) s.heap.size q := fun q h => Or.inr h
  have hB : Bd (dC, dI) [(cyI, .int), (cyA, .array .int)] (va_A (cT cyI cyA ta sa ra N φ ψ) s.heap.size) s (cT cyI cyA ta sa ra N φ ψ) s.heap [] := ⟨hP, hD0.self, va_S.rf⟩
  have hq1 : (Cond.fieldLink RX5 7 "UndoJourneysLaw$Trip" "stage" "I").before _ s = true := hts _ (List.mem_of_getElem? (i := 1) rfl)
  have hq2 : (Cond.fieldLink RX5 18 "UndoJourneysLaw$Trip" "steps" "[[I").before _ s = true := hts _ (List.mem_of_getElem? (i := 2) rfl)
  have hinX5 : ∀ w ∈ wsX50, w ∈ wsX5_opens := fun w h => List.mem_cons_of_mem _ (List.mem_append_right _ h)
  have hl := lv_entry [.ref ta, .int i1] (n := 6) (Nat.le_of_ble_eq_true rfl)
  rw [lg_entry_eq]
  generalize (lg_sl [.ref ta, .int i1] ++ List.replicate (6 - (lg_sl [.ref ta, .int i1]).length) Slot.unset).toArray = ls at hl ⊢
  have hl : lv_has ls 6 [(0, .ref ta), (1, .int i1)] := hl
  clear hP hD0
  suffices main : ∀ (H : Heap) (locs : List Loc), Bd (dC, dI) [(cyI, .int), (cyA, .array .int)] (va_A (cT cyI cyA ta sa ra N φ ψ) s.heap.size) s (cT cyI cyA ta sa ra N φ ψ) H locs → W p l e (headSpec wsX5_opens rmX5_opens).room s m ([.ref ta, .int i1] : List Value).toArray below meth c H locs 0 0 (MQ below (QvF (dC, dI) [(cyI, .int), (cyA, .array .int)] (cT cyI cyA ta sa ra N φ ψ) (cT cyI cyA ta sa ra N φ_ ψ_) s.heap.size) ([.ref ta, .int i1] : List Value).toArray s 0 0 (va_A (cT cyI cyA ta sa ra N φ ψ) s.heap.size)) (F0 m 0 ls []) from main _ _ hB
  clear hB
  intro H locs hB
  unfold mX5_opens at hf
  refine lv_aload_n hx hb dX5_opens_0 rfl (lv_at hl 0 rfl) ?_
  refine lv_iload_n hx hb dX5_opens_1 rfl (lv_at hl 1 rfl) ?_
  obtain ⟨φ1, e9, hf⟩ := ob1_s hf
  have e9 := inj1 e9
  refine g_put (C := RX5) (T := TX5) (N := 7) hx hb hts hinX5 tyX5 tyX5_ok nmX5 hown hK hB 0 rfl rfl 3 rfl hq1 rfl rfl rfl rfl rfl rfl dX5_opens_2 (w2 := (cT cyI cyA ta sa ra N φ1 ψ)) (by rw [← e9]; rfl) (fun H locs hB => ?_)
  refine lv_aload_n hx hb dX5_opens_5 rfl (lv_at hl 0 rfl) ?_
  refine g_get (C := RX5) (T := TX5) (N := 7) hx hb hts hinX5 hown hK hB 0 rfl rfl 6 rfl hq2 rfl rfl dX5_opens_6 ?_
  refine lv_astore_n (lv' := [(2, .ref sa), (0, .ref ta), (1, .int i1)]) hx hb dX5_opens_9 rfl hl (by decide) rfl (fun ls hl => ?_)
  refine lv_aload_n hx hb dX5_opens_10 rfl (lv_at hl 0 rfl) ?_
  refine g_alen hx hb hK hB 1 1 rfl rfl (v := (nI N)) rfl dX5_opens_11 ?_
  refine lv_istore_n (lv' := [(3, .int (nI N)), (2, .ref sa), (0, .ref ta), (1, .int i1)]) hx hb dX5_opens_12 rfl hl (by decide) rfl (fun ls hl => ?_)
  refine lv_iconst (v := (0 : Int32)) hx hb dX5_opens_13 (by decide) ?_
  refine lv_istore (lv' := [(4, .int (0 : Int32)), (3, .int (nI N)), (2, .ref sa), (0, .ref ta), (1, .int i1)]) hx hb dX5_opens_14 hl (by decide) rfl (fun ls hl => ?_)
  obtain ⟨ψ17, hL20, hf⟩ := ob1_s hf
  have kE18 : ∀ (H : Heap) (locs : List Loc) (ls : Array Slot), Bd (dC, dI) [(cyI, .int), (cyA, .array .int)] (va_A (cT cyI cyA ta sa ra N φ ψ) s.heap.size) s (cT cyI cyA ta sa ra N φ1 ψ17) H locs → lv_has ls 6 [] → W p l e (headSpec wsX5_opens rmX5_opens).room s m ([.ref ta, .int i1] : List Value).toArray below meth c H locs 0 0 (MQ below (QvF (dC, dI) [(cyI, .int), (cyA, .array .int)] (cT cyI cyA ta sa ra N φ ψ) (cT cyI cyA ta sa ra N φ_ ψ_) s.heap.size) ([.ref ta, .int i1] : List Value).toArray s 0 0 (va_A (cT cyI cyA ta sa ra N φ ψ) s.heap.size)) (F0 m 66 ls []) := by
    intro H locs ls hB hl
    obtain ⟨e0, e1⟩ := inj2 hf
    subst e0
    subst e1
    exact g_vret hx hb hr hlocks hK hB dX5_opens_66
  have key19 : ∀ (n9 : Nat) (v23 : Int32) (ψ24 : MS) (H : Heap) (locs : List Loc) (ls : Array Slot), loopM (fun st => mX5_opens_L16 fu N (nI N) φ1 st.1 st.2) n9 (v23, ψ24) = some ψ17 → Bd (dC, dI) [(cyI, .int), (cyA, .array .int)] (va_A (cT cyI cyA ta sa ra N φ ψ) s.heap.size) s (cT cyI cyA ta sa ra N φ1 ψ24) H locs → lv_has ls 6 [(4, .int v23), (3, .int (nI N)), (2, .ref sa), (0, .ref ta)] → W p l e (headSpec wsX5_opens rmX5_opens).room s m ([.ref ta, .int i1] : List Value).toArray below meth c H locs 0 0 (MQ below (QvF (dC, dI) [(cyI, .int), (cyA, .array .int)] (cT cyI cyA ta sa ra N φ ψ) (cT cyI cyA ta sa ra N φ_ ψ_) s.heap.size) ([.ref ta, .int i1] : List Value).toArray s 0 0 (va_A (cT cyI cyA ta sa ra N φ ψ) s.heap.size)) (F0 m 16 ls []) := by
    intro n9
    induction n9 with
    | zero => intro v23 ψ24 H locs ls hL20; exact (loopM_z hL20).elim
    | succ n9 ih9 =>
      intro v23 ψ24 H locs ls hL20 hB hl
      obtain ⟨o25, hg21, hL20⟩ := loopM_s hL20
      have hg21 : mX5_opens_L16 fu N (nI N) φ1 v23 ψ24 = some o25 := hg21
      unfold mX5_opens_L16 at hg21
      refine lv_iload hx hb dX5_opens_16 (lv_at hl 0 rfl) ?_
      refine lv_iload_n hx hb dX5_opens_18 rfl (lv_at hl 1 rfl) ?_
      refine lv_icmp_ge (tgt := 66) hx hb dX5_opens_19 (by decide) (fun c26 => ?_) (fun c26 => ?_)
      · have hg21 := ite_t c26 hg21
        have hL20 := el1_l (inj1 hg21) hL20
        have e0 := inj1 hL20
        subst e0
        exact kE18 _ _ _ hB (lv_sub hl [] rfl)
      · have hg21 := ite_f c26 hg21
        refine lv_aload_n hx hb dX5_opens_22 rfl (lv_at hl 2 rfl) ?_
        refine lv_iload hx hb dX5_opens_23 (lv_at hl 0 rfl) ?_
        obtain ⟨j27, e9, hg21⟩ := ob1_s hg21
        obtain ⟨h_j27, e9⟩ := hixn_s e9
        refine g_aald hx hb hK hB 1 1 rfl rfl e9 dX5_opens_25 ?_
        refine lv_astore (lv' := [(5, .ref (ra j27)), (4, .int v23), (3, .int (nI N)), (2, .ref sa), (0, .ref ta)]) hx hb dX5_opens_26 hl (by decide) rfl (fun ls hl => ?_)
        refine lv_aload hx hb dX5_opens_28 (lv_at hl 0 rfl) ?_
        refine lv_iconst (v := (0 : Int32)) hx hb dX5_opens_30 (by decide) ?_
        obtain ⟨x28, e9, hg21⟩ := ob1_s hg21
        refine g_iald hx hb hK hB (2 + j27) 0 (cT_row0 cyI cyA ta sa ra N φ1 ψ24 h_j27) rfl (rd_s e9) dX5_opens_31 ?_
        refine lv_aload_n hx hb dX5_opens_32 rfl (lv_at hl 4 rfl) ?_
        refine g_get (C := RX5) (T := TX5) (N := 7) hx hb hts hinX5 hown hK hB 0 rfl rfl 3 rfl hq1 rfl rfl dX5_opens_33 ?_
        obtain ⟨ψ29, hJ30, hg21⟩ := ob1_s hg21
        have kJ31 : ∀ (H : Heap) (locs : List Loc) (ls : Array Slot), Bd (dC, dI) [(cyI, .int), (cyA, .array .int)] (va_A (cT cyI cyA ta sa ra N φ ψ) s.heap.size) s (cT cyI cyA ta sa ra N φ1 ψ29) H locs → lv_has ls 6 [(4, .int v23), (3, .int (nI N)), (2, .ref sa), (0, .ref ta)] → W p l e (headSpec wsX5_opens rmX5_opens).room s m ([.ref ta, .int i1] : List Value).toArray below meth c H locs 0 0 (MQ below (QvF (dC, dI) [(cyI, .int), (cyA, .array .int)] (cT cyI cyA ta sa ra N φ ψ) (cT cyI cyA ta sa ra N φ_ ψ_) s.heap.size) ([.ref ta, .int i1] : List Value).toArray s 0 0 (va_A (cT cyI cyA ta sa ra N φ ψ) s.heap.size)) (F0 m 60 ls []) := by
          intro H locs ls hB hl
          refine lv_iinc (v := (v23 + (1 : Int32))) (lv' := [(4, .int (v23 + (1 : Int32))), (3, .int (nI N)), (2, .ref sa), (0, .ref ta)]) hx hb dX5_opens_60 hl (k := 0) rfl rfl (by decide) rfl (fun ls hl => ?_)
          refine lv_goto (tgt := 16) hx hb dX5_opens_63 (by decide) ?_
          have hL20 := el1_r (inj1 hg21) hL20
          exact ih9 _ _ _ _ _ hL20 hB (lv_sub hl [0, 1, 2, 3] rfl)
        refine lv_icmp_ne (tgt := 60) hx hb dX5_opens_36 (by decide) (fun c32 => ?_) (fun c32 => ?_)
        · have hJ30 := ite_f c32 hJ30
          have e0 := inj1 hJ30
          subst e0
          exact kJ31 _ _ _ hB (lv_sub hl [1, 2, 3, 4] rfl)
        · have hJ30 := ite_t c32 hJ30
          refine lv_aload hx hb dX5_opens_39 (lv_at hl 0 rfl) ?_
          refine lv_iconst (v := (4 : Int32)) hx hb dX5_opens_41 (by decide) ?_
          obtain ⟨x33, e9, hJ30⟩ := ob1_s hJ30
          refine g_iald hx hb hK hB (2 + j27) 0 (cT_row0 cyI cyA ta sa ra N φ1 ψ24 h_j27) rfl (rd_s e9) dX5_opens_42 ?_
          refine lv_if_eq (tgt := 49) hx hb dX5_opens_43 (by decide) (fun c34 => ?_) (fun c34 => ?_)
          · have hJ30 := ite_t c34 hJ30
            refine lv_aload hx hb dX5_opens_49 (lv_at hl 0 rfl) ?_
            refine lv_iconst (v := (4 : Int32)) hx hb dX5_opens_51 (by decide) ?_
            refine lv_iconst (v := (1 : Int32)) hx hb dX5_opens_52 (by decide) ?_
            obtain ⟨ψ35, e9, hJ30⟩ := ob1_s hJ30
            obtain ⟨hi, e9⟩ := wra_s e9
            refine g_iast hx hb hK hB (2 + j27) 0 (cT_row0 cyI cyA ta sa ra N φ1 ψ24 h_j27) rfl hi rfl dX5_opens_53 (w2 := (cT cyI cyA ta sa ra N φ1 ψ35)) (by rw [← e9]; exact cT_set0 cyI cyA ta sa ra N φ1 ψ24 _) (fun H locs hB => ?_)
            refine lv_aload hx hb dX5_opens_54 (lv_at hl 0 rfl) ?_
            refine lv_bipush (v := (8 : Int32)) hx hb dX5_opens_56 (by decide) ?_
            refine lv_iconst (v := (0 : Int32)) hx hb dX5_opens_58 (by decide) ?_
            obtain ⟨ψ36, e9, hJ30⟩ := ob1_s hJ30
            obtain ⟨hi, e9⟩ := wra_s e9
            refine g_iast hx hb hK hB (2 + j27) 0 (cT_row0 cyI cyA ta sa ra N φ1 ψ35 h_j27) rfl hi rfl dX5_opens_59 (w2 := (cT cyI cyA ta sa ra N φ1 ψ36)) (by rw [← e9]; exact cT_set0 cyI cyA ta sa ra N φ1 ψ35 _) (fun H locs hB => ?_)
            have e0 := inj1 hJ30
            subst e0
            exact kJ31 _ _ _ hB (lv_sub hl [1, 2, 3, 4] rfl)
          · have hJ30 := ite_f c34 hJ30
            refine lv_goto (tgt := 60) hx hb dX5_opens_46 (by decide) ?_
            have e0 := inj1 hJ30
            subst e0
            exact kJ31 _ _ _ hB (lv_sub hl [1, 2, 3, 4] rfl)
  exact key19 fu _ _ _ _ _ hL20 hB (lv_sub hl [0, 1, 2, 3] rfl)

abbrev rmX5_rests : Room := { frames := 0, cells := 0, slots := 0, locals := 0 }

set_option maxHeartbeats 4000000 in
set_option maxRecDepth 100000 in
theorem kX5_rests (l : Launch) (dC : Nat → ClassId) (dI : Nat → Nat → Nat) (cyI cyA : ClassId) (ta sa : Nat) (ra : PA) (sz : Nat) {fu : Nat} {N : Nat} {φ : MS} {ψ : MS} {i1 : Int32} {i2 : Int32} {φ_ : MS} (hf : mX5_rests fu N φ ψ i1 i2 = some φ_) : Met l yX5_rests wsX5_rests rmX5_rests (PcF (dC, dI) [(cyI, .int), (cyA, .array .int)] (cT cyI cyA ta sa ra N φ ψ) sz [.ref ta, .int i1, .int i2]) (QvF (dC, dI) [(cyI, .int), (cyA, .array .int)] (cT cyI cyA ta sa ra N φ ψ) (cT cyI cyA ta sa ra N φ_ ψ) sz) 0 0 (va_A (cT cyI cyA ta sa ra N φ ψ) sz) := by
  refine Met.ofW (cc := cX5_rests) (maxL := 3) (ret := none) (by decide) rfl ?_
  intro p e s m args below meth c s₁ B hml hv
  obtain ⟨rfl, hsz, hP, hK, hD0⟩ := hv
  have hx := B.exec
  have hb := B.bytes
  have hr := B.returns
  have hts := atoms_spec (ws := wsX5_rests) B.pre
  have hown : s.vm.findClass RX5 = some m.cls := findClass_of_methodNamed B.named
  have hlocks := B.notSynchronized
  subst hsz
  have hA : ∀ q : Nat, s.heap.size ≤ q → va_A (cT cyI cyA ta sa ra N φ ψ) s.heap.size q := fun q h => Or.inr h
  have hB : Bd (dC, dI) [(cyI, .int), (cyA, .array .int)] (va_A (cT cyI cyA ta sa ra N φ ψ) s.heap.size) s (cT cyI cyA ta sa ra N φ ψ) s.heap [] := ⟨hP, hD0.self, va_S.rf⟩
  have hq1 : (Cond.fieldLink RX5 29 "UndoJourneysLaw$Trip" "state" "I").before _ s = true := hts _ (List.mem_of_getElem? (i := 1) rfl)
  have hq2 : (Cond.fieldLink RX5 7 "UndoJourneysLaw$Trip" "stage" "I").before _ s = true := hts _ (List.mem_of_getElem? (i := 2) rfl)
  have hq3 : (Cond.fieldLink RX5 13 "UndoJourneysLaw$Trip" "end" "I").before _ s = true := hts _ (List.mem_of_getElem? (i := 3) rfl)
  have hinX5 : ∀ w ∈ wsX50, w ∈ wsX5_rests := fun w h => List.mem_cons_of_mem _ (List.mem_append_right _ h)
  have hl := lv_entry [.ref ta, .int i1, .int i2] (n := 3) (Nat.le_of_ble_eq_true rfl)
  rw [lg_entry_eq]
  generalize (lg_sl [.ref ta, .int i1, .int i2] ++ List.replicate (3 - (lg_sl [.ref ta, .int i1, .int i2]).length) Slot.unset).toArray = ls at hl ⊢
  have hl : lv_has ls 3 [(0, .ref ta), (1, .int i1), (2, .int i2)] := hl
  clear hP hD0
  suffices main : ∀ (H : Heap) (locs : List Loc), Bd (dC, dI) [(cyI, .int), (cyA, .array .int)] (va_A (cT cyI cyA ta sa ra N φ ψ) s.heap.size) s (cT cyI cyA ta sa ra N φ ψ) H locs → W p l e (headSpec wsX5_rests rmX5_rests).room s m ([.ref ta, .int i1, .int i2] : List Value).toArray below meth c H locs 0 0 (MQ below (QvF (dC, dI) [(cyI, .int), (cyA, .array .int)] (cT cyI cyA ta sa ra N φ ψ) (cT cyI cyA ta sa ra N φ_ ψ) s.heap.size) ([.ref ta, .int i1, .int i2] : List Value).toArray s 0 0 (va_A (cT cyI cyA ta sa ra N φ ψ) s.heap.size)) (F0 m 0 ls []) from main _ _ hB
  clear hB
  intro H locs hB
  unfold mX5_rests at hf
  refine lv_aload_n hx hb dX5_rests_0 rfl (lv_at hl 0 rfl) ?_
  refine lv_iload_n hx hb dX5_rests_1 rfl (lv_at hl 1 rfl) ?_
  obtain ⟨φ1, e9, hf⟩ := ob1_s hf
  have e9 := inj1 e9
  refine g_put (C := RX5) (T := TX5) (N := 7) hx hb hts hinX5 tyX5 tyX5_ok nmX5 hown hK hB 0 rfl rfl 2 rfl hq1 rfl rfl rfl rfl rfl rfl dX5_rests_2 (w2 := (cT cyI cyA ta sa ra N φ1 ψ)) (by rw [← e9]; rfl) (fun H locs hB => ?_)
  refine lv_aload_n hx hb dX5_rests_5 rfl (lv_at hl 0 rfl) ?_
  refine lv_iconst (v := (-1 : Int32)) hx hb dX5_rests_6 (by decide) ?_
  obtain ⟨φ2, e9, hf⟩ := ob1_s hf
  have e9 := inj1 e9
  refine g_put (C := RX5) (T := TX5) (N := 7) hx hb hts hinX5 tyX5 tyX5_ok nmX5 hown hK hB 0 rfl rfl 3 rfl hq2 rfl rfl rfl rfl rfl rfl dX5_rests_7 (w2 := (cT cyI cyA ta sa ra N φ2 ψ)) (by rw [← e9]; rfl) (fun H locs hB => ?_)
  refine lv_aload_n hx hb dX5_rests_10 rfl (lv_at hl 0 rfl) ?_
  refine lv_iload_n hx hb dX5_rests_11 rfl (lv_at hl 2 rfl) ?_
  obtain ⟨φ3, e9, hf⟩ := ob1_s hf
  have e9 := inj1 e9
  refine g_put (C := RX5) (T := TX5) (N := 7) hx hb hts hinX5 tyX5 tyX5_ok nmX5 hown hK hB 0 rfl rfl 4 rfl hq3 rfl rfl rfl rfl rfl rfl dX5_rests_12 (w2 := (cT cyI cyA ta sa ra N φ3 ψ)) (by rw [← e9]; rfl) (fun H locs hB => ?_)
  have e0 := inj1 hf
  subst e0
  exact g_vret hx hb hr hlocks hK hB dX5_rests_15

abbrev rmX5_goesBack : Room := { frames := 0, cells := 0, slots := 0, locals := 0 }

set_option maxHeartbeats 4000000 in
set_option maxRecDepth 100000 in
theorem kX5_goesBack (l : Launch) (dC : Nat → ClassId) (dI : Nat → Nat → Nat) (cyI cyA : ClassId) (ta sa : Nat) (ra : PA) (sz : Nat) {fu : Nat} {N : Nat} {φ : MS} {ψ : MS} {φ_ : MS} (hf : mX5_goesBack fu N φ ψ = some φ_) : Met l yX5_goesBack wsX5_goesBack rmX5_goesBack (PcF (dC, dI) [(cyI, .int), (cyA, .array .int)] (cT cyI cyA ta sa ra N φ ψ) sz [.ref ta]) (QvF (dC, dI) [(cyI, .int), (cyA, .array .int)] (cT cyI cyA ta sa ra N φ ψ) (cT cyI cyA ta sa ra N φ_ ψ) sz) 0 0 (va_A (cT cyI cyA ta sa ra N φ ψ) sz) := by
  refine Met.ofW (cc := cX5_goesBack) (maxL := 1) (ret := none) (by decide) rfl ?_
  intro p e s m args below meth c s₁ B hml hv
  obtain ⟨rfl, hsz, hP, hK, hD0⟩ := hv
  have hx := B.exec
  have hb := B.bytes
  have hr := B.returns
  have hts := atoms_spec (ws := wsX5_goesBack) B.pre
  have hown : s.vm.findClass RX5 = some m.cls := findClass_of_methodNamed B.named
  have hlocks := B.notSynchronized
  subst hsz
  have hA : ∀ q : Nat, s.heap.size ≤ q → va_A (cT cyI cyA ta sa ra N φ ψ) s.heap.size q := fun q h => Or.inr h
  have hB : Bd (dC, dI) [(cyI, .int), (cyA, .array .int)] (va_A (cT cyI cyA ta sa ra N φ ψ) s.heap.size) s (cT cyI cyA ta sa ra N φ ψ) s.heap [] := ⟨hP, hD0.self, va_S.rf⟩
  have hq1 : (Cond.fieldLink RX5 29 "UndoJourneysLaw$Trip" "state" "I").before _ s = true := hts _ (List.mem_of_getElem? (i := 1) rfl)
  have hq2 : (Cond.fieldLink RX5 7 "UndoJourneysLaw$Trip" "stage" "I").before _ s = true := hts _ (List.mem_of_getElem? (i := 2) rfl)
  have hq3 : (Cond.fieldLink RX5 13 "UndoJourneysLaw$Trip" "end" "I").before _ s = true := hts _ (List.mem_of_getElem? (i := 3) rfl)
  have hq4 : (Cond.fieldLink RX5 32 "UndoJourneysLaw$Trip" "failed" "I").before _ s = true := hts _ (List.mem_of_getElem? (i := 4) rfl)
  have hinX5 : ∀ w ∈ wsX50, w ∈ wsX5_goesBack := fun w h => List.mem_cons_of_mem _ (List.mem_append_right _ h)
  have hl := lv_entry [.ref ta] (n := 1) (Nat.le_of_ble_eq_true rfl)
  rw [lg_entry_eq]
  generalize (lg_sl [.ref ta] ++ List.replicate (1 - (lg_sl [.ref ta]).length) Slot.unset).toArray = ls at hl ⊢
  have hl : lv_has ls 1 [(0, .ref ta)] := hl
  clear hP hD0
  suffices main : ∀ (H : Heap) (locs : List Loc), Bd (dC, dI) [(cyI, .int), (cyA, .array .int)] (va_A (cT cyI cyA ta sa ra N φ ψ) s.heap.size) s (cT cyI cyA ta sa ra N φ ψ) H locs → W p l e (headSpec wsX5_goesBack rmX5_goesBack).room s m ([.ref ta] : List Value).toArray below meth c H locs 0 0 (MQ below (QvF (dC, dI) [(cyI, .int), (cyA, .array .int)] (cT cyI cyA ta sa ra N φ ψ) (cT cyI cyA ta sa ra N φ_ ψ) s.heap.size) ([.ref ta] : List Value).toArray s 0 0 (va_A (cT cyI cyA ta sa ra N φ ψ) s.heap.size)) (F0 m 0 ls []) from main _ _ hB
  clear hB
  intro H locs hB
  unfold mX5_goesBack at hf
  refine lv_aload_n hx hb dX5_goesBack_0 rfl (lv_at hl 0 rfl) ?_
  refine lv_iconst (v := (2 : Int32)) hx hb dX5_goesBack_1 (by decide) ?_
  obtain ⟨φ1, e9, hf⟩ := ob1_s hf
  have e9 := inj1 e9
  refine g_put (C := RX5) (T := TX5) (N := 7) hx hb hts hinX5 tyX5 tyX5_ok nmX5 hown hK hB 0 rfl rfl 2 rfl hq1 rfl rfl rfl rfl rfl rfl dX5_goesBack_2 (w2 := (cT cyI cyA ta sa ra N φ1 ψ)) (by rw [← e9]; rfl) (fun H locs hB => ?_)
  refine lv_aload_n hx hb dX5_goesBack_5 rfl (lv_at hl 0 rfl) ?_
  refine lv_iconst (v := (-1 : Int32)) hx hb dX5_goesBack_6 (by decide) ?_
  obtain ⟨φ2, e9, hf⟩ := ob1_s hf
  have e9 := inj1 e9
  refine g_put (C := RX5) (T := TX5) (N := 7) hx hb hts hinX5 tyX5 tyX5_ok nmX5 hown hK hB 0 rfl rfl 3 rfl hq2 rfl rfl rfl rfl rfl rfl dX5_goesBack_7 (w2 := (cT cyI cyA ta sa ra N φ2 ψ)) (by rw [← e9]; rfl) (fun H locs hB => ?_)
  refine lv_aload_n hx hb dX5_goesBack_10 rfl (lv_at hl 0 rfl) ?_
  refine lv_iconst (v := (-1 : Int32)) hx hb dX5_goesBack_11 (by decide) ?_
  obtain ⟨φ3, e9, hf⟩ := ob1_s hf
  have e9 := inj1 e9
  refine g_put (C := RX5) (T := TX5) (N := 7) hx hb hts hinX5 tyX5 tyX5_ok nmX5 hown hK hB 0 rfl rfl 4 rfl hq3 rfl rfl rfl rfl rfl rfl dX5_goesBack_12 (w2 := (cT cyI cyA ta sa ra N φ3 ψ)) (by rw [← e9]; rfl) (fun H locs hB => ?_)
  refine lv_aload_n hx hb dX5_goesBack_15 rfl (lv_at hl 0 rfl) ?_
  refine lv_iconst (v := (0 : Int32)) hx hb dX5_goesBack_16 (by decide) ?_
  obtain ⟨φ4, e9, hf⟩ := ob1_s hf
  have e9 := inj1 e9
  refine g_put (C := RX5) (T := TX5) (N := 7) hx hb hts hinX5 tyX5 tyX5_ok nmX5 hown hK hB 0 rfl rfl 5 rfl hq4 rfl rfl rfl rfl rfl rfl dX5_goesBack_17 (w2 := (cT cyI cyA ta sa ra N φ4 ψ)) (by rw [← e9]; rfl) (fun H locs hB => ?_)
  have e0 := inj1 hf
  subst e0
  exact g_vret hx hb hr hlocks hK hB dX5_goesBack_20

abbrev rmX5_owes : Room := { frames := 0, cells := 0, slots := 0, locals := 0 }

set_option maxHeartbeats 4000000 in
set_option maxRecDepth 100000 in
theorem kX5_owes (l : Launch) (dC : Nat → ClassId) (dI : Nat → Nat → Nat) (cyI cyA : ClassId) (ta sa : Nat) (ra : PA) (sz : Nat) {fu : Nat} {N : Nat} {φ : MS} {ψ : MS} {r : Int32} (hf : mX5_owes fu N φ ψ = some r) : Met l yX5_owes wsX5_owes rmX5_owes (PcF (dC, dI) [(cyI, .int), (cyA, .array .int)] (cT cyI cyA ta sa ra N φ ψ) sz [.ref ta]) (QiF (dC, dI) [(cyI, .int), (cyA, .array .int)] (cT cyI cyA ta sa ra N φ ψ) (cT cyI cyA ta sa ra N φ ψ) sz r) 0 0 (va_A (cT cyI cyA ta sa ra N φ ψ) sz) := by
  refine Met.ofW (cc := cX5_owes) (maxL := 6) (ret := (some .int)) (by decide) rfl ?_
  intro p e s m args below meth c s₁ B hml hv
  obtain ⟨rfl, hsz, hP, hK, hD0⟩ := hv
  have hx := B.exec
  have hb := B.bytes
  have hr := B.returns
  have hts := atoms_spec (ws := wsX5_owes) B.pre
  have hown : s.vm.findClass RX5 = some m.cls := findClass_of_methodNamed B.named
  have hlocks := B.notSynchronized
  subst hsz
  have hA : ∀ q : Nat, s.heap.size ≤ q → va_A (cT cyI cyA ta sa ra N φ ψ) s.heap.size q := fun q h => Or.inr h
  have hB : Bd (dC, dI) [(cyI, .int), (cyA, .array .int)] (va_A (cT cyI cyA ta sa ra N φ ψ) s.heap.size) s (cT cyI cyA ta sa ra N φ ψ) s.heap [] := ⟨hP, hD0.self, va_S.rf⟩
  have hq1 : (Cond.fieldLink RX5 18 "UndoJourneysLaw$Trip" "steps" "[[I").before _ s = true := hts _ (List.mem_of_getElem? (i := 1) rfl)
  have hq2 : (Cond.fieldLink RX5 29 "UndoJourneysLaw$Trip" "state" "I").before _ s = true := hts _ (List.mem_of_getElem? (i := 2) rfl)
  have hinX5 : ∀ w ∈ wsX50, w ∈ wsX5_owes := fun w h => List.mem_cons_of_mem _ (List.mem_append_right _ h)
  have hl := lv_entry [.ref ta] (n := 6) (Nat.le_of_ble_eq_true rfl)
  rw [lg_entry_eq]
  generalize (lg_sl [.ref ta] ++ List.replicate (6 - (lg_sl [.ref ta]).length) Slot.unset).toArray = ls at hl ⊢
  have hl : lv_has ls 6 [(0, .ref ta)] := hl
  clear hP hD0
  suffices main : ∀ (H : Heap) (locs : List Loc), Bd (dC, dI) [(cyI, .int), (cyA, .array .int)] (va_A (cT cyI cyA ta sa ra N φ ψ) s.heap.size) s (cT cyI cyA ta sa ra N φ ψ) H locs → W p l e (headSpec wsX5_owes rmX5_owes).room s m ([.ref ta] : List Value).toArray below meth c H locs 0 0 (MQ below (QiF (dC, dI) [(cyI, .int), (cyA, .array .int)] (cT cyI cyA ta sa ra N φ ψ) (cT cyI cyA ta sa ra N φ ψ) s.heap.size r) ([.ref ta] : List Value).toArray s 0 0 (va_A (cT cyI cyA ta sa ra N φ ψ) s.heap.size)) (F0 m 0 ls []) from main _ _ hB
  clear hB
  intro H locs hB
  unfold mX5_owes at hf
  refine lv_iconst (v := (0 : Int32)) hx hb dX5_owes_0 (by decide) ?_
  refine lv_istore_n (lv' := [(1, .int (0 : Int32)), (0, .ref ta)]) hx hb dX5_owes_1 rfl hl (by decide) rfl (fun ls hl => ?_)
  refine lv_aload_n hx hb dX5_owes_2 rfl (lv_at hl 1 rfl) ?_
  refine g_get (C := RX5) (T := TX5) (N := 7) hx hb hts hinX5 hown hK hB 0 rfl rfl 6 rfl hq1 rfl rfl dX5_owes_3 ?_
  refine lv_astore_n (lv' := [(2, .ref sa), (1, .int (0 : Int32)), (0, .ref ta)]) hx hb dX5_owes_6 rfl hl (by decide) rfl (fun ls hl => ?_)
  refine lv_aload_n hx hb dX5_owes_7 rfl (lv_at hl 0 rfl) ?_
  refine g_alen hx hb hK hB 1 1 rfl rfl (v := (nI N)) rfl dX5_owes_8 ?_
  refine lv_istore_n (lv' := [(3, .int (nI N)), (2, .ref sa), (1, .int (0 : Int32)), (0, .ref ta)]) hx hb dX5_owes_9 rfl hl (by decide) rfl (fun ls hl => ?_)
  refine lv_iconst (v := (0 : Int32)) hx hb dX5_owes_10 (by decide) ?_
  refine lv_istore (lv' := [(4, .int (0 : Int32)), (3, .int (nI N)), (2, .ref sa), (1, .int (0 : Int32)), (0, .ref ta)]) hx hb dX5_owes_11 hl (by decide) rfl (fun ls hl => ?_)
  obtain ⟨v18, hL21, hf⟩ := ob1_s hf
  have kE19 : ∀ (H : Heap) (locs : List Loc) (ls : Array Slot), Bd (dC, dI) [(cyI, .int), (cyA, .array .int)] (va_A (cT cyI cyA ta sa ra N φ ψ) s.heap.size) s (cT cyI cyA ta sa ra N φ ψ) H locs → lv_has ls 6 [(1, .int v18)] → W p l e (headSpec wsX5_owes rmX5_owes).room s m ([.ref ta] : List Value).toArray below meth c H locs 0 0 (MQ below (QiF (dC, dI) [(cyI, .int), (cyA, .array .int)] (cT cyI cyA ta sa ra N φ ψ) (cT cyI cyA ta sa ra N φ ψ) s.heap.size r) ([.ref ta] : List Value).toArray s 0 0 (va_A (cT cyI cyA ta sa ra N φ ψ) s.heap.size)) (F0 m 62 ls []) := by
    intro H locs ls hB hl
    refine lv_iload_n hx hb dX5_owes_62 rfl (lv_at hl 0 rfl) ?_
    have e0 := inj1 hf
    subst e0
    exact g_iret hx hb hr hlocks hK hB dX5_owes_63
  have key20 : ∀ (n9 : Nat) (v24 : Int32) (v25 : Int32) (H : Heap) (locs : List Loc) (ls : Array Slot), loopM (fun st => mX5_owes_L13 fu N (nI N) φ ψ st.1 st.2) n9 (v24, v25) = some v18 → Bd (dC, dI) [(cyI, .int), (cyA, .array .int)] (va_A (cT cyI cyA ta sa ra N φ ψ) s.heap.size) s (cT cyI cyA ta sa ra N φ ψ) H locs → lv_has ls 6 [(4, .int v24), (3, .int (nI N)), (2, .ref sa), (1, .int v25), (0, .ref ta)] → W p l e (headSpec wsX5_owes rmX5_owes).room s m ([.ref ta] : List Value).toArray below meth c H locs 0 0 (MQ below (QiF (dC, dI) [(cyI, .int), (cyA, .array .int)] (cT cyI cyA ta sa ra N φ ψ) (cT cyI cyA ta sa ra N φ ψ) s.heap.size r) ([.ref ta] : List Value).toArray s 0 0 (va_A (cT cyI cyA ta sa ra N φ ψ) s.heap.size)) (F0 m 13 ls []) := by
    intro n9
    induction n9 with
    | zero => intro v24 v25 H locs ls hL21; exact (loopM_z hL21).elim
    | succ n9 ih9 =>
      intro v24 v25 H locs ls hL21 hB hl
      obtain ⟨o26, hg22, hL21⟩ := loopM_s hL21
      have hg22 : mX5_owes_L13 fu N (nI N) φ ψ v24 v25 = some o26 := hg22
      unfold mX5_owes_L13 at hg22
      refine lv_iload hx hb dX5_owes_13 (lv_at hl 0 rfl) ?_
      refine lv_iload_n hx hb dX5_owes_15 rfl (lv_at hl 1 rfl) ?_
      refine lv_icmp_ge (tgt := 62) hx hb dX5_owes_16 (by decide) (fun c27 => ?_) (fun c27 => ?_)
      · have hg22 := ite_t c27 hg22
        have hL21 := el1_l (inj1 hg22) hL21
        have e0 := inj1 hL21
        subst e0
        exact kE19 _ _ _ hB (lv_sub hl [3] rfl)
      · have hg22 := ite_f c27 hg22
        refine lv_aload_n hx hb dX5_owes_19 rfl (lv_at hl 2 rfl) ?_
        refine lv_iload hx hb dX5_owes_20 (lv_at hl 0 rfl) ?_
        obtain ⟨j28, e9, hg22⟩ := ob1_s hg22
        obtain ⟨h_j28, e9⟩ := hixn_s e9
        refine g_aald hx hb hK hB 1 1 rfl rfl e9 dX5_owes_22 ?_
        refine lv_astore (lv' := [(5, .ref (ra j28)), (4, .int v24), (3, .int (nI N)), (2, .ref sa), (1, .int v25), (0, .ref ta)]) hx hb dX5_owes_23 hl (by decide) rfl (fun ls hl => ?_)
        refine lv_aload hx hb dX5_owes_25 (lv_at hl 0 rfl) ?_
        refine lv_iconst (v := (4 : Int32)) hx hb dX5_owes_27 (by decide) ?_
        obtain ⟨x29, e9, hg22⟩ := ob1_s hg22
        refine g_iald hx hb hK hB (2 + j28) 0 (cT_row0 cyI cyA ta sa ra N φ ψ h_j28) rfl (rd_s e9) dX5_owes_28 ?_
        refine lv_iconst (v := (3 : Int32)) hx hb dX5_owes_29 (by decide) ?_
        obtain ⟨v30, hJ31, hg22⟩ := ob1_s hg22
        have kJ32 : ∀ (H : Heap) (locs : List Loc) (ls : Array Slot), Bd (dC, dI) [(cyI, .int), (cyA, .array .int)] (va_A (cT cyI cyA ta sa ra N φ ψ) s.heap.size) s (cT cyI cyA ta sa ra N φ ψ) H locs → lv_has ls 6 [(1, .int v30), (4, .int v24), (3, .int (nI N)), (2, .ref sa), (0, .ref ta)] → W p l e (headSpec wsX5_owes rmX5_owes).room s m ([.ref ta] : List Value).toArray below meth c H locs 0 0 (MQ below (QiF (dC, dI) [(cyI, .int), (cyA, .array .int)] (cT cyI cyA ta sa ra N φ ψ) (cT cyI cyA ta sa ra N φ ψ) s.heap.size r) ([.ref ta] : List Value).toArray s 0 0 (va_A (cT cyI cyA ta sa ra N φ ψ) s.heap.size)) (F0 m 56 ls []) := by
          intro H locs ls hB hl
          refine lv_iinc (v := (v24 + (1 : Int32))) (lv' := [(4, .int (v24 + (1 : Int32))), (1, .int v30), (3, .int (nI N)), (2, .ref sa), (0, .ref ta)]) hx hb dX5_owes_56 hl (k := 1) rfl rfl (by decide) rfl (fun ls hl => ?_)
          refine lv_goto (tgt := 13) hx hb dX5_owes_59 (by decide) ?_
          have hL21 := el1_r (inj1 hg22) hL21
          exact ih9 _ _ _ _ _ hL21 hB (lv_sub hl [0, 2, 3, 1, 4] rfl)
        obtain ⟨t33, hD34, hJ31⟩ := ob1_s hJ31
        have kTt33 : t33 = true → ∀ (H : Heap) (locs : List Loc), Bd (dC, dI) [(cyI, .int), (cyA, .array .int)] (va_A (cT cyI cyA ta sa ra N φ ψ) s.heap.size) s (cT cyI cyA ta sa ra N φ ψ) H locs → W p l e (headSpec wsX5_owes rmX5_owes).room s m ([.ref ta] : List Value).toArray below meth c H locs 0 0 (MQ below (QiF (dC, dI) [(cyI, .int), (cyA, .array .int)] (cT cyI cyA ta sa ra N φ ψ) (cT cyI cyA ta sa ra N φ ψ) s.heap.size r) ([.ref ta] : List Value).toArray s 0 0 (va_A (cT cyI cyA ta sa ra N φ ψ) s.heap.size)) (F0 m 49 ls []) := by
          intro ht H locs hB
          have hJ31 := cnd_t ht hJ31
          refine lv_iload_n hx hb dX5_owes_49 rfl (lv_at hl 4 rfl) ?_
          refine lv_aload hx hb dX5_owes_50 (lv_at hl 0 rfl) ?_
          refine lv_iconst (v := (2 : Int32)) hx hb dX5_owes_52 (by decide) ?_
          obtain ⟨x38, e9, hJ31⟩ := ob1_s hJ31
          refine g_iald hx hb hK hB (2 + j28) 0 (cT_row0 cyI cyA ta sa ra N φ ψ h_j28) rfl (rd_s e9) dX5_owes_53 ?_
          refine lv_iadd hx hb dX5_owes_54 ?_
          refine lv_istore_n (lv' := [(1, .int (v25 + x38)), (5, .ref (ra j28)), (4, .int v24), (3, .int (nI N)), (2, .ref sa), (0, .ref ta)]) hx hb dX5_owes_55 rfl hl (by decide) rfl (fun ls hl => ?_)
          have e0 := inj1 hJ31
          subst e0
          exact kJ32 _ _ _ hB (lv_sub hl [0, 2, 3, 4, 5] rfl)
        have kFt33 : t33 = false → ∀ (H : Heap) (locs : List Loc), Bd (dC, dI) [(cyI, .int), (cyA, .array .int)] (va_A (cT cyI cyA ta sa ra N φ ψ) s.heap.size) s (cT cyI cyA ta sa ra N φ ψ) H locs → W p l e (headSpec wsX5_owes rmX5_owes).room s m ([.ref ta] : List Value).toArray below meth c H locs 0 0 (MQ below (QiF (dC, dI) [(cyI, .int), (cyA, .array .int)] (cT cyI cyA ta sa ra N φ ψ) (cT cyI cyA ta sa ra N φ ψ) s.heap.size r) ([.ref ta] : List Value).toArray s 0 0 (va_A (cT cyI cyA ta sa ra N φ ψ) s.heap.size)) (F0 m 56 ls []) := by
          intro ht H locs hB
          have hJ31 := cnd_f ht hJ31
          have e0 := inj1 hJ31
          subst e0
          exact kJ32 _ _ _ hB (lv_sub hl [4, 1, 2, 3, 5] rfl)
        refine lv_icmp_ne (tgt := 56) hx hb dX5_owes_30 (by decide) (fun c35 => ?_) (fun c35 => ?_)
        · have hD34 := ite_f c35 hD34
          have e0 := inj1 hD34
          exact kFt33 e0.symm _ _ hB
        · have hD34 := ite_t c35 hD34
          refine lv_aload_n hx hb dX5_owes_33 rfl (lv_at hl 5 rfl) ?_
          refine g_get (C := RX5) (T := TX5) (N := 7) hx hb hts hinX5 hown hK hB 0 rfl rfl 2 rfl hq2 rfl rfl dX5_owes_34 ?_
          refine lv_iconst (v := (2 : Int32)) hx hb dX5_owes_37 (by decide) ?_
          refine lv_icmp_eq (tgt := 49) hx hb dX5_owes_38 (by decide) (fun c36 => ?_) (fun c36 => ?_)
          · have hD34 := ite_t c36 hD34
            have e0 := inj1 hD34
            exact kTt33 e0.symm _ _ hB
          · have hD34 := ite_f c36 hD34
            refine lv_aload_n hx hb dX5_owes_41 rfl (lv_at hl 5 rfl) ?_
            refine g_get (C := RX5) (T := TX5) (N := 7) hx hb hts hinX5 hown hK hB 0 rfl rfl 2 rfl hq2 rfl rfl dX5_owes_42 ?_
            refine lv_iconst (v := (5 : Int32)) hx hb dX5_owes_45 (by decide) ?_
            refine lv_icmp_ne (tgt := 56) hx hb dX5_owes_46 (by decide) (fun c37 => ?_) (fun c37 => ?_)
            · have hD34 := ite_f c37 hD34
              have e0 := inj1 hD34
              exact kFt33 e0.symm _ _ hB
            · have hD34 := ite_t c37 hD34
              have e0 := inj1 hD34
              exact kTt33 e0.symm _ _ hB
  exact key20 fu _ _ _ _ _ hL21 hB (lv_sub hl [0, 1, 2, 3, 4] rfl)

