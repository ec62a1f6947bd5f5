abbrev rmJ7_fill_53178 : Room := { frames := 0, cells := 0, slots := 0, locals := 0 }

set_option maxHeartbeats 4000000 in
set_option maxRecDepth 100000 in
theorem kJ7_fill_53178 (l : Launch) (dC : Nat → ClassId) (dI : Nat → Nat → Nat) (cyI : ClassId) (a0 : Nat) (sz : Nat) {fu : Nat} {n : Nat} {f0 : FS} {i2 : Int32} {f0_ : FS} (hf : mJ7_fill_53178 fu n f0 i2 = some f0_) : Met l yJ7_fill_53178 wsJ7_fill_53178 rmJ7_fill_53178 (PcF (dC, dI) [(cyI, .int)] ([(a0, .inl (cyI, n, .inl f0))]) sz [.ref a0, .int i2]) (QvF (dC, dI) [(cyI, .int)] ([(a0, .inl (cyI, n, .inl f0))]) ([(a0, .inl (cyI, n, .inl f0_))]) sz) 0 0 (va_A ([(a0, .inl (cyI, n, .inl f0))]) sz) := by
  refine Met.ofW (cc := cJ7_fill_53178) (maxL := 4) (ret := none) (by decide) rfl ?_
  intro p e s m args below meth c s₁ B hml hv
  obtain ⟨rfl, hsz, hP, hK, hD0⟩ := hv
  have hx := B.exec
  have hb := B.bytes
  have hr := B.returns
  have hts := atoms_spec (ws := wsJ7_fill_53178) B.pre
  have hown : s.vm.findClass RJ7 = some m.cls := findClass_of_methodNamed B.named
  have hlocks := B.notSynchronized
  subst hsz
  have hA : ∀ q : Nat, s.heap.size ≤ q → va_A ([(a0, .inl (cyI, n, .inl f0))]) s.heap.size q := fun q h => Or.inr h
  have hB : Bd (dC, dI) [(cyI, .int)] (va_A ([(a0, .inl (cyI, n, .inl f0))]) s.heap.size) s ([(a0, .inl (cyI, n, .inl f0))]) s.heap [] := ⟨hP, hD0.self, va_S.rf⟩
  have hl := lv_entry [.ref a0, .int i2] (n := 4) (Nat.le_of_ble_eq_true rfl)
  rw [lg_entry_eq]
  generalize (lg_sl [.ref a0, .int i2] ++ List.replicate (4 - (lg_sl [.ref a0, .int i2]).length) Slot.unset).toArray = ls at hl ⊢
  have hl : lv_has ls 4 [(0, .ref a0), (1, .int i2)] := hl
  clear hP hD0
  suffices main : ∀ (H : Heap) (locs : List Loc), Bd (dC, dI) [(cyI, .int)] (va_A ([(a0, .inl (cyI, n, .inl f0))]) s.heap.size) s ([(a0, .inl (cyI, n, .inl f0))]) H locs → W p l e (headSpec wsJ7_fill_53178 rmJ7_fill_53178).room s m ([.ref a0, .int i2] : List Value).toArray below meth c H locs 0 0 (MQ below (QvF (dC, dI) [(cyI, .int)] ([(a0, .inl (cyI, n, .inl f0))]) ([(a0, .inl (cyI, n, .inl f0_))]) s.heap.size) ([.ref a0, .int i2] : List Value).toArray s 0 0 (va_A ([(a0, .inl (cyI, n, .inl f0))]) s.heap.size)) (F0 m 0 ls []) from main _ _ hB
  clear hB
  intro H locs hB
  unfold mJ7_fill_53178 at hf
  refine lv_iconst (v := (0 : Int32)) hx hb dJ7_fill_53178_0 (by decide) ?_
  refine lv_istore_n (lv' := [(2, .int (0 : Int32)), (0, .ref a0), (1, .int i2)]) hx hb dJ7_fill_53178_1 rfl hl (by decide) rfl (fun ls hl => ?_)
  refine lv_aload_n hx hb dJ7_fill_53178_2 rfl (lv_at hl 1 rfl) ?_
  refine g_alen hx hb hK hB 0 0 rfl rfl (v := (Int32.ofNat n)) rfl dJ7_fill_53178_3 ?_
  refine lv_istore_n (lv' := [(3, .int (Int32.ofNat n)), (2, .int (0 : Int32)), (0, .ref a0), (1, .int i2)]) hx hb dJ7_fill_53178_4 rfl hl (by decide) rfl (fun ls hl => ?_)
  obtain ⟨f07, hL10, hf⟩ := ob1_s hf
  have kE8 : ∀ (H : Heap) (locs : List Loc) (ls : Array Slot), Bd (dC, dI) [(cyI, .int)] (va_A ([(a0, .inl (cyI, n, .inl f0))]) s.heap.size) s ([(a0, .inl (cyI, n, .inl f07))]) H locs → lv_has ls 4 [] → W p l e (headSpec wsJ7_fill_53178 rmJ7_fill_53178).room s m ([.ref a0, .int i2] : List Value).toArray below meth c H locs 0 0 (MQ below (QvF (dC, dI) [(cyI, .int)] ([(a0, .inl (cyI, n, .inl f0))]) ([(a0, .inl (cyI, n, .inl f0_))]) s.heap.size) ([.ref a0, .int i2] : List Value).toArray s 0 0 (va_A ([(a0, .inl (cyI, n, .inl f0))]) s.heap.size)) (F0 m 20 ls []) := by
    intro H locs ls hB hl
    have e0 := inj1 hf
    subst e0
    exact g_vret hx hb hr hlocks hK hB dJ7_fill_53178_20
  have key9 : ∀ (n9 : Nat) (v13 : Int32) (f014 : FS) (H : Heap) (locs : List Loc) (ls : Array Slot), loopM (fun st => mJ7_fill_53178_L5 fu n (Int32.ofNat n) i2 st.1 st.2) n9 (v13, f014) = some f07 → Bd (dC, dI) [(cyI, .int)] (va_A ([(a0, .inl (cyI, n, .inl f0))]) s.heap.size) s ([(a0, .inl (cyI, n, .inl f014))]) H locs → lv_has ls 4 [(3, .int (Int32.ofNat n)), (2, .int v13), (0, .ref a0), (1, .int i2)] → W p l e (headSpec wsJ7_fill_53178 rmJ7_fill_53178).room s m ([.ref a0, .int i2] : List Value).toArray below meth c H locs 0 0 (MQ below (QvF (dC, dI) [(cyI, .int)] ([(a0, .inl (cyI, n, .inl f0))]) ([(a0, .inl (cyI, n, .inl f0_))]) s.heap.size) ([.ref a0, .int i2] : List Value).toArray s 0 0 (va_A ([(a0, .inl (cyI, n, .inl f0))]) s.heap.size)) (F0 m 5 ls []) := by
    intro n9
    induction n9 with
    | zero => intro v13 f014 H locs ls hL10; exact (loopM_z hL10).elim
    | succ n9 ih9 =>
      intro v13 f014 H locs ls hL10 hB hl
      obtain ⟨o15, hg11, hL10⟩ := loopM_s hL10
      have hg11 : mJ7_fill_53178_L5 fu n (Int32.ofNat n) i2 v13 f014 = some o15 := hg11
      unfold mJ7_fill_53178_L5 at hg11
      refine lv_iload_n hx hb dJ7_fill_53178_5 rfl (lv_at hl 1 rfl) ?_
      refine lv_iload_n hx hb dJ7_fill_53178_6 rfl (lv_at hl 0 rfl) ?_
      refine lv_icmp_ge (tgt := 20) hx hb dJ7_fill_53178_7 (by decide) (fun c16 => ?_) (fun c16 => ?_)
      · have hg11 := ite_t c16 hg11
        have hL10 := el1_l (inj1 hg11) hL10
        have e0 := inj1 hL10
        subst e0
        exact kE8 _ _ _ hB (lv_sub hl [] rfl)
      · have hg11 := ite_f c16 hg11
        refine lv_aload_n hx hb dJ7_fill_53178_10 rfl (lv_at hl 2 rfl) ?_
        refine lv_iload_n hx hb dJ7_fill_53178_11 rfl (lv_at hl 1 rfl) ?_
        refine lv_iload_n hx hb dJ7_fill_53178_12 rfl (lv_at hl 3 rfl) ?_
        obtain ⟨f017, e9, hg11⟩ := ob1_s hg11
        obtain ⟨hi, e9⟩ := wr_s e9
        refine g_iast hx hb hK hB 0 0 rfl rfl hi e9 dJ7_fill_53178_13 (w2 := ([(a0, .inl (cyI, n, .inl f017))])) (by rfl) (fun H locs hB => ?_)
        refine lv_iinc (v := (v13 + (1 : Int32))) (lv' := [(2, .int (v13 + (1 : Int32))), (3, .int (Int32.ofNat n)), (0, .ref a0), (1, .int i2)]) hx hb dJ7_fill_53178_14 hl (k := 1) rfl rfl (by decide) rfl (fun ls hl => ?_)
        refine lv_goto (tgt := 5) hx hb dJ7_fill_53178_17 (by decide) ?_
        have hL10 := el1_r (inj1 hg11) hL10
        exact ih9 _ _ _ _ _ hL10 hB (lv_sub hl [1, 0, 2, 3] rfl)
  exact key9 fu _ _ _ _ _ hL10 hB (lv_sub hl [0, 1, 2, 3] rfl)

abbrev rmX4_in : Room := { frames := 0, cells := 0, slots := 0, locals := 0 }

set_option maxHeartbeats 4000000 in
set_option maxRecDepth 100000 in
theorem kX4_in (l : Launch) (dC : Nat → ClassId) (dI : Nat → Nat → Nat) (tys : List (ClassId × FieldType)) (sz : Nat) {fu : Nat} {i1 : Int32} {i2 : Int32} {i3 : Int32} {r : Int32} (hf : mX4_in fu i1 i2 i3 = some r) : Met l yX4_in wsX4_in rmX4_in (PcF (dC, dI) tys [] sz [.int i1, .int i2, .int i3]) (QzF (dC, dI) tys [] [] sz r) 0 0 (va_A [] sz) := by
  refine Met.ofW (cc := cX4_in) (maxL := 3) (ret := (some .boolean)) (by decide) rfl ?_
  intro p e s m args below meth c s₁ B hml hv
  obtain ⟨rfl, hsz, hP, hK, hD0⟩ := hv
  have hx := B.exec
  have hb := B.bytes
  have hr := B.returns
  have hts := atoms_spec (ws := wsX4_in) B.pre
  have hown : s.vm.findClass RX4 = some m.cls := findClass_of_methodNamed B.named
  have hlocks := B.notSynchronized
  subst hsz
  have hA : ∀ q : Nat, s.heap.size ≤ q → va_A [] s.heap.size q := fun q h => Or.inr h
  have hB : Bd (dC, dI) tys (va_A [] s.heap.size) s [] s.heap [] := ⟨hP, hD0.self, va_S.rf⟩
  have hl := lv_entry [.int i1, .int i2, .int i3] (n := 3) (Nat.le_of_ble_eq_true rfl)
  rw [lg_entry_eq]
  generalize (lg_sl [.int i1, .int i2, .int i3] ++ List.replicate (3 - (lg_sl [.int i1, .int i2, .int i3]).length) Slot.unset).toArray = ls at hl ⊢
  have hl : lv_has ls 3 [(0, .int i1), (1, .int i2), (2, .int i3)] := hl
  clear hP hD0
  suffices main : ∀ (H : Heap) (locs : List Loc), Bd (dC, dI) tys (va_A [] s.heap.size) s [] H locs → W p l e (headSpec wsX4_in rmX4_in).room s m ([.int i1, .int i2, .int i3] : List Value).toArray below meth c H locs 0 0 (MQ below (QzF (dC, dI) tys [] [] s.heap.size r) ([.int i1, .int i2, .int i3] : List Value).toArray s 0 0 (va_A [] s.heap.size)) (F0 m 0 ls []) from main _ _ hB
  clear hB
  intro H locs hB
  unfold mX4_in at hf
  refine lv_iload_n hx hb dX4_in_0 rfl (lv_at hl 0 rfl) ?_
  refine lv_iload_n hx hb dX4_in_1 rfl (lv_at hl 1 rfl) ?_
  obtain ⟨v1, hJ3, hf⟩ := ob1_s hf
  have kJ4 : (v1 = 0 ∨ v1 = 1) → ∀ (H : Heap) (locs : List Loc) (ls : Array Slot), Bd (dC, dI) tys (va_A [] s.heap.size) s [] H locs → lv_has ls 3 [] → W p l e (headSpec wsX4_in rmX4_in).room s m ([.int i1, .int i2, .int i3] : List Value).toArray below meth c H locs 0 0 (MQ below (QzF (dC, dI) tys [] [] s.heap.size r) ([.int i1, .int i2, .int i3] : List Value).toArray s 0 0 (va_A [] s.heap.size)) (F0 m 15 ls [.int v1]) := by
    intro z2 H locs ls hB hl
    have e0 := inj1 hf
    subst e0
    exact g_zret hx hb hr hlocks hK hB z2 dX4_in_15
  obtain ⟨t5, hD6, hJ3⟩ := ob1_s hJ3
  have kTt5 : t5 = true → ∀ (H : Heap) (locs : List Loc), Bd (dC, dI) tys (va_A [] s.heap.size) s [] H locs → W p l e (headSpec wsX4_in rmX4_in).room s m ([.int i1, .int i2, .int i3] : List Value).toArray below meth c H locs 0 0 (MQ below (QzF (dC, dI) tys [] [] s.heap.size r) ([.int i1, .int i2, .int i3] : List Value).toArray s 0 0 (va_A [] s.heap.size)) (F0 m 10 ls []) := by
    intro ht H locs hB
    have hJ3 := cnd_t ht hJ3
    refine lv_iconst (v := (1 : Int32)) hx hb dX4_in_10 (by decide) ?_
    refine lv_goto (tgt := 15) hx hb dX4_in_11 (by decide) ?_
    have e0 := inj1 hJ3
    subst e0
    exact kJ4 (Or.inr rfl) _ _ _ hB (lv_sub hl [] rfl)
  have kFt5 : t5 = false → ∀ (H : Heap) (locs : List Loc), Bd (dC, dI) tys (va_A [] s.heap.size) s [] H locs → W p l e (headSpec wsX4_in rmX4_in).room s m ([.int i1, .int i2, .int i3] : List Value).toArray below meth c H locs 0 0 (MQ below (QzF (dC, dI) tys [] [] s.heap.size r) ([.int i1, .int i2, .int i3] : List Value).toArray s 0 0 (va_A [] s.heap.size)) (F0 m 14 ls []) := by
    intro ht H locs hB
    have hJ3 := cnd_f ht hJ3
    refine lv_iconst (v := (0 : Int32)) hx hb dX4_in_14 (by decide) ?_
    have e0 := inj1 hJ3
    subst e0
    exact kJ4 (Or.inl rfl) _ _ _ hB (lv_sub hl [] rfl)
  refine lv_icmp_lt (tgt := 14) hx hb dX4_in_2 (by decide) (fun c7 => ?_) (fun c7 => ?_)
  · have hD6 := ite_t c7 hD6
    have e0 := inj1 hD6
    exact kFt5 e0.symm _ _ hB
  · have hD6 := ite_f c7 hD6
    refine lv_iload_n hx hb dX4_in_5 rfl (lv_at hl 0 rfl) ?_
    refine lv_iload_n hx hb dX4_in_6 rfl (lv_at hl 2 rfl) ?_
    refine lv_icmp_gt (tgt := 14) hx hb dX4_in_7 (by decide) (fun c8 => ?_) (fun c8 => ?_)
    · have hD6 := ite_t c8 hD6
      have e0 := inj1 hD6
      exact kFt5 e0.symm _ _ hB
    · have hD6 := ite_f c8 hD6
      have e0 := inj1 hD6
      exact kTt5 e0.symm _ _ hB

abbrev rmX4_min : Room := { frames := 0, cells := 0, slots := 0, locals := 0 }

set_option maxHeartbeats 4000000 in
set_option maxRecDepth 100000 in
theorem kX4_min (l : Launch) (dC : Nat → ClassId) (dI : Nat → Nat → Nat) (tys : List (ClassId × FieldType)) (sz : Nat) {fu : Nat} {i1 : Int32} {i2 : Int32} {r : Int32} (hf : mX4_min fu i1 i2 = some r) : Met l yX4_min wsX4_min rmX4_min (PcF (dC, dI) tys [] sz [.int i1, .int i2]) (QiF (dC, dI) tys [] [] sz r) 0 0 (va_A [] sz) := by
  refine Met.ofW (cc := cX4_min) (maxL := 2) (ret := (some .int)) (by decide) rfl ?_
  intro p e s m args below meth c s₁ B hml hv
  obtain ⟨rfl, hsz, hP, hK, hD0⟩ := hv
  have hx := B.exec
  have hb := B.bytes
  have hr := B.returns
  have hts := atoms_spec (ws := wsX4_min) B.pre
  have hown : s.vm.findClass RX4 = some m.cls := findClass_of_methodNamed B.named
  have hlocks := B.notSynchronized
  subst hsz
  have hA : ∀ q : Nat, s.heap.size ≤ q → va_A [] s.heap.size q := fun q h => Or.inr h
  have hB : Bd (dC, dI) tys (va_A [] s.heap.size) s [] s.heap [] := ⟨hP, hD0.self, va_S.rf⟩
  have hl := lv_entry [.int i1, .int i2] (n := 2) (Nat.le_of_ble_eq_true rfl)
  rw [lg_entry_eq]
  generalize (lg_sl [.int i1, .int i2] ++ List.replicate (2 - (lg_sl [.int i1, .int i2]).length) Slot.unset).toArray = ls at hl ⊢
  have hl : lv_has ls 2 [(0, .int i1), (1, .int i2)] := hl
  clear hP hD0
  suffices main : ∀ (H : Heap) (locs : List Loc), Bd (dC, dI) tys (va_A [] s.heap.size) s [] H locs → W p l e (headSpec wsX4_min rmX4_min).room s m ([.int i1, .int i2] : List Value).toArray below meth c H locs 0 0 (MQ below (QiF (dC, dI) tys [] [] s.heap.size r) ([.int i1, .int i2] : List Value).toArray s 0 0 (va_A [] s.heap.size)) (F0 m 0 ls []) from main _ _ hB
  clear hB
  intro H locs hB
  unfold mX4_min at hf
  refine lv_iload_n hx hb dX4_min_0 rfl (lv_at hl 0 rfl) ?_
  refine lv_iload_n hx hb dX4_min_1 rfl (lv_at hl 1 rfl) ?_
  obtain ⟨v1, hJ2, hf⟩ := ob1_s hf
  have kJ3 : ∀ (H : Heap) (locs : List Loc) (ls : Array Slot), Bd (dC, dI) tys (va_A [] s.heap.size) s [] H locs → lv_has ls 2 [] → W p l e (headSpec wsX4_min rmX4_min).room s m ([.int i1, .int i2] : List Value).toArray below meth c H locs 0 0 (MQ below (QiF (dC, dI) tys [] [] s.heap.size r) ([.int i1, .int i2] : List Value).toArray s 0 0 (va_A [] s.heap.size)) (F0 m 10 ls [.int v1]) := by
    intro H locs ls hB hl
    have e0 := inj1 hf
    subst e0
    exact g_iret hx hb hr hlocks hK hB dX4_min_10
  refine lv_icmp_ge (tgt := 9) hx hb dX4_min_2 (by decide) (fun c4 => ?_) (fun c4 => ?_)
  · have hJ2 := ite_t c4 hJ2
    refine lv_iload_n hx hb dX4_min_9 rfl (lv_at hl 1 rfl) ?_
    have e0 := inj1 hJ2
    subst e0
    exact kJ3 _ _ _ hB (lv_sub hl [] rfl)
  · have hJ2 := ite_f c4 hJ2
    refine lv_iload_n hx hb dX4_min_5 rfl (lv_at hl 0 rfl) ?_
    refine lv_goto (tgt := 10) hx hb dX4_min_6 (by decide) ?_
    have e0 := inj1 hJ2
    subst e0
    exact kJ3 _ _ _ hB (lv_sub hl [] rfl)

abbrev rmX4_copy : Room := { frames := 0, cells := 0, slots := 0, locals := 0 }

set_option maxHeartbeats 4000000 in
set_option maxRecDepth 100000 in
theorem kX4_copy (l : Launch) (dC : Nat → ClassId) (dI : Nat → Nat → Nat) (cyI : ClassId) (a0 a1 : Nat) (sz : Nat) {fu : Nat} {f0 : FS} {f1 : FS} {f1_ : FS} (hf : mX4_copy fu f0 f1 = some f1_) : Met l yX4_copy wsX4_copy rmX4_copy (PcF (dC, dI) [(cyI, .int)] ([(a0, .inl (cyI, 451, .inl f0)), (a1, .inl (cyI, 451, .inl f1))]) sz [.ref a0, .ref a1]) (QvF (dC, dI) [(cyI, .int)] ([(a0, .inl (cyI, 451, .inl f0)), (a1, .inl (cyI, 451, .inl f1))]) ([(a0, .inl (cyI, 451, .inl f0)), (a1, .inl (cyI, 451, .inl f1_))]) sz) 0 0 (va_A ([(a0, .inl (cyI, 451, .inl f0)), (a1, .inl (cyI, 451, .inl f1))]) sz) := by
  refine Met.ofW (cc := cX4_copy) (maxL := 3) (ret := none) (by decide) rfl ?_
  intro p e s m args below meth c s₁ B hml hv
  obtain ⟨rfl, hsz, hP, hK, hD0⟩ := hv
  have hx := B.exec
  have hb := B.bytes
  have hr := B.returns
  have hts := atoms_spec (ws := wsX4_copy) B.pre
  have hown : s.vm.findClass RX4 = some m.cls := findClass_of_methodNamed B.named
  have hlocks := B.notSynchronized
  subst hsz
  have hA : ∀ q : Nat, s.heap.size ≤ q → va_A ([(a0, .inl (cyI, 451, .inl f0)), (a1, .inl (cyI, 451, .inl f1))]) s.heap.size q := fun q h => Or.inr h
  have hB : Bd (dC, dI) [(cyI, .int)] (va_A ([(a0, .inl (cyI, 451, .inl f0)), (a1, .inl (cyI, 451, .inl f1))]) s.heap.size) s ([(a0, .inl (cyI, 451, .inl f0)), (a1, .inl (cyI, 451, .inl f1))]) s.heap [] := ⟨hP, hD0.self, va_S.rf⟩
  have hl := lv_entry [.ref a0, .ref a1] (n := 3) (Nat.le_of_ble_eq_true rfl)
  rw [lg_entry_eq]
  generalize (lg_sl [.ref a0, .ref a1] ++ List.replicate (3 - (lg_sl [.ref a0, .ref a1]).length) Slot.unset).toArray = ls at hl ⊢
  have hl : lv_has ls 3 [(0, .ref a0), (1, .ref a1)] := hl
  clear hP hD0
  suffices main : ∀ (H : Heap) (locs : List Loc), Bd (dC, dI) [(cyI, .int)] (va_A ([(a0, .inl (cyI, 451, .inl f0)), (a1, .inl (cyI, 451, .inl f1))]) s.heap.size) s ([(a0, .inl (cyI, 451, .inl f0)), (a1, .inl (cyI, 451, .inl f1))]) H locs → W p l e (headSpec wsX4_copy rmX4_copy).room s m ([.ref a0, .ref a1] : List Value).toArray below meth c H locs 0 0 (MQ below (QvF (dC, dI) [(cyI, .int)] ([(a0, .inl (cyI, 451, .inl f0)), (a1, .inl (cyI, 451, .inl f1))]) ([(a0, .inl (cyI, 451, .inl f0)), (a1, .inl (cyI, 451, .inl f1_))]) s.heap.size) ([.ref a0, .ref a1] : List Value).toArray s 0 0 (va_A ([(a0, .inl (cyI, 451, .inl f0)), (a1, .inl (cyI, 451, .inl f1))]) s.heap.size)) (F0 m 0 ls []) from main _ _ hB
  clear hB
  intro H locs hB
  unfold mX4_copy at hf
  refine lv_iconst (v := (0 : Int32)) hx hb dX4_copy_0 (by decide) ?_
  refine lv_istore_n (lv' := [(2, .int (0 : Int32)), (0, .ref a0), (1, .ref a1)]) hx hb dX4_copy_1 rfl hl (by decide) rfl (fun ls hl => ?_)
  obtain ⟨f17, hL10, hf⟩ := ob1_s hf
  have kE8 : ∀ (H : Heap) (locs : List Loc) (ls : Array Slot), Bd (dC, dI) [(cyI, .int)] (va_A ([(a0, .inl (cyI, 451, .inl f0)), (a1, .inl (cyI, 451, .inl f1))]) s.heap.size) s ([(a0, .inl (cyI, 451, .inl f0)), (a1, .inl (cyI, 451, .inl f17))]) H locs → lv_has ls 3 [] → W p l e (headSpec wsX4_copy rmX4_copy).room s m ([.ref a0, .ref a1] : List Value).toArray below meth c H locs 0 0 (MQ below (QvF (dC, dI) [(cyI, .int)] ([(a0, .inl (cyI, 451, .inl f0)), (a1, .inl (cyI, 451, .inl f1))]) ([(a0, .inl (cyI, 451, .inl f0)), (a1, .inl (cyI, 451, .inl f1_))]) s.heap.size) ([.ref a0, .ref a1] : List Value).toArray s 0 0 (va_A ([(a0, .inl (cyI, 451, .inl f0)), (a1, .inl (cyI, 451, .inl f1))]) s.heap.size)) (F0 m 21 ls []) := by
    intro H locs ls hB hl
    have e0 := inj1 hf
    subst e0
    exact g_vret hx hb hr hlocks hK hB dX4_copy_21
  have key9 : ∀ (n9 : Nat) (v13 : Int32) (f114 : FS) (H : Heap) (locs : List Loc) (ls : Array Slot), loopM (fun st => mX4_copy_L2 fu f0 st.1 st.2) n9 (v13, f114) = some f17 → Bd (dC, dI) [(cyI, .int)] (va_A ([(a0, .inl (cyI, 451, .inl f0)), (a1, .inl (cyI, 451, .inl f1))]) s.heap.size) s ([(a0, .inl (cyI, 451, .inl f0)), (a1, .inl (cyI, 451, .inl f114))]) H locs → lv_has ls 3 [(2, .int v13), (0, .ref a0), (1, .ref a1)] → W p l e (headSpec wsX4_copy rmX4_copy).room s m ([.ref a0, .ref a1] : List Value).toArray below meth c H locs 0 0 (MQ below (QvF (dC, dI) [(cyI, .int)] ([(a0, .inl (cyI, 451, .inl f0)), (a1, .inl (cyI, 451, .inl f1))]) ([(a0, .inl (cyI, 451, .inl f0)), (a1, .inl (cyI, 451, .inl f1_))]) s.heap.size) ([.ref a0, .ref a1] : List Value).toArray s 0 0 (va_A ([(a0, .inl (cyI, 451, .inl f0)), (a1, .inl (cyI, 451, .inl f1))]) s.heap.size)) (F0 m 2 ls []) := by
    intro n9
    induction n9 with
    | zero => intro v13 f114 H locs ls hL10; exact (loopM_z hL10).elim
    | succ n9 ih9 =>
      intro v13 f114 H locs ls hL10 hB hl
      obtain ⟨o15, hg11, hL10⟩ := loopM_s hL10
      have hg11 : mX4_copy_L2 fu f0 v13 f114 = some o15 := hg11
      unfold mX4_copy_L2 at hg11
      refine lv_iload_n hx hb dX4_copy_2 rfl (lv_at hl 0 rfl) ?_
      refine lv_sipush (v := (451 : Int32)) hx hb dX4_copy_3 (by decide) ?_
      refine lv_icmp_ge (tgt := 21) hx hb dX4_copy_6 (by decide) (fun c16 => ?_) (fun c16 => ?_)
      · have hg11 := ite_t c16 hg11
        have hL10 := el1_l (inj1 hg11) hL10
        have e0 := inj1 hL10
        subst e0
        exact kE8 _ _ _ hB (lv_sub hl [] rfl)
      · have hg11 := ite_f c16 hg11
        refine lv_aload_n hx hb dX4_copy_9 rfl (lv_at hl 2 rfl) ?_
        refine lv_iload_n hx hb dX4_copy_10 rfl (lv_at hl 0 rfl) ?_
        refine lv_aload_n hx hb dX4_copy_11 rfl (lv_at hl 1 rfl) ?_
        refine lv_iload_n hx hb dX4_copy_12 rfl (lv_at hl 0 rfl) ?_
        obtain ⟨x17, e9, hg11⟩ := ob1_s hg11
        refine g_iald hx hb hK hB 0 0 rfl rfl (rd_s e9) dX4_copy_13 ?_
        obtain ⟨f118, e9, hg11⟩ := ob1_s hg11
        obtain ⟨hi, e9⟩ := wr_s e9
        refine g_iast hx hb hK hB 1 0 rfl rfl hi e9 dX4_copy_14 (w2 := ([(a0, .inl (cyI, 451, .inl f0)), (a1, .inl (cyI, 451, .inl f118))])) (by rfl) (fun H locs hB => ?_)
        refine lv_iinc (v := (v13 + (1 : Int32))) (lv' := [(2, .int (v13 + (1 : Int32))), (0, .ref a0), (1, .ref a1)]) hx hb dX4_copy_15 hl (k := 0) rfl rfl (by decide) rfl (fun ls hl => ?_)
        refine lv_goto (tgt := 2) hx hb dX4_copy_18 (by decide) ?_
        have hL10 := el1_r (inj1 hg11) hL10
        exact ih9 _ _ _ _ _ hL10 hB (lv_sub hl [0, 1, 2] rfl)
  exact key9 fu _ _ _ _ _ hL10 hB (lv_sub hl [0, 1, 2] rfl)

abbrev rmX4_layUsual : Room := { frames := 0, cells := 0, slots := 0, locals := 0 }

set_option maxHeartbeats 4000000 in
set_option maxRecDepth 100000 in
theorem kX4_layUsual (l : Launch) (dC : Nat → ClassId) (dI : Nat → Nat → Nat) (cyI : ClassId) (a0 : Nat) (sz : Nat) {fu : Nat} {f0 : FS} {f0_ : FS} (hf : mX4_layUsual fu f0 = some f0_) : Met l yX4_layUsual wsX4_layUsual rmX4_layUsual (PcF (dC, dI) [(cyI, .int)] ([(a0, .inl (cyI, 451, .inl f0))]) sz [.ref a0]) (QvF (dC, dI) [(cyI, .int)] ([(a0, .inl (cyI, 451, .inl f0))]) ([(a0, .inl (cyI, 451, .inl f0_))]) sz) 0 0 (va_A ([(a0, .inl (cyI, 451, .inl f0))]) sz) := by
  refine Met.ofW (cc := cX4_layUsual) (maxL := 2) (ret := none) (by decide) rfl ?_
  intro p e s m args below meth c s₁ B hml hv
  obtain ⟨rfl, hsz, hP, hK, hD0⟩ := hv
  have hx := B.exec
  have hb := B.bytes
  have hr := B.returns
  have hts := atoms_spec (ws := wsX4_layUsual) B.pre
  have hown : s.vm.findClass RX4 = some m.cls := findClass_of_methodNamed B.named
  have hlocks := B.notSynchronized
  subst hsz
  have hA : ∀ q : Nat, s.heap.size ≤ q → va_A ([(a0, .inl (cyI, 451, .inl f0))]) s.heap.size q := fun q h => Or.inr h
  have hB : Bd (dC, dI) [(cyI, .int)] (va_A ([(a0, .inl (cyI, 451, .inl f0))]) s.heap.size) s ([(a0, .inl (cyI, 451, .inl f0))]) s.heap [] := ⟨hP, hD0.self, va_S.rf⟩
  have hl := lv_entry [.ref a0] (n := 2) (Nat.le_of_ble_eq_true rfl)
  rw [lg_entry_eq]
  generalize (lg_sl [.ref a0] ++ List.replicate (2 - (lg_sl [.ref a0]).length) Slot.unset).toArray = ls at hl ⊢
  have hl : lv_has ls 2 [(0, .ref a0)] := hl
  clear hP hD0
  suffices main : ∀ (H : Heap) (locs : List Loc), Bd (dC, dI) [(cyI, .int)] (va_A ([(a0, .inl (cyI, 451, .inl f0))]) s.heap.size) s ([(a0, .inl (cyI, 451, .inl f0))]) H locs → W p l e (headSpec wsX4_layUsual rmX4_layUsual).room s m ([.ref a0] : List Value).toArray below meth c H locs 0 0 (MQ below (QvF (dC, dI) [(cyI, .int)] ([(a0, .inl (cyI, 451, .inl f0))]) ([(a0, .inl (cyI, 451, .inl f0_))]) s.heap.size) ([.ref a0] : List Value).toArray s 0 0 (va_A ([(a0, .inl (cyI, 451, .inl f0))]) s.heap.size)) (F0 m 0 ls []) from main _ _ hB
  clear hB
  intro H locs hB
  unfold mX4_layUsual at hf
  refine lv_iconst (v := (0 : Int32)) hx hb dX4_layUsual_0 (by decide) ?_
  refine lv_istore_n (lv' := [(1, .int (0 : Int32)), (0, .ref a0)]) hx hb dX4_layUsual_1 rfl hl (by decide) rfl (fun ls hl => ?_)
  obtain ⟨f05, hL8, hf⟩ := ob1_s hf
  have kE6 : ∀ (H : Heap) (locs : List Loc) (ls : Array Slot), Bd (dC, dI) [(cyI, .int)] (va_A ([(a0, .inl (cyI, 451, .inl f0))]) s.heap.size) s ([(a0, .inl (cyI, 451, .inl f05))]) H locs → lv_has ls 2 [(0, .ref a0)] → W p l e (headSpec wsX4_layUsual rmX4_layUsual).room s m ([.ref a0] : List Value).toArray below meth c H locs 0 0 (MQ below (QvF (dC, dI) [(cyI, .int)] ([(a0, .inl (cyI, 451, .inl f0))]) ([(a0, .inl (cyI, 451, .inl f0_))]) s.heap.size) ([.ref a0] : List Value).toArray s 0 0 (va_A ([(a0, .inl (cyI, 451, .inl f0))]) s.heap.size)) (F0 m 19 ls []) := by
    intro H locs ls hB hl
    refine lv_aload_n hx hb dX4_layUsual_19 rfl (lv_at hl 0 rfl) ?_
    refine lv_iconst (v := (4 : Int32)) hx hb dX4_layUsual_20 (by decide) ?_
    refine lv_iconst (v := (5 : Int32)) hx hb dX4_layUsual_21 (by decide) ?_
    obtain ⟨f010, e9, hf⟩ := ob1_s hf
    obtain ⟨hi, e9⟩ := wr_s e9
    refine g_iast hx hb hK hB 0 0 rfl rfl hi e9 dX4_layUsual_22 (w2 := ([(a0, .inl (cyI, 451, .inl f010))])) (by rfl) (fun H locs hB => ?_)
    refine lv_aload_n hx hb dX4_layUsual_23 rfl (lv_at hl 0 rfl) ?_
    refine lv_iconst (v := (5 : Int32)) hx hb dX4_layUsual_24 (by decide) ?_
    refine lv_iconst (v := (3 : Int32)) hx hb dX4_layUsual_25 (by decide) ?_
    obtain ⟨f011, e9, hf⟩ := ob1_s hf
    obtain ⟨hi, e9⟩ := wr_s e9
    refine g_iast hx hb hK hB 0 0 rfl rfl hi e9 dX4_layUsual_26 (w2 := ([(a0, .inl (cyI, 451, .inl f011))])) (by rfl) (fun H locs hB => ?_)
    have e0 := inj1 hf
    subst e0
    exact g_vret hx hb hr hlocks hK hB dX4_layUsual_27
  have key7 : ∀ (n9 : Nat) (v13 : Int32) (f014 : FS) (H : Heap) (locs : List Loc) (ls : Array Slot), loopM (fun st => mX4_layUsual_L2 fu st.1 st.2) n9 (v13, f014) = some f05 → Bd (dC, dI) [(cyI, .int)] (va_A ([(a0, .inl (cyI, 451, .inl f0))]) s.heap.size) s ([(a0, .inl (cyI, 451, .inl f014))]) H locs → lv_has ls 2 [(1, .int v13), (0, .ref a0)] → W p l e (headSpec wsX4_layUsual rmX4_layUsual).room s m ([.ref a0] : List Value).toArray below meth c H locs 0 0 (MQ below (QvF (dC, dI) [(cyI, .int)] ([(a0, .inl (cyI, 451, .inl f0))]) ([(a0, .inl (cyI, 451, .inl f0_))]) s.heap.size) ([.ref a0] : List Value).toArray s 0 0 (va_A ([(a0, .inl (cyI, 451, .inl f0))]) s.heap.size)) (F0 m 2 ls []) := by
    intro n9
    induction n9 with
    | zero => intro v13 f014 H locs ls hL8; exact (loopM_z hL8).elim
    | succ n9 ih9 =>
      intro v13 f014 H locs ls hL8 hB hl
      obtain ⟨o15, hg9, hL8⟩ := loopM_s hL8
      have hg9 : mX4_layUsual_L2 fu v13 f014 = some o15 := hg9
      unfold mX4_layUsual_L2 at hg9
      refine lv_iload_n hx hb dX4_layUsual_2 rfl (lv_at hl 0 rfl) ?_
      refine lv_sipush (v := (451 : Int32)) hx hb dX4_layUsual_3 (by decide) ?_
      refine lv_icmp_ge (tgt := 19) hx hb dX4_layUsual_6 (by decide) (fun c16 => ?_) (fun c16 => ?_)
      · have hg9 := ite_t c16 hg9
        have hL8 := el1_l (inj1 hg9) hL8
        have e0 := inj1 hL8
        subst e0
        exact kE6 _ _ _ hB (lv_sub hl [1] rfl)
      · have hg9 := ite_f c16 hg9
        refine lv_aload_n hx hb dX4_layUsual_9 rfl (lv_at hl 1 rfl) ?_
        refine lv_iload_n hx hb dX4_layUsual_10 rfl (lv_at hl 0 rfl) ?_
        refine lv_iconst (v := (0 : Int32)) hx hb dX4_layUsual_11 (by decide) ?_
        obtain ⟨f017, e9, hg9⟩ := ob1_s hg9
        obtain ⟨hi, e9⟩ := wr_s e9
        refine g_iast hx hb hK hB 0 0 rfl rfl hi e9 dX4_layUsual_12 (w2 := ([(a0, .inl (cyI, 451, .inl f017))])) (by rfl) (fun H locs hB => ?_)
        refine lv_iinc (v := (v13 + (1 : Int32))) (lv' := [(1, .int (v13 + (1 : Int32))), (0, .ref a0)]) hx hb dX4_layUsual_13 hl (k := 0) rfl rfl (by decide) rfl (fun ls hl => ?_)
        refine lv_goto (tgt := 2) hx hb dX4_layUsual_16 (by decide) ?_
        have hL8 := el1_r (inj1 hg9) hL8
        exact ih9 _ _ _ _ _ hL8 hB (lv_sub hl [0, 1] rfl)
  exact key7 fu _ _ _ _ _ hL8 hB (lv_sub hl [0, 1] rfl)

abbrev rmX4_isDigit : Room := { frames := 1, cells := 0, slots := 0, locals := 22 }

set_option maxHeartbeats 4000000 in
set_option maxRecDepth 100000 in
theorem kX4_isDigit (l : Launch) (dC : Nat → ClassId) (dI : Nat → Nat → Nat) (tys : List (ClassId × FieldType)) (sz : Nat) {fu : Nat} {i1 : Int32} {r : Int32} (hf : mX4_isDigit fu i1 = some r) : Met l yX4_isDigit wsX4_isDigit rmX4_isDigit (PcF (dC, dI) tys [] sz [.int i1]) (QzF (dC, dI) tys [] [] sz r) 0 0 (va_A [] sz) := by
  refine Met.ofW (cc := cX4_isDigit) (maxL := 1) (ret := (some .boolean)) (by decide) rfl ?_
  intro p e s m args below meth c s₁ B hml hv
  obtain ⟨rfl, hsz, hP, hK, hD0⟩ := hv
  have hx := B.exec
  have hb := B.bytes
  have hr := B.returns
  have hts := atoms_spec (ws := wsX4_isDigit) B.pre
  have hown : s.vm.findClass RX4 = some m.cls := findClass_of_methodNamed B.named
  have hlocks := B.notSynchronized
  subst hsz
  have hA : ∀ q : Nat, s.heap.size ≤ q → va_A [] s.heap.size q := fun q h => Or.inr h
  have hB : Bd (dC, dI) tys (va_A [] s.heap.size) s [] s.heap [] := ⟨hP, hD0.self, va_S.rf⟩
  have hl := lv_entry [.int i1] (n := 1) (Nat.le_of_ble_eq_true rfl)
  rw [lg_entry_eq]
  generalize (lg_sl [.int i1] ++ List.replicate (1 - (lg_sl [.int i1]).length) Slot.unset).toArray = ls at hl ⊢
  have hl : lv_has ls 1 [(0, .int i1)] := hl
  clear hP hD0
  suffices main : ∀ (H : Heap) (locs : List Loc), Bd (dC, dI) tys (va_A [] s.heap.size) s [] H locs → W p l e (headSpec wsX4_isDigit rmX4_isDigit).room s m ([.int i1] : List Value).toArray below meth c H locs 0 0 (MQ below (QzF (dC, dI) tys [] [] s.heap.size r) ([.int i1] : List Value).toArray s 0 0 (va_A [] s.heap.size)) (F0 m 0 ls []) from main _ _ hB
  clear hB
  intro H locs hB
  unfold mX4_isDigit at hf
  refine lv_iload_n hx hb dX4_isDigit_0 rfl (lv_at hl 0 rfl) ?_
  refine lv_bipush (v := (48 : Int32)) hx hb dX4_isDigit_1 (by decide) ?_
  refine lv_bipush (v := (57 : Int32)) hx hb dX4_isDigit_3 (by decide) ?_
  obtain ⟨r1, hc, hf⟩ := ob1_s hf
  refine g_pcutSz (As := [.int i1, .int (48 : Int32), .int (57 : Int32)]) (rest := []) (w2 := []) ⟨hx, hb, hml, hown, hts⟩ (kX4_in l dC dI tys H.size hc) (va_cwS 3 hts gX4_isDigit_X4_in rfl rfl rfl (by decide +kernel) ⟨Nat.le_of_ble_eq_true rfl, Nat.le_of_ble_eq_true rfl⟩) hK hB hA (List.Perm.refl _) (List.Perm.refl _) rfl hl.1 rfl (Nat.le_of_ble_eq_true rfl) dX4_isDigit_5 ⟨Nat.zero_le _, Nat.zero_le _⟩ (fun z2 H locs hB => ?_)
  have e0 := inj1 hf
  subst e0
  exact g_zret hx hb hr hlocks hK hB z2 dX4_isDigit_8

abbrev rmX4_journeyAt : Room := { frames := 0, cells := 0, slots := 0, locals := 0 }

set_option maxHeartbeats 4000000 in
set_option maxRecDepth 100000 in
theorem kX4_journeyAt (l : Launch) (dC : Nat → ClassId) (dI : Nat → Nat → Nat) (tys : List (ClassId × FieldType)) (sz : Nat) {fu : Nat} {i1 : Int32} {r : Int32} (hf : mX4_journeyAt fu i1 = some r) : Met l yX4_journeyAt wsX4_journeyAt rmX4_journeyAt (PcF (dC, dI) tys [] sz [.int i1]) (QiF (dC, dI) tys [] [] sz r) 0 0 (va_A [] sz) := by
  refine Met.ofW (cc := cX4_journeyAt) (maxL := 1) (ret := (some .int)) (by decide) rfl ?_
  intro p e s m args below meth c s₁ B hml hv
  obtain ⟨rfl, hsz, hP, hK, hD0⟩ := hv
  have hx := B.exec
  have hb := B.bytes
  have hr := B.returns
  have hts := atoms_spec (ws := wsX4_journeyAt) B.pre
  have hown : s.vm.findClass RX4 = some m.cls := findClass_of_methodNamed B.named
  have hlocks := B.notSynchronized
  subst hsz
  have hA : ∀ q : Nat, s.heap.size ≤ q → va_A [] s.heap.size q := fun q h => Or.inr h
  have hB : Bd (dC, dI) tys (va_A [] s.heap.size) s [] s.heap [] := ⟨hP, hD0.self, va_S.rf⟩
  have hl := lv_entry [.int i1] (n := 1) (Nat.le_of_ble_eq_true rfl)
  rw [lg_entry_eq]
  generalize (lg_sl [.int i1] ++ List.replicate (1 - (lg_sl [.int i1]).length) Slot.unset).toArray = ls at hl ⊢
  have hl : lv_has ls 1 [(0, .int i1)] := hl
  clear hP hD0
  suffices main : ∀ (H : Heap) (locs : List Loc), Bd (dC, dI) tys (va_A [] s.heap.size) s [] H locs → W p l e (headSpec wsX4_journeyAt rmX4_journeyAt).room s m ([.int i1] : List Value).toArray below meth c H locs 0 0 (MQ below (QiF (dC, dI) tys [] [] s.heap.size r) ([.int i1] : List Value).toArray s 0 0 (va_A [] s.heap.size)) (F0 m 0 ls []) from main _ _ hB
  clear hB
  intro H locs hB
  unfold mX4_journeyAt at hf
  refine lv_bipush (v := (19 : Int32)) hx hb dX4_journeyAt_0 (by decide) ?_
  refine lv_bipush (v := (9 : Int32)) hx hb dX4_journeyAt_2 (by decide) ?_
  refine lv_iload_n hx hb dX4_journeyAt_4 rfl (lv_at hl 0 rfl) ?_
  refine lv_imul hx hb dX4_journeyAt_5 ?_
  refine lv_iadd hx hb dX4_journeyAt_6 ?_
  have e0 := inj1 hf
  subst e0
  exact g_iret hx hb hr hlocks hK hB dX4_journeyAt_7

