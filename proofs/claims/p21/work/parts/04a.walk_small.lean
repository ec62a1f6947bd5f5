abbrev rmJ7_fill_53178 : Room := { frames := 0, cells := 0, slots := 0, locals := 0 }

set_option maxHeartbeats 4000000 in
set_option maxRecDepth 100000 in
theorem kJ7_fill_53178 (l : Launch) (dC : Nat → ClassId) (dI : Nat → Nat → Nat) (cyI : ClassId) (a0 : Nat) (sz : Nat) {fu : Nat} {n : Nat} {f0 : FS} {i2 : Int32} {f0_ : FS} (hf : mJ7_fill_53178 fu n f0 i2 = some f0_) : Met l yJ7_fill_53178 wsJ7_fill_53178 rmJ7_fill_53178 (PcF (dC, dI) [(cyI, .int)] ([(a0, .inl (cyI, n, .inl f0))]) sz [.ref a0, .int i2]) (QvF (dC, dI) [(cyI, .int)] ([(a0, .inl (cyI, n, .inl f0))]) ([(a0, .inl (cyI, n, .inl f0_))]) sz) 0 0 (va_A ([(a0, .inl (cyI, n, .inl f0))]) sz) := by
  refine Met.ofW (cc := cJ7_fill_53178) (maxL := 4) (ret := none) (by decide) rfl ?_
  intro p e s m args below meth c s₁ B hml hv
  obtain ⟨rfl, hsz, hP, hK, hD0⟩ := hv
  have hx := B.exec
  have hb := B.bytes
  have hr := B.returns
  have hts := atoms_spec (ws := wsJ7_fill_53178) B.pre
  have hown : s.vm.findClass RJ7 = some m.cls := findClass_of_methodNamed B.named
  have hlocks := B.notSynchronized
  subst hsz
  have hA : ∀ q : Nat, s.heap.size ≤ q → va_A ([(a0, .inl (cyI, n, .inl f0))]) s.heap.size q := fun q h => Or.inr h
  have hB : Bd (dC, dI) [(cyI, .int)] (va_A ([(a0, .inl (cyI, n, .inl f0))]) s.heap.size) s ([(a0, .inl (cyI, n, .inl f0))]) s.heap [] := ⟨hP, hD0.self, va_S.rf⟩
  have hl := lv_entry [.ref a0, .int i2] (n := 4) (Nat.le_of_ble_eq_true rfl)
  rw [lg_entry_eq]
  generalize (lg_sl [.ref a0, .int i2] ++ List.replicate (4 - (lg_sl [.ref a0, .int i2]).length) Slot.unset).toArray = ls at hl ⊢
  have hl : lv_has ls 4 [(0, .ref a0), (1, .int i2)] := hl
  clear hP hD0
  suffices main : ∀ (H : Heap) (locs : List Loc), Bd (dC, dI) [(cyI, .int)] (va_A ([(a0, .inl (cyI, n, .inl f0))]) s.heap.size) s ([(a0, .inl (cyI, n, .inl f0))]) H locs → W p l e (headSpec wsJ7_fill_53178 rmJ7_fill_53178).room s m ([.ref a0, .int i2] : List Value).toArray below meth c H locs 0 0 (MQ below (QvF (dC, dI) [(cyI, .int)] ([(a0, .inl (cyI, n, .inl f0))]) ([(a0, .inl (cyI, n, .inl f0_))]) s.heap.size) ([.ref a0, .int i2] : List Value).toArray s 0 0 (va_A ([(a0, .inl (cyI, n, .inl f0))]) s.heap.size)) (F0 m 0 ls []) from main _ _ hB
  clear hB
  intro H locs hB
  unfold mJ7_fill_53178 at hf
  refine lv_iconst (v := (0 : Int32)) hx hb dJ7_fill_53178_0 (by decide) ?_
  refine lv_istore_n (lv' := [(2, .int (0 : Int32)), (0, .ref a0), (1, .int i2)]) hx hb dJ7_fill_53178_1 rfl hl (by decide) rfl (fun ls hl => ?_)
  refine lv_aload_n hx hb dJ7_fill_53178_2 rfl (lv_at hl 1 rfl) ?_
  refine g_alen hx hb hK hB 0 0 rfl rfl (v := (Int32.ofNat n)) rfl dJ7_fill_53178_3 ?_
  refine lv_istore_n (lv' := [(3, .int (Int32.ofNat n)), (2, .int (0 : Int32)), (0, .ref a0), (1, .int i2)]) hx hb dJ7_fill_53178_4 rfl hl (by decide) rfl (fun ls hl => ?_)
  obtain ⟨f07, hL10, hf⟩ := ob1_s hf
  have kE8 : ∀ (H : Heap) (locs : List Loc) (ls : Array Slot), Bd (dC, dI) [(cyI, .int)] (va_A ([(a0, .inl (cyI, n, .inl f0))]) s.heap.size) s ([(a0, .inl (cyI, n, .inl f07))]) H locs → lv_has ls 4 [] → W p l e (headSpec wsJ7_fill_53178 rmJ7_fill_53178).room s m ([.ref a0, .int i2] : List Value).toArray below meth c H locs 0 0 (MQ below (QvF (dC, dI) [(cyI, .int)] ([(a0, .inl (cyI, n, .inl f0))]) ([(a0, .inl (cyI, n, .inl f0_))]) s.heap.size) ([.ref a0, .int i2] : List Value).toArray s 0 0 (va_A ([(a0, .inl (cyI, n, .inl f0))]) s.heap.size)) (F0 m 20 ls []) := by
    intro H locs ls hB hl
    have e0 := inj1 hf
    subst e0
    exact g_vret hx hb hr hlocks hK hB dJ7_fill_53178_20
  have key9 : ∀ (n9 : Nat) (v13 : Int32) (f014 : FS) (H : Heap) (locs : List Loc) (ls : Array Slot), loopM (fun st => mJ7_fill_53178_L5 fu n (Int32.ofNat n) i2 st.1 st.2) n9 (v13, f014) = some f07 → Bd (dC, dI) [(cyI, .int)] (va_A ([(a0, .inl (cyI, n, .inl f0))]) s.heap.size) s ([(a0, .inl (cyI, n, .inl f014))]) H locs → lv_has ls 4 [(3, .int (Int32.ofNat n)), (2, .int v13), (0, .ref a0), (1, .int i2)] → W p l e (headSpec wsJ7_fill_53178 rmJ7_fill_53178).room s m ([.ref a0, .int i2] : List Value).toArray below meth c H locs 0 0 (MQ below (QvF (dC, dI) [(cyI, .int)] ([(a0, .inl (cyI, n, .inl f0))]) ([(a0, .inl (cyI, n, .inl f0_))]) s.heap.size) ([.ref a0, .int i2] : List Value).toArray s 0 0 (va_A ([(a0, .inl (cyI, n, .inl f0))]) s.heap.size)) (F0 m 5 ls []) := by
    intro n9
    induction n9 with
    | zero => intro v13 f014 H locs ls hL10; exact (loopM_z hL10).elim
    | succ n9 ih9 =>
      intro v13 f014 H locs ls hL10 hB hl
      obtain ⟨o15, hg11, hL10⟩ := loopM_s hL10
      have hg11 : mJ7_fill_53178_L5 fu n (Int32.ofNat n) i2 v13 f014 = some o15 := hg11
      unfold mJ7_fill_53178_L5 at hg11
      refine lv_iload_n hx hb dJ7_fill_53178_5 rfl (lv_at hl 1 rfl) ?_
      refine lv_iload_n hx hb dJ7_fill_53178_6 rfl (lv_at hl 0 rfl) ?_
      refine lv_icmp_ge (tgt := 20) hx hb dJ7_fill_53178_7 (by decide) (fun c16 => ?_) (fun c16 => ?_)
      · have hg11 := ite_t c16 hg11
        have hL10 := el1_l (inj1 hg11) hL10
        have e0 := inj1 hL10
        subst e0
        exact kE8 _ _ _ hB (lv_sub hl [] rfl)
      · have hg11 := ite_f c16 hg11
        refine lv_aload_n hx hb dJ7_fill_53178_10 rfl (lv_at hl 2 rfl) ?_
        refine lv_iload_n hx hb dJ7_fill_53178_11 rfl (lv_at hl 1 rfl) ?_
        refine lv_iload_n hx hb dJ7_fill_53178_12 rfl (lv_at hl 3 rfl) ?_
        obtain ⟨f017, e9, hg11⟩ := ob1_s hg11
        obtain ⟨hi, e9⟩ := wr_s e9
        refine g_iast hx hb hK hB 0 0 rfl rfl hi e9 dJ7_fill_53178_13 (w2 := ([(a0, .inl (cyI, n, .inl f017))])) (by rfl) (fun H locs hB => ?_)
        refine lv_iinc (v := (v13 + (1 : Int32))) (lv' := [(2, .int (v13 + (1 : Int32))), (3, .int (Int32.ofNat n)), (0, .ref a0), (1, .int i2)]) hx hb dJ7_fill_53178_14 hl (k := 1) rfl rfl (by decide) rfl (fun ls hl => ?_)
        refine lv_goto (tgt := 5) hx hb dJ7_fill_53178_17 (by decide) ?_
        have hL10 := el1_r (inj1 hg11) hL10
        exact ih9 _ _ _ _ _ hL10 hB (lv_sub hl [1, 0, 2, 3] rfl)
  exact key9 fu _ _ _ _ _ hL10 hB (lv_sub hl [0, 1, 2, 3] rfl)

