/-! with -/
theorem va_up_id {α : Type} (f : Nat → α) (k : Nat) : va_up f k (f k) = f := by
  funext j
  by_cases h : j = k
  · rw [h, va_up_self]
  · rw [va_up_ne _ _ h]
abbrev rmL_with : Room := { frames := 0, cells := 1, slots := 10, locals := 0 }
set_option maxHeartbeats 8000000 in
set_option maxRecDepth 100000 in
theorem kL_with (l : Launch) (dC : Nat → ClassId) (dI : Nat → Nat → Nat) (cyI cyB cyO cyA cyT cyW cyZ : ClassId) (kS : Nat → Nat) (sa rw0 : Nat) (ra : PA) (N wd : Nat) (ψ : MS) (f : FS) (sz : Nat) (hN : N < 9) : Met l yL_with wqL_with rmL_with (PcE (dC, dI) [(cyI, .int), (cyB, .byte), (cyO, .object "UndoJourneys$World"), (cyA, .array .int), (cyT, .object "UndoJourneysLaw$Trip"), (cyW, .object "UndoJourneysLaw$World"), (cyZ, .boolean)] kS (wF [[(sa, .inl (cyA, N, .inr (.inr (.inr (.inr (fun k => some (ra k)))))))], cRw cyI ra N wd ψ, [(rw0, .inl (cyI, wd, .inl f))]]) sz [.ref sa, .ref rw0]) (va_Qr (fun _ : Unit => True) (fun (_ : Unit) a t => BX (dC, dI) [(cyI, .int), (cyB, .byte), (cyO, .object "UndoJourneys$World"), (cyA, .array .int), (cyT, .object "UndoJourneysLaw$Trip"), (cyW, .object "UndoJourneysLaw$World"), (cyZ, .boolean)] (wF [[(sa, .inl (cyA, N, .inr (.inr (.inr (.inr (fun k => some (ra k)))))))], cRw cyI ra N wd ψ, [(rw0, .inl (cyI, wd, .inl f))]]) (wF [[(sa, .inl (cyA, N, .inr (.inr (.inr (.inr (fun k => some (ra k)))))))], cRw cyI ra N wd ψ, [(rw0, .inl (cyI, wd, .inl f))], [(a, .inl (cyA, (N + 1), .inr (.inr (.inr (.inr (fun k => some (va_up ra N rw0 k)))))))]]) sz t) (va_A (wF [[(sa, .inl (cyA, N, .inr (.inr (.inr (.inr (fun k => some (ra k)))))))], cRw cyI ra N wd ψ, [(rw0, .inl (cyI, wd, .inl f))]]) sz)) 1 10 (va_A (wF [[(sa, .inl (cyA, N, .inr (.inr (.inr (.inr (fun k => some (ra k)))))))], cRw cyI ra N wd ψ, [(rw0, .inl (cyI, wd, .inl f))]]) sz) := by
  refine Met.ofW (cc := cL_with) (maxL := 4) (ret := (some (.array (.array .int)))) (by decide) rfl ?_
  intro p e s m args below meth c s₁ B hml hv
  obtain ⟨rfl, ⟨hsz, hP, hK, hD0⟩, hEV⟩ := hv
  obtain ⟨hEX, hNC, hJ, hNw, hNw3, hAOw, hN6, hN5, hAOT, hAOW, hAOA, hCl⟩ := id hEV
  have hx := B.exec
  have hb := B.bytes
  have hr := B.returns
  have hts := atoms_spec (ws := wqL_with) B.pre
  have hgb : ∀ w ∈ gw_tbl, w ∈ wqL_with := fun w h => List.mem_cons_of_mem _ h
  have hown : s.vm.findClass RL = some m.cls := findClass_of_methodNamed B.named
  have hlocks := B.notSynchronized
  subst hsz
  have hA : ∀ q : Nat, s.heap.size ≤ q → va_A (wF [[(sa, .inl (cyA, N, .inr (.inr (.inr (.inr (fun k => some (ra k)))))))], cRw cyI ra N wd ψ, [(rw0, .inl (cyI, wd, .inl f))]]) s.heap.size q := fun q h => Or.inr h
  have hB : Bd (dC, dI) [(cyI, .int), (cyB, .byte), (cyO, .object "UndoJourneys$World"), (cyA, .array .int), (cyT, .object "UndoJourneysLaw$Trip"), (cyW, .object "UndoJourneysLaw$World"), (cyZ, .boolean)] (va_A (wF [[(sa, .inl (cyA, N, .inr (.inr (.inr (.inr (fun k => some (ra k)))))))], cRw cyI ra N wd ψ, [(rw0, .inl (cyI, wd, .inl f))]]) s.heap.size) s (wF [[(sa, .inl (cyA, N, .inr (.inr (.inr (.inr (fun k => some (ra k)))))))], cRw cyI ra N wd ψ, [(rw0, .inl (cyI, wd, .inl f))]]) s.heap [] := ⟨hP, hD0.self, va_S.rf⟩
  have hq0 : (Cond.classLink RL 93 "[I").before _ s = true := hts _ (hgb _ (gwt (tb4 211 rfl) (by decide +kernel)))
  have hl := lv_entry [.ref sa, .ref rw0] (n := 4) (Nat.le_of_ble_eq_true rfl)
  rw [lg_entry_eq]
  generalize (lg_sl [.ref sa, .ref rw0] ++ List.replicate (4 - (lg_sl [.ref sa, .ref rw0]).length) Slot.unset).toArray = ls at hl ⊢
  have hl : lv_has ls 4 [(0, .ref sa), (1, .ref rw0)] := hl
  clear hP hD0
  generalize ([] : List Loc) = locs at hB ⊢
  suffices main : ∀ (H : Heap) (locs : List Loc), Bd (dC, dI) [(cyI, .int), (cyB, .byte), (cyO, .object "UndoJourneys$World"), (cyA, .array .int), (cyT, .object "UndoJourneysLaw$Trip"), (cyW, .object "UndoJourneysLaw$World"), (cyZ, .boolean)] (va_A (wF [[(sa, .inl (cyA, N, .inr (.inr (.inr (.inr (fun k => some (ra k)))))))], cRw cyI ra N wd ψ, [(rw0, .inl (cyI, wd, .inl f))]]) s.heap.size) s (wF [[(sa, .inl (cyA, N, .inr (.inr (.inr (.inr (fun k => some (ra k)))))))], cRw cyI ra N wd ψ, [(rw0, .inl (cyI, wd, .inl f))]]) H locs → W p l e (headSpec wqL_with rmL_with).room s m ([.ref sa, .ref rw0] : List Value).toArray below meth c H locs 0 0 (MQ below (va_Qr (fun _ : Unit => True) (fun (_ : Unit) a t => BX (dC, dI) [(cyI, .int), (cyB, .byte), (cyO, .object "UndoJourneys$World"), (cyA, .array .int), (cyT, .object "UndoJourneysLaw$Trip"), (cyW, .object "UndoJourneysLaw$World"), (cyZ, .boolean)] (wF [[(sa, .inl (cyA, N, .inr (.inr (.inr (.inr (fun k => some (ra k)))))))], cRw cyI ra N wd ψ, [(rw0, .inl (cyI, wd, .inl f))]]) (wF [[(sa, .inl (cyA, N, .inr (.inr (.inr (.inr (fun k => some (ra k)))))))], cRw cyI ra N wd ψ, [(rw0, .inl (cyI, wd, .inl f))], [(a, .inl (cyA, (N + 1), .inr (.inr (.inr (.inr (fun k => some (va_up ra N rw0 k)))))))]]) s.heap.size t) (va_A (wF [[(sa, .inl (cyA, N, .inr (.inr (.inr (.inr (fun k => some (ra k)))))))], cRw cyI ra N wd ψ, [(rw0, .inl (cyI, wd, .inl f))]]) s.heap.size)) ([.ref sa, .ref rw0] : List Value).toArray s 1 10 (va_A (wF [[(sa, .inl (cyA, N, .inr (.inr (.inr (.inr (fun k => some (ra k)))))))], cRw cyI ra N wd ψ, [(rw0, .inl (cyI, wd, .inl f))]]) s.heap.size)) (F0 m 0 ls []) from main _ _ hB
  clear hB
  intro H locs hB
  refine lv_aload_n hx hb dL_with_0 rfl (lv_at hl 0 rfl) ?_
  refine g_alen hx hb hK (hB.perm (wperm (L' := [[(sa, .inl (cyA, N, .inr (.inr (.inr (.inr (fun k => some (ra k)))))))], cRw cyI ra N wd ψ, [(rw0, .inl (cyI, wd, .inl f))]]) [0, 1, 2] (by decide +kernel) rfl rfl)) 0 3 rfl rfl (v := (nI N)) rfl dL_with_1 ?_
  refine lv_iconst (v := (1 : Int32)) hx hb dL_with_2 (by decide) ?_
  refine lv_iadd hx hb dL_with_3 ?_
  rw [← nI_succ]
  refine g_newqA 3 rfl hx hb hown hq0 hAOA hK hB hA (N + 1) (nI_pos (by omega)) (nI_clamp (by omega)) (by omega) (by show _ ≤ 1; omega) (by show _ ≤ 10; omega) dL_with_4 (fun q H locs hB => ?_)
  have hB := hB.perm wF_push
  refine lv_astore_n (lv' := [(2, .ref q), (0, .ref sa), (1, .ref rw0)]) hx hb dL_with_7 rfl hl (by decide) rfl (fun ls hl => ?_)
  refine lv_iconst (v := (0 : Int32)) hx hb dL_with_8 (by decide) ?_
  refine lv_istore_n (lv' := [(3, .int (0 : Int32)), (2, .ref q), (0, .ref sa), (1, .ref rw0)]) hx hb dL_with_9 rfl hl (by decide) rfl (fun ls hl => ?_)
  have key : ∀ (d kc : Nat) (H : Heap) (locs : List Loc) (ls : Array Slot), kc + d = N → Bd (dC, dI) [(cyI, .int), (cyB, .byte), (cyO, .object "UndoJourneys$World"), (cyA, .array .int), (cyT, .object "UndoJourneysLaw$Trip"), (cyW, .object "UndoJourneysLaw$World"), (cyZ, .boolean)] (va_A (wF [[(sa, .inl (cyA, N, .inr (.inr (.inr (.inr (fun k => some (ra k)))))))], cRw cyI ra N wd ψ, [(rw0, .inl (cyI, wd, .inl f))]]) s.heap.size) s (wF [[(sa, .inl (cyA, N, .inr (.inr (.inr (.inr (fun k => some (ra k)))))))], cRw cyI ra N wd ψ, [(rw0, .inl (cyI, wd, .inl f))], [(q, .inl (cyA, (N + 1), .inr (.inr (.inr (.inr (prf kc ra))))))]]) H locs → lv_has ls 4 [(3, .int (nI kc)), (2, .ref q), (0, .ref sa), (1, .ref rw0)] → W p l e (headSpec wqL_with rmL_with).room s m ([.ref sa, .ref rw0] : List Value).toArray below meth c H locs (0 + 1) (0 + (N + 1)) (MQ below (va_Qr (fun _ : Unit => True) (fun (_ : Unit) a t => BX (dC, dI) [(cyI, .int), (cyB, .byte), (cyO, .object "UndoJourneys$World"), (cyA, .array .int), (cyT, .object "UndoJourneysLaw$Trip"), (cyW, .object "UndoJourneysLaw$World"), (cyZ, .boolean)] (wF [[(sa, .inl (cyA, N, .inr (.inr (.inr (.inr (fun k => some (ra k)))))))], cRw cyI ra N wd ψ, [(rw0, .inl (cyI, wd, .inl f))]]) (wF [[(sa, .inl (cyA, N, .inr (.inr (.inr (.inr (fun k => some (ra k)))))))], cRw cyI ra N wd ψ, [(rw0, .inl (cyI, wd, .inl f))], [(a, .inl (cyA, (N + 1), .inr (.inr (.inr (.inr (fun k => some (va_up ra N rw0 k)))))))]]) s.heap.size t) (va_A (wF [[(sa, .inl (cyA, N, .inr (.inr (.inr (.inr (fun k => some (ra k)))))))], cRw cyI ra N wd ψ, [(rw0, .inl (cyI, wd, .inl f))]]) s.heap.size)) ([.ref sa, .ref rw0] : List Value).toArray s 1 10 (va_A (wF [[(sa, .inl (cyA, N, .inr (.inr (.inr (.inr (fun k => some (ra k)))))))], cRw cyI ra N wd ψ, [(rw0, .inl (cyI, wd, .inl f))]]) s.heap.size)) (F0 m 10 ls []) := by
    intro d
    induction d with
    | zero =>
      intro kc H locs ls hc hB hl
      refine lv_iload_n hx hb dL_with_10 rfl (lv_at hl 0 rfl) ?_
      refine lv_aload_n hx hb dL_with_11 rfl (lv_at hl 2 rfl) ?_
      refine g_alen hx hb hK (hB.perm (wperm (L' := [[(sa, .inl (cyA, N, .inr (.inr (.inr (.inr (fun k => some (ra k)))))))], cRw cyI ra N wd ψ, [(rw0, .inl (cyI, wd, .inl f))], [(q, .inl (cyA, (N + 1), .inr (.inr (.inr (.inr (prf kc ra))))))]]) [0, 1, 2, 3] (by decide +kernel) rfl rfl)) 0 3 rfl rfl (v := (nI N)) rfl dL_with_12 ?_
      refine lv_icmp_ge (tgt := 28) hx hb dL_with_13 (by decide) (fun _ => ?_) (fun h9 => absurd (nI_le (by omega) (by omega)) h9)
      have e9 : kc = N := by omega
      rw [e9] at hB
      refine lv_aload_n hx hb dL_with_28 rfl (lv_at hl 1 rfl) ?_
      refine lv_aload_n hx hb dL_with_29 rfl (lv_at hl 2 rfl) ?_
      refine g_alen hx hb hK (hB.perm (wperm (L' := [[(sa, .inl (cyA, N, .inr (.inr (.inr (.inr (fun k => some (ra k)))))))], cRw cyI ra N wd ψ, [(rw0, .inl (cyI, wd, .inl f))], [(q, .inl (cyA, (N + 1), .inr (.inr (.inr (.inr (prf N ra))))))]]) [0, 1, 2, 3] (by decide +kernel) rfl rfl)) 0 3 rfl rfl (v := (nI N)) rfl dL_with_30 ?_
      refine lv_aload_n hx hb dL_with_31 rfl (lv_at hl 3 rfl) ?_
      refine g_aastA hx hb hAOA hK (hB.perm (wperm (L' := [[(q, .inl (cyA, (N + 1), .inr (.inr (.inr (.inr (prf N ra))))))], [(rw0, .inl (cyI, wd, .inl f))], [(sa, .inl (cyA, N, .inr (.inr (.inr (.inr (fun k => some (ra k)))))))], cRw cyI ra N wd ψ]) [3, 2, 0, 1] (by decide +kernel) rfl rfl)) 0 3 1 0 rfl rfl rfl rfl (vp_in_nI (Nat.lt_succ_self _) (by omega)) dL_with_32 (w2 := (wF [[(q, .inl (cyA, (N + 1), .inr (.inr (.inr (.inr (va_up (prf N ra) (nI N).toNatClampNeg (some rw0)))))))], [(rw0, .inl (cyI, wd, .inl f))], [(sa, .inl (cyA, N, .inr (.inr (.inr (.inr (fun k => some (ra k)))))))], cRw cyI ra N wd ψ])) rfl (fun H locs hB => ?_)
      rw [nI_clamp (by omega), prf_push] at hB
      have hB := hB.refs 0 (g := fun k => some (va_up ra N rw0 k)) rfl (fun j hj => if_pos hj)
      have hB : Bd (dC, dI) [(cyI, .int), (cyB, .byte), (cyO, .object "UndoJourneys$World"), (cyA, .array .int), (cyT, .object "UndoJourneysLaw$Trip"), (cyW, .object "UndoJourneysLaw$World"), (cyZ, .boolean)] (va_A (wF [[(sa, .inl (cyA, N, .inr (.inr (.inr (.inr (fun k => some (ra k)))))))], cRw cyI ra N wd ψ, [(rw0, .inl (cyI, wd, .inl f))]]) s.heap.size) s (wF [[(sa, .inl (cyA, N, .inr (.inr (.inr (.inr (fun k => some (ra k)))))))], cRw cyI ra N wd ψ, [(rw0, .inl (cyI, wd, .inl f))], [(q, .inl (cyA, (N + 1), .inr (.inr (.inr (.inr (fun k => some (va_up ra N rw0 k)))))))]]) H locs := hB.perm (wperm (L := [[(q, .inl (cyA, (N + 1), .inr (.inr (.inr (.inr (fun k => some (va_up ra N rw0 k)))))))], [(rw0, .inl (cyI, wd, .inl f))], [(sa, .inl (cyA, N, .inr (.inr (.inr (.inr (fun k => some (ra k)))))))], cRw cyI ra N wd ψ]) (L' := [[(sa, .inl (cyA, N, .inr (.inr (.inr (.inr (fun k => some (ra k)))))))], cRw cyI ra N wd ψ, [(rw0, .inl (cyI, wd, .inl f))], [(q, .inl (cyA, (N + 1), .inr (.inr (.inr (.inr (fun k => some (va_up ra N rw0 k)))))))]]) [2, 3, 1, 0] (by decide +kernel) rfl rfl)
      refine lv_aload_n hx hb dL_with_33 rfl (lv_at hl 1 rfl) ?_
      refine W.widen (k := 1) (n := 10) (by omega) (by omega) ?_
      refine W.aret hx hb hr (Or.inr ⟨_, rfl⟩) (Or.inr ⟨_, rfl⟩) (fun t ht hW => ?_) hB.2.2.2.2 dL_with_34 hlocks
      exact ⟨⟨(), q, rfl, trivial, by rw [ht]; exact hB.1, va_K.moved hW.alike hK, hB.2.1⟩, hB.2.2.F ht⟩
    | succ d ih =>
      intro kc H locs ls hc hB hl
      refine lv_iload_n hx hb dL_with_10 rfl (lv_at hl 0 rfl) ?_
      refine lv_aload_n hx hb dL_with_11 rfl (lv_at hl 2 rfl) ?_
      refine g_alen hx hb hK (hB.perm (wperm (L' := [[(sa, .inl (cyA, N, .inr (.inr (.inr (.inr (fun k => some (ra k)))))))], cRw cyI ra N wd ψ, [(rw0, .inl (cyI, wd, .inl f))], [(q, .inl (cyA, (N + 1), .inr (.inr (.inr (.inr (prf kc ra))))))]]) [0, 1, 2, 3] (by decide +kernel) rfl rfl)) 0 3 rfl rfl (v := (nI N)) rfl dL_with_12 ?_
      have hlt : kc < N := by omega
      refine lv_icmp_ge (tgt := 28) hx hb dL_with_13 (by decide) (fun h9 => absurd h9 (nI_ge hlt (by omega))) (fun _ => ?_)
      refine lv_aload_n hx hb dL_with_16 rfl (lv_at hl 1 rfl) ?_
      refine lv_iload_n hx hb dL_with_17 rfl (lv_at hl 0 rfl) ?_
      refine lv_aload_n hx hb dL_with_18 rfl (lv_at hl 2 rfl) ?_
      refine lv_iload_n hx hb dL_with_19 rfl (lv_at hl 0 rfl) ?_
      refine g_aald hx hb hK (hB.perm (wperm (L' := [[(sa, .inl (cyA, N, .inr (.inr (.inr (.inr (fun k => some (ra k)))))))], cRw cyI ra N wd ψ, [(rw0, .inl (cyI, wd, .inl f))], [(q, .inl (cyA, (N + 1), .inr (.inr (.inr (.inr (prf kc ra))))))]]) [0, 1, 2, 3] (by decide +kernel) rfl rfl)) 0 3 rfl rfl (j := kc) ⟨vp_in_nI hlt (by omega), nI_clamp (by omega)⟩ dL_with_20 ?_
      refine g_aastA hx hb hAOA hK (hB.perm (wperm (L' := [[(q, .inl (cyA, (N + 1), .inr (.inr (.inr (.inr (prf kc ra))))))], cRw cyI ra N wd ψ, [(sa, .inl (cyA, N, .inr (.inr (.inr (.inr (fun k => some (ra k)))))))], [(rw0, .inl (cyI, wd, .inl f))]]) [3, 1, 0, 2] (by decide +kernel) rfl rfl)) 0 3 (1 + kc) 0 rfl rfl (cRw_at cyI ra ψ hlt _ _) rfl (vp_in_nI (by omega) (by omega)) dL_with_21 (w2 := (wF [[(q, .inl (cyA, (N + 1), .inr (.inr (.inr (.inr (va_up (prf kc ra) (nI kc).toNatClampNeg (some (ra kc))))))))], cRw cyI ra N wd ψ, [(sa, .inl (cyA, N, .inr (.inr (.inr (.inr (fun k => some (ra k)))))))], [(rw0, .inl (cyI, wd, .inl f))]])) rfl (fun H locs hB => ?_)
      rw [nI_clamp (by omega), prf_push, va_up_id] at hB
      have hB := hB.perm (wperm (L' := [[(sa, .inl (cyA, N, .inr (.inr (.inr (.inr (fun k => some (ra k)))))))], cRw cyI ra N wd ψ, [(rw0, .inl (cyI, wd, .inl f))], [(q, .inl (cyA, (N + 1), .inr (.inr (.inr (.inr (prf (kc + 1) ra))))))]]) [2, 1, 3, 0] (by decide +kernel) rfl rfl)
      refine lv_iinc (v := (nI (kc + 1))) (lv' := [(3, .int (nI (kc + 1))), (2, .ref q), (0, .ref sa), (1, .ref rw0)]) hx hb dL_with_22 hl (k := 0) rfl (nI_succ _).symm (by decide) rfl (fun ls hl => ?_)
      refine lv_goto (tgt := 10) hx hb dL_with_25 (by decide) ?_
      exact ih (kc + 1) H locs ls (by omega) hB (lv_sub hl [0, 1, 2, 3] rfl)
  exact key N 0 H locs ls (Nat.zero_add _) (hB.perm (List.Perm.of_eq rfl)) (lv_sub hl [0, 1, 2, 3] rfl)
