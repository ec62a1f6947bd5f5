/-! the reference's maker, the class's state -/
theorem vp_cell_congrq {cA : ClassId} {n : Nat} {f g : Nat → Option Nat} (h : ∀ j, j < n → f j = g j) : vp_cell cA (n, .inr (.inr (.inr (.inr f)))) = vp_cell cA (n, .inr (.inr (.inr (.inr g)))) := by
  rw [vp_cell_q, vp_cell_q]
  unfold arrV
  congr 1
  apply Array.ext
  · simp
  · intro i h1 h2
    simp only [Array.getElem_ofFn]
    simp only [Array.size_ofFn] at h1
    rw [h i h1]
section MU
variable {p : Program} {l : Launch} {e : Env} {R : Room} {s : State} {m : MethodId} {args : Array Value} {below : List Frame} {meth : Method} {c : Code} {H : Heap} {locs : List Loc} {cells slots : Nat} {Q : State → Prop}
variable {cc : ByteArray} {pc : Nat} {ls : Array Slot} {rest : List Value} {D : va_G} {A : Nat → Prop} {a : Nat} {tys : List (ClassId × FieldType)} {ws : va_W} {nL index : Nat} {own : String} {dC : Nat → ClassId} {dI : Nat → Nat → Nat} {Ts : List Cond}
theorem Bd.refs (h : Bd D tys A s ws H locs) (q0 : Nat) {cA : ClassId} {n : Nat} {f g : Nat → Option Nat} (ha : ws[q0]? = some (a, .inl (cA, n, .inr (.inr (.inr (.inr f)))))) (hfg : ∀ j, j < n → f j = g j) : Bd D tys A s (ws.set q0 (a, .inl (cA, n, .inr (.inr (.inr (.inr g)))))) H locs := by
  have e : ws.set q0 (a, .inl (cA, n, .inr (.inr (.inr (.inr f))))) = ws := by
    apply List.ext_getElem?
    intro k
    by_cases hk : k = q0
    · subst hk
      rw [List.getElem?_set_self (List.getElem?_eq_some_iff.mp ha).1, ha]
    · rw [List.getElem?_set_ne (Ne.symm hk)]
  obtain ⟨h1, h2, h3⟩ := h
  rw [← e] at h1 h2
  refine ⟨va_P_set_congr h1 fun h => ?_, va_D_set_congr h2, h3⟩
  have h : H[a]? = some (vp_cell cA (n, .inr (.inr (.inr (.inr f))))) := h
  show H[a]? = some (vp_cell cA (n, .inr (.inr (.inr (.inr g)))))
  rw [h, vp_cell_congrq hfg]
end MU
def PcA (D : va_G) (tys : List (ClassId × FieldType)) (O : State → Prop) (w0 : va_W) (sz : Nat) (av : List Value) : Array Value → State → Prop := va_Pc av (fun U => (U.heap.size = sz ∧ va_P D vwCl w0 U.heap ∧ va_K D vwCl tys U ∧ va_D (fun _ => True) w0) ∧ O U)
/-- the class's cells: itself, its ten worlds, the setups so far -/
def cU0 (cyB cyO : ClassId) (ua ub up : Nat) (aw : Nat → Nat → Nat) (pa : Nat → Nat) (β : FS) (υ : MS) : va_W := [(ua, .inr (3, [.ref ub, .int (υ 1 0), .int (υ 2 0), .ref (aw 0 0), .ref (aw 1 0), .ref up, .int (υ 6 0)])), (ub, .inl (cyB, 700, .inl β)), (up, .inl (cyO, 8, .inr (.inr (.inr (.inr (fun k => some (aw (pa k) 0)))))))]
def cUw (cyI : ClassId) (aw : Nat → Nat → Nat) (bs : Nat → Nat) (ω : Nat → MS) : va_W := (List.range 10).flatMap fun w => cW1 cyI (aw w) (bs w) (ω w)
def cUs (cyI : ClassId) (as' : Nat → Nat → Nat) (τs : Nat → MS) (n : Nat) : va_W := (List.range n).flatMap fun i => cS cyI (as' i) (τs i)
def cU (cyI cyB cyO : ClassId) (ua ub up : Nat) (aw as' : Nat → Nat → Nat) (pa : Nat → Nat) (β : FS) (υ : MS) (ω : Nat → MS) (sid : Nat → Nat) (τs : Nat → MS) (n : Nat) : va_W := cU0 cyB cyO ua ub up aw pa β υ ++ (cUw cyI aw (fun w => as' (sid w) 0) ω ++ cUs cyI as' τs n)
def υ0 : MS := fun k _ => match k with
  | 2 => -1
  | _ => 0
/-- a reader at its start -/
def ρ0 (n : Int32) : MS := fun k _ => match k with
  | 2 => -1
  | 4 => if 0 < (if 700 < n then 700 else n) then (if 700 < n then 700 else n) else 0
  | _ => 0
theorem perm10 (L S W0 W1 W2 W3 W4 W5 W6 W7 W8 W9 : va_W) : (((((((((((L ++ S) ++ W0) ++ W1) ++ W2) ++ W3) ++ W4) ++ W5) ++ W6) ++ W7) ++ W8) ++ W9).Perm (L ++ ((W0 ++ (W1 ++ (W2 ++ (W3 ++ (W4 ++ (W5 ++ (W6 ++ (W7 ++ (W8 ++ (W9 ++ [])))))))))) ++ (S ++ []))) := by
  simp only [List.append_assoc, List.append_nil]
  refine List.Perm.append_left L ?_
  have h := List.perm_append_comm (l₁ := S) (l₂ := W0 ++ (W1 ++ (W2 ++ (W3 ++ (W4 ++ (W5 ++ (W6 ++ (W7 ++ (W8 ++ W9)))))))))
  simpa only [List.append_assoc] using h
abbrev rmX1_init : Room := { frames := 2, cells := 13, slots := 301, locals := 32 }
set_option maxHeartbeats 8000000 in
set_option maxRecDepth 100000 in
theorem kX1_init (l : Launch) (dC : Nat → ClassId) (dI : Nat → Nat → Nat) (cyI cyB : ClassId) (h0 tx : Nat) {β : FS} {i2 : Int32} (sz : Nat) : Met l yX1_init wsX1_init rmX1_init (PcA (dC, dI) [(cyI, .int), (cyB, .byte)] (fun U => va_Nw (.methodLinkNest RX1 11 yX0_init RX3) U) [(h0, .inr (1, [.null, .int 0, .int 0, .null, .int 0, .int 0, .int 0, .int 0, .int 0, .int 0, .int 0])), (tx, .inl (cyB, 700, .inl β))] sz [.ref h0, .ref tx, .int i2]) (va_Qv (fun u : Nat → Nat => True) (fun u t => va_P (dC, dI) vwCl (cR cyI cyB h0 tx u β τ0 (ρ0 i2)) t.heap ∧ va_K (dC, dI) vwCl [(cyI, .int), (cyB, .byte)] t ∧ va_D (va_A [(h0, .inr (1, [.null, .int 0, .int 0, .null, .int 0, .int 0, .int 0, .int 0, .int 0, .int 0, .int 0])), (tx, .inl (cyB, 700, .inl β))] sz) (cR cyI cyB h0 tx u β τ0 (ρ0 i2))) (va_A [(h0, .inr (1, [.null, .int 0, .int 0, .null, .int 0, .int 0, .int 0, .int 0, .int 0, .int 0, .int 0])), (tx, .inl (cyB, 700, .inl β))] sz)) 13 301 (va_A [(h0, .inr (1, [.null, .int 0, .int 0, .null, .int 0, .int 0, .int 0, .int 0, .int 0, .int 0, .int 0])), (tx, .inl (cyB, 700, .inl β))] sz) := by
  refine Met.ofW (cc := cX1_init) (maxL := 3) (ret := none) (by decide) rfl ?_
  intro p e s m args below meth c s₁ B hml hv
  obtain ⟨rfl, ⟨hsz, hP, hK, hD0⟩, hAO⟩ := hv
  have hx := B.exec
  have hb := B.bytes
  have hr := B.returns
  have hts := atoms_spec (ws := wsX1_init) B.pre
  have hown : s.vm.findClass RX1 = some m.cls := findClass_of_methodNamed B.named
  have hlocks := B.notSynchronized
  have hin9 : meth.name = "<init>" := (name_of_methodNamed B.named B.method).1
  subst hsz
  have hA : ∀ q : Nat, s.heap.size ≤ q → va_A [(h0, .inr (1, [.null, .int 0, .int 0, .null, .int 0, .int 0, .int 0, .int 0, .int 0, .int 0, .int 0])), (tx, .inl (cyB, 700, .inl β))] s.heap.size q := fun q h => Or.inr h
  have hB : Bd (dC, dI) [(cyI, .int), (cyB, .byte)] (va_A [(h0, .inr (1, [.null, .int 0, .int 0, .null, .int 0, .int 0, .int 0, .int 0, .int 0, .int 0, .int 0])), (tx, .inl (cyB, 700, .inl β))] s.heap.size) s [(h0, .inr (1, [.null, .int 0, .int 0, .null, .int 0, .int 0, .int 0, .int 0, .int 0, .int 0, .int 0])), (tx, .inl (cyB, 700, .inl β))] s.heap [] := ⟨hP, hD0.self, va_S.rf⟩
  have hq1 : (Cond.methodLink RX1 3 objectInit).before _ s = true := hts _ (List.mem_of_getElem? (i := 1) rfl)
  have hq2 : (Cond.instanceMethod objectInit).before _ s = true := hts _ (List.mem_of_getElem? (i := 2) rfl)
  have hq3 : (Cond.code objectInit ⟨#[0xb1]⟩ 1 none).before _ s = true := hts _ (List.mem_of_getElem? (i := 3) rfl)
  have hq4 : (Cond.classLink RX1 9 RX0).before _ s = true := hts _ (List.mem_of_getElem? (i := 4) rfl)
  have hq5 : (Cond.instantiable RX0 17).before _ s = true := hts _ (List.mem_of_getElem? (i := 5) rfl)
  have hq6 : (Cond.initialized RX0).before _ s = true := hts _ (List.mem_of_getElem? (i := 6) rfl)
  have hq7 : (Cond.fieldLink RX1 12 "UndoJourneys$SetupReader" "setup" "LUndoJourneys$Setup;").before _ s = true := hts _ (List.mem_of_getElem? (i := 7) rfl)
  have hq8 : (Cond.fieldLink RX1 18 "UndoJourneys$SetupReader" "error" "I").before _ s = true := hts _ (List.mem_of_getElem? (i := 8) rfl)
  have hq9 : (Cond.fieldLink RX1 22 "UndoJourneys$SetupReader" "errorAt" "I").before _ s = true := hts _ (List.mem_of_getElem? (i := 9) rfl)
  have hq10 : (Cond.fieldLink RX1 25 "UndoJourneys$SetupReader" "waitIsTold" "Z").before _ s = true := hts _ (List.mem_of_getElem? (i := 10) rfl)
  have hq11 : (Cond.fieldLink RX1 29 "UndoJourneys$SetupReader" "patienceIsTold" "Z").before _ s = true := hts _ (List.mem_of_getElem? (i := 11) rfl)
  have hq12 : (Cond.fieldLink RX1 32 "UndoJourneys$SetupReader" "kind" "I").before _ s = true := hts _ (List.mem_of_getElem? (i := 12) rfl)
  have hq13 : (Cond.fieldLink RX1 35 "UndoJourneys$SetupReader" "tokenStart" "I").before _ s = true := hts _ (List.mem_of_getElem? (i := 13) rfl)
  have hq14 : (Cond.fieldLink RX1 38 "UndoJourneys$SetupReader" "tokenEnd" "I").before _ s = true := hts _ (List.mem_of_getElem? (i := 14) rfl)
  have hq15 : (Cond.fieldLink RX1 41 "UndoJourneys$SetupReader" "number" "I").before _ s = true := hts _ (List.mem_of_getElem? (i := 15) rfl)
  have hq16 : (Cond.fieldLink RX1 44 "UndoJourneys$SetupReader" "text" "[B").before _ s = true := hts _ (List.mem_of_getElem? (i := 16) rfl)
  have hq17 : (Cond.methodLink RX1 48 Lib.Math.min.name).before _ s = true := hts _ (List.mem_of_getElem? (i := 17) rfl)
  have hq18 : (Cond.static Lib.Math.min.name).before _ s = true := hts _ (List.mem_of_getElem? (i := 18) rfl)
  have hq19 : (Cond.initialized "java/lang/Math").before _ s = true := hts _ (List.mem_of_getElem? (i := 19) rfl)
  have hq20 : (Cond.code Lib.Math.min.name Lib.Math.min.code 2 (some .int)).before _ s = true := hts _ (List.mem_of_getElem? (i := 20) rfl)
  have hq21 : (Cond.methodLink RX1 54 Lib.Math.max.name).before _ s = true := hts _ (List.mem_of_getElem? (i := 21) rfl)
  have hq22 : (Cond.static Lib.Math.max.name).before _ s = true := hts _ (List.mem_of_getElem? (i := 22) rfl)
  have hq23 : (Cond.code Lib.Math.max.name Lib.Math.max.code 2 (some .int)).before _ s = true := hts _ (List.mem_of_getElem? (i := 23) rfl)
  have hq24 : (Cond.fieldLink RX1 57 "UndoJourneys$SetupReader" "length" "I").before _ s = true := hts _ (List.mem_of_getElem? (i := 24) rfl)
  have hq25 : (Cond.instanceMethod yX0_init).before _ s = true := hts _ (List.mem_of_getElem? (i := 25) rfl)
  have hinX0 : ∀ w ∈ wsX00, w ∈ wsX1_init := fun w h => List.mem_cons_of_mem _ (List.mem_append_left _ (List.mem_append_right _ h))
  have hinX1 : ∀ w ∈ wsX10, w ∈ wsX1_init := fun w h => List.mem_cons_of_mem _ (List.mem_append_right _ h)
  have hl := lv_entry [.ref h0, .ref tx, .int i2] (n := 3) (Nat.le_of_ble_eq_true rfl)
  rw [lg_entry_eq]
  generalize (lg_sl [.ref h0, .ref tx, .int i2] ++ List.replicate (3 - (lg_sl [.ref h0, .ref tx, .int i2]).length) Slot.unset).toArray = ls at hl ⊢
  have hl : lv_has ls 3 [(0, .ref h0), (1, .ref tx), (2, .int i2)] := hl
  refine lv_aload_n hx hb dX1_init_0 rfl (lv_at hl 0 rfl) ?_
  refine g_objInit hx hb hown hml hl.1 hq1 hq2 hq3 dX1_init_1 (Nat.le_of_ble_eq_true rfl) (Nat.le_of_ble_eq_true rfl) ?_
  refine lv_aload_n hx hb dX1_init_4 rfl (lv_at hl 0 rfl) ?_
  refine g_new (C := RX0) (T := TX0) (N := 17) (ci := 0) hx hb hts hinX0 tyX0 tyX0_ok hown hq4 hq5 hq6 hK hB hA rfl [.int 0, .int 0, .int 0, .null, .null, .int 0, .null, .null, .null, .null, .int 0, .null, .null, .null, .null, .null, .null] (by decide +kernel) (Nat.le_of_ble_eq_true rfl) (Nat.le_of_ble_eq_true rfl) dX1_init_5 (fun q1 H locs hB => ?_)
  refine lv_dup hx hb dX1_init_8 rfl ?_
  refine g_icallN (As := []) (rest := [.ref q1, .ref h0]) (wc := [(q1, .inr (0, [.int 0, .int 0, .int 0, .null, .null, .int 0, .null, .null, .null, .null, .int 0, .null, .null, .null, .null, .null, .null]))]) (wr := [(h0, .inr (1, [.null, .int 0, .int 0, .null, .int 0, .int 0, .int 0, .int 0, .int 0, .int 0, .int 0])), (tx, .inl (cyB, 700, .inl β))]) (w1 := fun u => cS cyI u τ0) ⟨hx, hb, hml, hown, hts⟩ (kX0_init l dC dI cyI q1 H.size) ⟨va_cnB 0 hts gX1_init_X0_init_n11 rfl rfl rfl hAO hq6 (by decide +kernel) ⟨Nat.le_of_ble_eq_true rfl, Nat.le_of_ble_eq_true rfl⟩, rfl, hq25⟩ (hK.sub [0] rfl) hB hA List.perm_append_comm rfl hl.1 rfl (Nat.le_of_ble_eq_true rfl) dX1_init_9 ⟨Nat.le_of_ble_eq_true rfl, Nat.le_of_ble_eq_true rfl⟩ (fun u2 H9 locs9 hu hB9 => ?_)
  subst hu
  clear hB
  have hB := hB9.perm List.perm_append_comm
  clear hB9
  generalize H9 = H at hB ⊢
  generalize locs9 = locs at hB ⊢
  refine g_putF (C := RX1) (T := TX1) (N := 11) hx hb hts hinX1 tyX1 tyX1_ok nmX1 hown hin9 hK hB 0 rfl rfl 0 rfl hq7 rfl rfl rfl rfl rfl rfl rfl dX1_init_12 (w2 := ([(h0, .inr (1, [.ref (u2 0), .int 0, .int 0, .null, .int 0, .int 0, .int 0, .int 0, .int 0, .int 0, .int 0])), (tx, .inl (cyB, 700, .inl β))] ++ (cS cyI u2 τ0))) rfl (fun H locs hB => ?_)
  refine lv_aload_n hx hb dX1_init_15 rfl (lv_at hl 0 rfl) ?_
  refine lv_iconst (v := (0 : Int32)) hx hb dX1_init_16 (by decide) ?_
  refine g_put (C := RX1) (T := TX1) (N := 11) hx hb hts hinX1 tyX1 tyX1_ok nmX1 hown hK hB 0 rfl rfl 1 rfl hq8 rfl rfl rfl rfl rfl rfl dX1_init_17 (w2 := ([(h0, .inr (1, [.ref (u2 0), .int (0 : Int32), .int 0, .null, .int 0, .int 0, .int 0, .int 0, .int 0, .int 0, .int 0])), (tx, .inl (cyB, 700, .inl β))] ++ (cS cyI u2 τ0))) rfl (fun H locs hB => ?_)
  refine lv_aload_n hx hb dX1_init_20 rfl (lv_at hl 0 rfl) ?_
  refine lv_iconst (v := (-1 : Int32)) hx hb dX1_init_21 (by decide) ?_
  refine g_put (C := RX1) (T := TX1) (N := 11) hx hb hts hinX1 tyX1 tyX1_ok nmX1 hown hK hB 0 rfl rfl 2 rfl hq9 rfl rfl rfl rfl rfl rfl dX1_init_22 (w2 := ([(h0, .inr (1, [.ref (u2 0), .int (0 : Int32), .int (-1 : Int32), .null, .int 0, .int 0, .int 0, .int 0, .int 0, .int 0, .int 0])), (tx, .inl (cyB, 700, .inl β))] ++ (cS cyI u2 τ0))) rfl (fun H locs hB => ?_)
  refine lv_aload_n hx hb dX1_init_25 rfl (lv_at hl 0 rfl) ?_
  refine lv_iconst (v := (0 : Int32)) hx hb dX1_init_26 (by decide) ?_
  refine g_put (C := RX1) (T := TX1) (N := 11) hx hb hts hinX1 tyX1 tyX1_ok nmX1 hown hK hB 0 rfl rfl 5 rfl hq10 rfl rfl rfl (by decide) rfl rfl dX1_init_27 (w2 := ([(h0, .inr (1, [.ref (u2 0), .int (0 : Int32), .int (-1 : Int32), .null, .int 0, .int (0 : Int32), .int 0, .int 0, .int 0, .int 0, .int 0])), (tx, .inl (cyB, 700, .inl β))] ++ (cS cyI u2 τ0))) rfl (fun H locs hB => ?_)
  refine lv_aload_n hx hb dX1_init_30 rfl (lv_at hl 0 rfl) ?_
  refine lv_iconst (v := (0 : Int32)) hx hb dX1_init_31 (by decide) ?_
  refine g_put (C := RX1) (T := TX1) (N := 11) hx hb hts hinX1 tyX1 tyX1_ok nmX1 hown hK hB 0 rfl rfl 6 rfl hq11 rfl rfl rfl (by decide) rfl rfl dX1_init_32 (w2 := ([(h0, .inr (1, [.ref (u2 0), .int (0 : Int32), .int (-1 : Int32), .null, .int 0, .int (0 : Int32), .int (0 : Int32), .int 0, .int 0, .int 0, .int 0])), (tx, .inl (cyB, 700, .inl β))] ++ (cS cyI u2 τ0))) rfl (fun H locs hB => ?_)
  refine lv_aload_n hx hb dX1_init_35 rfl (lv_at hl 0 rfl) ?_
  refine lv_iconst (v := (0 : Int32)) hx hb dX1_init_36 (by decide) ?_
  refine g_put (C := RX1) (T := TX1) (N := 11) hx hb hts hinX1 tyX1 tyX1_ok nmX1 hown hK hB 0 rfl rfl 7 rfl hq12 rfl rfl rfl rfl rfl rfl dX1_init_37 (w2 := ([(h0, .inr (1, [.ref (u2 0), .int (0 : Int32), .int (-1 : Int32), .null, .int 0, .int (0 : Int32), .int (0 : Int32), .int (0 : Int32), .int 0, .int 0, .int 0])), (tx, .inl (cyB, 700, .inl β))] ++ (cS cyI u2 τ0))) rfl (fun H locs hB => ?_)
  refine lv_aload_n hx hb dX1_init_40 rfl (lv_at hl 0 rfl) ?_
  refine lv_iconst (v := (0 : Int32)) hx hb dX1_init_41 (by decide) ?_
  refine g_put (C := RX1) (T := TX1) (N := 11) hx hb hts hinX1 tyX1 tyX1_ok nmX1 hown hK hB 0 rfl rfl 8 rfl hq13 rfl rfl rfl rfl rfl rfl dX1_init_42 (w2 := ([(h0, .inr (1, [.ref (u2 0), .int (0 : Int32), .int (-1 : Int32), .null, .int 0, .int (0 : Int32), .int (0 : Int32), .int (0 : Int32), .int (0 : Int32), .int 0, .int 0])), (tx, .inl (cyB, 700, .inl β))] ++ (cS cyI u2 τ0))) rfl (fun H locs hB => ?_)
  refine lv_aload_n hx hb dX1_init_45 rfl (lv_at hl 0 rfl) ?_
  refine lv_iconst (v := (0 : Int32)) hx hb dX1_init_46 (by decide) ?_
  refine g_put (C := RX1) (T := TX1) (N := 11) hx hb hts hinX1 tyX1 tyX1_ok nmX1 hown hK hB 0 rfl rfl 9 rfl hq14 rfl rfl rfl rfl rfl rfl dX1_init_47 (w2 := ([(h0, .inr (1, [.ref (u2 0), .int (0 : Int32), .int (-1 : Int32), .null, .int 0, .int (0 : Int32), .int (0 : Int32), .int (0 : Int32), .int (0 : Int32), .int (0 : Int32), .int 0])), (tx, .inl (cyB, 700, .inl β))] ++ (cS cyI u2 τ0))) rfl (fun H locs hB => ?_)
  refine lv_aload_n hx hb dX1_init_50 rfl (lv_at hl 0 rfl) ?_
  refine lv_iconst (v := (0 : Int32)) hx hb dX1_init_51 (by decide) ?_
  refine g_put (C := RX1) (T := TX1) (N := 11) hx hb hts hinX1 tyX1 tyX1_ok nmX1 hown hK hB 0 rfl rfl 10 rfl hq15 rfl rfl rfl rfl rfl rfl dX1_init_52 (w2 := ([(h0, .inr (1, [.ref (u2 0), .int (0 : Int32), .int (-1 : Int32), .null, .int 0, .int (0 : Int32), .int (0 : Int32), .int (0 : Int32), .int (0 : Int32), .int (0 : Int32), .int (0 : Int32)])), (tx, .inl (cyB, 700, .inl β))] ++ (cS cyI u2 τ0))) rfl (fun H locs hB => ?_)
  refine lv_aload_n hx hb dX1_init_55 rfl (lv_at hl 0 rfl) ?_
  refine lv_aload_n hx hb dX1_init_56 rfl (lv_at hl 1 rfl) ?_
  refine g_putF (C := RX1) (T := TX1) (N := 11) hx hb hts hinX1 tyX1 tyX1_ok nmX1 hown hin9 hK hB 0 rfl rfl 3 rfl hq16 rfl rfl rfl rfl rfl rfl rfl dX1_init_57 (w2 := ([(h0, .inr (1, [.ref (u2 0), .int (0 : Int32), .int (-1 : Int32), .ref tx, .int 0, .int (0 : Int32), .int (0 : Int32), .int (0 : Int32), .int (0 : Int32), .int (0 : Int32), .int (0 : Int32)])), (tx, .inl (cyB, 700, .inl β))] ++ (cS cyI u2 τ0))) rfl (fun H locs hB => ?_)
  refine lv_aload_n hx hb dX1_init_60 rfl (lv_at hl 0 rfl) ?_
  refine lv_iconst (v := (0 : Int32)) hx hb dX1_init_61 (by decide) ?_
  refine lv_iload_n hx hb dX1_init_62 rfl (lv_at hl 2 rfl) ?_
  refine lv_aload_n hx hb dX1_init_63 rfl (lv_at hl 1 rfl) ?_
  refine g_alen hx hb hK hB 1 1 rfl rfl (v := (700 : Int32)) rfl dX1_init_64 ?_
  refine va_mmin hx hb (hml.trans hl.1.symm) hown hq17 hq18 hq19 hq20 (Nat.le_of_ble_eq_true rfl) (Nat.le_of_ble_eq_true rfl) (Nat.le_of_ble_eq_true rfl) (Nat.le_of_ble_eq_true rfl) dX1_init_65 ?_
  refine va_mmax hx hb (hml.trans hl.1.symm) hown hq21 hq22 hq19 hq23 (Nat.le_of_ble_eq_true rfl) (Nat.le_of_ble_eq_true rfl) (Nat.le_of_ble_eq_true rfl) (Nat.le_of_ble_eq_true rfl) dX1_init_68 ?_
  refine g_putF (C := RX1) (T := TX1) (N := 11) hx hb hts hinX1 tyX1 tyX1_ok nmX1 hown hin9 hK hB 0 rfl rfl 4 rfl hq24 rfl rfl rfl rfl rfl rfl rfl dX1_init_71 (w2 := ([(h0, .inr (1, [.ref (u2 0), .int (0 : Int32), .int (-1 : Int32), .ref tx, .int (if (0 : Int32) < (if (700 : Int32) < i2 then (700 : Int32) else i2) then (if (700 : Int32) < i2 then (700 : Int32) else i2) else (0 : Int32)), .int (0 : Int32), .int (0 : Int32), .int (0 : Int32), .int (0 : Int32), .int (0 : Int32), .int (0 : Int32)])), (tx, .inl (cyB, 700, .inl β))] ++ (cS cyI u2 τ0))) rfl (fun H locs hB => ?_)
  have hB : Bd (dC, dI) [(cyI, .int), (cyB, .byte)] (va_A [(h0, .inr (1, [.null, .int 0, .int 0, .null, .int 0, .int 0, .int 0, .int 0, .int 0, .int 0, .int 0])), (tx, .inl (cyB, 700, .inl β))] s.heap.size) s ((fun u : Nat → Nat => cR cyI cyB h0 tx u β τ0 (ρ0 i2)) (u2)) H locs := hB
  exact g_vretX (S := Nat → Nat) (w1 := fun u => cR cyI cyB h0 tx u β τ0 (ρ0 i2)) (u := u2) hx hb hr hlocks hK hB trivial (Nat.le_of_ble_eq_true rfl) (Nat.le_of_ble_eq_true rfl) dX1_init_74

abbrev rmX3_init : Room := { frames := 2, cells := 135, slots := 3589, locals := 36 }
set_option maxHeartbeats 8000000 in
set_option maxRecDepth 100000 in
theorem kX3_init (l : Launch) (dC : Nat → ClassId) (dI : Nat → Nat → Nat) (cyI cyB cyO : ClassId) (h0 : Nat) (sz : Nat) : Met l yX3_init wsX3_init rmX3_init (PcA (dC, dI) [(cyI, .int), (cyB, .byte), (cyO, .object "UndoJourneys$World")] (fun U => va_AO "UndoJourneys$World" U ∧ va_Nw (.methodLinkNest RX3 31 yX0_init RX3) U) [(h0, .inr (3, [.null, .int 0, .int 0, .null, .null, .null, .int 0]))] sz [.ref h0]) (va_Qv (fun u : Nat × Nat × (Nat → Nat → Nat) × (Nat → Nat → Nat) => True) (fun u t => va_P (dC, dI) vwCl (cU cyI cyB cyO h0 u.1 u.2.1 u.2.2.1 u.2.2.2 (fun k => k + 2) (fun _ => 0) υ0 (fun _ => σ0) (fun _ => 0) (fun _ => τ0) 1) t.heap ∧ va_K (dC, dI) vwCl [(cyI, .int), (cyB, .byte), (cyO, .object "UndoJourneys$World")] t ∧ va_D (va_A [(h0, .inr (3, [.null, .int 0, .int 0, .null, .null, .null, .int 0]))] sz) (cU cyI cyB cyO h0 u.1 u.2.1 u.2.2.1 u.2.2.2 (fun k => k + 2) (fun _ => 0) υ0 (fun _ => σ0) (fun _ => 0) (fun _ => τ0) 1)) (va_A [(h0, .inr (3, [.null, .int 0, .int 0, .null, .null, .null, .int 0]))] sz)) 135 3589 (va_A [(h0, .inr (3, [.null, .int 0, .int 0, .null, .null, .null, .int 0]))] sz) := by
  refine Met.ofW (cc := cX3_init) (maxL := 3) (ret := none) (by decide) rfl ?_
  intro p e s m args below meth c s₁ B hml hv
  obtain ⟨rfl, ⟨hsz, hP, hK, hD0⟩, hAO⟩ := hv
  have hx := B.exec
  have hb := B.bytes
  have hr := B.returns
  have hts := atoms_spec (ws := wsX3_init) B.pre
  have hown : s.vm.findClass RX3 = some m.cls := findClass_of_methodNamed B.named
  have hlocks := B.notSynchronized
  have hin9 : meth.name = "<init>" := (name_of_methodNamed B.named B.method).1
  subst hsz
  have hA : ∀ q : Nat, s.heap.size ≤ q → va_A [(h0, .inr (3, [.null, .int 0, .int 0, .null, .null, .null, .int 0]))] s.heap.size q := fun q h => Or.inr h
  have hB : Bd (dC, dI) [(cyI, .int), (cyB, .byte), (cyO, .object "UndoJourneys$World")] (va_A [(h0, .inr (3, [.null, .int 0, .int 0, .null, .null, .null, .int 0]))] s.heap.size) s [(h0, .inr (3, [.null, .int 0, .int 0, .null, .null, .null, .int 0]))] s.heap [] := ⟨hP, hD0.self, va_S.rf⟩
  have hq1 : (Cond.methodLink RX3 1 objectInit).before _ s = true := hts _ (List.mem_of_getElem? (i := 1) rfl)
  have hq2 : (Cond.instanceMethod objectInit).before _ s = true := hts _ (List.mem_of_getElem? (i := 2) rfl)
  have hq3 : (Cond.code objectInit ⟨#[0xb1]⟩ 1 none).before _ s = true := hts _ (List.mem_of_getElem? (i := 3) rfl)
  have hq4 : (Cond.arrayClass .byte).before _ s = true := hts _ (List.mem_of_getElem? (i := 4) rfl)
  have hq5 : (Cond.fieldLink RX3 9 "UndoJourneys" "buffer" "[B").before _ s = true := hts _ (List.mem_of_getElem? (i := 5) rfl)
  have hq6 : (Cond.fieldLink RX3 13 "UndoJourneys" "bufferLength" "I").before _ s = true := hts _ (List.mem_of_getElem? (i := 6) rfl)
  have hq7 : (Cond.fieldLink RX3 17 "UndoJourneys" "lastErrorOffset" "I").before _ s = true := hts _ (List.mem_of_getElem? (i := 7) rfl)
  have hq8 : (Cond.classLink RX3 20 RX2).before _ s = true := hts _ (List.mem_of_getElem? (i := 8) rfl)
  have hq9 : (Cond.fieldLink RX3 22 "UndoJourneys" "past" "[LUndoJourneys$World;").before _ s = true := hts _ (List.mem_of_getElem? (i := 9) rfl)
  have hq10 : (Cond.fieldLink RX3 26 "UndoJourneys" "undoable" "I").before _ s = true := hts _ (List.mem_of_getElem? (i := 10) rfl)
  have hq11 : (Cond.classLink RX3 29 RX0).before _ s = true := hts _ (List.mem_of_getElem? (i := 11) rfl)
  have hq12 : (Cond.instantiable RX0 17).before _ s = true := hts _ (List.mem_of_getElem? (i := 12) rfl)
  have hq13 : (Cond.initialized RX0).before _ s = true := hts _ (List.mem_of_getElem? (i := 13) rfl)
  have hq14 : (Cond.instantiable RX2 14).before _ s = true := hts _ (List.mem_of_getElem? (i := 14) rfl)
  have hq15 : (Cond.initialized RX2).before _ s = true := hts _ (List.mem_of_getElem? (i := 15) rfl)
  have hq16 : (Cond.fieldLink RX3 35 "UndoJourneys" "now" "LUndoJourneys$World;").before _ s = true := hts _ (List.mem_of_getElem? (i := 16) rfl)
  have hq17 : (Cond.fieldLink RX3 39 "UndoJourneys" "forecast" "LUndoJourneys$World;").before _ s = true := hts _ (List.mem_of_getElem? (i := 17) rfl)
  have hq18 : (Cond.instanceMethod yX0_init).before _ s = true := hts _ (List.mem_of_getElem? (i := 18) rfl)
  have hq39 : (Cond.methodLink RX3 32 yX2_init).before _ s = true := hts _ (List.mem_of_getElem? (i := 39) rfl)
  have hq40 : (Cond.instanceMethod yX2_init).before _ s = true := hts _ (List.mem_of_getElem? (i := 40) rfl)
  have hinX0 : ∀ w ∈ wsX00, w ∈ wsX3_init := fun w h => List.mem_cons_of_mem _ (List.mem_append_left _ (List.mem_append_right _ h))
  have hinX2 : ∀ w ∈ wsX20, w ∈ wsX3_init := fun w h => List.mem_cons_of_mem _ (List.mem_append_right _ h)
  have hinX3 : ∀ w ∈ wsX30, w ∈ wsX3_init := fun w h => List.mem_cons_of_mem _ (List.mem_append_left _ (List.mem_append_left _ (List.mem_append_right _ h)))
  have hl := lv_entry [.ref h0] (n := 3) (Nat.le_of_ble_eq_true rfl)
  rw [lg_entry_eq]
  generalize (lg_sl [.ref h0] ++ List.replicate (3 - (lg_sl [.ref h0]).length) Slot.unset).toArray = ls at hl ⊢
  have hl : lv_has ls 3 [(0, .ref h0)] := hl
  refine lv_aload_n hx hb dX3_init_0 rfl (lv_at hl 0 rfl) ?_
  refine g_objInit hx hb hown hml hl.1 hq1 hq2 hq3 dX3_init_1 (Nat.le_of_ble_eq_true rfl) (Nat.le_of_ble_eq_true rfl) ?_
  refine lv_aload_n hx hb dX3_init_4 rfl (lv_at hl 0 rfl) ?_
  refine lv_sipush (v := (700 : Int32)) hx hb dX3_init_5 (by decide) ?_
  refine g_newa (atype := .byte) (cA := cyB) 1 rfl hx hb hq4 rfl hK hB hA 700 (fun _ => rfl) (fun _ h => h) (by decide) (by decide) (Nat.le_of_ble_eq_true rfl) (Nat.le_of_ble_eq_true rfl) (Nat.le_of_ble_eq_true rfl) dX3_init_8 (fun q1 H locs hB => ?_)
  refine g_putF (C := RX3) (T := TX3) (N := 7) hx hb hts hinX3 tyX3 tyX3_ok nmX3 hown hin9 hK hB 0 rfl rfl 0 rfl hq5 rfl rfl rfl rfl rfl rfl rfl dX3_init_10 (w2 := [(h0, .inr (3, [.ref q1, .int 0, .int 0, .null, .null, .null, .int 0])), (q1, .inl (cyB, 700, .inl (fun _ => 0)))]) rfl (fun H locs hB => ?_)
  refine lv_aload_n hx hb dX3_init_13 rfl (lv_at hl 0 rfl) ?_
  refine lv_iconst (v := (0 : Int32)) hx hb dX3_init_14 (by decide) ?_
  refine g_put (C := RX3) (T := TX3) (N := 7) hx hb hts hinX3 tyX3 tyX3_ok nmX3 hown hK hB 0 rfl rfl 1 rfl hq6 rfl rfl rfl rfl rfl rfl dX3_init_15 (w2 := [(h0, .inr (3, [.ref q1, .int (0 : Int32), .int 0, .null, .null, .null, .int 0])), (q1, .inl (cyB, 700, .inl (fun _ => 0)))]) rfl (fun H locs hB => ?_)
  refine lv_aload_n hx hb dX3_init_18 rfl (lv_at hl 0 rfl) ?_
  refine lv_iconst (v := (-1 : Int32)) hx hb dX3_init_19 (by decide) ?_
  refine g_put (C := RX3) (T := TX3) (N := 7) hx hb hts hinX3 tyX3 tyX3_ok nmX3 hown hK hB 0 rfl rfl 2 rfl hq7 rfl rfl rfl rfl rfl rfl dX3_init_20 (w2 := [(h0, .inr (3, [.ref q1, .int (0 : Int32), .int (-1 : Int32), .null, .null, .null, .int 0])), (q1, .inl (cyB, 700, .inl (fun _ => 0)))]) rfl (fun H locs hB => ?_)
  refine lv_aload_n hx hb dX3_init_23 rfl (lv_at hl 0 rfl) ?_
  refine lv_bipush (v := (8 : Int32)) hx hb dX3_init_24 (by decide) ?_
  refine g_newq 2 rfl hx hb hown hq8 hAO.1 hK hB hA 8 (by decide) (by decide) (Nat.le_of_ble_eq_true rfl) (Nat.le_of_ble_eq_true rfl) (Nat.le_of_ble_eq_true rfl) dX3_init_26 (fun q2 H locs hB => ?_)
  refine g_putF (C := RX3) (T := TX3) (N := 7) hx hb hts hinX3 tyX3 tyX3_ok nmX3 hown hin9 hK hB 0 rfl rfl 5 rfl hq9 rfl rfl rfl rfl rfl rfl rfl dX3_init_29 (w2 := [(h0, .inr (3, [.ref q1, .int (0 : Int32), .int (-1 : Int32), .null, .null, .ref q2, .int 0])), (q1, .inl (cyB, 700, .inl (fun _ => 0))), (q2, .inl (cyO, 8, .inr (.inr (.inr (.inr (fun _ => none))))))]) rfl (fun H locs hB => ?_)
  refine lv_aload_n hx hb dX3_init_32 rfl (lv_at hl 0 rfl) ?_
  refine lv_iconst (v := (0 : Int32)) hx hb dX3_init_33 (by decide) ?_
  refine g_put (C := RX3) (T := TX3) (N := 7) hx hb hts hinX3 tyX3 tyX3_ok nmX3 hown hK hB 0 rfl rfl 6 rfl hq10 rfl rfl rfl rfl rfl rfl dX3_init_34 (w2 := [(h0, .inr (3, [.ref q1, .int (0 : Int32), .int (-1 : Int32), .null, .null, .ref q2, .int (0 : Int32)])), (q1, .inl (cyB, 700, .inl (fun _ => 0))), (q2, .inl (cyO, 8, .inr (.inr (.inr (.inr (fun _ => none))))))]) rfl (fun H locs hB => ?_)
  refine g_new (C := RX0) (T := TX0) (N := 17) (ci := 0) hx hb hts hinX0 tyX0 tyX0_ok hown hq11 hq12 hq13 hK hB hA rfl [.int 0, .int 0, .int 0, .null, .null, .int 0, .null, .null, .null, .null, .int 0, .null, .null, .null, .null, .null, .null] (by decide +kernel) (Nat.le_of_ble_eq_true rfl) (Nat.le_of_ble_eq_true rfl) dX3_init_37 (fun q3 H locs hB => ?_)
  refine lv_dup hx hb dX3_init_40 rfl ?_
  refine g_icallN (As := []) (rest := [.ref q3]) (wc := [(q3, .inr (0, [.int 0, .int 0, .int 0, .null, .null, .int 0, .null, .null, .null, .null, .int 0, .null, .null, .null, .null, .null, .null]))]) (wr := [(h0, .inr (3, [.ref q1, .int (0 : Int32), .int (-1 : Int32), .null, .null, .ref q2, .int (0 : Int32)])), (q1, .inl (cyB, 700, .inl (fun _ => 0))), (q2, .inl (cyO, 8, .inr (.inr (.inr (.inr (fun _ => none))))))]) (w1 := fun u => cS cyI u τ0) ⟨hx, hb, hml, hown, hts⟩ (kX0_init l dC dI cyI q3 H.size) ⟨va_cnB 0 hts gX3_init_X0_init_n31 rfl rfl rfl hAO.2 hq13 (by decide +kernel) ⟨Nat.le_of_ble_eq_true rfl, Nat.le_of_ble_eq_true rfl⟩, rfl, hq18⟩ (hK.sub [0] rfl) hB hA List.perm_append_comm rfl hl.1 rfl (Nat.le_of_ble_eq_true rfl) dX3_init_41 ⟨Nat.le_of_ble_eq_true rfl, Nat.le_of_ble_eq_true rfl⟩ (fun u4 H9 locs9 hu hB9 => ?_)
  subst hu
  clear hB
  have hB := hB9.perm List.perm_append_comm
  clear hB9
  generalize H9 = H at hB ⊢
  generalize locs9 = locs at hB ⊢
  refine lv_astore_n (lv' := [(1, .ref (u4 0)), (0, .ref h0)]) hx hb dX3_init_44 rfl hl (by decide) rfl (fun ls hl => ?_)
  refine lv_aload_n hx hb dX3_init_45 rfl (lv_at hl 1 rfl) ?_
  refine g_new (C := RX2) (T := TX2) (N := 14) (ci := 2) hx hb hts hinX2 tyX2 tyX2_ok hown hq8 hq14 hq15 hK hB hA rfl [.null, .int 0, .int 0, .null, .null, .null, .null, .null, .null, .null, .null, .null, .null, .null] (by decide +kernel) (Nat.le_of_ble_eq_true rfl) (Nat.le_of_ble_eq_true rfl) dX3_init_46 (fun q5 H locs hB => ?_)
  refine lv_dup hx hb dX3_init_49 rfl ?_
  refine lv_aload_n hx hb dX3_init_50 rfl (lv_at hl 0 rfl) ?_
  refine g_icall (As := [.ref (u4 0)]) (rest := [.ref q5, .ref h0]) (wc := [(q5, .inr (2, [.null, .int 0, .int 0, .null, .null, .null, .null, .null, .null, .null, .null, .null, .null, .null]))]) (wr := ([(h0, .inr (3, [.ref q1, .int (0 : Int32), .int (-1 : Int32), .null, .null, .ref q2, .int (0 : Int32)])), (q1, .inl (cyB, 700, .inl (fun _ => 0))), (q2, .inl (cyO, 8, .inr (.inr (.inr (.inr (fun _ => none))))))] ++ (cS cyI u4 τ0))) (w1 := fun u => cW1 cyI u (u4 0) σ0) ⟨hx, hb, hml, hown, hts⟩ (kX2_init l dC dI cyI q5 (u4 0) H.size) (cwI 1 hts gX3_init_X2_init rfl rfl rfl hq15 hq39 hq40 rfl (by decide +kernel) ⟨Nat.le_of_ble_eq_true rfl, Nat.le_of_ble_eq_true rfl⟩) (hK.sub [0] rfl) hB hA List.perm_append_comm rfl hl.1 rfl (Nat.le_of_ble_eq_true rfl) dX3_init_51 ⟨Nat.le_of_ble_eq_true rfl, Nat.le_of_ble_eq_true rfl⟩ (fun u6 H9 locs9 hu hB9 => ?_)
  subst hu
  clear hB
  have hB := hB9.perm List.perm_append_comm
  clear hB9
  generalize H9 = H at hB ⊢
  generalize locs9 = locs at hB ⊢
  refine g_putF (C := RX3) (T := TX3) (N := 7) hx hb hts hinX3 tyX3 tyX3_ok nmX3 hown hin9 hK hB 0 rfl rfl 3 rfl hq16 rfl rfl rfl rfl rfl rfl rfl dX3_init_54 (w2 := (([(h0, .inr (3, [.ref q1, .int (0 : Int32), .int (-1 : Int32), .ref (u6 0), .null, .ref q2, .int (0 : Int32)])), (q1, .inl (cyB, 700, .inl (fun _ => 0))), (q2, .inl (cyO, 8, .inr (.inr (.inr (.inr (fun _ => none))))))] ++ (cS cyI u4 τ0)) ++ (cW1 cyI u6 (u4 0) σ0))) rfl (fun H locs hB => ?_)
  refine lv_aload_n hx hb dX3_init_57 rfl (lv_at hl 1 rfl) ?_
  refine g_new (C := RX2) (T := TX2) (N := 14) (ci := 2) hx hb hts hinX2 tyX2 tyX2_ok hown hq8 hq14 hq15 hK hB hA rfl [.null, .int 0, .int 0, .null, .null, .null, .null, .null, .null, .null, .null, .null, .null, .null] (by decide +kernel) (Nat.le_of_ble_eq_true rfl) (Nat.le_of_ble_eq_true rfl) dX3_init_58 (fun q7 H locs hB => ?_)
  refine lv_dup hx hb dX3_init_61 rfl ?_
  refine lv_aload_n hx hb dX3_init_62 rfl (lv_at hl 0 rfl) ?_
  refine g_icall (As := [.ref (u4 0)]) (rest := [.ref q7, .ref h0]) (wc := [(q7, .inr (2, [.null, .int 0, .int 0, .null, .null, .null, .null, .null, .null, .null, .null, .null, .null, .null]))]) (wr := (([(h0, .inr (3, [.ref q1, .int (0 : Int32), .int (-1 : Int32), .ref (u6 0), .null, .ref q2, .int (0 : Int32)])), (q1, .inl (cyB, 700, .inl (fun _ => 0))), (q2, .inl (cyO, 8, .inr (.inr (.inr (.inr (fun _ => none))))))] ++ (cS cyI u4 τ0)) ++ (cW1 cyI u6 (u4 0) σ0))) (w1 := fun u => cW1 cyI u (u4 0) σ0) ⟨hx, hb, hml, hown, hts⟩ (kX2_init l dC dI cyI q7 (u4 0) H.size) (cwI 1 hts gX3_init_X2_init rfl rfl rfl hq15 hq39 hq40 rfl (by decide +kernel) ⟨Nat.le_of_ble_eq_true rfl, Nat.le_of_ble_eq_true rfl⟩) (hK.sub [0] rfl) hB hA List.perm_append_comm rfl hl.1 rfl (Nat.le_of_ble_eq_true rfl) dX3_init_63 ⟨Nat.le_of_ble_eq_true rfl, Nat.le_of_ble_eq_true rfl⟩ (fun u8 H9 locs9 hu hB9 => ?_)
  subst hu
  clear hB
  have hB := hB9.perm List.perm_append_comm
  clear hB9
  generalize H9 = H at hB ⊢
  generalize locs9 = locs at hB ⊢
  refine g_putF (C := RX3) (T := TX3) (N := 7) hx hb hts hinX3 tyX3 tyX3_ok nmX3 hown hin9 hK hB 0 rfl rfl 4 rfl hq17 rfl rfl rfl rfl rfl rfl rfl dX3_init_66 (w2 := ((([(h0, .inr (3, [.ref q1, .int (0 : Int32), .int (-1 : Int32), .ref (u6 0), .ref (u8 0), .ref q2, .int (0 : Int32)])), (q1, .inl (cyB, 700, .inl (fun _ => 0))), (q2, .inl (cyO, 8, .inr (.inr (.inr (.inr (fun _ => none))))))] ++ (cS cyI u4 τ0)) ++ (cW1 cyI u6 (u4 0) σ0)) ++ (cW1 cyI u8 (u4 0) σ0))) rfl (fun H locs hB => ?_)
  refine lv_iconst (v := (0 : Int32)) hx hb dX3_init_69 (by decide) ?_
  refine lv_istore_n (lv' := [(2, .int (0 : Int32)), (1, .ref (u4 0)), (0, .ref h0)]) hx hb dX3_init_70 rfl hl (by decide) rfl (fun ls hl => ?_)
  refine lv_iload_n hx hb dX3_init_71 rfl (lv_at hl 0 rfl) ?_
  refine lv_aload_n hx hb dX3_init_72 rfl (lv_at hl 2 rfl) ?_
  refine g_get (C := RX3) (T := TX3) (N := 7) hx hb hts hinX3 hown hK hB 0 rfl rfl 5 rfl hq9 rfl rfl dX3_init_73 ?_
  refine g_alen hx hb hK hB 2 2 rfl rfl (v := (8 : Int32)) rfl dX3_init_76 ?_
  refine lv_icmp_ge (tgt := 100) hx hb dX3_init_77 (by decide) (fun c9 => absurd c9 (by decide)) (fun c9 => ?_)
  refine lv_aload_n hx hb dX3_init_80 rfl (lv_at hl 2 rfl) ?_
  refine g_get (C := RX3) (T := TX3) (N := 7) hx hb hts hinX3 hown hK hB 0 rfl rfl 5 rfl hq9 rfl rfl dX3_init_81 ?_
  refine lv_iload_n hx hb dX3_init_84 rfl (lv_at hl 0 rfl) ?_
  refine g_new (C := RX2) (T := TX2) (N := 14) (ci := 2) hx hb hts hinX2 tyX2 tyX2_ok hown hq8 hq14 hq15 hK hB hA rfl [.null, .int 0, .int 0, .null, .null, .null, .null, .null, .null, .null, .null, .null, .null, .null] (by decide +kernel) (Nat.le_of_ble_eq_true rfl) (Nat.le_of_ble_eq_true rfl) dX3_init_85 (fun q9 H locs hB => ?_)
  refine lv_dup hx hb dX3_init_88 rfl ?_
  refine lv_aload_n hx hb dX3_init_89 rfl (lv_at hl 1 rfl) ?_
  refine g_icall (As := [.ref (u4 0)]) (rest := [.ref q9, .int (0 : Int32), .ref q2]) (wc := [(q9, .inr (2, [.null, .int 0, .int 0, .null, .null, .null, .null, .null, .null, .null, .null, .null, .null, .null]))]) (wr := ((([(h0, .inr (3, [.ref q1, .int (0 : Int32), .int (-1 : Int32), .ref (u6 0), .ref (u8 0), .ref q2, .int (0 : Int32)])), (q1, .inl (cyB, 700, .inl (fun _ => 0))), (q2, .inl (cyO, 8, .inr (.inr (.inr (.inr (fun _ => none))))))] ++ (cS cyI u4 τ0)) ++ (cW1 cyI u6 (u4 0) σ0)) ++ (cW1 cyI u8 (u4 0) σ0))) (w1 := fun u => cW1 cyI u (u4 0) σ0) ⟨hx, hb, hml, hown, hts⟩ (kX2_init l dC dI cyI q9 (u4 0) H.size) (cwI 1 hts gX3_init_X2_init rfl rfl rfl hq15 hq39 hq40 rfl (by decide +kernel) ⟨Nat.le_of_ble_eq_true rfl, Nat.le_of_ble_eq_true rfl⟩) (hK.sub [0] rfl) hB hA List.perm_append_comm rfl hl.1 rfl (Nat.le_of_ble_eq_true rfl) dX3_init_90 ⟨Nat.le_of_ble_eq_true rfl, Nat.le_of_ble_eq_true rfl⟩ (fun u10 H9 locs9 hu hB9 => ?_)
  subst hu
  clear hB
  have hB := hB9.perm List.perm_append_comm
  clear hB9
  generalize H9 = H at hB ⊢
  generalize locs9 = locs at hB ⊢
  refine g_astq hx hb hK hB 2 2 40 2 rfl rfl rfl rfl (by unfold vp_in; decide) dX3_init_93 (w2 := (((([(h0, .inr (3, [.ref q1, .int (0 : Int32), .int (-1 : Int32), .ref (u6 0), .ref (u8 0), .ref q2, .int (0 : Int32)])), (q1, .inl (cyB, 700, .inl (fun _ => 0))), (q2, .inl (cyO, 8, .inr (.inr (.inr (.inr (va_up (fun _ => none) 0 (some (u10 0))))))))] ++ (cS cyI u4 τ0)) ++ (cW1 cyI u6 (u4 0) σ0)) ++ (cW1 cyI u8 (u4 0) σ0)) ++ (cW1 cyI u10 (u4 0) σ0))) (by rw [show ((0 : Int32)).toNatClampNeg = 0 from by decide]; rfl) (fun H locs hB => ?_)
  refine lv_iinc (v := (1 : Int32)) (lv' := [(2, .int (1 : Int32)), (1, .ref (u4 0)), (0, .ref h0)]) hx hb dX3_init_94 hl (k := 0) rfl (by decide) (by decide) rfl (fun ls hl => ?_)
  refine lv_goto (tgt := 71) hx hb dX3_init_97 (by decide) ?_
  refine lv_iload_n hx hb dX3_init_71 rfl (lv_at hl 0 rfl) ?_
  refine lv_aload_n hx hb dX3_init_72 rfl (lv_at hl 2 rfl) ?_
  refine g_get (C := RX3) (T := TX3) (N := 7) hx hb hts hinX3 hown hK hB 0 rfl rfl 5 rfl hq9 rfl rfl dX3_init_73 ?_
  refine g_alen hx hb hK hB 2 2 rfl rfl (v := (8 : Int32)) rfl dX3_init_76 ?_
  refine lv_icmp_ge (tgt := 100) hx hb dX3_init_77 (by decide) (fun c9 => absurd c9 (by decide)) (fun c9 => ?_)
  refine lv_aload_n hx hb dX3_init_80 rfl (lv_at hl 2 rfl) ?_
  refine g_get (C := RX3) (T := TX3) (N := 7) hx hb hts hinX3 hown hK hB 0 rfl rfl 5 rfl hq9 rfl rfl dX3_init_81 ?_
  refine lv_iload_n hx hb dX3_init_84 rfl (lv_at hl 0 rfl) ?_
  refine g_new (C := RX2) (T := TX2) (N := 14) (ci := 2) hx hb hts hinX2 tyX2 tyX2_ok hown hq8 hq14 hq15 hK hB hA rfl [.null, .int 0, .int 0, .null, .null, .null, .null, .null, .null, .null, .null, .null, .null, .null] (by decide +kernel) (Nat.le_of_ble_eq_true rfl) (Nat.le_of_ble_eq_true rfl) dX3_init_85 (fun q11 H locs hB => ?_)
  refine lv_dup hx hb dX3_init_88 rfl ?_
  refine lv_aload_n hx hb dX3_init_89 rfl (lv_at hl 1 rfl) ?_
  refine g_icall (As := [.ref (u4 0)]) (rest := [.ref q11, .int (1 : Int32), .ref q2]) (wc := [(q11, .inr (2, [.null, .int 0, .int 0, .null, .null, .null, .null, .null, .null, .null, .null, .null, .null, .null]))]) (wr := (((([(h0, .inr (3, [.ref q1, .int (0 : Int32), .int (-1 : Int32), .ref (u6 0), .ref (u8 0), .ref q2, .int (0 : Int32)])), (q1, .inl (cyB, 700, .inl (fun _ => 0))), (q2, .inl (cyO, 8, .inr (.inr (.inr (.inr (va_up (fun _ => none) 0 (some (u10 0))))))))] ++ (cS cyI u4 τ0)) ++ (cW1 cyI u6 (u4 0) σ0)) ++ (cW1 cyI u8 (u4 0) σ0)) ++ (cW1 cyI u10 (u4 0) σ0))) (w1 := fun u => cW1 cyI u (u4 0) σ0) ⟨hx, hb, hml, hown, hts⟩ (kX2_init l dC dI cyI q11 (u4 0) H.size) (cwI 1 hts gX3_init_X2_init rfl rfl rfl hq15 hq39 hq40 rfl (by decide +kernel) ⟨Nat.le_of_ble_eq_true rfl, Nat.le_of_ble_eq_true rfl⟩) (hK.sub [0] rfl) hB hA List.perm_append_comm rfl hl.1 rfl (Nat.le_of_ble_eq_true rfl) dX3_init_90 ⟨Nat.le_of_ble_eq_true rfl, Nat.le_of_ble_eq_true rfl⟩ (fun u12 H9 locs9 hu hB9 => ?_)
  subst hu
  clear hB
  have hB := hB9.perm List.perm_append_comm
  clear hB9
  generalize H9 = H at hB ⊢
  generalize locs9 = locs at hB ⊢
  refine g_astq hx hb hK hB 2 2 52 2 rfl rfl rfl rfl (by unfold vp_in; decide) dX3_init_93 (w2 := ((((([(h0, .inr (3, [.ref q1, .int (0 : Int32), .int (-1 : Int32), .ref (u6 0), .ref (u8 0), .ref q2, .int (0 : Int32)])), (q1, .inl (cyB, 700, .inl (fun _ => 0))), (q2, .inl (cyO, 8, .inr (.inr (.inr (.inr (va_up (va_up (fun _ => none) 0 (some (u10 0))) 1 (some (u12 0))))))))] ++ (cS cyI u4 τ0)) ++ (cW1 cyI u6 (u4 0) σ0)) ++ (cW1 cyI u8 (u4 0) σ0)) ++ (cW1 cyI u10 (u4 0) σ0)) ++ (cW1 cyI u12 (u4 0) σ0))) (by rw [show ((1 : Int32)).toNatClampNeg = 1 from by decide]; rfl) (fun H locs hB => ?_)
  refine lv_iinc (v := (2 : Int32)) (lv' := [(2, .int (2 : Int32)), (1, .ref (u4 0)), (0, .ref h0)]) hx hb dX3_init_94 hl (k := 0) rfl (by decide) (by decide) rfl (fun ls hl => ?_)
  refine lv_goto (tgt := 71) hx hb dX3_init_97 (by decide) ?_
  refine lv_iload_n hx hb dX3_init_71 rfl (lv_at hl 0 rfl) ?_
  refine lv_aload_n hx hb dX3_init_72 rfl (lv_at hl 2 rfl) ?_
  refine g_get (C := RX3) (T := TX3) (N := 7) hx hb hts hinX3 hown hK hB 0 rfl rfl 5 rfl hq9 rfl rfl dX3_init_73 ?_
  refine g_alen hx hb hK hB 2 2 rfl rfl (v := (8 : Int32)) rfl dX3_init_76 ?_
  refine lv_icmp_ge (tgt := 100) hx hb dX3_init_77 (by decide) (fun c9 => absurd c9 (by decide)) (fun c9 => ?_)
  refine lv_aload_n hx hb dX3_init_80 rfl (lv_at hl 2 rfl) ?_
  refine g_get (C := RX3) (T := TX3) (N := 7) hx hb hts hinX3 hown hK hB 0 rfl rfl 5 rfl hq9 rfl rfl dX3_init_81 ?_
  refine lv_iload_n hx hb dX3_init_84 rfl (lv_at hl 0 rfl) ?_
  refine g_new (C := RX2) (T := TX2) (N := 14) (ci := 2) hx hb hts hinX2 tyX2 tyX2_ok hown hq8 hq14 hq15 hK hB hA rfl [.null, .int 0, .int 0, .null, .null, .null, .null, .null, .null, .null, .null, .null, .null, .null] (by decide +kernel) (Nat.le_of_ble_eq_true rfl) (Nat.le_of_ble_eq_true rfl) dX3_init_85 (fun q13 H locs hB => ?_)
  refine lv_dup hx hb dX3_init_88 rfl ?_
  refine lv_aload_n hx hb dX3_init_89 rfl (lv_at hl 1 rfl) ?_
  refine g_icall (As := [.ref (u4 0)]) (rest := [.ref q13, .int (2 : Int32), .ref q2]) (wc := [(q13, .inr (2, [.null, .int 0, .int 0, .null, .null, .null, .null, .null, .null, .null, .null, .null, .null, .null]))]) (wr := ((((([(h0, .inr (3, [.ref q1, .int (0 : Int32), .int (-1 : Int32), .ref (u6 0), .ref (u8 0), .ref q2, .int (0 : Int32)])), (q1, .inl (cyB, 700, .inl (fun _ => 0))), (q2, .inl (cyO, 8, .inr (.inr (.inr (.inr (va_up (va_up (fun _ => none) 0 (some (u10 0))) 1 (some (u12 0))))))))] ++ (cS cyI u4 τ0)) ++ (cW1 cyI u6 (u4 0) σ0)) ++ (cW1 cyI u8 (u4 0) σ0)) ++ (cW1 cyI u10 (u4 0) σ0)) ++ (cW1 cyI u12 (u4 0) σ0))) (w1 := fun u => cW1 cyI u (u4 0) σ0) ⟨hx, hb, hml, hown, hts⟩ (kX2_init l dC dI cyI q13 (u4 0) H.size) (cwI 1 hts gX3_init_X2_init rfl rfl rfl hq15 hq39 hq40 rfl (by decide +kernel) ⟨Nat.le_of_ble_eq_true rfl, Nat.le_of_ble_eq_true rfl⟩) (hK.sub [0] rfl) hB hA List.perm_append_comm rfl hl.1 rfl (Nat.le_of_ble_eq_true rfl) dX3_init_90 ⟨Nat.le_of_ble_eq_true rfl, Nat.le_of_ble_eq_true rfl⟩ (fun u14 H9 locs9 hu hB9 => ?_)
  subst hu
  clear hB
  have hB := hB9.perm List.perm_append_comm
  clear hB9
  generalize H9 = H at hB ⊢
  generalize locs9 = locs at hB ⊢
  refine g_astq hx hb hK hB 2 2 64 2 rfl rfl rfl rfl (by unfold vp_in; decide) dX3_init_93 (w2 := (((((([(h0, .inr (3, [.ref q1, .int (0 : Int32), .int (-1 : Int32), .ref (u6 0), .ref (u8 0), .ref q2, .int (0 : Int32)])), (q1, .inl (cyB, 700, .inl (fun _ => 0))), (q2, .inl (cyO, 8, .inr (.inr (.inr (.inr (va_up (va_up (va_up (fun _ => none) 0 (some (u10 0))) 1 (some (u12 0))) 2 (some (u14 0))))))))] ++ (cS cyI u4 τ0)) ++ (cW1 cyI u6 (u4 0) σ0)) ++ (cW1 cyI u8 (u4 0) σ0)) ++ (cW1 cyI u10 (u4 0) σ0)) ++ (cW1 cyI u12 (u4 0) σ0)) ++ (cW1 cyI u14 (u4 0) σ0))) (by rw [show ((2 : Int32)).toNatClampNeg = 2 from by decide]; rfl) (fun H locs hB => ?_)
  refine lv_iinc (v := (3 : Int32)) (lv' := [(2, .int (3 : Int32)), (1, .ref (u4 0)), (0, .ref h0)]) hx hb dX3_init_94 hl (k := 0) rfl (by decide) (by decide) rfl (fun ls hl => ?_)
  refine lv_goto (tgt := 71) hx hb dX3_init_97 (by decide) ?_
  refine lv_iload_n hx hb dX3_init_71 rfl (lv_at hl 0 rfl) ?_
  refine lv_aload_n hx hb dX3_init_72 rfl (lv_at hl 2 rfl) ?_
  refine g_get (C := RX3) (T := TX3) (N := 7) hx hb hts hinX3 hown hK hB 0 rfl rfl 5 rfl hq9 rfl rfl dX3_init_73 ?_
  refine g_alen hx hb hK hB 2 2 rfl rfl (v := (8 : Int32)) rfl dX3_init_76 ?_
  refine lv_icmp_ge (tgt := 100) hx hb dX3_init_77 (by decide) (fun c9 => absurd c9 (by decide)) (fun c9 => ?_)
  refine lv_aload_n hx hb dX3_init_80 rfl (lv_at hl 2 rfl) ?_
  refine g_get (C := RX3) (T := TX3) (N := 7) hx hb hts hinX3 hown hK hB 0 rfl rfl 5 rfl hq9 rfl rfl dX3_init_81 ?_
  refine lv_iload_n hx hb dX3_init_84 rfl (lv_at hl 0 rfl) ?_
  refine g_new (C := RX2) (T := TX2) (N := 14) (ci := 2) hx hb hts hinX2 tyX2 tyX2_ok hown hq8 hq14 hq15 hK hB hA rfl [.null, .int 0, .int 0, .null, .null, .null, .null, .null, .null, .null, .null, .null, .null, .null] (by decide +kernel) (Nat.le_of_ble_eq_true rfl) (Nat.le_of_ble_eq_true rfl) dX3_init_85 (fun q15 H locs hB => ?_)
  refine lv_dup hx hb dX3_init_88 rfl ?_
  refine lv_aload_n hx hb dX3_init_89 rfl (lv_at hl 1 rfl) ?_
  refine g_icall (As := [.ref (u4 0)]) (rest := [.ref q15, .int (3 : Int32), .ref q2]) (wc := [(q15, .inr (2, [.null, .int 0, .int 0, .null, .null, .null, .null, .null, .null, .null, .null, .null, .null, .null]))]) (wr := (((((([(h0, .inr (3, [.ref q1, .int (0 : Int32), .int (-1 : Int32), .ref (u6 0), .ref (u8 0), .ref q2, .int (0 : Int32)])), (q1, .inl (cyB, 700, .inl (fun _ => 0))), (q2, .inl (cyO, 8, .inr (.inr (.inr (.inr (va_up (va_up (va_up (fun _ => none) 0 (some (u10 0))) 1 (some (u12 0))) 2 (some (u14 0))))))))] ++ (cS cyI u4 τ0)) ++ (cW1 cyI u6 (u4 0) σ0)) ++ (cW1 cyI u8 (u4 0) σ0)) ++ (cW1 cyI u10 (u4 0) σ0)) ++ (cW1 cyI u12 (u4 0) σ0)) ++ (cW1 cyI u14 (u4 0) σ0))) (w1 := fun u => cW1 cyI u (u4 0) σ0) ⟨hx, hb, hml, hown, hts⟩ (kX2_init l dC dI cyI q15 (u4 0) H.size) (cwI 1 hts gX3_init_X2_init rfl rfl rfl hq15 hq39 hq40 rfl (by decide +kernel) ⟨Nat.le_of_ble_eq_true rfl, Nat.le_of_ble_eq_true rfl⟩) (hK.sub [0] rfl) hB hA List.perm_append_comm rfl hl.1 rfl (Nat.le_of_ble_eq_true rfl) dX3_init_90 ⟨Nat.le_of_ble_eq_true rfl, Nat.le_of_ble_eq_true rfl⟩ (fun u16 H9 locs9 hu hB9 => ?_)
  subst hu
  clear hB
  have hB := hB9.perm List.perm_append_comm
  clear hB9
  generalize H9 = H at hB ⊢
  generalize locs9 = locs at hB ⊢
  refine g_astq hx hb hK hB 2 2 76 2 rfl rfl rfl rfl (by unfold vp_in; decide) dX3_init_93 (w2 := ((((((([(h0, .inr (3, [.ref q1, .int (0 : Int32), .int (-1 : Int32), .ref (u6 0), .ref (u8 0), .ref q2, .int (0 : Int32)])), (q1, .inl (cyB, 700, .inl (fun _ => 0))), (q2, .inl (cyO, 8, .inr (.inr (.inr (.inr (va_up (va_up (va_up (va_up (fun _ => none) 0 (some (u10 0))) 1 (some (u12 0))) 2 (some (u14 0))) 3 (some (u16 0))))))))] ++ (cS cyI u4 τ0)) ++ (cW1 cyI u6 (u4 0) σ0)) ++ (cW1 cyI u8 (u4 0) σ0)) ++ (cW1 cyI u10 (u4 0) σ0)) ++ (cW1 cyI u12 (u4 0) σ0)) ++ (cW1 cyI u14 (u4 0) σ0)) ++ (cW1 cyI u16 (u4 0) σ0))) (by rw [show ((3 : Int32)).toNatClampNeg = 3 from by decide]; rfl) (fun H locs hB => ?_)
  refine lv_iinc (v := (4 : Int32)) (lv' := [(2, .int (4 : Int32)), (1, .ref (u4 0)), (0, .ref h0)]) hx hb dX3_init_94 hl (k := 0) rfl (by decide) (by decide) rfl (fun ls hl => ?_)
  refine lv_goto (tgt := 71) hx hb dX3_init_97 (by decide) ?_
  refine lv_iload_n hx hb dX3_init_71 rfl (lv_at hl 0 rfl) ?_
  refine lv_aload_n hx hb dX3_init_72 rfl (lv_at hl 2 rfl) ?_
  refine g_get (C := RX3) (T := TX3) (N := 7) hx hb hts hinX3 hown hK hB 0 rfl rfl 5 rfl hq9 rfl rfl dX3_init_73 ?_
  refine g_alen hx hb hK hB 2 2 rfl rfl (v := (8 : Int32)) rfl dX3_init_76 ?_
  refine lv_icmp_ge (tgt := 100) hx hb dX3_init_77 (by decide) (fun c9 => absurd c9 (by decide)) (fun c9 => ?_)
  refine lv_aload_n hx hb dX3_init_80 rfl (lv_at hl 2 rfl) ?_
  refine g_get (C := RX3) (T := TX3) (N := 7) hx hb hts hinX3 hown hK hB 0 rfl rfl 5 rfl hq9 rfl rfl dX3_init_81 ?_
  refine lv_iload_n hx hb dX3_init_84 rfl (lv_at hl 0 rfl) ?_
  refine g_new (C := RX2) (T := TX2) (N := 14) (ci := 2) hx hb hts hinX2 tyX2 tyX2_ok hown hq8 hq14 hq15 hK hB hA rfl [.null, .int 0, .int 0, .null, .null, .null, .null, .null, .null, .null, .null, .null, .null, .null] (by decide +kernel) (Nat.le_of_ble_eq_true rfl) (Nat.le_of_ble_eq_true rfl) dX3_init_85 (fun q17 H locs hB => ?_)
  refine lv_dup hx hb dX3_init_88 rfl ?_
  refine lv_aload_n hx hb dX3_init_89 rfl (lv_at hl 1 rfl) ?_
  refine g_icall (As := [.ref (u4 0)]) (rest := [.ref q17, .int (4 : Int32), .ref q2]) (wc := [(q17, .inr (2, [.null, .int 0, .int 0, .null, .null, .null, .null, .null, .null, .null, .null, .null, .null, .null]))]) (wr := ((((((([(h0, .inr (3, [.ref q1, .int (0 : Int32), .int (-1 : Int32), .ref (u6 0), .ref (u8 0), .ref q2, .int (0 : Int32)])), (q1, .inl (cyB, 700, .inl (fun _ => 0))), (q2, .inl (cyO, 8, .inr (.inr (.inr (.inr (va_up (va_up (va_up (va_up (fun _ => none) 0 (some (u10 0))) 1 (some (u12 0))) 2 (some (u14 0))) 3 (some (u16 0))))))))] ++ (cS cyI u4 τ0)) ++ (cW1 cyI u6 (u4 0) σ0)) ++ (cW1 cyI u8 (u4 0) σ0)) ++ (cW1 cyI u10 (u4 0) σ0)) ++ (cW1 cyI u12 (u4 0) σ0)) ++ (cW1 cyI u14 (u4 0) σ0)) ++ (cW1 cyI u16 (u4 0) σ0))) (w1 := fun u => cW1 cyI u (u4 0) σ0) ⟨hx, hb, hml, hown, hts⟩ (kX2_init l dC dI cyI q17 (u4 0) H.size) (cwI 1 hts gX3_init_X2_init rfl rfl rfl hq15 hq39 hq40 rfl (by decide +kernel) ⟨Nat.le_of_ble_eq_true rfl, Nat.le_of_ble_eq_true rfl⟩) (hK.sub [0] rfl) hB hA List.perm_append_comm rfl hl.1 rfl (Nat.le_of_ble_eq_true rfl) dX3_init_90 ⟨Nat.le_of_ble_eq_true rfl, Nat.le_of_ble_eq_true rfl⟩ (fun u18 H9 locs9 hu hB9 => ?_)
  subst hu
  clear hB
  have hB := hB9.perm List.perm_append_comm
  clear hB9
  generalize H9 = H at hB ⊢
  generalize locs9 = locs at hB ⊢
  refine g_astq hx hb hK hB 2 2 88 2 rfl rfl rfl rfl (by unfold vp_in; decide) dX3_init_93 (w2 := (((((((([(h0, .inr (3, [.ref q1, .int (0 : Int32), .int (-1 : Int32), .ref (u6 0), .ref (u8 0), .ref q2, .int (0 : Int32)])), (q1, .inl (cyB, 700, .inl (fun _ => 0))), (q2, .inl (cyO, 8, .inr (.inr (.inr (.inr (va_up (va_up (va_up (va_up (va_up (fun _ => none) 0 (some (u10 0))) 1 (some (u12 0))) 2 (some (u14 0))) 3 (some (u16 0))) 4 (some (u18 0))))))))] ++ (cS cyI u4 τ0)) ++ (cW1 cyI u6 (u4 0) σ0)) ++ (cW1 cyI u8 (u4 0) σ0)) ++ (cW1 cyI u10 (u4 0) σ0)) ++ (cW1 cyI u12 (u4 0) σ0)) ++ (cW1 cyI u14 (u4 0) σ0)) ++ (cW1 cyI u16 (u4 0) σ0)) ++ (cW1 cyI u18 (u4 0) σ0))) (by rw [show ((4 : Int32)).toNatClampNeg = 4 from by decide]; rfl) (fun H locs hB => ?_)
  refine lv_iinc (v := (5 : Int32)) (lv' := [(2, .int (5 : Int32)), (1, .ref (u4 0)), (0, .ref h0)]) hx hb dX3_init_94 hl (k := 0) rfl (by decide) (by decide) rfl (fun ls hl => ?_)
  refine lv_goto (tgt := 71) hx hb dX3_init_97 (by decide) ?_
  refine lv_iload_n hx hb dX3_init_71 rfl (lv_at hl 0 rfl) ?_
  refine lv_aload_n hx hb dX3_init_72 rfl (lv_at hl 2 rfl) ?_
  refine g_get (C := RX3) (T := TX3) (N := 7) hx hb hts hinX3 hown hK hB 0 rfl rfl 5 rfl hq9 rfl rfl dX3_init_73 ?_
  refine g_alen hx hb hK hB 2 2 rfl rfl (v := (8 : Int32)) rfl dX3_init_76 ?_
  refine lv_icmp_ge (tgt := 100) hx hb dX3_init_77 (by decide) (fun c9 => absurd c9 (by decide)) (fun c9 => ?_)
  refine lv_aload_n hx hb dX3_init_80 rfl (lv_at hl 2 rfl) ?_
  refine g_get (C := RX3) (T := TX3) (N := 7) hx hb hts hinX3 hown hK hB 0 rfl rfl 5 rfl hq9 rfl rfl dX3_init_81 ?_
  refine lv_iload_n hx hb dX3_init_84 rfl (lv_at hl 0 rfl) ?_
  refine g_new (C := RX2) (T := TX2) (N := 14) (ci := 2) hx hb hts hinX2 tyX2 tyX2_ok hown hq8 hq14 hq15 hK hB hA rfl [.null, .int 0, .int 0, .null, .null, .null, .null, .null, .null, .null, .null, .null, .null, .null] (by decide +kernel) (Nat.le_of_ble_eq_true rfl) (Nat.le_of_ble_eq_true rfl) dX3_init_85 (fun q19 H locs hB => ?_)
  refine lv_dup hx hb dX3_init_88 rfl ?_
  refine lv_aload_n hx hb dX3_init_89 rfl (lv_at hl 1 rfl) ?_
  refine g_icall (As := [.ref (u4 0)]) (rest := [.ref q19, .int (5 : Int32), .ref q2]) (wc := [(q19, .inr (2, [.null, .int 0, .int 0, .null, .null, .null, .null, .null, .null, .null, .null, .null, .null, .null]))]) (wr := (((((((([(h0, .inr (3, [.ref q1, .int (0 : Int32), .int (-1 : Int32), .ref (u6 0), .ref (u8 0), .ref q2, .int (0 : Int32)])), (q1, .inl (cyB, 700, .inl (fun _ => 0))), (q2, .inl (cyO, 8, .inr (.inr (.inr (.inr (va_up (va_up (va_up (va_up (va_up (fun _ => none) 0 (some (u10 0))) 1 (some (u12 0))) 2 (some (u14 0))) 3 (some (u16 0))) 4 (some (u18 0))))))))] ++ (cS cyI u4 τ0)) ++ (cW1 cyI u6 (u4 0) σ0)) ++ (cW1 cyI u8 (u4 0) σ0)) ++ (cW1 cyI u10 (u4 0) σ0)) ++ (cW1 cyI u12 (u4 0) σ0)) ++ (cW1 cyI u14 (u4 0) σ0)) ++ (cW1 cyI u16 (u4 0) σ0)) ++ (cW1 cyI u18 (u4 0) σ0))) (w1 := fun u => cW1 cyI u (u4 0) σ0) ⟨hx, hb, hml, hown, hts⟩ (kX2_init l dC dI cyI q19 (u4 0) H.size) (cwI 1 hts gX3_init_X2_init rfl rfl rfl hq15 hq39 hq40 rfl (by decide +kernel) ⟨Nat.le_of_ble_eq_true rfl, Nat.le_of_ble_eq_true rfl⟩) (hK.sub [0] rfl) hB hA List.perm_append_comm rfl hl.1 rfl (Nat.le_of_ble_eq_true rfl) dX3_init_90 ⟨Nat.le_of_ble_eq_true rfl, Nat.le_of_ble_eq_true rfl⟩ (fun u20 H9 locs9 hu hB9 => ?_)
  subst hu
  clear hB
  have hB := hB9.perm List.perm_append_comm
  clear hB9
  generalize H9 = H at hB ⊢
  generalize locs9 = locs at hB ⊢
  refine g_astq hx hb hK hB 2 2 100 2 rfl rfl rfl rfl (by unfold vp_in; decide) dX3_init_93 (w2 := ((((((((([(h0, .inr (3, [.ref q1, .int (0 : Int32), .int (-1 : Int32), .ref (u6 0), .ref (u8 0), .ref q2, .int (0 : Int32)])), (q1, .inl (cyB, 700, .inl (fun _ => 0))), (q2, .inl (cyO, 8, .inr (.inr (.inr (.inr (va_up (va_up (va_up (va_up (va_up (va_up (fun _ => none) 0 (some (u10 0))) 1 (some (u12 0))) 2 (some (u14 0))) 3 (some (u16 0))) 4 (some (u18 0))) 5 (some (u20 0))))))))] ++ (cS cyI u4 τ0)) ++ (cW1 cyI u6 (u4 0) σ0)) ++ (cW1 cyI u8 (u4 0) σ0)) ++ (cW1 cyI u10 (u4 0) σ0)) ++ (cW1 cyI u12 (u4 0) σ0)) ++ (cW1 cyI u14 (u4 0) σ0)) ++ (cW1 cyI u16 (u4 0) σ0)) ++ (cW1 cyI u18 (u4 0) σ0)) ++ (cW1 cyI u20 (u4 0) σ0))) (by rw [show ((5 : Int32)).toNatClampNeg = 5 from by decide]; rfl) (fun H locs hB => ?_)
  refine lv_iinc (v := (6 : Int32)) (lv' := [(2, .int (6 : Int32)), (1, .ref (u4 0)), (0, .ref h0)]) hx hb dX3_init_94 hl (k := 0) rfl (by decide) (by decide) rfl (fun ls hl => ?_)
  refine lv_goto (tgt := 71) hx hb dX3_init_97 (by decide) ?_
  refine lv_iload_n hx hb dX3_init_71 rfl (lv_at hl 0 rfl) ?_
  refine lv_aload_n hx hb dX3_init_72 rfl (lv_at hl 2 rfl) ?_
  refine g_get (C := RX3) (T := TX3) (N := 7) hx hb hts hinX3 hown hK hB 0 rfl rfl 5 rfl hq9 rfl rfl dX3_init_73 ?_
  refine g_alen hx hb hK hB 2 2 rfl rfl (v := (8 : Int32)) rfl dX3_init_76 ?_
  refine lv_icmp_ge (tgt := 100) hx hb dX3_init_77 (by decide) (fun c9 => absurd c9 (by decide)) (fun c9 => ?_)
  refine lv_aload_n hx hb dX3_init_80 rfl (lv_at hl 2 rfl) ?_
  refine g_get (C := RX3) (T := TX3) (N := 7) hx hb hts hinX3 hown hK hB 0 rfl rfl 5 rfl hq9 rfl rfl dX3_init_81 ?_
  refine lv_iload_n hx hb dX3_init_84 rfl (lv_at hl 0 rfl) ?_
  refine g_new (C := RX2) (T := TX2) (N := 14) (ci := 2) hx hb hts hinX2 tyX2 tyX2_ok hown hq8 hq14 hq15 hK hB hA rfl [.null, .int 0, .int 0, .null, .null, .null, .null, .null, .null, .null, .null, .null, .null, .null] (by decide +kernel) (Nat.le_of_ble_eq_true rfl) (Nat.le_of_ble_eq_true rfl) dX3_init_85 (fun q21 H locs hB => ?_)
  refine lv_dup hx hb dX3_init_88 rfl ?_
  refine lv_aload_n hx hb dX3_init_89 rfl (lv_at hl 1 rfl) ?_
  refine g_icall (As := [.ref (u4 0)]) (rest := [.ref q21, .int (6 : Int32), .ref q2]) (wc := [(q21, .inr (2, [.null, .int 0, .int 0, .null, .null, .null, .null, .null, .null, .null, .null, .null, .null, .null]))]) (wr := ((((((((([(h0, .inr (3, [.ref q1, .int (0 : Int32), .int (-1 : Int32), .ref (u6 0), .ref (u8 0), .ref q2, .int (0 : Int32)])), (q1, .inl (cyB, 700, .inl (fun _ => 0))), (q2, .inl (cyO, 8, .inr (.inr (.inr (.inr (va_up (va_up (va_up (va_up (va_up (va_up (fun _ => none) 0 (some (u10 0))) 1 (some (u12 0))) 2 (some (u14 0))) 3 (some (u16 0))) 4 (some (u18 0))) 5 (some (u20 0))))))))] ++ (cS cyI u4 τ0)) ++ (cW1 cyI u6 (u4 0) σ0)) ++ (cW1 cyI u8 (u4 0) σ0)) ++ (cW1 cyI u10 (u4 0) σ0)) ++ (cW1 cyI u12 (u4 0) σ0)) ++ (cW1 cyI u14 (u4 0) σ0)) ++ (cW1 cyI u16 (u4 0) σ0)) ++ (cW1 cyI u18 (u4 0) σ0)) ++ (cW1 cyI u20 (u4 0) σ0))) (w1 := fun u => cW1 cyI u (u4 0) σ0) ⟨hx, hb, hml, hown, hts⟩ (kX2_init l dC dI cyI q21 (u4 0) H.size) (cwI 1 hts gX3_init_X2_init rfl rfl rfl hq15 hq39 hq40 rfl (by decide +kernel) ⟨Nat.le_of_ble_eq_true rfl, Nat.le_of_ble_eq_true rfl⟩) (hK.sub [0] rfl) hB hA List.perm_append_comm rfl hl.1 rfl (Nat.le_of_ble_eq_true rfl) dX3_init_90 ⟨Nat.le_of_ble_eq_true rfl, Nat.le_of_ble_eq_true rfl⟩ (fun u22 H9 locs9 hu hB9 => ?_)
  subst hu
  clear hB
  have hB := hB9.perm List.perm_append_comm
  clear hB9
  generalize H9 = H at hB ⊢
  generalize locs9 = locs at hB ⊢
  refine g_astq hx hb hK hB 2 2 112 2 rfl rfl rfl rfl (by unfold vp_in; decide) dX3_init_93 (w2 := (((((((((([(h0, .inr (3, [.ref q1, .int (0 : Int32), .int (-1 : Int32), .ref (u6 0), .ref (u8 0), .ref q2, .int (0 : Int32)])), (q1, .inl (cyB, 700, .inl (fun _ => 0))), (q2, .inl (cyO, 8, .inr (.inr (.inr (.inr (va_up (va_up (va_up (va_up (va_up (va_up (va_up (fun _ => none) 0 (some (u10 0))) 1 (some (u12 0))) 2 (some (u14 0))) 3 (some (u16 0))) 4 (some (u18 0))) 5 (some (u20 0))) 6 (some (u22 0))))))))] ++ (cS cyI u4 τ0)) ++ (cW1 cyI u6 (u4 0) σ0)) ++ (cW1 cyI u8 (u4 0) σ0)) ++ (cW1 cyI u10 (u4 0) σ0)) ++ (cW1 cyI u12 (u4 0) σ0)) ++ (cW1 cyI u14 (u4 0) σ0)) ++ (cW1 cyI u16 (u4 0) σ0)) ++ (cW1 cyI u18 (u4 0) σ0)) ++ (cW1 cyI u20 (u4 0) σ0)) ++ (cW1 cyI u22 (u4 0) σ0))) (by rw [show ((6 : Int32)).toNatClampNeg = 6 from by decide]; rfl) (fun H locs hB => ?_)
  refine lv_iinc (v := (7 : Int32)) (lv' := [(2, .int (7 : Int32)), (1, .ref (u4 0)), (0, .ref h0)]) hx hb dX3_init_94 hl (k := 0) rfl (by decide) (by decide) rfl (fun ls hl => ?_)
  refine lv_goto (tgt := 71) hx hb dX3_init_97 (by decide) ?_
  refine lv_iload_n hx hb dX3_init_71 rfl (lv_at hl 0 rfl) ?_
  refine lv_aload_n hx hb dX3_init_72 rfl (lv_at hl 2 rfl) ?_
  refine g_get (C := RX3) (T := TX3) (N := 7) hx hb hts hinX3 hown hK hB 0 rfl rfl 5 rfl hq9 rfl rfl dX3_init_73 ?_
  refine g_alen hx hb hK hB 2 2 rfl rfl (v := (8 : Int32)) rfl dX3_init_76 ?_
  refine lv_icmp_ge (tgt := 100) hx hb dX3_init_77 (by decide) (fun c9 => absurd c9 (by decide)) (fun c9 => ?_)
  refine lv_aload_n hx hb dX3_init_80 rfl (lv_at hl 2 rfl) ?_
  refine g_get (C := RX3) (T := TX3) (N := 7) hx hb hts hinX3 hown hK hB 0 rfl rfl 5 rfl hq9 rfl rfl dX3_init_81 ?_
  refine lv_iload_n hx hb dX3_init_84 rfl (lv_at hl 0 rfl) ?_
  refine g_new (C := RX2) (T := TX2) (N := 14) (ci := 2) hx hb hts hinX2 tyX2 tyX2_ok hown hq8 hq14 hq15 hK hB hA rfl [.null, .int 0, .int 0, .null, .null, .null, .null, .null, .null, .null, .null, .null, .null, .null] (by decide +kernel) (Nat.le_of_ble_eq_true rfl) (Nat.le_of_ble_eq_true rfl) dX3_init_85 (fun q23 H locs hB => ?_)
  refine lv_dup hx hb dX3_init_88 rfl ?_
  refine lv_aload_n hx hb dX3_init_89 rfl (lv_at hl 1 rfl) ?_
  refine g_icall (As := [.ref (u4 0)]) (rest := [.ref q23, .int (7 : Int32), .ref q2]) (wc := [(q23, .inr (2, [.null, .int 0, .int 0, .null, .null, .null, .null, .null, .null, .null, .null, .null, .null, .null]))]) (wr := (((((((((([(h0, .inr (3, [.ref q1, .int (0 : Int32), .int (-1 : Int32), .ref (u6 0), .ref (u8 0), .ref q2, .int (0 : Int32)])), (q1, .inl (cyB, 700, .inl (fun _ => 0))), (q2, .inl (cyO, 8, .inr (.inr (.inr (.inr (va_up (va_up (va_up (va_up (va_up (va_up (va_up (fun _ => none) 0 (some (u10 0))) 1 (some (u12 0))) 2 (some (u14 0))) 3 (some (u16 0))) 4 (some (u18 0))) 5 (some (u20 0))) 6 (some (u22 0))))))))] ++ (cS cyI u4 τ0)) ++ (cW1 cyI u6 (u4 0) σ0)) ++ (cW1 cyI u8 (u4 0) σ0)) ++ (cW1 cyI u10 (u4 0) σ0)) ++ (cW1 cyI u12 (u4 0) σ0)) ++ (cW1 cyI u14 (u4 0) σ0)) ++ (cW1 cyI u16 (u4 0) σ0)) ++ (cW1 cyI u18 (u4 0) σ0)) ++ (cW1 cyI u20 (u4 0) σ0)) ++ (cW1 cyI u22 (u4 0) σ0))) (w1 := fun u => cW1 cyI u (u4 0) σ0) ⟨hx, hb, hml, hown, hts⟩ (kX2_init l dC dI cyI q23 (u4 0) H.size) (cwI 1 hts gX3_init_X2_init rfl rfl rfl hq15 hq39 hq40 rfl (by decide +kernel) ⟨Nat.le_of_ble_eq_true rfl, Nat.le_of_ble_eq_true rfl⟩) (hK.sub [0] rfl) hB hA List.perm_append_comm rfl hl.1 rfl (Nat.le_of_ble_eq_true rfl) dX3_init_90 ⟨Nat.le_of_ble_eq_true rfl, Nat.le_of_ble_eq_true rfl⟩ (fun u24 H9 locs9 hu hB9 => ?_)
  subst hu
  clear hB
  have hB := hB9.perm List.perm_append_comm
  clear hB9
  generalize H9 = H at hB ⊢
  generalize locs9 = locs at hB ⊢
  refine g_astq hx hb hK hB 2 2 124 2 rfl rfl rfl rfl (by unfold vp_in; decide) dX3_init_93 (w2 := ((((((((((([(h0, .inr (3, [.ref q1, .int (0 : Int32), .int (-1 : Int32), .ref (u6 0), .ref (u8 0), .ref q2, .int (0 : Int32)])), (q1, .inl (cyB, 700, .inl (fun _ => 0))), (q2, .inl (cyO, 8, .inr (.inr (.inr (.inr (va_up (va_up (va_up (va_up (va_up (va_up (va_up (va_up (fun _ => none) 0 (some (u10 0))) 1 (some (u12 0))) 2 (some (u14 0))) 3 (some (u16 0))) 4 (some (u18 0))) 5 (some (u20 0))) 6 (some (u22 0))) 7 (some (u24 0))))))))] ++ (cS cyI u4 τ0)) ++ (cW1 cyI u6 (u4 0) σ0)) ++ (cW1 cyI u8 (u4 0) σ0)) ++ (cW1 cyI u10 (u4 0) σ0)) ++ (cW1 cyI u12 (u4 0) σ0)) ++ (cW1 cyI u14 (u4 0) σ0)) ++ (cW1 cyI u16 (u4 0) σ0)) ++ (cW1 cyI u18 (u4 0) σ0)) ++ (cW1 cyI u20 (u4 0) σ0)) ++ (cW1 cyI u22 (u4 0) σ0)) ++ (cW1 cyI u24 (u4 0) σ0))) (by rw [show ((7 : Int32)).toNatClampNeg = 7 from by decide]; rfl) (fun H locs hB => ?_)
  refine lv_iinc (v := (8 : Int32)) (lv' := [(2, .int (8 : Int32)), (1, .ref (u4 0)), (0, .ref h0)]) hx hb dX3_init_94 hl (k := 0) rfl (by decide) (by decide) rfl (fun ls hl => ?_)
  refine lv_goto (tgt := 71) hx hb dX3_init_97 (by decide) ?_
  refine lv_iload_n hx hb dX3_init_71 rfl (lv_at hl 0 rfl) ?_
  refine lv_aload_n hx hb dX3_init_72 rfl (lv_at hl 2 rfl) ?_
  refine g_get (C := RX3) (T := TX3) (N := 7) hx hb hts hinX3 hown hK hB 0 rfl rfl 5 rfl hq9 rfl rfl dX3_init_73 ?_
  refine g_alen hx hb hK hB 2 2 rfl rfl (v := (8 : Int32)) rfl dX3_init_76 ?_
  refine lv_icmp_ge (tgt := 100) hx hb dX3_init_77 (by decide) (fun c9 => ?_) (fun c9 => absurd (by decide) c9)
  have hB := hB.refs 2 (g := fun k => some ((fun w => if w = 0 then u6 else if w = 1 then u8 else if w = 2 then u10 else if w = 3 then u12 else if w = 4 then u14 else if w = 5 then u16 else if w = 6 then u18 else if w = 7 then u20 else if w = 8 then u22 else u24) (k + 2) 0)) rfl (fun j hj => co_8 (P := fun j => ((va_up (va_up (va_up (va_up (va_up (va_up (va_up (va_up (fun _ => none) 0 (some (u10 0))) 1 (some (u12 0))) 2 (some (u14 0))) 3 (some (u16 0))) 4 (some (u18 0))) 5 (some (u20 0))) 6 (some (u22 0))) 7 (some (u24 0)))) j = some ((fun w => if w = 0 then u6 else if w = 1 then u8 else if w = 2 then u10 else if w = 3 then u12 else if w = 4 then u14 else if w = 5 then u16 else if w = 6 then u18 else if w = 7 then u20 else if w = 8 then u22 else u24) (j + 2) 0)) rfl rfl rfl rfl rfl rfl rfl rfl hj)
  have hB := hB.perm (perm10 [(h0, .inr (3, [.ref q1, .int (0 : Int32), .int (-1 : Int32), .ref (u6 0), .ref (u8 0), .ref q2, .int (0 : Int32)])), (q1, .inl (cyB, 700, .inl (fun _ => 0))), (q2, .inl (cyO, 8, .inr (.inr (.inr (.inr (fun k => some ((fun w => if w = 0 then u6 else if w = 1 then u8 else if w = 2 then u10 else if w = 3 then u12 else if w = 4 then u14 else if w = 5 then u16 else if w = 6 then u18 else if w = 7 then u20 else if w = 8 then u22 else u24) (k + 2) 0)))))))] (cS cyI u4 τ0) (cW1 cyI u6 (u4 0) σ0) (cW1 cyI u8 (u4 0) σ0) (cW1 cyI u10 (u4 0) σ0) (cW1 cyI u12 (u4 0) σ0) (cW1 cyI u14 (u4 0) σ0) (cW1 cyI u16 (u4 0) σ0) (cW1 cyI u18 (u4 0) σ0) (cW1 cyI u20 (u4 0) σ0) (cW1 cyI u22 (u4 0) σ0) (cW1 cyI u24 (u4 0) σ0))
  have hB : Bd (dC, dI) [(cyI, .int), (cyB, .byte), (cyO, .object "UndoJourneys$World")] (va_A [(h0, .inr (3, [.null, .int 0, .int 0, .null, .null, .null, .int 0]))] s.heap.size) s ((fun u : Nat × Nat × (Nat → Nat → Nat) × (Nat → Nat → Nat) => cU cyI cyB cyO h0 u.1 u.2.1 u.2.2.1 u.2.2.2 (fun k => k + 2) (fun _ => 0) υ0 (fun _ => σ0) (fun _ => 0) (fun _ => τ0) 1) ((q1, q2, (fun w => if w = 0 then u6 else if w = 1 then u8 else if w = 2 then u10 else if w = 3 then u12 else if w = 4 then u14 else if w = 5 then u16 else if w = 6 then u18 else if w = 7 then u20 else if w = 8 then u22 else u24), (fun _ => u4)))) H locs := hB
  exact g_vretX (S := Nat × Nat × (Nat → Nat → Nat) × (Nat → Nat → Nat)) (w1 := fun u => cU cyI cyB cyO h0 u.1 u.2.1 u.2.2.1 u.2.2.2 (fun k => k + 2) (fun _ => 0) υ0 (fun _ => σ0) (fun _ => 0) (fun _ => τ0) 1) (u := (q1, q2, (fun w => if w = 0 then u6 else if w = 1 then u8 else if w = 2 then u10 else if w = 3 then u12 else if w = 4 then u14 else if w = 5 then u16 else if w = 6 then u18 else if w = 7 then u20 else if w = 8 then u22 else u24), (fun _ => u4))) hx hb hr hlocks hK hB trivial (Nat.le_of_ble_eq_true rfl) (Nat.le_of_ble_eq_true rfl) dX3_init_100

