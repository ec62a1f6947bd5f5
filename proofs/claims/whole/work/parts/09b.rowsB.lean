/-! what the pure part owes: a relation between the class's state and the reference's, kept by every call, with like answers -/
abbrev IT := WS → Nat → PA → FS → MS → WS → PA → MS → Prop
def ag_append (fu : Nat) (I : IT) : Prop := ∀ τs n pa β υ ω sid μ, I τs n pa β υ ω sid μ → ∀ (i1 i2 i3 i4 i5 : Int32), ∃ r β1 υ1 μ1, mX3_append fu τs n pa β υ ω sid i1 i2 i3 i4 i5 = some (r, β1, υ1) ∧ mX4_append fu μ i1 i2 i3 i4 i5 = some (r, μ1) ∧ I τs n pa β1 υ1 ω sid μ1
def ag_load (fu : Nat) (I : IT) : Prop := ∀ τs n pa β υ ω sid μ, I τs n pa β υ ω sid μ → ∀ (i1 : Int32), ∃ o b μ1, mX3_load fu τs n pa β υ ω sid i1 = some o ∧ (∀ E, o = .inl E → E ∈ (["java/lang/IllegalArgumentException"] : List String)) ∧ mX4_load fu μ i1 = some (b, μ1) ∧ mX4_thrown fu μ1 = some (xR ["java/lang/IllegalArgumentException"] o) ∧ (∀ x, o = .inr x → x.1 = b) ∧ (∀ E, o = .inl E → I τs n pa β υ ω sid μ1) ∧ ∀ x, o = .inr x → I x.2.2.2.2.2.1 x.2.2.2.2.2.2 x.2.1 β x.2.2.1 x.2.2.2.1 x.2.2.2.2.1 μ1
def ag_errorOffset (fu : Nat) (I : IT) : Prop := ∀ τs n pa β υ ω sid μ, I τs n pa β υ ω sid μ → ∃ r μ1, mX3_errorOffset fu τs n pa β υ ω sid = some r ∧ mX4_errorOffset fu μ = some (r, μ1) ∧ I τs n pa β υ ω sid μ1
def ag_state (fu : Nat) (I : IT) : Prop := ∀ τs n pa β υ ω sid μ, I τs n pa β υ ω sid μ → ∀ (i1 : Int32), ∃ o b μ1, mX3_state fu τs n pa β υ ω sid i1 = some o ∧ (∀ E, o = .inl E → E ∈ (["java/lang/IllegalArgumentException"] : List String)) ∧ mX4_state fu μ i1 = some (b, μ1) ∧ mX4_thrown fu μ1 = some (xR ["java/lang/IllegalArgumentException"] o) ∧ (∀ x, o = .inr x → x = b) ∧ (∀ E, o = .inl E → I τs n pa β υ ω sid μ1) ∧ ∀ x, o = .inr x → I τs n pa β υ ω sid μ1
def ag_stock (fu : Nat) (I : IT) : Prop := ∀ τs n pa β υ ω sid μ, I τs n pa β υ ω sid μ → ∀ (i1 i2 : Int32), ∃ o b μ1, mX3_stock fu τs n pa β υ ω sid i1 i2 = some o ∧ (∀ E, o = .inl E → E ∈ (["java/lang/IndexOutOfBoundsException", "java/lang/IllegalArgumentException"] : List String)) ∧ mX4_stock fu μ i1 i2 = some (b, μ1) ∧ mX4_thrown fu μ1 = some (xR ["java/lang/IndexOutOfBoundsException", "java/lang/IllegalArgumentException"] o) ∧ (∀ x, o = .inr x → x = b) ∧ (∀ E, o = .inl E → I τs n pa β υ ω sid μ1) ∧ ∀ x, o = .inr x → I τs n pa β υ ω sid μ1
def ag_journey (fu : Nat) (I : IT) : Prop := ∀ τs n pa β υ ω sid μ, I τs n pa β υ ω sid μ → ∀ (i1 i2 : Int32), ∃ o b μ1, mX3_journey fu τs n pa β υ ω sid i1 i2 = some o ∧ (∀ E, o = .inl E → E ∈ (["java/lang/IndexOutOfBoundsException", "java/lang/IllegalArgumentException"] : List String)) ∧ mX4_journey fu μ i1 i2 = some (b, μ1) ∧ mX4_thrown fu μ1 = some (xR ["java/lang/IndexOutOfBoundsException", "java/lang/IllegalArgumentException"] o) ∧ (∀ x, o = .inr x → x = b) ∧ (∀ E, o = .inl E → I τs n pa β υ ω sid μ1) ∧ ∀ x, o = .inr x → I τs n pa β υ ω sid μ1
def ag_step (fu : Nat) (I : IT) : Prop := ∀ τs n pa β υ ω sid μ, I τs n pa β υ ω sid μ → ∀ (i1 i2 i3 : Int32), ∃ o b μ1, mX3_step fu τs n pa β υ ω sid i1 i2 i3 = some o ∧ (∀ E, o = .inl E → E ∈ (["java/lang/IndexOutOfBoundsException", "java/util/NoSuchElementException", "java/lang/IllegalArgumentException"] : List String)) ∧ mX4_step fu μ i1 i2 i3 = some (b, μ1) ∧ mX4_thrown fu μ1 = some (xR ["java/lang/IndexOutOfBoundsException", "java/util/NoSuchElementException", "java/lang/IllegalArgumentException"] o) ∧ (∀ x, o = .inr x → x = b) ∧ (∀ E, o = .inl E → I τs n pa β υ ω sid μ1) ∧ ∀ x, o = .inr x → I τs n pa β υ ω sid μ1
def ag_owed (fu : Nat) (I : IT) : Prop := ∀ τs n pa β υ ω sid μ, I τs n pa β υ ω sid μ → ∀ (i1 i2 : Int32), ∃ o b μ1, mX3_owed fu τs n pa β υ ω sid i1 i2 = some o ∧ (∀ E, o = .inl E → E ∈ (["java/lang/IndexOutOfBoundsException", "java/util/NoSuchElementException"] : List String)) ∧ mX4_owed fu μ i1 i2 = some (b, μ1) ∧ mX4_thrown fu μ1 = some (xR ["java/lang/IndexOutOfBoundsException", "java/util/NoSuchElementException"] o) ∧ (∀ x, o = .inr x → x = b) ∧ (∀ E, o = .inl E → I τs n pa β υ ω sid μ1) ∧ ∀ x, o = .inr x → I τs n pa β υ ω sid μ1
def ag_restsIn (fu : Nat) (I : IT) : Prop := ∀ τs n pa β υ ω sid μ, I τs n pa β υ ω sid μ → ∀ (i1 : Int32), ∃ o b μ1, mX3_restsIn fu τs n pa β υ ω sid i1 = some o ∧ (∀ E, o = .inl E → E ∈ (["java/lang/IndexOutOfBoundsException"] : List String)) ∧ mX4_restsIn fu μ i1 = some (b, μ1) ∧ mX4_thrown fu μ1 = some (xR ["java/lang/IndexOutOfBoundsException"] o) ∧ (∀ x, o = .inr x → (x.1) = b) ∧ (∀ E, o = .inl E → I τs n pa β υ ω sid μ1) ∧ ∀ x, o = .inr x → I τs n pa β υ (x.2.1) (x.2.2) μ1
def ag_stateAfter (fu : Nat) (I : IT) : Prop := ∀ τs n pa β υ ω sid μ, I τs n pa β υ ω sid μ → ∀ (i1 i2 : Int32), ∃ o b μ1, mX3_stateAfter fu τs n pa β υ ω sid i1 i2 = some o ∧ (∀ E, o = .inl E → E ∈ (["java/lang/IndexOutOfBoundsException", "java/lang/IllegalArgumentException"] : List String)) ∧ mX4_stateAfter fu μ i1 i2 = some (b, μ1) ∧ mX4_thrown fu μ1 = some (xR ["java/lang/IndexOutOfBoundsException", "java/lang/IllegalArgumentException"] o) ∧ (∀ x, o = .inr x → (x.1) = b) ∧ (∀ E, o = .inl E → I τs n pa β υ ω sid μ1) ∧ ∀ x, o = .inr x → I τs n pa β υ (x.2.1) (x.2.2) μ1
def ag_help (fu : Nat) (I : IT) : Prop := ∀ τs n pa β υ ω sid μ, I τs n pa β υ ω sid μ → ∀ (i1 i2 : Int32), ∃ o b μ1, mX3_help fu τs n pa β υ ω sid i1 i2 = some o ∧ (∀ E, o = .inl E → E ∈ (["java/lang/IndexOutOfBoundsException"] : List String)) ∧ mX4_help fu μ i1 i2 = some (b, μ1) ∧ mX4_thrown fu μ1 = some (xR ["java/lang/IndexOutOfBoundsException"] o) ∧ (∀ x, o = .inr x → (x.1) = b) ∧ (∀ E, o = .inl E → I τs n pa β υ ω sid μ1) ∧ ∀ x, o = .inr x → I τs n pa β υ (x.2.1) (x.2.2) μ1
def ag_pass (fu : Nat) (I : IT) : Prop := ∀ τs n pa β υ ω sid μ, I τs n pa β υ ω sid μ → ∀ (i1 : Int32), ∃ o b μ1, mX3_pass fu τs n pa β υ ω sid i1 = some o ∧ (∀ E, o = .inl E → E ∈ (["java/lang/IllegalArgumentException"] : List String)) ∧ mX4_pass fu μ i1 = some (b, μ1) ∧ mX4_thrown fu μ1 = some (xR ["java/lang/IllegalArgumentException"] o) ∧ (∀ x, o = .inr x → (x.1) = b) ∧ (∀ E, o = .inl E → I τs n pa β υ ω sid μ1) ∧ ∀ x, o = .inr x → I τs n (x.2.1) β (x.2.2.1) (x.2.2.2.1) (x.2.2.2.2) μ1
def ag_settle (fu : Nat) (I : IT) : Prop := ∀ τs n pa β υ ω sid μ, I τs n pa β υ ω sid μ → ∀ (i1 : Int32), ∃ o b μ1, mX3_settle fu τs n pa β υ ω sid i1 = some o ∧ (∀ E, o = .inl E → E ∈ (["java/lang/IndexOutOfBoundsException", "java/lang/IllegalStateException"] : List String)) ∧ mX4_settle fu μ i1 = some (b, μ1) ∧ mX4_thrown fu μ1 = some (xR ["java/lang/IndexOutOfBoundsException", "java/lang/IllegalStateException"] o) ∧ (∀ x, o = .inr x → (x.1) = b) ∧ (∀ E, o = .inl E → I τs n pa β υ ω sid μ1) ∧ ∀ x, o = .inr x → I τs n (x.2.1) β (x.2.2.1) (x.2.2.2.1) (x.2.2.2.2) μ1
def ag_writeOff (fu : Nat) (I : IT) : Prop := ∀ τs n pa β υ ω sid μ, I τs n pa β υ ω sid μ → ∀ (i1 : Int32), ∃ o b μ1, mX3_writeOff fu τs n pa β υ ω sid i1 = some o ∧ (∀ E, o = .inl E → E ∈ (["java/lang/IndexOutOfBoundsException", "java/lang/IllegalStateException"] : List String)) ∧ mX4_writeOff fu μ i1 = some (b, μ1) ∧ mX4_thrown fu μ1 = some (xR ["java/lang/IndexOutOfBoundsException", "java/lang/IllegalStateException"] o) ∧ (∀ x, o = .inr x → (x.1) = b) ∧ (∀ E, o = .inl E → I τs n pa β υ ω sid μ1) ∧ ∀ x, o = .inr x → I τs n (x.2.1) β (x.2.2.1) (x.2.2.2.1) (x.2.2.2.2) μ1
def ag_goForward (fu : Nat) (I : IT) : Prop := ∀ τs n pa β υ ω sid μ, I τs n pa β υ ω sid μ → ∀ (i1 : Int32), ∃ o b μ1, mX3_goForward fu τs n pa β υ ω sid i1 = some o ∧ (∀ E, o = .inl E → E ∈ (["java/lang/IndexOutOfBoundsException", "java/lang/IllegalStateException"] : List String)) ∧ mX4_goForward fu μ i1 = some (b, μ1) ∧ mX4_thrown fu μ1 = some (xR ["java/lang/IndexOutOfBoundsException", "java/lang/IllegalStateException"] o) ∧ (∀ x, o = .inr x → (x.1) = b) ∧ (∀ E, o = .inl E → I τs n pa β υ ω sid μ1) ∧ ∀ x, o = .inr x → I τs n (x.2.1) β (x.2.2.1) (x.2.2.2.1) (x.2.2.2.2) μ1
def ag_restock (fu : Nat) (I : IT) : Prop := ∀ τs n pa β υ ω sid μ, I τs n pa β υ ω sid μ → ∀ (i1 i2 : Int32), ∃ o b μ1, mX3_restock fu τs n pa β υ ω sid i1 i2 = some o ∧ (∀ E, o = .inl E → E ∈ (["java/lang/IndexOutOfBoundsException", "java/lang/IllegalArgumentException"] : List String)) ∧ mX4_restock fu μ i1 i2 = some (b, μ1) ∧ mX4_thrown fu μ1 = some (xR ["java/lang/IndexOutOfBoundsException", "java/lang/IllegalArgumentException"] o) ∧ (∀ x, o = .inr x → (x.1) = b) ∧ (∀ E, o = .inl E → I τs n pa β υ ω sid μ1) ∧ ∀ x, o = .inr x → I τs n (x.2.1) β (x.2.2.1) (x.2.2.2.1) (x.2.2.2.2) μ1
def ag_undo (fu : Nat) (I : IT) : Prop := ∀ τs n pa β υ ω sid μ, I τs n pa β υ ω sid μ → ∃ r υ1 ω1 sid1 μ1, mX3_undo fu τs n pa β υ ω sid = some (r, υ1, ω1, sid1) ∧ mX4_undo fu μ = some (r, μ1) ∧ I τs n pa β υ1 ω1 sid1 μ1
def ag_checksum (fu : Nat) (I : IT) : Prop := ∀ τs n pa β υ ω sid μ, I τs n pa β υ ω sid μ → ∃ r μ1, mX3_checksum fu τs n pa β υ ω sid = some r ∧ mX4_checksum fu μ = some (r, μ1) ∧ I τs n pa β υ ω sid μ1
def Agrees (fu : Nat) (I : IT) : Prop := ag_append fu I ∧ ag_load fu I ∧ ag_errorOffset fu I ∧ ag_state fu I ∧ ag_stock fu I ∧ ag_journey fu I ∧ ag_step fu I ∧ ag_owed fu I ∧ ag_restsIn fu I ∧ ag_stateAfter fu I ∧ ag_help fu I ∧ ag_pass fu I ∧ ag_settle fu I ∧ ag_writeOff fu I ∧ ag_goForward fu I ∧ ag_restock fu I ∧ ag_undo fu I ∧ ag_checksum fu I
theorem xC1 : ∀ (hs : List String) (k : Nat) (E : String), 0 < k → k + hs.length < 100 → ∃ r : Nat, 0 < r ∧ r < 100 ∧ xC hs (nI k) E = nI r
  | [], k, E, h1, h2 => ⟨k, h1, by simpa using h2, rfl⟩
  | h :: t, k, E, h1, h2 => by
    unfold xC
    by_cases hE : E = h
    · rw [if_pos hE]; exact ⟨k, h1, by simp only [List.length_cons] at h2; omega, rfl⟩
    · rw [if_neg hE, show nI k + 1 = nI (k + 1) from by simp [nI]]
      exact xC1 t (k + 1) E (by omega) (by simp only [List.length_cons] at h2; omega)
theorem xR0 {X : Type} {hs : List String} {o : String ⊕ X} (h : hs.length < 50) (h0 : xR hs o = 0) : ∃ x, o = .inr x := by
  rcases o with E | x
  · obtain ⟨r, h1, h2, h3⟩ := xC1 hs 1 E (by decide) (by omega)
    have h4 : xC hs 1 E = 0 := h0
    rw [show (1 : Int32) = nI 1 from rfl, h3] at h4
    exfalso
    revert h4
    have : ∀ r : Nat, r < 100 → 0 < r → nI r ≠ 0 := by decide +kernel
    exact this r h2 h1
  · exact ⟨x, rfl⟩
theorem cmp0 {x y : Int64} (h : x = y) : (lg_cmp x y : Int32) = 0 := by subst h; simp [lg_cmp]
theorem xL0 {X : Type} (lam : Nat → Int64) (val : X → Int32) (x : X) {b : Int32} (h : val x = b) : xL lam val (.inr x) (Int32.toNatClampNeg 0) = b.toInt64 := by
  subst h
  show vp_updL lam 0 (val x).toInt64 0 = _
  simp [vp_updL]
section LB
variable {p : Program} {l : Launch} {e : Env} {R : Room} {s : State} {m : MethodId} {args : Array Value} {below : List Frame} {meth : Method} {c : Code} {H : Heap} {locs : List Loc} {cells slots : Nat} {Q : State → Prop}
variable {cc : ByteArray} {pc : Nat} {ls : Array Slot} {rest : List Value} {D : va_G} {A : Nat → Prop} {a : Nat} {tys : List (ClassId × FieldType)} {ws : va_W}
variable {y : MethodName} {bytes : ByteArray} {maxL nL mc ms mc1 ms1 n index : Nat} {ret : Option FieldType} {wsy : List Cond} {rm : Room} {Ts : List Cond} {own C : String} {b : Addr} {As : List Value} {st0 : List Value} {w0 : va_W} {kS : Nat → Nat}
theorem g_vcut {S : Type} {Pc : Array Value → State → Prop} {po : Int32 → S → Prop} {w1 : S → va_W} {wc wr : va_W} {tysc : List (ClassId × FieldType)} (S0 : CallFix p m c cc nL s args Ts own) (hM : Met l y wsy rm Pc (va_Qi po (fun x t => BX D tysc wc (w1 x) H.size t) (va_A wc H.size)) mc1 ms1 (va_A wc H.size)) (cw : CallW R s args own C index y bytes maxL ret wsy rm mc1 ms1 n) (hp : FrameBlind Pc ∧ ∀ U : State, U.heap = H → s.WarmedH U.vm → Pc (Value.ref b :: As).toArray U) (hB0 : Bd D tys A s ws H locs) (hA : ∀ q, s.heap.size ≤ q → A q) (hrec : ∃ cell : Cell, H[b]? = some cell ∧ cell.vm.isStatics = false ∧ s.vm.findClass C = some cell.cls) (hp1 : ws.Perm (wc ++ wr))
    (hn : As.length = n) (hsize : ls.size = nL) (hstack : st0 = As.reverse ++ .ref b :: rest) (hW : (rest.map fun v => v.category).sum ≤ 8) (hdg : decode cc pc = .ok (.invokevirtual index, 3)) (hf : cells + mc1 ≤ R.cells ∧ slots + ms1 ≤ R.slots)
    (kk : ∀ (r : Int32) (x : S) (H : Heap) (locs : List Loc), po r x → Bd D tys A s (w1 x ++ wr) H locs → W p l e R s m args below meth c H locs (cells + mc1) (slots + ms1) Q (F0 m (pc + 3) ls (.int r :: rest))) : W p l e R s m args below meth c H locs cells slots Q (F0 m pc ls st0) := by
  have hB := hB0.perm hp1
  have hF := keep_left hB hA
  refine va_calli (va_runV S0 hM cw ⟨hp.1, hrec, hp.2⟩ rfl hn hsize hstack (lv_room hW) hdg hf) hB.2.2 (fun q _ h => hF q h) hF (fun r u t H1 locs1 ht hvm hr hBt hz hk hS => ?_)
  obtain ⟨hP1, -, hD1⟩ := hBt
  rw [ht] at hP1
  exact kk r u H1 locs1 hr (pcut_back hB hF hk hP1 hD1 hS)
theorem g_swcut {S : Type} {hh : List (Nat × Nat × Nat × Nat)} {Pc : Array Value → State → Prop} {po : Int32 → S → Prop} {w1 : S → va_W} {wc wr : va_W} {tysc : List (ClassId × FieldType)} (S0 : CallFix p m c cc nL s args Ts own) (hM : Met l y wsy rm Pc (va_Qi po (fun x t => BX D tysc wc (w1 x) H.size t) (va_A wc H.size)) mc1 ms1 (va_A wc H.size)) (cw : vx_CSW R s args own index y bytes maxL ret hh wsy rm mc1 ms1 n) (hp : FrameBlind Pc ∧ ∀ U : State, U.heap = H → s.WarmedH U.vm → Pc As.toArray U) (hB0 : Bd D tys A s ws H locs) (hA : ∀ q, s.heap.size ≤ q → A q) (hp1 : ws.Perm (wc ++ wr))
    (hn : As.length = n) (hsize : ls.size = nL) (hstack : st0 = As.reverse ++ rest) (hW : (rest.map fun v => v.category).sum ≤ 8) (hdg : decode cc pc = .ok (.invokestatic index, 3)) (hf : cells + mc1 ≤ R.cells ∧ slots + ms1 ≤ R.slots)
    (kk : ∀ (r : Int32) (x : S) (H : Heap) (locs : List Loc), po r x → Bd D tys A s (w1 x ++ wr) H locs → W p l e R s m args below meth c H locs (cells + mc1) (slots + ms1) Q (F0 m (pc + 3) ls (.int r :: rest))) : W p l e R s m args below meth c H locs cells slots Q (F0 m pc ls st0) := by
  have hB := hB0.perm hp1
  have hF := keep_left hB hA
  refine va_calli (vx_runSW S0 hM cw hp rfl hn hsize hstack (lv_room hW) hdg hf) hB.2.2 (fun q _ h => hF q h) hF (fun r u t H1 locs1 ht hvm hr hBt hz hk hS => ?_)
  obtain ⟨hP1, -, hD1⟩ := hBt
  rw [ht] at hP1
  exact kk r u H1 locs1 hr (pcut_back hB hF hk hP1 hD1 hS)
theorem jpre_left (hJ : JS kS A s s.heap) {wc wr : va_W} {tysc : List (ClassId × FieldType)} (hB : Bd D tys A s (wc ++ wr) H locs) (hA : ∀ q, s.heap.size ≤ q → A q) (hK : va_K D vwCl tysc s) (av : List Value) : FrameBlind (PcJ D tysc kS wc H.size av) ∧ ∀ U : State, U.heap = H → s.WarmedH U.vm → PcJ D tysc kS wc H.size av av.toArray U :=
  ⟨PcJ_blind _ _ _ _ _ _, fun U hU hW => ⟨rfl, ((pcut_pre hB hK av).2 U hU hW).2, JS_at hJ hB.2.2 (keep_left hB hA) hU hW⟩⟩
theorem vpre_left (hE : EX A s s.heap) (hN : NC s) {wc wr : va_W} {tysc : List (ClassId × FieldType)} (hB : Bd D tys A s (wc ++ wr) H locs) (hA : ∀ q, s.heap.size ≤ q → A q) (hK : va_K D vwCl tysc s) (av : List Value) : FrameBlind (PcV D tysc wc H.size av) ∧ ∀ U : State, U.heap = H → s.WarmedH U.vm → PcV D tysc wc H.size av av.toArray U :=
  ⟨PcV_blind _ _ _ _ _, fun U hU hW => ⟨rfl, ((pcut_pre hB hK av).2 U hU hW).2, EX_at hE hB.2.2 (keep_left hB hA) hU hW, fun q hq => va_Nc.moved hW.alike (hN q hq)⟩⟩
theorem vjpre_left (hE : EX A s s.heap) (hN : NC s) (hJ : JS kS A s s.heap) (hW9 : va_Nw (.methodLinkNest RX1 11 yX0_init RX3) s) {wc wr : va_W} {tysc : List (ClassId × FieldType)} (hB : Bd D tys A s (wc ++ wr) H locs) (hA : ∀ q, s.heap.size ≤ q → A q) (hK : va_K D vwCl tysc s) (av : List Value) : FrameBlind (PcVJ D tysc kS wc H.size av) ∧ ∀ U : State, U.heap = H → s.WarmedH U.vm → PcVJ D tysc kS wc H.size av av.toArray U :=
  ⟨PcVJ_blind _ _ _ _ _ _, fun U hU hW => ⟨rfl, ((pcut_pre hB hK av).2 U hU hW).2, EX_at hE hB.2.2 (keep_left hB hA) hU hW, fun q hq => va_Nc.moved hW.alike (hN q hq), JS_at hJ hB.2.2 (keep_left hB hA) hU hW, va_Nw.warmM hW hW9⟩⟩
end LB
/-! the wrappers from the law -/
set_option maxRecDepth 20000 in
theorem tSL_load : ∀ w ∈ ([.methodLink RL 71 yL_load, .static yL_load, .initialized yL_load.cls] : List Cond), w ∈ lw_tbl := List.forall_mem_cons.mpr ⟨tb2 41 rfl, List.forall_mem_cons.mpr ⟨tb2 42 rfl, List.forall_mem_cons.mpr ⟨tb1 0 rfl, fun _ h => absurd h List.not_mem_nil⟩⟩⟩
set_option maxRecDepth 20000 in
theorem tSL_state : ∀ w ∈ ([.methodLink RL 85 yL_state, .static yL_state, .initialized yL_state.cls] : List Cond), w ∈ lw_tbl := List.forall_mem_cons.mpr ⟨tb3 69 rfl, List.forall_mem_cons.mpr ⟨tb3 70 rfl, List.forall_mem_cons.mpr ⟨tb1 0 rfl, fun _ h => absurd h List.not_mem_nil⟩⟩⟩
set_option maxRecDepth 20000 in
theorem tSL_stock : ∀ w ∈ ([.methodLink RL 88 yL_stock, .static yL_stock, .initialized yL_stock.cls] : List Cond), w ∈ lw_tbl := List.forall_mem_cons.mpr ⟨tb3 80 rfl, List.forall_mem_cons.mpr ⟨tb3 81 rfl, List.forall_mem_cons.mpr ⟨tb1 0 rfl, fun _ h => absurd h List.not_mem_nil⟩⟩⟩
set_option maxRecDepth 20000 in
theorem tSL_journey : ∀ w ∈ ([.methodLink RL 92 yL_journey, .static yL_journey, .initialized yL_journey.cls] : List Cond), w ∈ lw_tbl := List.forall_mem_cons.mpr ⟨tb3 108 rfl, List.forall_mem_cons.mpr ⟨tb3 109 rfl, List.forall_mem_cons.mpr ⟨tb1 0 rfl, fun _ h => absurd h List.not_mem_nil⟩⟩⟩
set_option maxRecDepth 20000 in
theorem tSL_step : ∀ w ∈ ([.methodLink RL 95 yL_step, .static yL_step, .initialized yL_step.cls] : List Cond), w ∈ lw_tbl := List.forall_mem_cons.mpr ⟨tb3 120 rfl, List.forall_mem_cons.mpr ⟨tb3 121 rfl, List.forall_mem_cons.mpr ⟨tb1 0 rfl, fun _ h => absurd h List.not_mem_nil⟩⟩⟩
set_option maxRecDepth 20000 in
theorem tSL_owed : ∀ w ∈ ([.methodLink RL 99 yL_owed, .static yL_owed, .initialized yL_owed.cls] : List Cond), w ∈ lw_tbl := List.forall_mem_cons.mpr ⟨tb3 145 rfl, List.forall_mem_cons.mpr ⟨tb3 146 rfl, List.forall_mem_cons.mpr ⟨tb1 0 rfl, fun _ h => absurd h List.not_mem_nil⟩⟩⟩
set_option maxRecDepth 20000 in
theorem tSL_restsIn : ∀ w ∈ ([.methodLink RL 102 yL_restsIn, .static yL_restsIn, .initialized yL_restsIn.cls] : List Cond), w ∈ lw_tbl := List.forall_mem_cons.mpr ⟨tb3 157 rfl, List.forall_mem_cons.mpr ⟨tb3 158 rfl, List.forall_mem_cons.mpr ⟨tb1 0 rfl, fun _ h => absurd h List.not_mem_nil⟩⟩⟩
set_option maxRecDepth 20000 in
theorem tSL_stateAfter : ∀ w ∈ ([.methodLink RL 105 yL_stateAfter, .static yL_stateAfter, .initialized yL_stateAfter.cls] : List Cond), w ∈ lw_tbl := List.forall_mem_cons.mpr ⟨tb4 0 rfl, List.forall_mem_cons.mpr ⟨tb4 1 rfl, List.forall_mem_cons.mpr ⟨tb1 0 rfl, fun _ h => absurd h List.not_mem_nil⟩⟩⟩
set_option maxRecDepth 20000 in
theorem tSL_help : ∀ w ∈ ([.methodLink RL 108 yL_help, .static yL_help, .initialized yL_help.cls] : List Cond), w ∈ lw_tbl := List.forall_mem_cons.mpr ⟨tb4 8 rfl, List.forall_mem_cons.mpr ⟨tb4 9 rfl, List.forall_mem_cons.mpr ⟨tb1 0 rfl, fun _ h => absurd h List.not_mem_nil⟩⟩⟩
set_option maxRecDepth 20000 in
theorem tSL_pass : ∀ w ∈ ([.methodLink RL 111 yL_pass, .static yL_pass, .initialized yL_pass.cls] : List Cond), w ∈ lw_tbl := List.forall_mem_cons.mpr ⟨tb4 16 rfl, List.forall_mem_cons.mpr ⟨tb4 17 rfl, List.forall_mem_cons.mpr ⟨tb1 0 rfl, fun _ h => absurd h List.not_mem_nil⟩⟩⟩
set_option maxRecDepth 20000 in
theorem tSL_settle : ∀ w ∈ ([.methodLink RL 114 yL_settle, .static yL_settle, .initialized yL_settle.cls] : List Cond), w ∈ lw_tbl := List.forall_mem_cons.mpr ⟨tb4 27 rfl, List.forall_mem_cons.mpr ⟨tb4 28 rfl, List.forall_mem_cons.mpr ⟨tb1 0 rfl, fun _ h => absurd h List.not_mem_nil⟩⟩⟩
set_option maxRecDepth 20000 in
theorem tSL_writeOff : ∀ w ∈ ([.methodLink RL 117 yL_writeOff, .static yL_writeOff, .initialized yL_writeOff.cls] : List Cond), w ∈ lw_tbl := List.forall_mem_cons.mpr ⟨tb4 59 rfl, List.forall_mem_cons.mpr ⟨tb4 60 rfl, List.forall_mem_cons.mpr ⟨tb1 0 rfl, fun _ h => absurd h List.not_mem_nil⟩⟩⟩
set_option maxRecDepth 20000 in
theorem tSL_goForward : ∀ w ∈ ([.methodLink RL 120 yL_goForward, .static yL_goForward, .initialized yL_goForward.cls] : List Cond), w ∈ lw_tbl := List.forall_mem_cons.mpr ⟨tb4 66 rfl, List.forall_mem_cons.mpr ⟨tb4 67 rfl, List.forall_mem_cons.mpr ⟨tb1 0 rfl, fun _ h => absurd h List.not_mem_nil⟩⟩⟩
set_option maxRecDepth 20000 in
theorem tSL_restock : ∀ w ∈ ([.methodLink RL 123 yL_restock, .static yL_restock, .initialized yL_restock.cls] : List Cond), w ∈ lw_tbl := List.forall_mem_cons.mpr ⟨tb4 81 rfl, List.forall_mem_cons.mpr ⟨tb4 82 rfl, List.forall_mem_cons.mpr ⟨tb1 0 rfl, fun _ h => absurd h List.not_mem_nil⟩⟩⟩
