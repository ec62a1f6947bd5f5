/-! the history's rows, and copying -/
theorem co_8 {P : Nat → Prop} (h0 : P 0) (h1 : P 1) (h2 : P 2) (h3 : P 3) (h4 : P 4) (h5 : P 5) (h6 : P 6) (h7 : P 7) {i : Nat} (hi : i < 8) : P i := by
  rcases (show i = 0 ∨ i = 1 ∨ i = 2 ∨ i = 3 ∨ i = 4 ∨ i = 5 ∨ i = 6 ∨ i = 7 by omega) with rfl | rfl | rfl | rfl | rfl | rfl | rfl | rfl <;> assumption
theorem vp_cell_congr {cA : ClassId} {n : Nat} {f g : FS} (h : ∀ j, j < n → f j = g j) : vp_cell cA (n, .inl f) = vp_cell cA (n, .inl g) := by
  rw [vp_cell_i, vp_cell_i]
  unfold arrV
  congr 1
  apply Array.ext
  · simp
  · intro i h1 h2
    simp only [Array.getElem_ofFn]
    simp only [Array.size_ofFn] at h1
    rw [h i h1]
theorem va_P_set_congr {D : va_G} {ws : va_W} {q0 a : Nat} {e e' : va_E} {H : Heap} (h : va_P D vwCl (ws.set q0 (a, e)) H) (he : va_at D vwCl (a, e) H → va_at D vwCl (a, e') H) : va_P D vwCl (ws.set q0 (a, e')) H := by
  intro k q hk
  by_cases hkq : k = q0
  · subst hkq
    by_cases hl : k < ws.length
    · rw [List.getElem?_set_self hl] at hk
      cases hk
      exact he (h k (a, e) (by rw [List.getElem?_set_self hl]))
    · rw [List.getElem?_eq_none (by simp; omega)] at hk
      cases hk
  · rw [List.getElem?_set_ne (Ne.symm hkq)] at hk
    exact h k q (by rw [List.getElem?_set_ne (Ne.symm hkq)]; exact hk)
theorem va_D_set_congr {A : Nat → Prop} {ws : va_W} {q0 a : Nat} {e e' : va_E} (h : va_D A (ws.set q0 (a, e))) : va_D A (ws.set q0 (a, e')) := by
  rw [va_D_iff] at h ⊢
  have hm : (ws.set q0 (a, e')).map (fun q => q.1) = (ws.set q0 (a, e)).map (fun q => q.1) := by rw [List.map_set, List.map_set]
  refine ⟨hm ▸ h.1, fun q hq => ?_⟩
  have h1 : q.1 ∈ (ws.set q0 (a, e')).map (fun q => q.1) := List.mem_map.mpr ⟨q, hq, rfl⟩
  rw [hm] at h1
  obtain ⟨q', h2, h3⟩ := List.mem_map.mp h1
  rw [← h3]
  exact h.2 q' h2
section MF
variable {p : Program} {l : Launch} {e : Env} {R : Room} {s : State} {m : MethodId} {args : Array Value} {below : List Frame} {meth : Method} {c : Code} {H : Heap} {locs : List Loc} {cells slots : Nat} {Q : State → Prop}
variable {cc : ByteArray} {pc : Nat} {ls : Array Slot} {rest : List Value} {A : Nat → Prop} {a : Nat} {tys : List (ClassId × FieldType)} {ws : va_W} {D : va_G} {dC : Nat → ClassId} {dI : Nat → Nat → Nat} {nL index : Nat} {Ts : List Cond} {own : String}
/-- a whole row of ints copied -/
theorem g_acopy {cA : ClassId} {n0 a0 : Nat} {f g : FS} {n : Int32} {w2 : va_W} (hx : p.tables.exec = Jvm.exec) (hb : c.code = cc) (hml : c.maxLocals = ls.size) (hown : s.vm.findClass own = some m.cls) (hlink : (Cond.methodLink own index arraycopyName).before args s = true) (hnat : (Cond.native arraycopyName).before args s = true) (hstat : (Cond.static arraycopyName).before args s = true) (hini : (Cond.initialized "java/lang/System").before args s = true)
    (hK : va_K D vwCl tys s) (hB : Bd D tys A s ws H locs) (q0 q1 : Nat) (ha0 : ws[q0]? = some (a0, .inl (cA, n0, .inl f))) (ha1 : ws[q1]? = some (a, .inl (cA, n0, .inl g))) (ht : tys[0]? = some (cA, .int)) (hn : n = nI n0) (hn0 : n0 < 2 ^ 31) (hframes : 1 ≤ R.frames) (hlocals : (rest.map fun v => v.category).sum + (nativeFrameWords "java/lang/System" "arraycopy" 5 + 11) ≤ R.locals) (hdg : decode cc pc = .ok (.invokestatic index, 3)) (hw : ws.set q1 (a, .inl (cA, n0, .inl f)) = w2)
    (k : ∀ (H : Heap) (locs : List Loc), Bd D tys A s w2 H locs → W p l e R s m args below meth c H locs cells slots Q (F0 m (pc + 3) ls rest)) : W p l e R s m args below meth c H locs cells slots Q (F0 m pc ls (.int n :: .int (0 : Int32) :: .ref a :: .int (0 : Int32) :: .ref a0 :: rest)) := by
  subst hn
  have hz : ((0 : Int32)).toNatClampNeg = 0 := by decide
  have hc : (nI n0).toNatClampNeg = n0 := nI_clamp hn0
  refine va_copyi hx hb hml hown hlink hnat hstat hini hK hB.1 hB.2.1 hB.2.2 q0 q1 0 0 ha0 ha1 ht ht (by decide) (by decide) (by decide) (nI_pos hn0) (by rw [hz, hc]; omega) (by rw [hz, hc]; omega) (fun i _ => rfl) hframes hlocals hdg (fun H locs hP hD hS => ?_)
  refine k H locs ?_
  rw [← hw]
  refine ⟨va_P_set_congr hP fun h => ?_, va_D_set_congr hD, hS⟩
  have h : H[a]? = some (vp_cell cA (n0, .inl _)) := h
  show H[a]? = some (vp_cell cA (n0, .inl f))
  rw [h, vp_cell_congr (fun j hj => ?_)]
  rw [hz, hc, pk_cpy_in (by omega) (by omega)]
  congr 1
  omega
theorem Met.mono {y : MethodName} {wsy : List Cond} {rm : Room} {Pc : Array Value → State → Prop} {Qc Qc' : Array Value → State → Outcome → State → Prop} {mc ms : Nat} {free : Addr → Prop} (h : Met l y wsy rm Pc Qc mc ms free) (hq : ∀ a st o t, Qc a st o t → Qc' a st o t) : Met l y wsy rm Pc Qc' mc ms free := by
  intro p e ha hc hk s m args below hf happ hP hK
  obtain ⟨k, o, h1, h2, h3, h4, h5⟩ := h p e ha hc hk s m args below hf happ hP hK
  exact ⟨k, o, h1, h2, h3, hq _ _ _ _ h4, h5⟩
end MF
theorem fill_eq {n : Nat} (hn : n < 1000) (v : Int32) : ∀ (k i fu : Nat) (f : FS), i + k = n → k < fu → (∀ j, j < i → f j = v) → ∃ g : FS, loopM (fun st => mJ7_fill_53178_L5 1000 n (nI n) v st.1 st.2) fu (nI i, f) = some g ∧ ∀ j, j < n → g j = v := by
  intro k
  induction k with
  | zero =>
    intro i fu f hik hfu hf
    obtain ⟨fu, rfl⟩ : ∃ q, fu = q + 1 := ⟨fu - 1, by omega⟩
    have e : i = n := by omega
    subst e
    refine ⟨f, ?_, hf⟩
    unfold loopM mJ7_fill_53178_L5
    rw [if_pos (Int32.le_refl _)]
    rfl
  | succ k ih =>
    intro i fu f hik hfu hf
    obtain ⟨fu, rfl⟩ : ∃ q, fu = q + 1 := ⟨fu - 1, by omega⟩
    obtain ⟨g, h1, h2⟩ := ih (i + 1) fu (upd f i v) (by omega) (by omega) (fun j hj => by
      unfold upd
      by_cases e : j = i
      · rw [if_pos e]
      · rw [if_neg e]; exact hf j (by omega))
    refine ⟨g, ?_, h2⟩
    unfold loopM mJ7_fill_53178_L5
    rw [if_neg (nI_ge (by omega) (by omega))]
    have hw : wr f n (nI i) v = some (upd f i v) := by
      unfold wr
      have h : ¬ (nI i < 0 ∨ n ≤ (nI i).toNatClampNeg) := vp_in_nI (by omega) (by omega)
      rw [if_neg h, nI_clamp (by omega)]
    rw [hw]
    show loopM _ fu (nI i + 1, upd f i v) = some g
    rw [nI_1]
    exact h1
theorem kfill (l : Launch) (dC : Nat → ClassId) (dI : Nat → Nat → Nat) (cyI : ClassId) (a0 : Nat) (sz : Nat) {n : Nat} {f : FS} {v : Int32} (hn : n < 1000) : Met l yJ7_fill_53178 wsJ7_fill_53178 rmJ7_fill_53178 (PcF (dC, dI) [(cyI, .int)] [(a0, .inl (cyI, n, .inl f))] sz [.ref a0, .int v]) (QvF (dC, dI) [(cyI, .int)] [(a0, .inl (cyI, n, .inl f))] [(a0, .inl (cyI, n, .inl (fun _ => v)))] sz) 0 0 (va_A [(a0, .inl (cyI, n, .inl f))] sz) := by
  obtain ⟨g, h1, h2⟩ := fill_eq hn v n 0 1000 f (by omega) hn (fun j hj => by omega)
  have hf : mJ7_fill_53178 1000 n f v = some g := by
    unfold mJ7_fill_53178
    have h3 : loopM (fun st => mJ7_fill_53178_L5 1000 n (Int32.ofNat n) v st.1 st.2) 1000 ((0 : Int32), f) = some g := h1
    rw [h3]
    rfl
  refine Met.mono (kJ7_fill_53178 l dC dI cyI a0 sz hf) ?_
  rintro a st o t ⟨⟨u, ho, -, hP, hK, hD⟩, hF⟩
  refine ⟨⟨u, ho, trivial, ?_, hK, ?_⟩, hF⟩
  · exact va_P_set_congr (ws := [(a0, .inl (cyI, n, .inl g))]) (q0 := 0) (a := a0) (e := .inl (cyI, n, .inl g)) hP fun h => by
      have h : t.heap[a0]? = some (vp_cell cyI (n, .inl g)) := h
      show t.heap[a0]? = some (vp_cell cyI (n, .inl (fun _ => v)))
      rw [h, vp_cell_congr h2]
  · exact va_D_set_congr (ws := [(a0, .inl (cyI, n, .inl g))]) (q0 := 0) (a := a0) (e := .inl (cyI, n, .inl g)) hD
section MFF
variable {p : Program} {l : Launch} {e : Env} {R : Room} {s : State} {m : MethodId} {args : Array Value} {below : List Frame} {meth : Method} {c : Code} {H : Heap} {locs : List Loc} {cells slots : Nat} {Q : State → Prop}
variable {cc : ByteArray} {pc : Nat} {ls : Array Slot} {rest : List Value} {A : Nat → Prop} {a : Nat} {tys : List (ClassId × FieldType)} {ws : va_W} {dC : Nat → ClassId} {dI : Nat → Nat → Nat} {nL index : Nat} {Ts : List Cond} {own : String}
theorem spl_one {ws : va_W} {p0 : Nat} {y0 y : Nat × va_E} (hb : ws[p0]? = some y0) : spl ws [p0] [y] = ws.set p0 y := by
  apply List.ext_getElem?
  intro k
  unfold spl
  rw [List.getElem?_mapIdx]
  by_cases h1 : k = p0
  · subst h1
    have hl := (List.getElem?_eq_some_iff.mp hb).1
    rw [List.getElem?_set_self hl, hb]
    have : ([k] : List Nat).idxOf? k = some 0 := by simp [List.idxOf?, List.findIdx?_cons]
    simp [this]
  · rw [List.getElem?_set_ne (Ne.symm h1)]
    have : ([p0] : List Nat).idxOf? k = none := by simp [List.idxOf?, List.findIdx?_cons, Ne.symm h1]
    simp [this]
theorem g_fill {cyI : ClassId} {n : Nat} {f : FS} {v : Int32} {w2 : va_W} (hx : p.tables.exec = Jvm.exec) (hb : c.code = cc) (hml : c.maxLocals = nL) (hown : s.vm.findClass own = some m.cls) (hts : ∀ w ∈ Ts, w.before args s = true) (cw : CallB R s args own index yJ7_fill_53178 cJ7_fill_53178 4 none wsJ7_fill_53178 rmJ7_fill_53178 0 0 2 ∧ (Cond.static yJ7_fill_53178).before args s = true) (hK : va_K (dC, dI) vwCl tys s) (ht : tys[0]? = some (cyI, .int)) (hB : Bd (dC, dI) tys A s ws H locs) (hA : ∀ q, s.heap.size ≤ q → A q) (p0 : Nat) (ha : ws[p0]? = some (a, .inl (cyI, n, .inl f))) (hn : n < 1000) (hw : ws.set p0 (a, .inl (cyI, n, .inl (fun _ => v))) = w2)
    (hsize : ls.size = nL) (hW : (rest.map fun v => v.category).sum ≤ 8) (hdg : decode cc pc = .ok (.invokestatic index, 3)) (hf : cells ≤ R.cells ∧ slots ≤ R.slots)
    (k : ∀ (H : Heap) (locs : List Loc), Bd (dC, dI) tys A s w2 H locs → W p l e R s m args below meth c H locs cells slots Q (F0 m (pc + 3) ls rest)) : W p l e R s m args below meth c H locs cells slots Q (F0 m pc ls (.int v :: .ref a :: rest)) := by
  refine g_cutSv (As := [.ref a, .int v]) (rest := rest) (w2 := w2) ⟨hx, hb, hml, hown, hts⟩ (kfill (f := f) l dC dI cyI a H.size hn) cw (hK.sub [0] (by simp [ht])) hB hA [p0] (by simp [va_nd]) (by simp [ha]) rfl ?_ rfl hsize rfl hW hdg hf k
  rw [spl_one ha]
  exact hw
end MFF
