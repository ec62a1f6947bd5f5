/-! the history's rows, and copying -/
theorem co_8 {P : Nat → Prop} (h0 : P 0) (h1 : P 1) (h2 : P 2) (h3 : P 3) (h4 : P 4) (h5 : P 5) (h6 : P 6) (h7 : P 7) {i : Nat} (hi : i < 8) : P i := by
  rcases (show i = 0 ∨ i = 1 ∨ i = 2 ∨ i = 3 ∨ i = 4 ∨ i = 5 ∨ i = 6 ∨ i = 7 by omega) with rfl | rfl | rfl | rfl | rfl | rfl | rfl | rfl <;> assumption
theorem hM_at (cyI cyO : ClassId) (ad : Nat → Nat) (μ : MS) {j : Nat} (hj : j < 8) : (cM cyI cyO ad μ)[6 + j]? = some (ad (20 + j), .inl (cyI, 451, .inl (μ (20 + j)))) :=
  co_8 (P := fun j => (cM cyI cyO ad μ)[6 + j]? = some (ad (20 + j), .inl (cyI, 451, .inl (μ (20 + j))))) rfl rfl rfl rfl rfl rfl rfl rfl hj
theorem hM_set (cyI cyO : ClassId) (ad : Nat → Nat) (μ : MS) {j : Nat} (hj : j < 8) (f : FS) : (cM cyI cyO ad μ).set (6 + j) (ad (20 + j), .inl (cyI, 451, .inl f)) = cM cyI cyO ad (va_up μ (20 + j) f) :=
  co_8 (P := fun j => (cM cyI cyO ad μ).set (6 + j) (ad (20 + j), .inl (cyI, 451, .inl f)) = cM cyI cyO ad (va_up μ (20 + j) f)) rfl rfl rfl rfl rfl rfl rfl rfl hj
section MC
variable {p : Program} {l : Launch} {e : Env} {R : Room} {s : State} {m : MethodId} {args : Array Value} {below : List Frame} {meth : Method} {c : Code} {H : Heap} {locs : List Loc} {cells slots : Nat} {Q : State → Prop}
variable {cc : ByteArray} {pc : Nat} {ls : Array Slot} {rest : List Value} {A : Nat → Prop} {tys : List (ClassId × FieldType)} {ws : va_W} {dC : Nat → ClassId} {dI : Nat → Nat → Nat} {nL index : Nat} {Ts : List Cond} {own : String}
theorem g_copy {cyI : ClassId} {fu a b : Nat} {f g g1 : FS} {w2 : va_W} (hx : p.tables.exec = Jvm.exec) (hb : c.code = cc) (hml : c.maxLocals = nL) (hown : s.vm.findClass own = some m.cls) (hts : ∀ w ∈ Ts, w.before args s = true) (hc : mX4_copy fu f g = some g1) (cw : CallB R s args own index yX4_copy cX4_copy 3 none wsX4_copy rmX4_copy 0 0 2 ∧ (Cond.static yX4_copy).before args s = true) (hK : va_K (dC, dI) vwCl tys s) (ht : tys[0]? = some (cyI, .int)) (hB : Bd (dC, dI) tys A s ws H locs) (hA : ∀ q, s.heap.size ≤ q → A q) (pa pb : Nat) (ha : ws[pa]? = some (a, .inl (cyI, 451, .inl f))) (hb1 : ws[pb]? = some (b, .inl (cyI, 451, .inl g))) (hne : pa ≠ pb) (hw : ws.set pb (b, .inl (cyI, 451, .inl g1)) = w2)
    (hsize : ls.size = nL) (hstack : [.ref b, .ref a] ++ rest = [.ref b, .ref a] ++ rest) (hW : (rest.map fun v => v.category).sum ≤ 8) (hdg : decode cc pc = .ok (.invokestatic index, 3)) (hf : cells ≤ R.cells ∧ slots ≤ R.slots)
    (k : ∀ (H : Heap) (locs : List Loc), Bd (dC, dI) tys A s w2 H locs → W p l e R s m args below meth c H locs cells slots Q (F0 m (pc + 3) ls rest)) : W p l e R s m args below meth c H locs cells slots Q (F0 m pc ls (.ref b :: .ref a :: rest)) := by
  refine g_cutSv (As := [.ref a, .ref b]) (rest := rest) (w2 := w2) ⟨hx, hb, hml, hown, hts⟩ (kX4_copy l dC dI cyI a b H.size hc) cw (hK.sub [0] (by simp [ht])) hB hA [pa, pb] (by simp [va_nd, hne]) (by simp [ha, hb1]) rfl ?_ rfl hsize rfl hW hdg hf k
  rw [spl_set ha hb1 hne]
  exact hw
end MC
