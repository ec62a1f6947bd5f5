/-! base: the combinators of the mirrors, and rows of our own over the kit's -/
abbrev MS : Type := Nat → Nat → Int32
abbrev FS : Type := Nat → Int32
abbrev PA : Type := Nat → Nat
abbrev WS : Type := Nat → MS
def ob1 {α γ : Type} (a : Option α) (f : α → Option γ) : Option γ := match a with
  | none => none
  | some x => f x
theorem ob1_s {α γ : Type} {a : Option α} {f : α → Option γ} {o : γ} (h : ob1 a f = some o) : ∃ x, a = some x ∧ f x = some o := by
  cases a with
  | none => cases h
  | some x => exact ⟨x, rfl, h⟩
def ob2 {α β γ : Type} (a : Option (α × β)) (f : α → β → Option γ) : Option γ := ob1 a fun p => f p.1 p.2
theorem ob2_s {α β γ : Type} {a : Option (α × β)} {f : α → β → Option γ} {o : γ} (h : ob2 a f = some o) : ∃ x y, a = some (x, y) ∧ f x y = some o := by
  obtain ⟨⟨x, y⟩, h1, h2⟩ := ob1_s h
  exact ⟨x, y, h1, h2⟩
def ob3 {α β δ γ : Type} (a : Option (α × β × δ)) (f : α → β → δ → Option γ) : Option γ := ob1 a fun p => f p.1 p.2.1 p.2.2
theorem ob3_s {α β δ γ : Type} {a : Option (α × β × δ)} {f : α → β → δ → Option γ} {o : γ} (h : ob3 a f = some o) : ∃ x y z, a = some (x, y, z) ∧ f x y z = some o := by
  obtain ⟨⟨x, y, z⟩, h1, h2⟩ := ob1_s h
  exact ⟨x, y, z, h1, h2⟩
def ob4 {α β δ ε γ : Type} (a : Option (α × β × δ × ε)) (f : α → β → δ → ε → Option γ) : Option γ := ob1 a fun p => f p.1 p.2.1 p.2.2.1 p.2.2.2
theorem ob4_s {α β δ ε γ : Type} {a : Option (α × β × δ × ε)} {f : α → β → δ → ε → Option γ} {o : γ} (h : ob4 a f = some o) : ∃ x y z w, a = some (x, y, z, w) ∧ f x y z w = some o := by
  obtain ⟨⟨x, y, z, w⟩, h1, h2⟩ := ob1_s h
  exact ⟨x, y, z, w, h1, h2⟩
def ob5 {α β δ ε ζ γ : Type} (a : Option (α × β × δ × ε × ζ)) (f : α → β → δ → ε → ζ → Option γ) : Option γ := ob1 a fun p => f p.1 p.2.1 p.2.2.1 p.2.2.2.1 p.2.2.2.2
theorem ob5_s {α β δ ε ζ γ : Type} {a : Option (α × β × δ × ε × ζ)} {f : α → β → δ → ε → ζ → Option γ} {o : γ} (h : ob5 a f = some o) : ∃ x y z w v, a = some (x, y, z, w, v) ∧ f x y z w v = some o := by
  obtain ⟨⟨x, y, z, w, v⟩, h1, h2⟩ := ob1_s h
  exact ⟨x, y, z, w, v, h1, h2⟩
theorem inj1 {α : Type} {a x : α} (h : some a = some x) : a = x := Option.some.inj h
theorem inj2 {α β : Type} {a x : α} {b y : β} (h : some (a, b) = some (x, y)) : a = x ∧ b = y := by cases h; exact ⟨rfl, rfl⟩
theorem inj3 {α β δ : Type} {a x : α} {b y : β} {c z : δ} (h : some (a, b, c) = some (x, y, z)) : a = x ∧ b = y ∧ c = z := by cases h; exact ⟨rfl, rfl, rfl⟩
theorem inj4 {α β δ ε : Type} {a x : α} {b y : β} {c z : δ} {d w : ε} (h : some (a, b, c, d) = some (x, y, z, w)) : a = x ∧ b = y ∧ c = z ∧ d = w := by cases h; exact ⟨rfl, rfl, rfl, rfl⟩
theorem inj5 {α β δ ε ζ : Type} {a x : α} {b y : β} {c z : δ} {d w : ε} {e v : ζ} (h : some (a, b, c, d, e) = some (x, y, z, w, v)) : a = x ∧ b = y ∧ c = z ∧ d = w ∧ e = v := by cases h; exact ⟨rfl, rfl, rfl, rfl, rfl⟩
theorem pinj2 {α β : Type} {a x : α} {b y : β} (h : (a, b) = (x, y)) : a = x ∧ b = y := by cases h; exact ⟨rfl, rfl⟩
theorem pinj3 {α β δ : Type} {a x : α} {b y : β} {c z : δ} (h : (a, b, c) = (x, y, z)) : a = x ∧ b = y ∧ c = z := by cases h; exact ⟨rfl, rfl, rfl⟩
theorem pinj4 {α β δ ε : Type} {a x : α} {b y : β} {c z : δ} {d w : ε} (h : (a, b, c, d) = (x, y, z, w)) : a = x ∧ b = y ∧ c = z ∧ d = w := by cases h; exact ⟨rfl, rfl, rfl, rfl⟩
theorem pinj5 {α β δ ε ζ : Type} {a x : α} {b y : β} {c z : δ} {d w : ε} {e v : ζ} (h : (a, b, c, d, e) = (x, y, z, w, v)) : a = x ∧ b = y ∧ c = z ∧ d = w ∧ e = v := by cases h; exact ⟨rfl, rfl, rfl, rfl, rfl⟩
theorem ite_t {c : Prop} [Decidable c] {γ : Type} {a b : Option γ} {o : γ} (hc : c) (h : (if c then a else b) = some o) : a = some o := by rwa [if_pos hc] at h
theorem ite_f {c : Prop} [Decidable c] {γ : Type} {a b : Option γ} {o : γ} (hc : ¬ c) (h : (if c then a else b) = some o) : b = some o := by rwa [if_neg hc] at h
/-- a decision: true the first, false the second -/
def cnd {γ : Type} (t : Bool) (a b : Option γ) : Option γ := match t with
  | true => a
  | false => b
theorem cnd_t {γ : Type} {t : Bool} {a b : Option γ} {o : γ} (ht : t = true) (h : cnd t a b = some o) : a = some o := by subst ht; exact h
theorem cnd_f {γ : Type} {t : Bool} {a b : Option γ} {o : γ} (ht : t = false) (h : cnd t a b = some o) : b = some o := by subst ht; exact h
/-- the end of a loop: by an answer, or by its own end -/
def el1 {ρ α γ : Type} (b : ρ ⊕ α) (f : ρ → Option γ) (g : α → Option γ) : Option γ := match b with
  | .inl r => f r
  | .inr s => g s
theorem el1_l {ρ α γ : Type} {b : ρ ⊕ α} {f : ρ → Option γ} {g : α → Option γ} {r : ρ} {o : γ} (hb : Sum.inl r = b) (h : el1 b f g = some o) : f r = some o := by subst hb; exact h
theorem el1_r {ρ α γ : Type} {b : ρ ⊕ α} {f : ρ → Option γ} {g : α → Option γ} {s : α} {o : γ} (hb : Sum.inr s = b) (h : el1 b f g = some o) : g s = some o := by subst hb; exact h
def el2 {ρ α β γ : Type} (b : ρ ⊕ (α × β)) (f : ρ → Option γ) (g : α → β → Option γ) : Option γ := el1 b f fun p => g p.1 p.2
theorem el2_l {ρ α β γ : Type} {b : ρ ⊕ (α × β)} {f : ρ → Option γ} {g : α → β → Option γ} {r : ρ} {o : γ} (hb : Sum.inl r = b) (h : el2 b f g = some o) : f r = some o := by subst hb; exact h
theorem el2_r {ρ α β γ : Type} {b : ρ ⊕ (α × β)} {f : ρ → Option γ} {g : α → β → Option γ} {s : α} {t : β} {o : γ} (hb : Sum.inr (s, t) = b) (h : el2 b f g = some o) : g s t = some o := by subst hb; exact h
def el3 {ρ α β δ γ : Type} (b : ρ ⊕ (α × β × δ)) (f : ρ → Option γ) (g : α → β → δ → Option γ) : Option γ := el1 b f fun p => g p.1 p.2.1 p.2.2
theorem el3_l {ρ α β δ γ : Type} {b : ρ ⊕ (α × β × δ)} {f : ρ → Option γ} {g : α → β → δ → Option γ} {r : ρ} {o : γ} (hb : Sum.inl r = b) (h : el3 b f g = some o) : f r = some o := by subst hb; exact h
theorem el3_r {ρ α β δ γ : Type} {b : ρ ⊕ (α × β × δ)} {f : ρ → Option γ} {g : α → β → δ → Option γ} {s : α} {t : β} {u : δ} {o : γ} (hb : Sum.inr (s, t, u) = b) (h : el3 b f g = some o) : g s t u = some o := by subst hb; exact h
def loopM {α β : Type} (f : α → Option (β ⊕ α)) : Nat → α → Option β
  | 0, _ => none
  | n + 1, a => ob1 (f a) fun r => el1 r (fun b => some b) fun a' => loopM f n a'
theorem loopM_z {α β : Type} {f : α → Option (β ⊕ α)} {a : α} {b : β} (h : loopM f 0 a = some b) : False := by cases h
theorem loopM_s {α β : Type} {f : α → Option (β ⊕ α)} {n : Nat} {a : α} {b : β} (h : loopM f (n + 1) a = some b) : ∃ r, f a = some r ∧ el1 r (fun b => some b) (fun a' => loopM f n a') = some b := ob1_s h
theorem loopM_l {α β : Type} {f : α → Option (β ⊕ α)} {n : Nat} {a : α} {b : β} (h : f a = some (.inl b)) : loopM f (n + 1) a = some b := by
  unfold loopM
  rw [h]
  rfl
theorem loopM_r {α β : Type} {f : α → Option (β ⊕ α)} {n : Nat} {a a' : α} (h : f a = some (.inr a')) : loopM f (n + 1) a = loopM f n a' := by
  show ob1 (f a) _ = _
  rw [h]
  rfl
/-- an array's read and write, an int field's write -/
def rd (f : FS) (n : Nat) (i : Int32) : Option Int32 := if i < 0 ∨ n ≤ i.toNatClampNeg then none else some (f i.toNatClampNeg)
theorem rd_s {f : FS} {n : Nat} {i x : Int32} (h : rd f n i = some x) : vp_in i n ∧ f i.toNatClampNeg = x := by
  unfold rd at h
  split at h
  · cases h
  · next q => exact ⟨q, Option.some.inj h⟩
def wr (f : FS) (n : Nat) (i x : Int32) : Option FS := if i < 0 ∨ n ≤ i.toNatClampNeg then none else some (upd f i.toNatClampNeg x)
theorem wr_s {f f1 : FS} {n : Nat} {i x : Int32} (h : wr f n i x = some f1) : vp_in i n ∧ upd f i.toNatClampNeg x = f1 := by
  unfold wr at h
  split at h
  · cases h
  · next q => exact ⟨q, Option.some.inj h⟩
def wra (μ : MS) (k n : Nat) (i x : Int32) : Option MS := if i < 0 ∨ n ≤ i.toNatClampNeg then none else some (va_up μ k (upd (μ k) i.toNatClampNeg x))
theorem wra_s {μ μ1 : MS} {k n : Nat} {i x : Int32} (h : wra μ k n i x = some μ1) : vp_in i n ∧ va_up μ k (upd (μ k) i.toNatClampNeg x) = μ1 := by
  unfold wra at h
  split at h
  · cases h
  · next q => exact ⟨q, Option.some.inj h⟩
def pf (μ : MS) (k : Nat) (x : Int32) : MS := va_up μ k (fun _ => x)
/-- an answer, or the name of what was thrown -/
def obX {α γ : Type} (m : Option (String ⊕ α)) (f : α → Option (String ⊕ γ)) : Option (String ⊕ γ) := ob1 m fun r => el1 r (fun E => some (.inl E)) f
theorem obX_s {α γ : Type} {m : Option (String ⊕ α)} {f : α → Option (String ⊕ γ)} {o : String ⊕ γ} (h : obX m f = some o) : ∃ r, m = some r ∧ (∀ E, r = .inl E → o = .inl E) ∧ ∀ x, r = .inr x → f x = some o := by
  obtain ⟨r, h1, h2⟩ := ob1_s h
  refine ⟨r, h1, fun E hE => ?_, fun x hx => ?_⟩
  · subst hE; exact (Option.some.inj h2).symm
  · subst hx; exact h2
/-- a world and its setup stand first -/
def gW (sid : Nat → Nat) (n w : Nat) : Option Unit := if w < 10 ∧ sid w < n then some () else none
theorem gW_s {sid : Nat → Nat} {n w : Nat} {u : Unit} (h : gW sid n w = some u) : w < 10 ∧ sid w < n := by
  unfold gW at h
  by_cases q : w < 10 ∧ sid w < n
  · exact q
  · rw [if_neg q] at h; cases h
/-- two worlds stand first -/
def gC (w v : Nat) (sid : Nat → Nat) (n : Nat) : Option Unit := if w < 10 ∧ v < 10 ∧ w ≠ v ∧ sid w < n ∧ sid v < n then some () else none
theorem gC_s {sid : Nat → Nat} {n w v : Nat} {u : Unit} (h : gC w v sid n = some u) : w < 10 ∧ v < 10 ∧ w ≠ v ∧ sid w < n ∧ sid v < n := by
  unfold gC at h
  by_cases q : w < 10 ∧ v < 10 ∧ w ≠ v ∧ sid w < n ∧ sid v < n
  · exact q
  · rw [if_neg q] at h; cases h
/-- a contract's start and end: the cells w0, then w1 -/
def PcF (D : va_G) (tys : List (ClassId × FieldType)) (w0 : va_W) (sz : Nat) (av : List Value) : Array Value → State → Prop := va_Pc av (fun U => U.heap.size = sz ∧ va_P D vwCl w0 U.heap ∧ va_K D vwCl tys U ∧ va_D (fun _ => True) w0)
abbrev BF (D : va_G) (tys : List (ClassId × FieldType)) (w0 w1 : va_W) (sz : Nat) : Unit → State → Prop := fun _ t => va_P D vwCl w1 t.heap ∧ va_K D vwCl tys t ∧ va_D (va_A w0 sz) w1
abbrev QiF (D : va_G) (tys : List (ClassId × FieldType)) (w0 w1 : va_W) (sz : Nat) (r0 : Int32) : Array Value → State → Outcome → State → Prop := va_Qi (fun r (_ : Unit) => r = r0) (BF D tys w0 w1 sz) (va_A w0 sz)
abbrev QzF (D : va_G) (tys : List (ClassId × FieldType)) (w0 w1 : va_W) (sz : Nat) (r0 : Int32) : Array Value → State → Outcome → State → Prop := va_Qi (fun r (_ : Unit) => r = r0 ∧ (r0 = 0 ∨ r0 = 1)) (BF D tys w0 w1 sz) (va_A w0 sz)
abbrev QlF (D : va_G) (tys : List (ClassId × FieldType)) (w0 w1 : va_W) (sz : Nat) (r0 : Int64) : Array Value → State → Outcome → State → Prop := va_Ql (fun r (_ : Unit) => r = r0) (BF D tys w0 w1 sz) (va_A w0 sz)
abbrev QvF (D : va_G) (tys : List (ClassId × FieldType)) (w0 w1 : va_W) (sz : Nat) : Array Value → State → Outcome → State → Prop := va_Qv (fun _ : Unit => True) (BF D tys w0 w1 sz) (va_A w0 sz)
theorem PcF_blind (D : va_G) (tys : List (ClassId × FieldType)) (w0 : va_W) (sz : Nat) (av : List Value) : FrameBlind (PcF D tys w0 sz av) := fun a U g mk q => by
  obtain ⟨q0, q1, qP, qK, qD⟩ := q
  exact ⟨q0, q1, qP, va_K.moved (u := U) (U := U.calling g mk a) (Vm.Alike.refl U.vm) qK, qD⟩
theorem narrow_z {r : Int32} (h : r = 0 ∨ r = 1) : narrow .boolean (.int r) = .int r := by
  rcases h with rfl | rfl <;> decide
section MY
variable {p : Program} {l : Launch} {e : Env} {R : Room} {s : State} {m : MethodId} {args : Array Value} {below : List Frame} {meth : Method} {c : Code} {H : Heap} {locs : List Loc} {cells slots : Nat} {Q : State → Prop}
variable {cc : ByteArray} {pc : Nat} {ls : Array Slot} {rest : List Value} {D : va_G} {A : Nat → Prop} {a : Nat} {tys : List (ClassId × FieldType)} {ws : va_W}
/-- what stands all through a body -/
abbrev Bd (D : va_G) (tys : List (ClassId × FieldType)) (A : Nat → Prop) (s : State) (ws : va_W) (H : Heap) (locs : List Loc) : Prop := va_P D vwCl ws H ∧ va_D A ws ∧ va_S A s.heap H locs
theorem g_iald (hx : p.tables.exec = Jvm.exec) (hb : c.code = cc) (hK : va_K D vwCl tys s) (hB : Bd D tys A s ws H locs) (q0 t0 : Nat) {cA : ClassId} {n : Nat} {f : FS} (ha : ws[q0]? = some (a, .inl (cA, n, .inl f))) (ht : tys[t0]? = some (cA, .int)) {i x : Int32} (hr : vp_in i n ∧ f i.toNatClampNeg = x) (hdg : decode cc pc = .ok (.iaload, 1))
    (k : W p l e R s m args below meth c H locs cells slots Q (F0 m (pc + 1) ls (.int x :: rest))) : W p l e R s m args below meth c H locs cells slots Q (F0 m pc ls (.int i :: .ref a :: rest)) := by
  refine va_iald hx hb hK hB.1 q0 t0 ha ht hr.1 hdg ?_
  rw [hr.2]
  exact k
theorem g_bald (hx : p.tables.exec = Jvm.exec) (hb : c.code = cc) (hK : va_K D vwCl tys s) (hB : Bd D tys A s ws H locs) (q0 t0 : Nat) {cA : ClassId} {n : Nat} {f : FS} (ha : ws[q0]? = some (a, .inl (cA, n, .inl f))) (ht : tys[t0]? = some (cA, .byte)) {i x : Int32} (hr : vp_in i n ∧ f i.toNatClampNeg = x) (hdg : decode cc pc = .ok (.baload, 1))
    (k : W p l e R s m args below meth c H locs cells slots Q (F0 m (pc + 1) ls (.int x :: rest))) : W p l e R s m args below meth c H locs cells slots Q (F0 m pc ls (.int i :: .ref a :: rest)) := by
  refine va_bald hx hb hK hB.1 q0 t0 ha ht hr.1 hdg ?_
  rw [hr.2]
  exact k
theorem g_iast (hx : p.tables.exec = Jvm.exec) (hb : c.code = cc) (hK : va_K D vwCl tys s) (hB : Bd D tys A s ws H locs) (q0 t0 : Nat) {cA : ClassId} {n : Nat} {f f1 : FS} (ha : ws[q0]? = some (a, .inl (cA, n, .inl f))) (ht : tys[t0]? = some (cA, .int)) {i x : Int32} (hin : vp_in i n) (hf : upd f i.toNatClampNeg x = f1) (hdg : decode cc pc = .ok (.iastore, 1)) {w2 : va_W} (hw : ws.set q0 (a, .inl (cA, n, .inl f1)) = w2)
    (k : ∀ (H : Heap) (locs : List Loc), Bd D tys A s w2 H locs → W p l e R s m args below meth c H locs cells slots Q (F0 m (pc + 1) ls rest)) : W p l e R s m args below meth c H locs cells slots Q (F0 m pc ls (.int x :: .int i :: .ref a :: rest)) := by
  refine va_iast hx hb hK hB.1 hB.2.1 hB.2.2 q0 t0 ha ht hin hdg (fun H locs hP hD hS => ?_)
  rw [hf, hw] at hP hD
  exact k H locs ⟨hP, hD, hS⟩
theorem g_bast (hx : p.tables.exec = Jvm.exec) (hb : c.code = cc) (hK : va_K D vwCl tys s) (hB : Bd D tys A s ws H locs) (q0 t0 : Nat) {cA : ClassId} {n : Nat} {f f1 : FS} (ha : ws[q0]? = some (a, .inl (cA, n, .inl f))) (ht : tys[t0]? = some (cA, .byte)) {i x : Int32} (hin : vp_in i n) (hf : upd f i.toNatClampNeg (vp_nar .byte x) = f1) (hdg : decode cc pc = .ok (.bastore, 1)) {w2 : va_W} (hw : ws.set q0 (a, .inl (cA, n, .inl f1)) = w2)
    (k : ∀ (H : Heap) (locs : List Loc), Bd D tys A s w2 H locs → W p l e R s m args below meth c H locs cells slots Q (F0 m (pc + 1) ls rest)) : W p l e R s m args below meth c H locs cells slots Q (F0 m pc ls (.int x :: .int i :: .ref a :: rest)) := by
  refine va_bast hx hb hK hB.1 hB.2.1 hB.2.2 q0 t0 ha ht hin hdg (fun H locs hP hD hS => ?_)
  rw [hf, hw] at hP hD
  exact k H locs ⟨hP, hD, hS⟩
theorem g_alen (hx : p.tables.exec = Jvm.exec) (hb : c.code = cc) (hK : va_K D vwCl tys s) (hB : Bd D tys A s ws H locs) (q0 t0 : Nat) {cA : ClassId} {x : vp_A} (ha : ws[q0]? = some (a, .inl (cA, x))) {ty : FieldType} (ht : tys[t0]? = some (cA, ty)) {v : Int32} (hv : Int32.ofNat x.1 = v) (hdg : decode cc pc = .ok (.arraylength, 1))
    (k : W p l e R s m args below meth c H locs cells slots Q (F0 m (pc + 1) ls (.int v :: rest))) : W p l e R s m args below meth c H locs cells slots Q (F0 m pc ls (.ref a :: rest)) := va_alen hx hb hK hB.1 q0 t0 ha ht hv hdg k
theorem g_get {own ref C : String} {T : u_T} {N ci index : Nat} {Ts : List Cond} (hx : p.tables.exec = Jvm.exec) (hb : c.code = cc) (hts : ∀ w ∈ Ts, w.before args s = true) (hin : ∀ w ∈ u_ws C T N, w ∈ Ts) (hown : s.vm.findClass own = some m.cls) (hK : va_K D vwCl tys s) (hB : Bd D tys A s ws H locs) (q0 : Nat) {fs : List Value} (he : ws[q0]? = some (a, .inr (ci, fs))) (hc : vwCl[ci]? = some (C, T, N)) (k : Nat) (hk : Nat.blt k N = true) (hlink : (Cond.fieldLink own index ref (T k).2.1 (T k).2.2.1).before args s = true) (hsame : (T k).1 = ref) {v : Value} (hv : fs[k]? = some v) (hdg : decode cc pc = .ok (.getfield index, 3))
    (kk : W p l e R s m args below meth c H locs cells slots Q (F0 m (pc + 3) ls (v :: rest))) : W p l e R s m args below meth c H locs cells slots Q (F0 m pc ls (.ref a :: rest)) :=
  va_get hx hb hts hin hown hK hB.1 q0 he hc k (Nat.le_of_ble_eq_true hk) hlink (fun _ h => by rw [← hsame]; exact h) hv hdg kk
theorem g_put {own ref C : String} {T : u_T} {N ci index : Nat} {Ts : List Cond} (hx : p.tables.exec = Jvm.exec) (hb : c.code = cc) (hts : ∀ w ∈ Ts, w.before args s = true) (hin : ∀ w ∈ u_ws C T N, w ∈ Ts) (ty0 : Nat → FieldType) (hty : ∀ k, k < N → parseFieldDescriptor (T k).2.2.1 = some (ty0 k)) (hnm : ∀ a, a < N → ∀ b, b < N → a ≠ b → (T a).2.1 ≠ (T b).2.1) (hown : s.vm.findClass own = some m.cls) (hK : va_K D vwCl tys s) (hB : Bd D tys A s ws H locs) (q0 : Nat) {fs : List Value} (he : ws[q0]? = some (a, .inr (ci, fs))) (hc : vwCl[ci]? = some (C, T, N)) (k : Nat) (hk : Nat.blt k N = true) (hlink : (Cond.fieldLink own index ref (T k).2.1 (T k).2.2.1).before args s = true) (hsame : (T k).1 = ref) (hfin : (T k).2.2.2 = false) {ty : FieldType} {v : Value} (hd : ty0 k = ty) (hn : narrow ty v = v) (hfit : fits ty v = true) (hl : Nat.blt k fs.length = true) (hdg : decode cc pc = .ok (.putfield index, 3)) {w2 : va_W} (hw : ws.set q0 (a, .inr (ci, fs.set k v)) = w2)
    (kk : ∀ (H : Heap) (locs : List Loc), Bd D tys A s w2 H locs → W p l e R s m args below meth c H locs cells slots Q (F0 m (pc + 3) ls rest)) : W p l e R s m args below meth c H locs cells slots Q (F0 m pc ls (v :: .ref a :: rest)) := by
  refine va_put hx hb hts hin ty0 hty hnm hown hK hB.1 hB.2.1 hB.2.2 q0 he hc k (Nat.le_of_ble_eq_true hk) hlink (fun _ h => by rw [← hsame]; exact h) hfin (by rw [hty k (Nat.le_of_ble_eq_true hk), hd]) hn hfit (Nat.le_of_ble_eq_true hl) hdg (fun H locs hP hD hS => ?_)
  rw [hw] at hP hD
  exact kk H locs ⟨hP, hD, hS⟩
variable {y : MethodName} {bytes : ByteArray} {maxL nL mc ms n index : Nat} {ret : Option FieldType} {wsy : List Cond} {rm : Room} {Ts : List Cond} {own C : String} {b : Addr} {As : List Value} {st0 : List Value} {w0 w1 : va_W}
/-- the callee's cells are the caller's, all of them -/
theorem keep_all (hB : Bd D tys A s ws H locs) (hA : ∀ q, s.heap.size ≤ q → A q) : ∀ q, va_A ws H.size q → A q := by
  intro q h
  rcases h with ⟨k, e, h⟩ | h
  · exact hB.2.1.2 k (q, e) h
  · exact hA q (Nat.le_trans hB.2.2.1 h)
theorem pre_all (hB : Bd D tys A s ws H locs) (hK : va_K D vwCl tys s) (av : List Value) : FrameBlind (PcF D tys ws H.size av) ∧ ∀ U : State, U.heap = H → s.WarmedH U.vm → PcF D tys ws H.size av av.toArray U :=
  ⟨PcF_blind _ _ _ _ _, fun U hU hW => ⟨rfl, by rw [hU], by rw [hU]; exact hB.1, va_K.moved hW.alike hK, hB.2.1.weaken (fun _ _ _ _ => trivial)⟩⟩
theorem g_recv (hK : va_K D vwCl tys s) (hB : Bd D tys A s ws H locs) {ci : Nat} (q0 : Nat) {q : vw_C} {fs : List Value} (hc : vwCl[ci]? = some q) (he : ws[q0]? = some (a, .inr (ci, fs))) (hC : q.1 = C) : ∃ cell : Cell, H[a]? = some cell ∧ cell.vm.isStatics = false ∧ s.vm.findClass C = some cell.cls := by
  subst hC
  exact va_recv hK hB.1 hc he
/-- a world with some of its cells put anew -/
def spl (ws : va_W) (isC : List Nat) (w1 : va_W) : va_W := ws.mapIdx fun i c => match isC.idxOf? i with
  | none => c
  | some j => (w1[j]?).getD c
theorem spl_at {ws w1 : va_W} {isC : List Nat} (hlen : w1.length = isC.length) {k : Nat} {q : Nat × va_E} (h : (spl ws isC w1)[k]? = some q) : (∃ j : Nat, isC[j]? = some k ∧ w1[j]? = some q) ∨ (k ∉ isC ∧ ws[k]? = some q) := by
  unfold spl at h
  rw [List.getElem?_mapIdx] at h
  cases hc : ws[k]? with
  | none => rw [hc] at h; cases h
  | some c =>
    rw [hc] at h
    have h := Option.some.inj h
    cases hi : isC.idxOf? k with
    | none =>
      rw [hi] at h
      exact Or.inr ⟨List.idxOf?_eq_none_iff.mp hi, congrArg some h⟩
    | some j =>
      rw [hi] at h
      obtain ⟨hj, hjk, -⟩ := List.findIdx?_eq_some_iff_getElem.mp (by unfold List.idxOf? at hi; exact hi)
      refine Or.inl ⟨j, by rw [List.getElem?_eq_getElem hj, eq_of_beq hjk], ?_⟩
      have hj1 : j < w1.length := by omega
      have h : (w1[j]?).getD c = q := h
      rw [List.getElem?_eq_getElem hj1] at h ⊢
      exact congrArg some h
theorem cut_pre {wc : va_W} {tysc : List (ClassId × FieldType)} (hB : Bd D tys A s ws H locs) (hK : va_K D vwCl tysc s) (isC : List Nat) (hn : va_nd isC = true) (hC : isC.map (fun i => ws[i]?) = wc.map some) (av : List Value) : FrameBlind (PcF D tysc wc H.size av) ∧ ∀ U : State, U.heap = H → s.WarmedH U.vm → PcF D tysc wc H.size av av.toArray U := by
  refine ⟨PcF_blind _ _ _ _ _, fun U hU hW => ⟨rfl, by rw [hU], ?_, va_K.moved hW.alike hK, (hB.2.1.sub isC hn hC).weaken (fun _ _ _ _ => trivial)⟩⟩
  rw [hU]
  intro k q hk
  have h1 : (isC.map (fun i => ws[i]?))[k]? = some (some q) := by rw [hC, List.getElem?_map, hk]; rfl
  rw [List.getElem?_map] at h1
  cases hi : isC[k]? with
  | none => rw [hi] at h1; cases h1
  | some i => rw [hi] at h1; exact hB.1 i q (Option.some.inj h1)
theorem cut_back {wc w1 w2 : va_W} {H1 : Heap} {locs1 : List Loc} (hB : Bd D tys A s ws H locs) (isC : List Nat) (hC : isC.map (fun i => ws[i]?) = wc.map some) (hF : ∀ q, va_A wc H.size q → A q) (hk : ∀ q : Nat, q < H.size → ¬ va_A wc H.size q → H1[q]? = H[q]?) (hP1 : va_P D vwCl w1 H1) (hD1 : va_D (va_A wc H.size) w1) (hS : va_S A s.heap H1 locs1) (hlen : w1.length = isC.length) (hw : spl ws isC w1 = w2) : Bd D tys A s w2 H1 locs1 := by
  subst hw
  have apart : ∀ (k : Nat) (q : Nat × va_E), k ∉ isC → ws[k]? = some q → q.1 < H.size ∧ ¬ va_A wc H.size q.1 := by
    intro k q hn hq
    have hl := (hB.1 k q hq).lt
    refine ⟨hl, fun h => ?_⟩
    rcases h with ⟨k2, e, h⟩ | h
    · have h1 : (isC.map (fun i => ws[i]?))[k2]? = some (some (q.1, e)) := by rw [hC, List.getElem?_map, h]; rfl
      rw [List.getElem?_map] at h1
      cases hi : isC[k2]? with
      | none => rw [hi] at h1; cases h1
      | some i =>
        rw [hi] at h1
        have e1 := hB.2.1.1 k i q (q.1, e) hq (Option.some.inj h1) rfl
        subst e1
        exact hn (List.mem_of_getElem? hi)
    · omega
  refine ⟨fun k q hq => ?_, ⟨fun i j x y hi hj hxy => ?_, fun k q hq => ?_⟩, hS⟩
  · rcases spl_at hlen hq with ⟨j, -, h⟩ | ⟨hn, h⟩
    · exact hP1 j q h
    · obtain ⟨g1, g2⟩ := apart k q hn h
      exact (hB.1 k q h).kept (hk q.1 g1 g2)
  · rcases spl_at hlen hi with ⟨i', hi1, h1⟩ | ⟨hn1, h1⟩ <;> rcases spl_at hlen hj with ⟨j', hj1, h2⟩ | ⟨hn2, h2⟩
    · have e1 := hD1.1 i' j' x y h1 h2 hxy
      subst e1
      exact Option.some.inj (hi1.symm.trans hj1)
    · exact absurd (hxy ▸ hD1.2 i' x h1) (apart j y hn2 h2).2
    · exact absurd (hxy ▸ hD1.2 j' y h2) (apart i x hn1 h1).2
    · exact hB.2.1.1 i j x y h1 h2 hxy
  · rcases spl_at hlen hq with ⟨j, -, h⟩ | ⟨hn, h⟩
    · exact hF q.1 (hD1.2 j q h)
    · exact hB.2.1.2 k q h
theorem keep_cut {wc : va_W} (hB : Bd D tys A s ws H locs) (hA : ∀ q, s.heap.size ≤ q → A q) (isC : List Nat) (hC : isC.map (fun i => ws[i]?) = wc.map some) : ∀ q, va_A wc H.size q → A q := va_free hB.2.1 hB.2.2 hA isC hC

theorem nd_iff : ∀ (l : List Nat), l.Nodup ↔ ∀ i j a : Nat, l[i]? = some a → l[j]? = some a → i = j
  | [] => by simp
  | b :: l => by
    rw [List.nodup_cons, nd_iff l]
    constructor
    · rintro ⟨h1, h2⟩ i j a hi hj
      cases i with
      | zero =>
        cases j with
        | zero => rfl
        | succ j =>
          rw [List.getElem?_cons_zero] at hi
          rw [List.getElem?_cons_succ] at hj
          cases hi
          exact absurd (List.mem_of_getElem? hj) h1
      | succ i =>
        rw [List.getElem?_cons_succ] at hi
        cases j with
        | zero =>
          rw [List.getElem?_cons_zero] at hj
          cases hj
          exact absurd (List.mem_of_getElem? hi) h1
        | succ j =>
          rw [List.getElem?_cons_succ] at hj
          rw [h2 i j a hi hj]
    · intro h
      refine ⟨fun hb => ?_, fun i j a hi hj => ?_⟩
      · obtain ⟨i, hi⟩ := List.getElem?_of_mem hb
        have := h 0 (i + 1) b rfl (by rw [List.getElem?_cons_succ]; exact hi)
        omega
      · have := h (i + 1) (j + 1) a (by rw [List.getElem?_cons_succ]; exact hi) (by rw [List.getElem?_cons_succ]; exact hj)
        omega
theorem va_D_iff {A : Nat → Prop} {ws : va_W} : va_D A ws ↔ (ws.map (fun q => q.1)).Nodup ∧ ∀ q ∈ ws, A q.1 := by
  rw [nd_iff]
  constructor
  · rintro ⟨h1, h2⟩
    refine ⟨fun i j a hi hj => ?_, fun q hq => ?_⟩
    · rw [List.getElem?_map] at hi hj
      cases h3 : ws[i]? with
      | none => rw [h3] at hi; cases hi
      | some p =>
        cases h4 : ws[j]? with
        | none => rw [h4] at hj; cases hj
        | some q =>
          rw [h3] at hi
          rw [h4] at hj
          exact h1 i j p q h3 h4 ((Option.some.inj hi).trans (Option.some.inj hj).symm)
    · obtain ⟨i, hi⟩ := List.getElem?_of_mem hq
      exact h2 i q hi
  · rintro ⟨h1, h2⟩
    refine ⟨fun i j p q hi hj hpq => h1 i j p.1 (by rw [List.getElem?_map, hi]; rfl) (by rw [List.getElem?_map, hj, hpq]; rfl), fun k q hk => h2 q (List.mem_of_getElem? hk)⟩
theorem va_P_iff {D : va_G} {cl : List vw_C} {ws : va_W} {H : Heap} : va_P D cl ws H ↔ ∀ q ∈ ws, va_at D cl q H := by
  constructor
  · intro h q hq
    obtain ⟨i, hi⟩ := List.getElem?_of_mem hq
    exact h i q hi
  · intro h k q hk
    exact h q (List.mem_of_getElem? hk)
theorem Bd.perm {ws' : va_W} (hp : ws.Perm ws') (h : Bd D tys A s ws H locs) : Bd D tys A s ws' H locs := by
  obtain ⟨h1, h2, h3⟩ := h
  rw [va_P_iff] at h1
  rw [va_D_iff] at h2
  refine ⟨va_P_iff.mpr fun q hq => h1 q (hp.mem_iff.mpr hq), va_D_iff.mpr ⟨(hp.map _).nodup_iff.mp h2.1, fun q hq => h2.2 q (hp.mem_iff.mpr hq)⟩, h3⟩
theorem Bd.left {wr : va_W} (h : Bd D tys A s (ws ++ wr) H locs) : Bd D tys A s ws H locs := by
  obtain ⟨h1, h2, h3⟩ := h
  rw [va_P_iff] at h1
  rw [va_D_iff] at h2
  refine ⟨va_P_iff.mpr fun q hq => h1 q (List.mem_append_left _ hq), va_D_iff.mpr ⟨?_, fun q hq => h2.2 q (List.mem_append_left _ hq)⟩, h3⟩
  have h4 := h2.1
  rw [List.map_append] at h4
  exact (List.nodup_append.mp h4).1
/-- the callee's cells stand first; behind the call: what came back, and the rest as it was -/
theorem pcut_back {wc w1 wr : va_W} {H1 : Heap} {locs1 : List Loc} (hB : Bd D tys A s (wc ++ wr) H locs) (hF : ∀ q, va_A wc H.size q → A q) (hk : ∀ q : Nat, q < H.size → ¬ va_A wc H.size q → H1[q]? = H[q]?) (hP1 : va_P D vwCl w1 H1) (hD1 : va_D (va_A wc H.size) w1) (hS : va_S A s.heap H1 locs1) : Bd D tys A s (w1 ++ wr) H1 locs1 := by
  obtain ⟨h1, h2, h3⟩ := hB
  rw [va_P_iff] at h1 hP1
  rw [va_D_iff] at h2 hD1
  have h4 := h2.1
  rw [List.map_append] at h4
  obtain ⟨n1, n2, n3⟩ := List.nodup_append.mp h4
  have apart : ∀ q ∈ wr, q.1 < H.size ∧ ¬ va_A wc H.size q.1 := by
    intro q hq
    have hl := (h1 q (List.mem_append_right _ hq)).lt
    refine ⟨hl, fun h => ?_⟩
    rcases h with ⟨k, e, h⟩ | h
    · exact n3 q.1 (List.mem_map.mpr ⟨(q.1, e), List.mem_of_getElem? h, rfl⟩) q.1 (List.mem_map_of_mem hq) rfl
    · omega
  refine ⟨va_P_iff.mpr fun q hq => ?_, va_D_iff.mpr ⟨?_, fun q hq => ?_⟩, hS⟩
  · rcases List.mem_append.mp hq with hq | hq
    · exact hP1 q hq
    · obtain ⟨g1, g2⟩ := apart q hq
      exact (h1 q (List.mem_append_right _ hq)).kept (hk q.1 g1 g2)
  · rw [List.map_append, List.nodup_append]
    refine ⟨hD1.1, n2, fun a ha b hb hab => ?_⟩
    obtain ⟨x, hx, rfl⟩ := List.mem_map.mp ha
    obtain ⟨y, hy, rfl⟩ := List.mem_map.mp hb
    exact (apart y hy).2 (hab ▸ hD1.2 x hx)
  · rcases List.mem_append.mp hq with hq | hq
    · exact hF q.1 (hD1.2 q hq)
    · exact h2.2 q (List.mem_append_right _ hq)
theorem keep_left {wc wr : va_W} (hB : Bd D tys A s (wc ++ wr) H locs) (hA : ∀ q, s.heap.size ≤ q → A q) : ∀ q, va_A wc H.size q → A q := keep_all (ws := wc) hB.left hA
theorem pcut_pre {wc wr : va_W} {tysc : List (ClassId × FieldType)} (hB : Bd D tys A s (wc ++ wr) H locs) (hK : va_K D vwCl tysc s) (av : List Value) : FrameBlind (PcF D tysc wc H.size av) ∧ ∀ U : State, U.heap = H → s.WarmedH U.vm → PcF D tysc wc H.size av av.toArray U := pre_all (tys := tysc) (ws := wc) (A := A) (locs := locs) hB.left hK av
theorem g_callVi {r0 : Int32} (S : CallFix p m c cc nL s args Ts own) (hM : Met l y wsy rm (PcF D tys ws H.size (.ref b :: As)) (QiF D tys ws w1 H.size r0) 0 0 (va_A ws H.size)) (cw : CallW R s args own C index y bytes maxL ret wsy rm 0 0 n) (hK : va_K D vwCl tys s) (hB : Bd D tys A s ws H locs) (hA : ∀ q, s.heap.size ≤ q → A q) (hrec : ∃ cell : Cell, H[b]? = some cell ∧ cell.vm.isStatics = false ∧ s.vm.findClass C = some cell.cls)
    (hn : As.length = n) (hsize : ls.size = nL) (hstack : st0 = As.reverse ++ .ref b :: rest) (hW : (rest.map fun v => v.category).sum ≤ 8) (hdg : decode cc pc = .ok (.invokevirtual index, 3)) (hf : cells ≤ R.cells ∧ slots ≤ R.slots)
    (k : ∀ (H : Heap) (locs : List Loc), Bd D tys A s w1 H locs → W p l e R s m args below meth c H locs cells slots Q (F0 m (pc + 3) ls (.int r0 :: rest))) : W p l e R s m args below meth c H locs cells slots Q (F0 m pc ls st0) := by
  have hF := keep_all hB hA
  have hp := pre_all hB hK (.ref b :: As)
  refine va_calli (va_runV S hM cw ⟨hp.1, hrec, hp.2⟩ rfl hn hsize hstack (lv_room hW) hdg hf) hB.2.2 (fun q _ h => hF q h) hF (fun r u t H1 locs1 ht hvm hr hBt hz hk hS => ?_)
  subst hr
  obtain ⟨hP1, -, hD1⟩ := hBt
  rw [ht] at hP1
  exact k H1 locs1 ⟨hP1, hD1.weaken (fun _ q _ h => hF q.1 h), hS⟩
theorem g_pcutVi {r0 : Int32} {wc wr w2 : va_W} {tysc : List (ClassId × FieldType)} (S : CallFix p m c cc nL s args Ts own) (hM : Met l y wsy rm (PcF D tysc wc H.size (.ref b :: As)) (QiF D tysc wc w1 H.size r0) 0 0 (va_A wc H.size)) (cw : CallW R s args own C index y bytes maxL ret wsy rm 0 0 n) (hKc : va_K D vwCl tysc s) (hB0 : Bd D tys A s ws H locs) (hA : ∀ q, s.heap.size ≤ q → A q) (hrec : ∃ cell : Cell, H[b]? = some cell ∧ cell.vm.isStatics = false ∧ s.vm.findClass C = some cell.cls) (hp1 : ws.Perm (wc ++ wr)) (hp2 : (w1 ++ wr).Perm w2)
    (hn : As.length = n) (hsize : ls.size = nL) (hstack : st0 = As.reverse ++ .ref b :: rest) (hW : (rest.map fun v => v.category).sum ≤ 8) (hdg : decode cc pc = .ok (.invokevirtual index, 3)) (hf : cells ≤ R.cells ∧ slots ≤ R.slots)
    (k : ∀ (H : Heap) (locs : List Loc), Bd D tys A s w2 H locs → W p l e R s m args below meth c H locs cells slots Q (F0 m (pc + 3) ls (.int r0 :: rest))) : W p l e R s m args below meth c H locs cells slots Q (F0 m pc ls st0) := by
  have hB := hB0.perm hp1
  have hF := keep_left hB hA
  have hp := pcut_pre hB hKc (.ref b :: As)
  refine va_calli (va_runV S hM cw ⟨hp.1, hrec, hp.2⟩ rfl hn hsize hstack (lv_room hW) hdg hf) hB.2.2 (fun q _ h => hF q h) hF (fun r u t H1 locs1 ht hvm hr hBt hz hk hS => ?_)
  subst hr
  obtain ⟨hP1, -, hD1⟩ := hBt
  rw [ht] at hP1
  exact k H1 locs1 ((pcut_back hB hF hk hP1 hD1 hS).perm hp2)
theorem g_cutVi {r0 : Int32} {wc w2 : va_W} {tysc : List (ClassId × FieldType)} (S : CallFix p m c cc nL s args Ts own) (hM : Met l y wsy rm (PcF D tysc wc H.size (.ref b :: As)) (QiF D tysc wc w1 H.size r0) 0 0 (va_A wc H.size)) (cw : CallW R s args own C index y bytes maxL ret wsy rm 0 0 n) (hKc : va_K D vwCl tysc s) (hB : Bd D tys A s ws H locs) (hA : ∀ q, s.heap.size ≤ q → A q) (hrec : ∃ cell : Cell, H[b]? = some cell ∧ cell.vm.isStatics = false ∧ s.vm.findClass C = some cell.cls) (isC : List Nat) (hnd : va_nd isC = true) (hC : isC.map (fun i => ws[i]?) = wc.map some) (hlen : w1.length = isC.length) (hw : spl ws isC w1 = w2)
    (hn : As.length = n) (hsize : ls.size = nL) (hstack : st0 = As.reverse ++ .ref b :: rest) (hW : (rest.map fun v => v.category).sum ≤ 8) (hdg : decode cc pc = .ok (.invokevirtual index, 3)) (hf : cells ≤ R.cells ∧ slots ≤ R.slots)
    (k : ∀ (H : Heap) (locs : List Loc), Bd D tys A s w2 H locs → W p l e R s m args below meth c H locs cells slots Q (F0 m (pc + 3) ls (.int r0 :: rest))) : W p l e R s m args below meth c H locs cells slots Q (F0 m pc ls st0) := by
  have hF := keep_cut hB hA isC hC
  have hp := cut_pre hB hKc isC hnd hC (.ref b :: As)
  refine va_calli (va_runV S hM cw ⟨hp.1, hrec, hp.2⟩ rfl hn hsize hstack (lv_room hW) hdg hf) hB.2.2 (fun q _ h => hF q h) hF (fun r u t H1 locs1 ht hvm hr hBt hz hk hS => ?_)
  subst hr
  obtain ⟨hP1, -, hD1⟩ := hBt
  rw [ht] at hP1
  exact k H1 locs1 (cut_back hB isC hC hF hk hP1 hD1 hS hlen hw)
theorem g_pcutSi {r0 : Int32} {wc wr w2 : va_W} {tysc : List (ClassId × FieldType)} (S : CallFix p m c cc nL s args Ts own) (hM : Met l y wsy rm (PcF D tysc wc H.size (As)) (QiF D tysc wc w1 H.size r0) 0 0 (va_A wc H.size)) (cw : CallB R s args own index y bytes maxL ret wsy rm 0 0 n ∧ (Cond.static y).before args s = true) (hKc : va_K D vwCl tysc s) (hB0 : Bd D tys A s ws H locs) (hA : ∀ q, s.heap.size ≤ q → A q) (hp1 : ws.Perm (wc ++ wr)) (hp2 : (w1 ++ wr).Perm w2)
    (hn : As.length = n) (hsize : ls.size = nL) (hstack : st0 = As.reverse ++ rest) (hW : (rest.map fun v => v.category).sum ≤ 8) (hdg : decode cc pc = .ok (.invokestatic index, 3)) (hf : cells ≤ R.cells ∧ slots ≤ R.slots)
    (k : ∀ (H : Heap) (locs : List Loc), Bd D tys A s w2 H locs → W p l e R s m args below meth c H locs cells slots Q (F0 m (pc + 3) ls (.int r0 :: rest))) : W p l e R s m args below meth c H locs cells slots Q (F0 m pc ls st0) := by
  have hB := hB0.perm hp1
  have hF := keep_left hB hA
  have hp := pcut_pre hB hKc (As)
  refine va_calli (va_runS S hM cw hp rfl hn hsize hstack (lv_room hW) hdg hf) hB.2.2 (fun q _ h => hF q h) hF (fun r u t H1 locs1 ht hvm hr hBt hz hk hS => ?_)
  subst hr
  obtain ⟨hP1, -, hD1⟩ := hBt
  rw [ht] at hP1
  exact k H1 locs1 ((pcut_back hB hF hk hP1 hD1 hS).perm hp2)
theorem g_cutSi {r0 : Int32} {wc w2 : va_W} {tysc : List (ClassId × FieldType)} (S : CallFix p m c cc nL s args Ts own) (hM : Met l y wsy rm (PcF D tysc wc H.size (As)) (QiF D tysc wc w1 H.size r0) 0 0 (va_A wc H.size)) (cw : CallB R s args own index y bytes maxL ret wsy rm 0 0 n ∧ (Cond.static y).before args s = true) (hKc : va_K D vwCl tysc s) (hB : Bd D tys A s ws H locs) (hA : ∀ q, s.heap.size ≤ q → A q) (isC : List Nat) (hnd : va_nd isC = true) (hC : isC.map (fun i => ws[i]?) = wc.map some) (hlen : w1.length = isC.length) (hw : spl ws isC w1 = w2)
    (hn : As.length = n) (hsize : ls.size = nL) (hstack : st0 = As.reverse ++ rest) (hW : (rest.map fun v => v.category).sum ≤ 8) (hdg : decode cc pc = .ok (.invokestatic index, 3)) (hf : cells ≤ R.cells ∧ slots ≤ R.slots)
    (k : ∀ (H : Heap) (locs : List Loc), Bd D tys A s w2 H locs → W p l e R s m args below meth c H locs cells slots Q (F0 m (pc + 3) ls (.int r0 :: rest))) : W p l e R s m args below meth c H locs cells slots Q (F0 m pc ls st0) := by
  have hF := keep_cut hB hA isC hC
  have hp := cut_pre hB hKc isC hnd hC (As)
  refine va_calli (va_runS S hM cw hp rfl hn hsize hstack (lv_room hW) hdg hf) hB.2.2 (fun q _ h => hF q h) hF (fun r u t H1 locs1 ht hvm hr hBt hz hk hS => ?_)
  subst hr
  obtain ⟨hP1, -, hD1⟩ := hBt
  rw [ht] at hP1
  exact k H1 locs1 (cut_back hB isC hC hF hk hP1 hD1 hS hlen hw)
theorem g_callVz {r0 : Int32} (S : CallFix p m c cc nL s args Ts own) (hM : Met l y wsy rm (PcF D tys ws H.size (.ref b :: As)) (QzF D tys ws w1 H.size r0) 0 0 (va_A ws H.size)) (cw : CallW R s args own C index y bytes maxL ret wsy rm 0 0 n) (hK : va_K D vwCl tys s) (hB : Bd D tys A s ws H locs) (hA : ∀ q, s.heap.size ≤ q → A q) (hrec : ∃ cell : Cell, H[b]? = some cell ∧ cell.vm.isStatics = false ∧ s.vm.findClass C = some cell.cls)
    (hn : As.length = n) (hsize : ls.size = nL) (hstack : st0 = As.reverse ++ .ref b :: rest) (hW : (rest.map fun v => v.category).sum ≤ 8) (hdg : decode cc pc = .ok (.invokevirtual index, 3)) (hf : cells ≤ R.cells ∧ slots ≤ R.slots)
    (k : (r0 = 0 ∨ r0 = 1) → ∀ (H : Heap) (locs : List Loc), Bd D tys A s w1 H locs → W p l e R s m args below meth c H locs cells slots Q (F0 m (pc + 3) ls (.int r0 :: rest))) : W p l e R s m args below meth c H locs cells slots Q (F0 m pc ls st0) := by
  have hF := keep_all hB hA
  have hp := pre_all hB hK (.ref b :: As)
  refine va_calli (va_runV S hM cw ⟨hp.1, hrec, hp.2⟩ rfl hn hsize hstack (lv_room hW) hdg hf) hB.2.2 (fun q _ h => hF q h) hF (fun r u t H1 locs1 ht hvm hr hBt hz hk hS => ?_)
  obtain ⟨hr, hzz⟩ := hr
  subst hr
  obtain ⟨hP1, -, hD1⟩ := hBt
  rw [ht] at hP1
  exact k hzz H1 locs1 ⟨hP1, hD1.weaken (fun _ q _ h => hF q.1 h), hS⟩
theorem g_pcutVz {r0 : Int32} {wc wr w2 : va_W} {tysc : List (ClassId × FieldType)} (S : CallFix p m c cc nL s args Ts own) (hM : Met l y wsy rm (PcF D tysc wc H.size (.ref b :: As)) (QzF D tysc wc w1 H.size r0) 0 0 (va_A wc H.size)) (cw : CallW R s args own C index y bytes maxL ret wsy rm 0 0 n) (hKc : va_K D vwCl tysc s) (hB0 : Bd D tys A s ws H locs) (hA : ∀ q, s.heap.size ≤ q → A q) (hrec : ∃ cell : Cell, H[b]? = some cell ∧ cell.vm.isStatics = false ∧ s.vm.findClass C = some cell.cls) (hp1 : ws.Perm (wc ++ wr)) (hp2 : (w1 ++ wr).Perm w2)
    (hn : As.length = n) (hsize : ls.size = nL) (hstack : st0 = As.reverse ++ .ref b :: rest) (hW : (rest.map fun v => v.category).sum ≤ 8) (hdg : decode cc pc = .ok (.invokevirtual index, 3)) (hf : cells ≤ R.cells ∧ slots ≤ R.slots)
    (k : (r0 = 0 ∨ r0 = 1) → ∀ (H : Heap) (locs : List Loc), Bd D tys A s w2 H locs → W p l e R s m args below meth c H locs cells slots Q (F0 m (pc + 3) ls (.int r0 :: rest))) : W p l e R s m args below meth c H locs cells slots Q (F0 m pc ls st0) := by
  have hB := hB0.perm hp1
  have hF := keep_left hB hA
  have hp := pcut_pre hB hKc (.ref b :: As)
  refine va_calli (va_runV S hM cw ⟨hp.1, hrec, hp.2⟩ rfl hn hsize hstack (lv_room hW) hdg hf) hB.2.2 (fun q _ h => hF q h) hF (fun r u t H1 locs1 ht hvm hr hBt hz hk hS => ?_)
  obtain ⟨hr, hzz⟩ := hr
  subst hr
  obtain ⟨hP1, -, hD1⟩ := hBt
  rw [ht] at hP1
  exact k hzz H1 locs1 ((pcut_back hB hF hk hP1 hD1 hS).perm hp2)
theorem g_cutVz {r0 : Int32} {wc w2 : va_W} {tysc : List (ClassId × FieldType)} (S : CallFix p m c cc nL s args Ts own) (hM : Met l y wsy rm (PcF D tysc wc H.size (.ref b :: As)) (QzF D tysc wc w1 H.size r0) 0 0 (va_A wc H.size)) (cw : CallW R s args own C index y bytes maxL ret wsy rm 0 0 n) (hKc : va_K D vwCl tysc s) (hB : Bd D tys A s ws H locs) (hA : ∀ q, s.heap.size ≤ q → A q) (hrec : ∃ cell : Cell, H[b]? = some cell ∧ cell.vm.isStatics = false ∧ s.vm.findClass C = some cell.cls) (isC : List Nat) (hnd : va_nd isC = true) (hC : isC.map (fun i => ws[i]?) = wc.map some) (hlen : w1.length = isC.length) (hw : spl ws isC w1 = w2)
    (hn : As.length = n) (hsize : ls.size = nL) (hstack : st0 = As.reverse ++ .ref b :: rest) (hW : (rest.map fun v => v.category).sum ≤ 8) (hdg : decode cc pc = .ok (.invokevirtual index, 3)) (hf : cells ≤ R.cells ∧ slots ≤ R.slots)
    (k : (r0 = 0 ∨ r0 = 1) → ∀ (H : Heap) (locs : List Loc), Bd D tys A s w2 H locs → W p l e R s m args below meth c H locs cells slots Q (F0 m (pc + 3) ls (.int r0 :: rest))) : W p l e R s m args below meth c H locs cells slots Q (F0 m pc ls st0) := by
  have hF := keep_cut hB hA isC hC
  have hp := cut_pre hB hKc isC hnd hC (.ref b :: As)
  refine va_calli (va_runV S hM cw ⟨hp.1, hrec, hp.2⟩ rfl hn hsize hstack (lv_room hW) hdg hf) hB.2.2 (fun q _ h => hF q h) hF (fun r u t H1 locs1 ht hvm hr hBt hz hk hS => ?_)
  obtain ⟨hr, hzz⟩ := hr
  subst hr
  obtain ⟨hP1, -, hD1⟩ := hBt
  rw [ht] at hP1
  exact k hzz H1 locs1 (cut_back hB isC hC hF hk hP1 hD1 hS hlen hw)
theorem g_pcutSz {r0 : Int32} {wc wr w2 : va_W} {tysc : List (ClassId × FieldType)} (S : CallFix p m c cc nL s args Ts own) (hM : Met l y wsy rm (PcF D tysc wc H.size (As)) (QzF D tysc wc w1 H.size r0) 0 0 (va_A wc H.size)) (cw : CallB R s args own index y bytes maxL ret wsy rm 0 0 n ∧ (Cond.static y).before args s = true) (hKc : va_K D vwCl tysc s) (hB0 : Bd D tys A s ws H locs) (hA : ∀ q, s.heap.size ≤ q → A q) (hp1 : ws.Perm (wc ++ wr)) (hp2 : (w1 ++ wr).Perm w2)
    (hn : As.length = n) (hsize : ls.size = nL) (hstack : st0 = As.reverse ++ rest) (hW : (rest.map fun v => v.category).sum ≤ 8) (hdg : decode cc pc = .ok (.invokestatic index, 3)) (hf : cells ≤ R.cells ∧ slots ≤ R.slots)
    (k : (r0 = 0 ∨ r0 = 1) → ∀ (H : Heap) (locs : List Loc), Bd D tys A s w2 H locs → W p l e R s m args below meth c H locs cells slots Q (F0 m (pc + 3) ls (.int r0 :: rest))) : W p l e R s m args below meth c H locs cells slots Q (F0 m pc ls st0) := by
  have hB := hB0.perm hp1
  have hF := keep_left hB hA
  have hp := pcut_pre hB hKc (As)
  refine va_calli (va_runS S hM cw hp rfl hn hsize hstack (lv_room hW) hdg hf) hB.2.2 (fun q _ h => hF q h) hF (fun r u t H1 locs1 ht hvm hr hBt hz hk hS => ?_)
  obtain ⟨hr, hzz⟩ := hr
  subst hr
  obtain ⟨hP1, -, hD1⟩ := hBt
  rw [ht] at hP1
  exact k hzz H1 locs1 ((pcut_back hB hF hk hP1 hD1 hS).perm hp2)
theorem g_cutSz {r0 : Int32} {wc w2 : va_W} {tysc : List (ClassId × FieldType)} (S : CallFix p m c cc nL s args Ts own) (hM : Met l y wsy rm (PcF D tysc wc H.size (As)) (QzF D tysc wc w1 H.size r0) 0 0 (va_A wc H.size)) (cw : CallB R s args own index y bytes maxL ret wsy rm 0 0 n ∧ (Cond.static y).before args s = true) (hKc : va_K D vwCl tysc s) (hB : Bd D tys A s ws H locs) (hA : ∀ q, s.heap.size ≤ q → A q) (isC : List Nat) (hnd : va_nd isC = true) (hC : isC.map (fun i => ws[i]?) = wc.map some) (hlen : w1.length = isC.length) (hw : spl ws isC w1 = w2)
    (hn : As.length = n) (hsize : ls.size = nL) (hstack : st0 = As.reverse ++ rest) (hW : (rest.map fun v => v.category).sum ≤ 8) (hdg : decode cc pc = .ok (.invokestatic index, 3)) (hf : cells ≤ R.cells ∧ slots ≤ R.slots)
    (k : (r0 = 0 ∨ r0 = 1) → ∀ (H : Heap) (locs : List Loc), Bd D tys A s w2 H locs → W p l e R s m args below meth c H locs cells slots Q (F0 m (pc + 3) ls (.int r0 :: rest))) : W p l e R s m args below meth c H locs cells slots Q (F0 m pc ls st0) := by
  have hF := keep_cut hB hA isC hC
  have hp := cut_pre hB hKc isC hnd hC (As)
  refine va_calli (va_runS S hM cw hp rfl hn hsize hstack (lv_room hW) hdg hf) hB.2.2 (fun q _ h => hF q h) hF (fun r u t H1 locs1 ht hvm hr hBt hz hk hS => ?_)
  obtain ⟨hr, hzz⟩ := hr
  subst hr
  obtain ⟨hP1, -, hD1⟩ := hBt
  rw [ht] at hP1
  exact k hzz H1 locs1 (cut_back hB isC hC hF hk hP1 hD1 hS hlen hw)
theorem g_callVl {r0 : Int64} (S : CallFix p m c cc nL s args Ts own) (hM : Met l y wsy rm (PcF D tys ws H.size (.ref b :: As)) (QlF D tys ws w1 H.size r0) 0 0 (va_A ws H.size)) (cw : CallW R s args own C index y bytes maxL ret wsy rm 0 0 n) (hK : va_K D vwCl tys s) (hB : Bd D tys A s ws H locs) (hA : ∀ q, s.heap.size ≤ q → A q) (hrec : ∃ cell : Cell, H[b]? = some cell ∧ cell.vm.isStatics = false ∧ s.vm.findClass C = some cell.cls)
    (hn : As.length = n) (hsize : ls.size = nL) (hstack : st0 = As.reverse ++ .ref b :: rest) (hW : (rest.map fun v => v.category).sum ≤ 8) (hdg : decode cc pc = .ok (.invokevirtual index, 3)) (hf : cells ≤ R.cells ∧ slots ≤ R.slots)
    (k : ∀ (H : Heap) (locs : List Loc), Bd D tys A s w1 H locs → W p l e R s m args below meth c H locs cells slots Q (F0 m (pc + 3) ls (.long r0 :: rest))) : W p l e R s m args below meth c H locs cells slots Q (F0 m pc ls st0) := by
  have hF := keep_all hB hA
  have hp := pre_all hB hK (.ref b :: As)
  refine va_calll (va_runV S hM cw ⟨hp.1, hrec, hp.2⟩ rfl hn hsize hstack (lv_room hW) hdg hf) hB.2.2 (fun q _ h => hF q h) hF (fun r u t H1 locs1 ht hvm hr hBt hz hk hS => ?_)
  subst hr
  obtain ⟨hP1, -, hD1⟩ := hBt
  rw [ht] at hP1
  exact k H1 locs1 ⟨hP1, hD1.weaken (fun _ q _ h => hF q.1 h), hS⟩
theorem g_pcutVl {r0 : Int64} {wc wr w2 : va_W} {tysc : List (ClassId × FieldType)} (S : CallFix p m c cc nL s args Ts own) (hM : Met l y wsy rm (PcF D tysc wc H.size (.ref b :: As)) (QlF D tysc wc w1 H.size r0) 0 0 (va_A wc H.size)) (cw : CallW R s args own C index y bytes maxL ret wsy rm 0 0 n) (hKc : va_K D vwCl tysc s) (hB0 : Bd D tys A s ws H locs) (hA : ∀ q, s.heap.size ≤ q → A q) (hrec : ∃ cell : Cell, H[b]? = some cell ∧ cell.vm.isStatics = false ∧ s.vm.findClass C = some cell.cls) (hp1 : ws.Perm (wc ++ wr)) (hp2 : (w1 ++ wr).Perm w2)
    (hn : As.length = n) (hsize : ls.size = nL) (hstack : st0 = As.reverse ++ .ref b :: rest) (hW : (rest.map fun v => v.category).sum ≤ 8) (hdg : decode cc pc = .ok (.invokevirtual index, 3)) (hf : cells ≤ R.cells ∧ slots ≤ R.slots)
    (k : ∀ (H : Heap) (locs : List Loc), Bd D tys A s w2 H locs → W p l e R s m args below meth c H locs cells slots Q (F0 m (pc + 3) ls (.long r0 :: rest))) : W p l e R s m args below meth c H locs cells slots Q (F0 m pc ls st0) := by
  have hB := hB0.perm hp1
  have hF := keep_left hB hA
  have hp := pcut_pre hB hKc (.ref b :: As)
  refine va_calll (va_runV S hM cw ⟨hp.1, hrec, hp.2⟩ rfl hn hsize hstack (lv_room hW) hdg hf) hB.2.2 (fun q _ h => hF q h) hF (fun r u t H1 locs1 ht hvm hr hBt hz hk hS => ?_)
  subst hr
  obtain ⟨hP1, -, hD1⟩ := hBt
  rw [ht] at hP1
  exact k H1 locs1 ((pcut_back hB hF hk hP1 hD1 hS).perm hp2)
theorem g_cutVl {r0 : Int64} {wc w2 : va_W} {tysc : List (ClassId × FieldType)} (S : CallFix p m c cc nL s args Ts own) (hM : Met l y wsy rm (PcF D tysc wc H.size (.ref b :: As)) (QlF D tysc wc w1 H.size r0) 0 0 (va_A wc H.size)) (cw : CallW R s args own C index y bytes maxL ret wsy rm 0 0 n) (hKc : va_K D vwCl tysc s) (hB : Bd D tys A s ws H locs) (hA : ∀ q, s.heap.size ≤ q → A q) (hrec : ∃ cell : Cell, H[b]? = some cell ∧ cell.vm.isStatics = false ∧ s.vm.findClass C = some cell.cls) (isC : List Nat) (hnd : va_nd isC = true) (hC : isC.map (fun i => ws[i]?) = wc.map some) (hlen : w1.length = isC.length) (hw : spl ws isC w1 = w2)
    (hn : As.length = n) (hsize : ls.size = nL) (hstack : st0 = As.reverse ++ .ref b :: rest) (hW : (rest.map fun v => v.category).sum ≤ 8) (hdg : decode cc pc = .ok (.invokevirtual index, 3)) (hf : cells ≤ R.cells ∧ slots ≤ R.slots)
    (k : ∀ (H : Heap) (locs : List Loc), Bd D tys A s w2 H locs → W p l e R s m args below meth c H locs cells slots Q (F0 m (pc + 3) ls (.long r0 :: rest))) : W p l e R s m args below meth c H locs cells slots Q (F0 m pc ls st0) := by
  have hF := keep_cut hB hA isC hC
  have hp := cut_pre hB hKc isC hnd hC (.ref b :: As)
  refine va_calll (va_runV S hM cw ⟨hp.1, hrec, hp.2⟩ rfl hn hsize hstack (lv_room hW) hdg hf) hB.2.2 (fun q _ h => hF q h) hF (fun r u t H1 locs1 ht hvm hr hBt hz hk hS => ?_)
  subst hr
  obtain ⟨hP1, -, hD1⟩ := hBt
  rw [ht] at hP1
  exact k H1 locs1 (cut_back hB isC hC hF hk hP1 hD1 hS hlen hw)
theorem g_pcutSl {r0 : Int64} {wc wr w2 : va_W} {tysc : List (ClassId × FieldType)} (S : CallFix p m c cc nL s args Ts own) (hM : Met l y wsy rm (PcF D tysc wc H.size (As)) (QlF D tysc wc w1 H.size r0) 0 0 (va_A wc H.size)) (cw : CallB R s args own index y bytes maxL ret wsy rm 0 0 n ∧ (Cond.static y).before args s = true) (hKc : va_K D vwCl tysc s) (hB0 : Bd D tys A s ws H locs) (hA : ∀ q, s.heap.size ≤ q → A q) (hp1 : ws.Perm (wc ++ wr)) (hp2 : (w1 ++ wr).Perm w2)
    (hn : As.length = n) (hsize : ls.size = nL) (hstack : st0 = As.reverse ++ rest) (hW : (rest.map fun v => v.category).sum ≤ 8) (hdg : decode cc pc = .ok (.invokestatic index, 3)) (hf : cells ≤ R.cells ∧ slots ≤ R.slots)
    (k : ∀ (H : Heap) (locs : List Loc), Bd D tys A s w2 H locs → W p l e R s m args below meth c H locs cells slots Q (F0 m (pc + 3) ls (.long r0 :: rest))) : W p l e R s m args below meth c H locs cells slots Q (F0 m pc ls st0) := by
  have hB := hB0.perm hp1
  have hF := keep_left hB hA
  have hp := pcut_pre hB hKc (As)
  refine va_calll (va_runS S hM cw hp rfl hn hsize hstack (lv_room hW) hdg hf) hB.2.2 (fun q _ h => hF q h) hF (fun r u t H1 locs1 ht hvm hr hBt hz hk hS => ?_)
  subst hr
  obtain ⟨hP1, -, hD1⟩ := hBt
  rw [ht] at hP1
  exact k H1 locs1 ((pcut_back hB hF hk hP1 hD1 hS).perm hp2)
theorem g_cutSl {r0 : Int64} {wc w2 : va_W} {tysc : List (ClassId × FieldType)} (S : CallFix p m c cc nL s args Ts own) (hM : Met l y wsy rm (PcF D tysc wc H.size (As)) (QlF D tysc wc w1 H.size r0) 0 0 (va_A wc H.size)) (cw : CallB R s args own index y bytes maxL ret wsy rm 0 0 n ∧ (Cond.static y).before args s = true) (hKc : va_K D vwCl tysc s) (hB : Bd D tys A s ws H locs) (hA : ∀ q, s.heap.size ≤ q → A q) (isC : List Nat) (hnd : va_nd isC = true) (hC : isC.map (fun i => ws[i]?) = wc.map some) (hlen : w1.length = isC.length) (hw : spl ws isC w1 = w2)
    (hn : As.length = n) (hsize : ls.size = nL) (hstack : st0 = As.reverse ++ rest) (hW : (rest.map fun v => v.category).sum ≤ 8) (hdg : decode cc pc = .ok (.invokestatic index, 3)) (hf : cells ≤ R.cells ∧ slots ≤ R.slots)
    (k : ∀ (H : Heap) (locs : List Loc), Bd D tys A s w2 H locs → W p l e R s m args below meth c H locs cells slots Q (F0 m (pc + 3) ls (.long r0 :: rest))) : W p l e R s m args below meth c H locs cells slots Q (F0 m pc ls st0) := by
  have hF := keep_cut hB hA isC hC
  have hp := cut_pre hB hKc isC hnd hC (As)
  refine va_calll (va_runS S hM cw hp rfl hn hsize hstack (lv_room hW) hdg hf) hB.2.2 (fun q _ h => hF q h) hF (fun r u t H1 locs1 ht hvm hr hBt hz hk hS => ?_)
  subst hr
  obtain ⟨hP1, -, hD1⟩ := hBt
  rw [ht] at hP1
  exact k H1 locs1 (cut_back hB isC hC hF hk hP1 hD1 hS hlen hw)
theorem g_callVv (S : CallFix p m c cc nL s args Ts own) (hM : Met l y wsy rm (PcF D tys ws H.size (.ref b :: As)) (QvF D tys ws w1 H.size) 0 0 (va_A ws H.size)) (cw : CallW R s args own C index y bytes maxL ret wsy rm 0 0 n) (hK : va_K D vwCl tys s) (hB : Bd D tys A s ws H locs) (hA : ∀ q, s.heap.size ≤ q → A q) (hrec : ∃ cell : Cell, H[b]? = some cell ∧ cell.vm.isStatics = false ∧ s.vm.findClass C = some cell.cls)
    (hn : As.length = n) (hsize : ls.size = nL) (hstack : st0 = As.reverse ++ .ref b :: rest) (hW : (rest.map fun v => v.category).sum ≤ 8) (hdg : decode cc pc = .ok (.invokevirtual index, 3)) (hf : cells ≤ R.cells ∧ slots ≤ R.slots)
    (k : ∀ (H : Heap) (locs : List Loc), Bd D tys A s w1 H locs → W p l e R s m args below meth c H locs cells slots Q (F0 m (pc + 3) ls (rest))) : W p l e R s m args below meth c H locs cells slots Q (F0 m pc ls st0) := by
  have hF := keep_all hB hA
  have hp := pre_all hB hK (.ref b :: As)
  refine va_callv (va_runV S hM cw ⟨hp.1, hrec, hp.2⟩ rfl hn hsize hstack (lv_room hW) hdg hf) hB.2.2 (fun q _ h => hF q h) hF (fun u t H1 locs1 ht hvm hr hBt hz hk hS => ?_)
  obtain ⟨hP1, -, hD1⟩ := hBt
  rw [ht] at hP1
  exact k H1 locs1 ⟨hP1, hD1.weaken (fun _ q _ h => hF q.1 h), hS⟩
theorem g_pcutVv {wc wr w2 : va_W} {tysc : List (ClassId × FieldType)} (S : CallFix p m c cc nL s args Ts own) (hM : Met l y wsy rm (PcF D tysc wc H.size (.ref b :: As)) (QvF D tysc wc w1 H.size) 0 0 (va_A wc H.size)) (cw : CallW R s args own C index y bytes maxL ret wsy rm 0 0 n) (hKc : va_K D vwCl tysc s) (hB0 : Bd D tys A s ws H locs) (hA : ∀ q, s.heap.size ≤ q → A q) (hrec : ∃ cell : Cell, H[b]? = some cell ∧ cell.vm.isStatics = false ∧ s.vm.findClass C = some cell.cls) (hp1 : ws.Perm (wc ++ wr)) (hp2 : (w1 ++ wr).Perm w2)
    (hn : As.length = n) (hsize : ls.size = nL) (hstack : st0 = As.reverse ++ .ref b :: rest) (hW : (rest.map fun v => v.category).sum ≤ 8) (hdg : decode cc pc = .ok (.invokevirtual index, 3)) (hf : cells ≤ R.cells ∧ slots ≤ R.slots)
    (k : ∀ (H : Heap) (locs : List Loc), Bd D tys A s w2 H locs → W p l e R s m args below meth c H locs cells slots Q (F0 m (pc + 3) ls (rest))) : W p l e R s m args below meth c H locs cells slots Q (F0 m pc ls st0) := by
  have hB := hB0.perm hp1
  have hF := keep_left hB hA
  have hp := pcut_pre hB hKc (.ref b :: As)
  refine va_callv (va_runV S hM cw ⟨hp.1, hrec, hp.2⟩ rfl hn hsize hstack (lv_room hW) hdg hf) hB.2.2 (fun q _ h => hF q h) hF (fun u t H1 locs1 ht hvm hr hBt hz hk hS => ?_)
  obtain ⟨hP1, -, hD1⟩ := hBt
  rw [ht] at hP1
  exact k H1 locs1 ((pcut_back hB hF hk hP1 hD1 hS).perm hp2)
theorem g_cutVv {wc w2 : va_W} {tysc : List (ClassId × FieldType)} (S : CallFix p m c cc nL s args Ts own) (hM : Met l y wsy rm (PcF D tysc wc H.size (.ref b :: As)) (QvF D tysc wc w1 H.size) 0 0 (va_A wc H.size)) (cw : CallW R s args own C index y bytes maxL ret wsy rm 0 0 n) (hKc : va_K D vwCl tysc s) (hB : Bd D tys A s ws H locs) (hA : ∀ q, s.heap.size ≤ q → A q) (hrec : ∃ cell : Cell, H[b]? = some cell ∧ cell.vm.isStatics = false ∧ s.vm.findClass C = some cell.cls) (isC : List Nat) (hnd : va_nd isC = true) (hC : isC.map (fun i => ws[i]?) = wc.map some) (hlen : w1.length = isC.length) (hw : spl ws isC w1 = w2)
    (hn : As.length = n) (hsize : ls.size = nL) (hstack : st0 = As.reverse ++ .ref b :: rest) (hW : (rest.map fun v => v.category).sum ≤ 8) (hdg : decode cc pc = .ok (.invokevirtual index, 3)) (hf : cells ≤ R.cells ∧ slots ≤ R.slots)
    (k : ∀ (H : Heap) (locs : List Loc), Bd D tys A s w2 H locs → W p l e R s m args below meth c H locs cells slots Q (F0 m (pc + 3) ls (rest))) : W p l e R s m args below meth c H locs cells slots Q (F0 m pc ls st0) := by
  have hF := keep_cut hB hA isC hC
  have hp := cut_pre hB hKc isC hnd hC (.ref b :: As)
  refine va_callv (va_runV S hM cw ⟨hp.1, hrec, hp.2⟩ rfl hn hsize hstack (lv_room hW) hdg hf) hB.2.2 (fun q _ h => hF q h) hF (fun u t H1 locs1 ht hvm hr hBt hz hk hS => ?_)
  obtain ⟨hP1, -, hD1⟩ := hBt
  rw [ht] at hP1
  exact k H1 locs1 (cut_back hB isC hC hF hk hP1 hD1 hS hlen hw)
theorem g_pcutSv {wc wr w2 : va_W} {tysc : List (ClassId × FieldType)} (S : CallFix p m c cc nL s args Ts own) (hM : Met l y wsy rm (PcF D tysc wc H.size (As)) (QvF D tysc wc w1 H.size) 0 0 (va_A wc H.size)) (cw : CallB R s args own index y bytes maxL ret wsy rm 0 0 n ∧ (Cond.static y).before args s = true) (hKc : va_K D vwCl tysc s) (hB0 : Bd D tys A s ws H locs) (hA : ∀ q, s.heap.size ≤ q → A q) (hp1 : ws.Perm (wc ++ wr)) (hp2 : (w1 ++ wr).Perm w2)
    (hn : As.length = n) (hsize : ls.size = nL) (hstack : st0 = As.reverse ++ rest) (hW : (rest.map fun v => v.category).sum ≤ 8) (hdg : decode cc pc = .ok (.invokestatic index, 3)) (hf : cells ≤ R.cells ∧ slots ≤ R.slots)
    (k : ∀ (H : Heap) (locs : List Loc), Bd D tys A s w2 H locs → W p l e R s m args below meth c H locs cells slots Q (F0 m (pc + 3) ls (rest))) : W p l e R s m args below meth c H locs cells slots Q (F0 m pc ls st0) := by
  have hB := hB0.perm hp1
  have hF := keep_left hB hA
  have hp := pcut_pre hB hKc (As)
  refine va_callv (va_runS S hM cw hp rfl hn hsize hstack (lv_room hW) hdg hf) hB.2.2 (fun q _ h => hF q h) hF (fun u t H1 locs1 ht hvm hr hBt hz hk hS => ?_)
  obtain ⟨hP1, -, hD1⟩ := hBt
  rw [ht] at hP1
  exact k H1 locs1 ((pcut_back hB hF hk hP1 hD1 hS).perm hp2)
theorem g_cutSv {wc w2 : va_W} {tysc : List (ClassId × FieldType)} (S : CallFix p m c cc nL s args Ts own) (hM : Met l y wsy rm (PcF D tysc wc H.size (As)) (QvF D tysc wc w1 H.size) 0 0 (va_A wc H.size)) (cw : CallB R s args own index y bytes maxL ret wsy rm 0 0 n ∧ (Cond.static y).before args s = true) (hKc : va_K D vwCl tysc s) (hB : Bd D tys A s ws H locs) (hA : ∀ q, s.heap.size ≤ q → A q) (isC : List Nat) (hnd : va_nd isC = true) (hC : isC.map (fun i => ws[i]?) = wc.map some) (hlen : w1.length = isC.length) (hw : spl ws isC w1 = w2)
    (hn : As.length = n) (hsize : ls.size = nL) (hstack : st0 = As.reverse ++ rest) (hW : (rest.map fun v => v.category).sum ≤ 8) (hdg : decode cc pc = .ok (.invokestatic index, 3)) (hf : cells ≤ R.cells ∧ slots ≤ R.slots)
    (k : ∀ (H : Heap) (locs : List Loc), Bd D tys A s w2 H locs → W p l e R s m args below meth c H locs cells slots Q (F0 m (pc + 3) ls (rest))) : W p l e R s m args below meth c H locs cells slots Q (F0 m pc ls st0) := by
  have hF := keep_cut hB hA isC hC
  have hp := cut_pre hB hKc isC hnd hC (As)
  refine va_callv (va_runS S hM cw hp rfl hn hsize hstack (lv_room hW) hdg hf) hB.2.2 (fun q _ h => hF q h) hF (fun u t H1 locs1 ht hvm hr hBt hz hk hS => ?_)
  obtain ⟨hP1, -, hD1⟩ := hBt
  rw [ht] at hP1
  exact k H1 locs1 (cut_back hB isC hC hF hk hP1 hD1 hS hlen hw)
theorem g_iret {w0 w1 : va_W} {v : Int32} (hx : p.tables.exec = Jvm.exec) (hb : c.code = cc) (hr : meth.sig.returnType = some .int) (hlocks : meth.locks = false) (hK : va_K D vwCl tys s) (hB : Bd D tys (va_A w0 s.heap.size) s w1 H locs) (hdg : decode cc pc = .ok (.ireturn, 1)) : W p l e R s m args below meth c H locs cells slots (MQ below (QiF D tys w0 w1 s.heap.size v) args s cells slots (va_A w0 s.heap.size)) (F0 m pc ls [.int v]) :=
  W.iret hx hb hr (fun t ht hW => ⟨⟨v, (), rfl, rfl, by rw [ht]; exact hB.1, va_K.moved hW.alike hK, hB.2.1⟩, hB.2.2.F ht⟩) hB.2.2.2.2 hdg
theorem g_zret {w0 w1 : va_W} {v : Int32} (hx : p.tables.exec = Jvm.exec) (hb : c.code = cc) (hr : meth.sig.returnType = some .boolean) (hlocks : meth.locks = false) (hK : va_K D vwCl tys s) (hB : Bd D tys (va_A w0 s.heap.size) s w1 H locs) (hv : v = 0 ∨ v = 1) (hdg : decode cc pc = .ok (.ireturn, 1)) : W p l e R s m args below meth c H locs cells slots (MQ below (QzF D tys w0 w1 s.heap.size v) args s cells slots (va_A w0 s.heap.size)) (F0 m pc ls [.int v]) :=
  W.zret hx hb hr (narrow_z hv) (fun t ht hW => ⟨⟨v, (), rfl, ⟨rfl, hv⟩, by rw [ht]; exact hB.1, va_K.moved hW.alike hK, hB.2.1⟩, hB.2.2.F ht⟩) hB.2.2.2.2 hdg
theorem g_vret {w0 w1 : va_W} (hx : p.tables.exec = Jvm.exec) (hb : c.code = cc) (hr : meth.sig.returnType = none) (hlocks : meth.locks = false) (hK : va_K D vwCl tys s) (hB : Bd D tys (va_A w0 s.heap.size) s w1 H locs) (hdg : decode cc pc = .ok (.return_, 1)) : W p l e R s m args below meth c H locs cells slots (MQ below (QvF D tys w0 w1 s.heap.size) args s cells slots (va_A w0 s.heap.size)) (F0 m pc ls []) :=
  W.vret hx hb hr (fun t ht hW => ⟨⟨(), rfl, trivial, by rw [ht]; exact hB.1, va_K.moved hW.alike hK, hB.2.1⟩, hB.2.2.F ht⟩) hB.2.2.2.2 hdg
theorem g_lret {w0 w1 : va_W} {v : Int64} (hx : p.tables.exec = Jvm.exec) (hb : c.code = cc) (hr : meth.sig.returnType = some .long) (hlocks : meth.locks = false) (hK : va_K D vwCl tys s) (hB : Bd D tys (va_A w0 s.heap.size) s w1 H locs) (hdg : decode cc pc = .ok (.lreturn, 1)) : W p l e R s m args below meth c H locs cells slots (MQ below (QlF D tys w0 w1 s.heap.size v) args s cells slots (va_A w0 s.heap.size)) (F0 m pc ls [.long v]) :=
  W.lret hx hb hr (fun t ht hW => ⟨⟨v, (), rfl, rfl, by rw [ht]; exact hB.1, va_K.moved hW.alike hK, hB.2.1⟩, hB.2.2.F ht⟩) hB.2.2.2.2 hdg
theorem sw_out {x : Int32} {n : Nat} (hn : n < 1000) (h : ∀ k : Nat, k ≤ n → x ≠ nI k) : x.toInt < 0 ∨ (n : Int) < x.toInt := by
  by_cases h0 : x < 0
  · exact Or.inl (by simpa using Int32.lt_iff_toInt_lt.mp h0)
  · obtain ⟨j, hj, rfl⟩ := nI_of h0
    rw [nI_toInt hj]
    right
    by_cases hjn : j ≤ n
    · exact absurd rfl (h j hjn)
    · omega
/-- a row of the history -/
def hix (i : Int32) : Option Nat := if i < 0 ∨ 8 ≤ i.toNatClampNeg then none else some i.toNatClampNeg
theorem hix_s {i : Int32} {j : Nat} (h : hix i = some j) : j < 8 ∧ (vp_in i 8 ∧ i.toNatClampNeg = j) := by
  unfold hix at h
  split at h
  · cases h
  · next q =>
    have e := Option.some.inj h
    exact ⟨by rw [← e]; exact Nat.not_le.mp fun z => q (Or.inr z), q, e⟩
theorem ite_n {c : Prop} [Decidable c] {γ : Type} {a : Option γ} {o : γ} (h : (if c then none else a) = some o) : ¬ c ∧ a = some o := by
  by_cases hc : c
  · rw [if_pos hc] at h; cases h
  · rw [if_neg hc] at h; exact ⟨hc, h⟩
theorem g_aald (hx : p.tables.exec = Jvm.exec) (hb : c.code = cc) (hK : va_K D vwCl tys s) (hB : Bd D tys A s ws H locs) (q0 t0 : Nat) {cA : ClassId} {ty : FieldType} {n j : Nat} {g : Nat → Nat} (ha : ws[q0]? = some (a, .inl (cA, n, .inr (.inr (.inr (.inr (fun k => some (g k)))))))) (ht : tys[t0]? = some (cA, .array ty)) {i : Int32} (hr : vp_in i n ∧ i.toNatClampNeg = j) (hdg : decode cc pc = .ok (.aaload, 1))
    (k : W p l e R s m args below meth c H locs cells slots Q (F0 m (pc + 1) ls (.ref (g j) :: rest))) : W p l e R s m args below meth c H locs cells slots Q (F0 m pc ls (.int i :: .ref a :: rest)) := by
  obtain ⟨hin, rfl⟩ := hr
  have hlt : i.toNatClampNeg < n := Nat.not_le.mp fun q => hin (Or.inr q)
  exact W.aald (v := va_rf (some (g i.toNatClampNeg))) (ty := .array ty) hx hb (hB.1 q0 _ ha) ((hK.2 t0 _ ht).1 n (fun j => va_rf (some (g j)))) rfl (fun q => by cases q) (by show ¬ (i < 0 ∨ (arrV _ _ _).slots.size ≤ _); rw [arrV_size]; exact hin) (by show (arrV _ _ _).slots[_]? = _; rw [arrV_read _ _ hlt]) rfl rfl hdg k
theorem spl_set {ws : va_W} {pa pb : Nat} {x y0 y : Nat × va_E} (ha : ws[pa]? = some x) (hb : ws[pb]? = some y0) (hne : pa ≠ pb) : spl ws [pa, pb] [x, y] = ws.set pb y := by
  apply List.ext_getElem?
  intro k
  unfold spl
  rw [List.getElem?_mapIdx]
  by_cases h1 : k = pb
  · subst h1
    have hl := (List.getElem?_eq_some_iff.mp hb).1
    rw [List.getElem?_set_self hl, hb]
    have : ([pa, k] : List Nat).idxOf? k = some 1 := by simp [List.idxOf?, List.findIdx?_cons, hne]
    simp [this]
  · rw [List.getElem?_set_ne (Ne.symm h1)]
    by_cases h2 : k = pa
    · subst h2
      rw [ha]
      have : ([k, pb] : List Nat).idxOf? k = some 0 := by simp [List.idxOf?, List.findIdx?_cons]
      simp [this]
    · have : ([pa, pb] : List Nat).idxOf? k = none := by simp [List.idxOf?, List.findIdx?_cons, Ne.symm h1, Ne.symm h2]
      simp [this]
end MY
