/-! pure: append, and where the last error was -/
theorem loop_in {α β : Type} {f : α → Option (β ⊕ α)} {m : Nat} {a a' : α} (h : f a = some (.inr a')) : loopM f (m + 1) a = loopM f m a' := by
  show ob1 (f a) _ = _
  rw [h]
  rfl
theorem loop_out {α β : Type} {f : α → Option (β ⊕ α)} {m : Nat} {a : α} {b : β} (h : f a = some (.inl b)) : loopM f (m + 1) a = some b := by
  show ob1 (f a) _ = _
  rw [h]
  rfl
theorem b255 : ∀ i : Fin 32, 8 ≤ i.val → (255#32)[i.val] = false := by decide
theorem i8_and (x : Int32) : x.toInt8.toInt32 &&& 255 = x &&& 255 := by
  apply Int32.toBitVec_inj.mp
  ext i hi
  simp [BitVec.getElem_signExtend]
  rcases (show i < 8 ∨ 8 ≤ i by omega) with h | h
  · simp [h, hi]
  · simp [b255 ⟨i, hi⟩ h]
/-- the byte of a word that the class puts down -/
def by8 (w v : Int32) : Int32 := vp_nar .byte (((w.toUInt32 >>> (v.toUInt32 &&& Int32.toUInt32 31)).toInt32).toInt8.toInt32)
theorem putWord_step {fu : Nat} {τs : WS} {n : Nat} {p v : Int32} {pa : PA} {ω : WS} {sid : PA} {β : FS} {υ : MS} {k : Nat} (hv : ¬ v < 0) (h : υ 1 0 = nI k) (hk : k < 700) : mX3_putWord_L3 fu τs n p pa ω sid v β υ = some (.inr (v + (-8), upd β k (by8 p v), pf υ 1 (nI k + 1))) := by
  unfold mX3_putWord_L3
  rw [if_neg hv, h, wr_at hk (by decide), ob1_e, ob1_e]
  rfl
theorem putWord_end {fu : Nat} {τs : WS} {n : Nat} {p v : Int32} {pa : PA} {ω : WS} {sid : PA} {β : FS} {υ : MS} (hv : v < 0) : mX3_putWord_L3 fu τs n p pa ω sid v β υ = some (.inl (β, υ)) := by
  unfold mX3_putWord_L3
  rw [if_pos hv]
def pw (β : FS) (k : Nat) (w : Int32) : FS := upd (upd (upd (upd β k (by8 w 24)) (k + 1) (by8 w 16)) (k + 2) (by8 w 8)) (k + 3) (by8 w 0)
theorem nI_s (k : Nat) : nI k + 1 = nI (k + 1) := by simp [nI]
theorem putWord_eq {fu : Nat} {τs : WS} {n : Nat} {pa : PA} {ω : WS} {sid : PA} {β : FS} {υ : MS} {k : Nat} (w : Int32) (h : υ 1 0 = nI k) (hk : k + 4 ≤ 700) : ∃ υ1, mX3_putWord (fu + 5) τs n pa β υ ω sid w = some (pw β k w, υ1) ∧ υ1 1 0 = nI (k + 4) ∧ ∀ q, q ≠ 1 → υ1 q = υ q := by
  have e : ∀ (u : MS) (x : Int32), pf u 1 x 1 0 = x := fun u x => by simp [pf_at]
  have o : ∀ (u : MS) (x : Int32) (q : Nat), q ≠ 1 → pf u 1 x q = u q := fun u x q hq => by funext i; simp [pf_at, hq]
  refine ⟨pf (pf (pf (pf υ 1 (nI k + 1)) 1 (nI (k + 1) + 1)) 1 (nI (k + 2) + 1)) 1 (nI (k + 3) + 1), ?_, ?_, fun q hq => ?_⟩
  · have st : ∀ (v : Int32) (β : FS) (υ : MS) (k : Nat), ¬ v < 0 → υ 1 0 = nI k → k < 700 → (fun st : Int32 × FS × MS => mX3_putWord_L3 (fu + 5) τs n w pa ω sid st.1 st.2.1 st.2.2) (v, β, υ) = some (.inr (v + (-8), upd β k (by8 w v), pf υ 1 (nI k + 1))) := fun v β υ k h1 h2 h3 => putWord_step h1 h2 h3
    unfold mX3_putWord
    have hL : loopM (fun st : Int32 × FS × MS => mX3_putWord_L3 (fu + 5) τs n w pa ω sid st.1 st.2.1 st.2.2) (fu + 5) ((24 : Int32), β, υ) = some (pw β k w, pf (pf (pf (pf υ 1 (nI k + 1)) 1 (nI (k + 1) + 1)) 1 (nI (k + 2) + 1)) 1 (nI (k + 3) + 1)) := by
      refine (loop_in (m := fu + 4) (st 24 β υ k (by decide) h (by omega))).trans ?_
      refine (loop_in (m := fu + 3) (st _ _ _ (k + 1) (by decide) (by rw [e, nI_s]) (by omega))).trans ?_
      refine (loop_in (m := fu + 2) (st _ _ _ (k + 2) (by decide) (by rw [e, nI_s]) (by omega))).trans ?_
      refine (loop_in (m := fu + 1) (st _ _ _ (k + 3) (by decide) (by rw [e, nI_s]) (by omega))).trans ?_
      exact loop_out (m := fu) (putWord_end (v := (24 : Int32) + (-8) + (-8) + (-8) + (-8)) (by decide))
    rw [hL]
    rfl
  · rw [e, nI_s]
  · rw [o _ _ _ hq, o _ _ _ hq, o _ _ _ hq, o _ _ _ hq]
/-- the byte of the words that the reference puts down at v -/
def mb (p5 p6 p7 p8 p9 v3 : Int32) : Int32 := ((if (4 : Int32) ≤ v3 then (if (8 : Int32) ≤ v3 then (if (12 : Int32) ≤ v3 then (if (16 : Int32) ≤ v3 then p9 else p8) else p7) else p6) else p5) >>> (((24 : Int32) - ((8 : Int32) * (v3 - v3 / (4 : Int32) * (4 : Int32)))) &&& 31)) &&& (255 : Int32)
/-- one byte put down -/
def mg (p5 p6 p7 p8 p9 : Int32) (len q : Nat) (μ : MS) : MS := pf (u2 μ 1 (len + q) (mb p5 p6 p7 p8 p9 (nI q))) 2 (nI (len + q) + 1)
theorem mg_at (p5 p6 p7 p8 p9 : Int32) (len q : Nat) (μ : MS) (c x : Nat) : mg p5 p6 p7 p8 p9 len q μ c x = if c = 2 then nI (len + q) + 1 else if c = 1 ∧ x = len + q then mb p5 p6 p7 p8 p9 (nI q) else μ c x := by
  unfold mg
  rw [pf_at, u2_at]
theorem mapp_fo (p5 p6 p7 p8 p9 : Int32) (len : Nat) : ∀ (n a : Nat) (μ : MS), μ 2 0 = nI (len + a) → (fo (mg p5 p6 p7 p8 p9 len) a n μ) 2 0 = nI (len + a + n) ∧ (∀ x, (fo (mg p5 p6 p7 p8 p9 len) a n μ) 1 x = if len + a ≤ x ∧ x < len + a + n then mb p5 p6 p7 p8 p9 (nI (x - len)) else μ 1 x) ∧ ∀ q, q ≠ 1 → q ≠ 2 → (fo (mg p5 p6 p7 p8 p9 len) a n μ) q = μ q := by
  intro n
  induction n with
  | zero =>
    intro a μ h
    refine ⟨h, fun x => ?_, fun q _ _ => rfl⟩
    rw [if_neg (by omega)]
    rfl
  | succ n ih =>
    intro a μ h
    obtain ⟨h1, h2, h3⟩ := ih (a + 1) (mg p5 p6 p7 p8 p9 len a μ) (by rw [mg_at, if_pos rfl, nI_s]; rfl)
    refine ⟨?_, fun x => ?_, fun q hq1 hq2 => ?_⟩
    · show fo (mg p5 p6 p7 p8 p9 len) (a + 1) n (mg p5 p6 p7 p8 p9 len a μ) 2 0 = _
      rw [h1]
      congr 1
      omega
    · show fo (mg p5 p6 p7 p8 p9 len) (a + 1) n (mg p5 p6 p7 p8 p9 len a μ) 1 x = _
      rw [h2]
      by_cases hx : x = len + a
      · subst hx
        rw [if_neg (by omega), if_pos (by omega), mg_at, if_neg (by decide), if_pos ⟨rfl, rfl⟩]
        congr 2
        omega
      · have hm : mg p5 p6 p7 p8 p9 len a μ 1 x = μ 1 x := by rw [mg_at, if_neg (show ¬ (1 : Nat) = 2 by decide), if_neg (by simp [hx])]
        rw [hm]
        by_cases hr : len + (a + 1) ≤ x ∧ x < len + (a + 1) + n
        · rw [if_pos hr, if_pos (by omega)]
        · rw [if_neg hr, if_neg (by omega)]
    · show fo (mg p5 p6 p7 p8 p9 len) (a + 1) n (mg p5 p6 p7 p8 p9 len a μ) q = _
      rw [h3 q hq1 hq2]
      funext i
      rw [mg_at, if_neg hq2, if_neg (by simp [hq1])]
theorem sh_and (w : Int32) (v : Nat) (h : v ≤ 24) : (BitVec.sshiftRight w.toBitVec v) &&& 255#32 = (w.toBitVec >>> v) &&& 255#32 := by
  ext i hi
  rcases (show i < 8 ∨ 8 ≤ i by omega) with h8 | h8
  · simp [BitVec.getElem_sshiftRight, show v + i < 32 by omega]
  · simp [b255 ⟨i, hi⟩ h8]
theorem by8_24 (w : Int32) : (by8 w 24 &&& 255 : Int32) = (w >>> (24 : Int32)) &&& (255 : Int32) := by
  show ((((w.toUInt32 >>> ((24 : Int32).toUInt32 &&& Int32.toUInt32 31)).toInt32).toInt8.toInt32).toInt8.toInt32 &&& 255 : Int32) = _
  rw [i8_and, i8_and]
  apply Int32.toBitVec_inj.mp
  exact (sh_and w 24 (by decide)).symm
theorem by8_16 (w : Int32) : (by8 w 16 &&& 255 : Int32) = (w >>> (16 : Int32)) &&& (255 : Int32) := by
  show ((((w.toUInt32 >>> ((16 : Int32).toUInt32 &&& Int32.toUInt32 31)).toInt32).toInt8.toInt32).toInt8.toInt32 &&& 255 : Int32) = _
  rw [i8_and, i8_and]
  apply Int32.toBitVec_inj.mp
  exact (sh_and w 16 (by decide)).symm
theorem by8_8 (w : Int32) : (by8 w 8 &&& 255 : Int32) = (w >>> (8 : Int32)) &&& (255 : Int32) := by
  show ((((w.toUInt32 >>> ((8 : Int32).toUInt32 &&& Int32.toUInt32 31)).toInt32).toInt8.toInt32).toInt8.toInt32 &&& 255 : Int32) = _
  rw [i8_and, i8_and]
  apply Int32.toBitVec_inj.mp
  exact (sh_and w 8 (by decide)).symm
theorem by8_0 (w : Int32) : (by8 w 0 &&& 255 : Int32) = (w >>> (0 : Int32)) &&& (255 : Int32) := by
  show ((((w.toUInt32 >>> ((0 : Int32).toUInt32 &&& Int32.toUInt32 31)).toInt32).toInt8.toInt32).toInt8.toInt32 &&& 255 : Int32) = _
  rw [i8_and, i8_and]
  apply Int32.toBitVec_inj.mp
  exact (sh_and w 0 (by decide)).symm
theorem putWord_F {F : Nat} (hF : 5 ≤ F) {τs : WS} {n : Nat} {pa : PA} {ω : WS} {sid : PA} {β : FS} {υ : MS} {k : Nat} (w : Int32) (h : υ 1 0 = nI k) (hk : k + 4 ≤ 700) : ∃ υ1, mX3_putWord F τs n pa β υ ω sid w = some (pw β k w, υ1) ∧ υ1 1 0 = nI (k + 4) ∧ ∀ q, q ≠ 1 → υ1 q = υ q := by
  obtain ⟨f, rfl⟩ : ∃ f, F = f + 5 := ⟨F - 5, by omega⟩
  exact putWord_eq w h hk
theorem pw_at (β : FS) (k : Nat) (w : Int32) (x : Nat) : pw β k w x = if x = k + 3 then by8 w 0 else if x = k + 2 then by8 w 8 else if x = k + 1 then by8 w 16 else if x = k then by8 w 24 else β x := by
  unfold pw upd
  rfl
theorem bytes_at (β : FS) (len : Nat) (i1 i2 i3 i4 i5 : Int32) : ∀ q, q < 20 → (pw (pw (pw (pw (pw β len i1) (len + 4) i2) (len + 4 + 4) i3) (len + 4 + 4 + 4) i4) (len + 4 + 4 + 4 + 4) i5 (len + q) &&& 255 : Int32) = mb i1 i2 i3 i4 i5 (nI q) := by
  intro q hq
  match q, hq with
  | 0, _ => simp only [pw_at]; simp [Nat.add_assoc]; exact by8_24 i1
  | 1, _ => simp only [pw_at]; simp [Nat.add_assoc]; exact by8_16 i1
  | 2, _ => simp only [pw_at]; simp [Nat.add_assoc]; exact by8_8 i1
  | 3, _ => simp only [pw_at]; simp [Nat.add_assoc]; exact by8_0 i1
  | 4, _ => simp only [pw_at]; simp [Nat.add_assoc]; exact by8_24 i2
  | 5, _ => simp only [pw_at]; simp [Nat.add_assoc]; exact by8_16 i2
  | 6, _ => simp only [pw_at]; simp [Nat.add_assoc]; exact by8_8 i2
  | 7, _ => simp only [pw_at]; simp [Nat.add_assoc]; exact by8_0 i2
  | 8, _ => simp only [pw_at]; simp [Nat.add_assoc]; exact by8_24 i3
  | 9, _ => simp only [pw_at]; simp [Nat.add_assoc]; exact by8_16 i3
  | 10, _ => simp only [pw_at]; simp [Nat.add_assoc]; exact by8_8 i3
  | 11, _ => simp only [pw_at]; simp [Nat.add_assoc]; exact by8_0 i3
  | 12, _ => simp only [pw_at]; simp [Nat.add_assoc]; exact by8_24 i4
  | 13, _ => simp only [pw_at]; simp [Nat.add_assoc]; exact by8_16 i4
  | 14, _ => simp only [pw_at]; simp [Nat.add_assoc]; exact by8_8 i4
  | 15, _ => simp only [pw_at]; simp [Nat.add_assoc]; exact by8_0 i4
  | 16, _ => simp only [pw_at]; simp [Nat.add_assoc]; exact by8_24 i5
  | 17, _ => simp only [pw_at]; simp [Nat.add_assoc]; exact by8_16 i5
  | 18, _ => simp only [pw_at]; simp [Nat.add_assoc]; exact by8_8 i5
  | 19, _ => simp only [pw_at]; simp [Nat.add_assoc]; exact by8_0 i5
  | n + 20, hq => exact absurd hq (by omega)
theorem bytes_lo (β : FS) (len : Nat) (i1 i2 i3 i4 i5 : Int32) (x : Nat) (hx : x < len) : pw (pw (pw (pw (pw β len i1) (len + 4) i2) (len + 4 + 4) i3) (len + 4 + 4 + 4) i4) (len + 4 + 4 + 4 + 4) i5 x = β x := by
  simp only [pw_at]
  repeat rw [if_neg (by omega)]
/-- a byte of the class against one of the reference's -/
def sx (x : Int32) : Prop := x.toInt8.toInt32 = x
def eqB (x y : Int32) : Prop := x &&& 255 = y ∧ sx x
theorem by8_sx (w v : Int32) : sx (by8 w v) := by
  show ((((w.toUInt32 >>> (v.toUInt32 &&& Int32.toUInt32 31)).toInt32).toInt8.toInt32).toInt8.toInt32).toInt8.toInt32 = (((w.toUInt32 >>> (v.toUInt32 &&& Int32.toUInt32 31)).toInt32).toInt8.toInt32).toInt8.toInt32
  simp
theorem pw_sx {β : FS} {k x : Nat} {w : Int32} (h : ¬ (k ≤ x ∧ x < k + 4) → sx (β x)) : sx (pw β k w x) := by
  rw [pw_at]
  split
  · exact by8_sx _ _
  · split
    · exact by8_sx _ _
    · split
      · exact by8_sx _ _
      · split
        · exact by8_sx _ _
        · exact h (by omega)
