/-! pure: the law writes a text into the class's buffer -/
theorem nar_b (x : Int32) : vp_nar .byte x = x.toInt8.toInt32 := rfl
theorem i8_lo {m : Nat} (hm : m < 2 ^ 31) (h : m % 256 < 128) : (nI m).toInt8.toInt32 = nI (m % 256) := by
  apply Int32.toInt_inj.mp
  rw [Int8.toInt_toInt32, Int32.toInt_toInt8, nI_toInt hm, nI_toInt (by omega), Int.bmod_def]
  omega
theorem ush_n {W s : Nat} (hW : W < 2 ^ 31) (hs : s < 32) {v : Int32} (hv : (v.toUInt32 &&& Int32.toUInt32 31) = UInt32.ofNat s) : ((nI W).toUInt32 >>> (v.toUInt32 &&& Int32.toUInt32 31)).toInt32 = nI (W / 2 ^ s) := by
  rw [hv]
  apply Int32.toBitVec_inj.mp
  apply BitVec.eq_of_toNat_eq
  have e0 : (nI W).toUInt32.toNat = W := by
    show (BitVec.ofNat 32 W).toNat = W
    rw [BitVec.toNat_ofNat]
    omega
  have e1 : (((nI W).toUInt32 >>> UInt32.ofNat s).toInt32).toBitVec.toNat = ((nI W).toUInt32 >>> UInt32.ofNat s).toNat := rfl
  have hd : W / 2 ^ s ≤ W := Nat.div_le_self _ _
  have e2 : (nI (W / 2 ^ s)).toBitVec.toNat = W / 2 ^ s := by
    show (BitVec.ofNat 32 _).toNat = _
    rw [BitVec.toNat_ofNat]
    exact Nat.mod_eq_of_lt (Nat.lt_of_le_of_lt hd (Nat.lt_trans hW (by decide)))
  have e3 : (UInt32.ofNat s).toNat % 32 = s := by
    rw [UInt32.toNat_ofNat']
    omega
  rw [e1, e2, UInt32.toNat_shiftRight, e3, e0, Nat.shiftRight_eq_div_pow]
/-- four characters in a word -/
def pk4 (a b c d : Nat) : Nat := a * 16777216 + b * 65536 + c * 256 + d
theorem by8_s {W s : Nat} (hW : W < 2 ^ 31) (hs : s < 32) (h : W / 2 ^ s % 256 < 128) {v : Int32} (hv : (v.toUInt32 &&& Int32.toUInt32 31) = UInt32.ofNat s) : by8 (nI W) v = nI (W / 2 ^ s % 256) := by
  unfold by8
  have hd : W / 2 ^ s ≤ W := Nat.div_le_self _ _
  rw [nar_b, ush_n hW hs hv, i8_lo (by omega) h, i8_lo (by omega) (by omega)]
  congr 1
  omega
theorem by8_4 {a b c d : Nat} (ha : a < 128) (hb : b < 128) (hc : c < 128) (hd : d < 128) : by8 (nI (pk4 a b c d)) 24 = nI a ∧ by8 (nI (pk4 a b c d)) 16 = nI b ∧ by8 (nI (pk4 a b c d)) 8 = nI c ∧ by8 (nI (pk4 a b c d)) 0 = nI d := by
  have hW : pk4 a b c d < 2 ^ 31 := by unfold pk4; omega
  have e1 : pk4 a b c d / 2 ^ 24 % 256 = a := by unfold pk4; omega
  have e2 : pk4 a b c d / 2 ^ 16 % 256 = b := by unfold pk4; omega
  have e3 : pk4 a b c d / 2 ^ 8 % 256 = c := by unfold pk4; omega
  have e4 : pk4 a b c d / 2 ^ 0 % 256 = d := by unfold pk4; omega
  refine ⟨?_, ?_, ?_, ?_⟩
  · rw [by8_s (s := 24) hW (by decide) (by omega) (by decide), e1]
  · rw [by8_s (s := 16) hW (by decide) (by omega) (by decide), e2]
  · rw [by8_s (s := 8) hW (by decide) (by omega) (by decide), e3]
  · rw [by8_s (s := 0) hW (by decide) (by omega) (by decide), e4]
theorem shl_c : ∀ (c : Fin 128) (k : Fin 4), nI c.val <<< (((24 : Int32) - ((8 : Int32) * nI k.val)) &&& 31) = nI (c.val * 2 ^ (24 - 8 * k.val)) := by decide +kernel
theorem nI_or {x y : Nat} (hx : x < 2 ^ 31) (hy : y < 2 ^ 31) : nI x ||| nI y = nI (x ||| y) := by
  apply Int32.toBitVec_inj.mp
  apply BitVec.eq_of_toNat_eq
  have hz : x ||| y < 2 ^ 31 := Nat.or_lt_two_pow hx hy
  show (BitVec.ofNat 32 x ||| BitVec.ofNat 32 y).toNat = (BitVec.ofNat 32 (x ||| y)).toNat
  rw [BitVec.toNat_or, BitVec.toNat_ofNat, BitVec.toNat_ofNat, BitVec.toNat_ofNat, Nat.mod_eq_of_lt (by omega), Nat.mod_eq_of_lt (by omega), Nat.mod_eq_of_lt (by omega)]
theorem or_pk {W c k : Nat} (hk : k < 4) (hc : c < 128) (hW : W < 2 ^ 31) (h0 : W % 2 ^ (24 - 8 * k + 8) = 0) (hs : W + c * 2 ^ (24 - 8 * k) < 2 ^ 31) : nI W ||| (nI c <<< (((24 : Int32) - ((8 : Int32) * nI k)) &&& 31)) = nI (W + c * 2 ^ (24 - 8 * k)) := by
  rw [shl_c ⟨c, hc⟩ ⟨k, hk⟩]
  show nI W ||| nI (c * 2 ^ (24 - 8 * k)) = _
  rw [nI_or hW (by omega)]
  congr 1
  have hb : c * 2 ^ (24 - 8 * k) < 2 ^ (24 - 8 * k + 8) := by
    rw [Nat.pow_add, Nat.mul_comm]
    exact Nat.mul_lt_mul_of_pos_left (by omega) (Nat.two_pow_pos _)
  have := Nat.two_pow_add_eq_or_of_lt hb (W / 2 ^ (24 - 8 * k + 8))
  have e : 2 ^ (24 - 8 * k + 8) * (W / 2 ^ (24 - 8 * k + 8)) = W := by
    have := Nat.div_add_mod W (2 ^ (24 - 8 * k + 8))
    omega
  rw [e] at this
  exact this.symm
/-- a character -/
def asc (x : Int32) : Prop := ∃ c : Nat, c < 128 ∧ x = nI c
def cc (t : List Int32) (p : Nat) : Nat := nv (t.getD p 0)
def pkw (t : List Int32) (p : Nat) : Nat := pk4 (cc t p) (cc t (p + 1)) (cc t (p + 2)) (cc t (p + 3))
theorem cc_lt {t : List Int32} (h : ∀ x ∈ t, asc x) (p : Nat) : cc t p < 128 ∧ t.getD p 0 = nI (cc t p) := by
  unfold cc
  by_cases hp : p < t.length
  · have hm : t.getD p 0 ∈ t := by
      rw [List.getD_eq_getElem?_getD, List.getElem?_eq_getElem hp]
      exact List.getElem_mem hp
    obtain ⟨c, h1, h2⟩ := h _ hm
    rw [h2, nv_nI (by omega)]
    exact ⟨h1, rfl⟩
  · rw [List.getD_eq_getElem?_getD, List.getElem?_eq_none (by omega)]
    exact ⟨by decide, rfl⟩
theorem cc_0 {t : List Int32} {p : Nat} (h : t.length ≤ p) : cc t p = 0 := by
  unfold cc
  rw [List.getD_eq_getElem?_getD, List.getElem?_eq_none h]
  rfl
theorem cc_ap {t : List Int32} {x : Int32} {p : Nat} : cc (t ++ [x]) p = if p = t.length then nv x else cc t p := by
  unfold cc
  rw [List.getD_eq_getElem?_getD, List.getD_eq_getElem?_getD]
  split
  · next h =>
    subst h
    rw [List.getElem?_append_right (Nat.le_refl _), Nat.sub_self]
    rfl
  · next h =>
    by_cases hp : p < t.length
    · rw [List.getElem?_append_left hp]
    · rw [List.getElem?_append_right (by omega), List.getElem?_eq_none (show ([x] : List Int32).length ≤ p - t.length by simp; omega), List.getElem?_eq_none (by omega)]
section AP
variable {F n : Nat} {τs : WS} {pa : PA} {β : FS} {υ : MS} {ω : WS} {sid : PA} {b : FS}
theorem c_append (hF : 5 ≤ F) {k : Nat} (h : υ 1 0 = nI k) (hk : k + 20 ≤ 700) (w : Nat → Int32) : ∃ β1 υ1, mX3_append F τs n pa β υ ω sid (w 0) (w 1) (w 2) (w 3) (w 4) = some (nI (k + 20), β1, υ1) ∧ υ1 1 0 = nI (k + 20) ∧ (∀ q, q ≠ 1 → υ1 q = υ q) ∧ (∀ x, x < k → β1 x = β x) ∧ ∀ i, i < 5 → β1 (k + 4 * i) = by8 (w i) 24 ∧ β1 (k + 4 * i + 1) = by8 (w i) 16 ∧ β1 (k + 4 * i + 2) = by8 (w i) 8 ∧ β1 (k + 4 * i + 3) = by8 (w i) 0 := by
  obtain ⟨υ1, a1, b1, c1⟩ := putWord_F hF (τs := τs) (n := n) (pa := pa) (ω := ω) (sid := sid) (β := β) (w 0) h (by omega)
  obtain ⟨υ2, a2, b2, c2⟩ := putWord_F hF (τs := τs) (n := n) (pa := pa) (ω := ω) (sid := sid) (β := pw β k (w 0)) (w 1) b1 (by omega)
  obtain ⟨υ3, a3, b3, c3⟩ := putWord_F hF (τs := τs) (n := n) (pa := pa) (ω := ω) (sid := sid) (β := pw (pw β k (w 0)) (k + 4) (w 1)) (w 2) b2 (by omega)
  obtain ⟨υ4, a4, b4, c4⟩ := putWord_F hF (τs := τs) (n := n) (pa := pa) (ω := ω) (sid := sid) (β := pw (pw (pw β k (w 0)) (k + 4) (w 1)) (k + 4 + 4) (w 2)) (w 3) b3 (by omega)
  obtain ⟨υ5, a5, b5, c5⟩ := putWord_F hF (τs := τs) (n := n) (pa := pa) (ω := ω) (sid := sid) (β := pw (pw (pw (pw β k (w 0)) (k + 4) (w 1)) (k + 4 + 4) (w 2)) (k + 4 + 4 + 4) (w 3)) (w 4) b4 (by omega)
  have hle : (nI k + (20 : Int32)) ≤ (700 : Int32) := by
    rw [show (20 : Int32) = nI 20 from rfl, nI_a]
    exact (nI_leI (b := 700) (by omega) (by decide)).mpr hk
  refine ⟨pw (pw (pw (pw (pw β k (w 0)) (k + 4) (w 1)) (k + 4 + 4) (w 2)) (k + 4 + 4 + 4) (w 3)) (k + 4 + 4 + 4 + 4) (w 4), υ5, ?_, b5, fun q hq => by rw [c5 q hq, c4 q hq, c3 q hq, c2 q hq, c1 q hq], fun x hx => bytes_lo β k _ _ _ _ _ x hx, fun i hi => ?_⟩
  · unfold mX3_append
    rw [h, if_pos hle, a1, ob2_e, a2, ob2_e, a3, ob2_e, a4, ob2_e, a5, ob2_e, b5]
  · match i, hi with
    | 0, _ => simp only [pw_at]; simp [Nat.add_assoc]
    | 1, _ => simp only [pw_at]; simp [Nat.add_assoc]
    | 2, _ => simp only [pw_at]; simp [Nat.add_assoc]
    | 3, _ => simp only [pw_at]; simp [Nat.add_assoc]
    | 4, _ => simp only [pw_at]; simp [Nat.add_assoc]
    | n + 5, hi => exact absurd hi (by omega)
/-- the text so far, in the class's buffer and the law's -/
def WT (t : List Int32) (β : FS) (υ : MS) (b : FS) : Prop := t.length ≤ 700 ∧ (∀ x ∈ t, asc x) ∧ υ 1 0 = nI (20 * (t.length / 20)) ∧ (∀ k, k < 20 * (t.length / 20) → β k = t.getD k 0) ∧ b 0 = nI t.length ∧ ∀ i, i < 5 → b (1 + i) = nI (pkw t (20 * (t.length / 20) + 4 * i))
theorem fl_loop (hF : 10 ≤ F) (b : FS) : loopM (fun st : Int32 × FS => mL_flush_L22 F τs n pa β υ ω sid st.1 st.2) F ((1 : Int32), b) = some (fo (fun k f => upd f k 0) 1 5 b) := by
  exact loop_up (f := fun st : Int32 × FS => mL_flush_L22 F τs n pa β υ ω sid st.1 st.2) (fun _ _ => True) (fun k f => upd f k 0) (fun v => v) 6 (fun k f hk _ => ⟨by
    show mL_flush_L22 F τs n pa β υ ω sid (nI k) f = _
    unfold mL_flush_L22
    rw [if_neg (i32_nle (c := 6) (b := 6) rfl (by omega) (by decide) hk), wr_at (show k < 8 by omega) (by decide), ob1_e, nI_s], trivial⟩) (fun f _ => by
    show mL_flush_L22 F τs n pa β υ ω sid (nI 6) f = _
    unfold mL_flush_L22
    rw [if_pos (by decide)]) 5 1 F b (by omega) (by omega) trivial
theorem fl_at (b : FS) (x : Nat) : fo (fun k (f : FS) => upd f k 0) 1 5 b x = if 1 ≤ x ∧ x < 6 then 0 else b x := by
  show upd (upd (upd (upd (upd b 1 0) 2 0) 3 0) 4 0) 5 0 x = _
  unfold upd
  by_cases h1 : x = 1
  · subst h1; simp
  · by_cases h2 : x = 2
    · subst h2; simp
    · by_cases h3 : x = 3
      · subst h3; simp
      · by_cases h4 : x = 4
        · subst h4; simp
        · by_cases h5 : x = 5
          · subst h5; simp
          · rw [if_neg h5, if_neg h4, if_neg h3, if_neg h2, if_neg h1, if_neg (by omega)]
/-- twenty characters go over -/
theorem l_flush (hF : 5000 ≤ F) {t : List Int32} {f : Nat} (ht : ∀ x ∈ t, asc x) (h1 : υ 1 0 = nI (20 * f)) (h2 : ∀ k, k < 20 * f → β k = t.getD k 0) (h3 : ∀ i, i < 5 → b (1 + i) = nI (pkw t (20 * f + 4 * i))) (hf : 20 * f + 20 ≤ 700) : ∃ β1 υ1 b1, mL_flush F τs n pa β υ ω sid b = some (β1, υ1, b1) ∧ υ1 1 0 = nI (20 * f + 20) ∧ (∀ q, q ≠ 1 → υ1 q = υ q) ∧ (∀ k, k < 20 * f + 20 → β1 k = t.getD k 0) ∧ b1 0 = b 0 ∧ ∀ i, i < 5 → b1 (1 + i) = 0 := by
  obtain ⟨β1, υ1, e1, e2, e3, e4, e5⟩ := c_append (F := F) (τs := τs) (n := n) (pa := pa) (β := β) (ω := ω) (sid := sid) (by omega) h1 hf (fun i => b (1 + i))
  have r : ∀ i, i < 8 → rd b 8 (nI i) = some (b i) := fun i hi => rd_at hi (by decide)
  refine ⟨β1, υ1, fo (fun k f => upd f k 0) 1 5 b, ?_, e2, e3, fun k hk => ?_, ?_, fun i hi => ?_⟩
  · unfold mL_flush
    rw [show rd b 8 (1 : Int32) = _ from r 1 (by decide), ob1_e, show rd b 8 (2 : Int32) = _ from r 2 (by decide), ob1_e, show rd b 8 (3 : Int32) = _ from r 3 (by decide), ob1_e, show rd b 8 (4 : Int32) = _ from r 4 (by decide), ob1_e, show rd b 8 (5 : Int32) = _ from r 5 (by decide), ob1_e, e1, ob3_e, fl_loop (by omega), ob1_e]
  · by_cases hlo : k < 20 * f
    · rw [e4 k hlo]; exact h2 k hlo
    · obtain ⟨i, j, hi, hj, rfl⟩ : ∃ i j, i < 5 ∧ j < 4 ∧ k = 20 * f + 4 * i + j := ⟨(k - 20 * f) / 4, (k - 20 * f) % 4, by omega, by omega, by omega⟩
      obtain ⟨x1, x2, x3, x4⟩ := e5 i hi
      rw [h3 i hi] at x1 x2 x3 x4
      obtain ⟨y1, y2, y3, y4⟩ := by8_4 (cc_lt ht (20 * f + 4 * i)).1 (cc_lt ht (20 * f + 4 * i + 1)).1 (cc_lt ht (20 * f + 4 * i + 2)).1 (cc_lt ht (20 * f + 4 * i + 3)).1
      unfold pkw at x1 x2 x3 x4
      rw [(cc_lt ht _).2]
      match j, hj with
      | 0, _ => exact x1.trans y1
      | 1, _ => exact x2.trans y2
      | 2, _ => exact x3.trans y3
      | 3, _ => exact x4.trans y4
      | n + 4, hj => exact absurd hj (by omega)
  · rw [fl_at, if_neg (by omega)]
  · rw [fl_at, if_pos (by omega)]
/-- one character -/
theorem l_put (hF : 5000 ≤ F) {t : List Int32} {x : Int32} (h : WT t β υ b) (hx : asc x) (hl : t.length + 1 ≤ 700) : ∃ β1 υ1 b1, mL_put F τs n pa β υ ω sid b x = some (β1, υ1, b1) ∧ WT (t ++ [x]) β1 υ1 b1 ∧ ∀ q, q ≠ 1 → υ1 q = υ q := by
  obtain ⟨w1, w2, w3, w4, w5, w6⟩ := h
  obtain ⟨c, hc, rfl⟩ := hx
  have w2' : ∀ y ∈ t ++ [nI c], asc y := fun y hy => by
    rcases List.mem_append.mp hy with q | q
    · exact w2 y q
    · rw [List.mem_singleton.mp q]; exact ⟨c, hc, rfl⟩
  generalize hm : t.length = m at *
  have hlen : (t ++ [nI c]).length = m + 1 := by rw [List.length_append, hm]; rfl
  have e20 : nI m - nI m / (20 : Int32) * (20 : Int32) = nI (m % 20) := nI_r (b := 20) (by omega) (by decide) (by decide)
  have e4 : nI m - nI m / (4 : Int32) * (4 : Int32) = nI (m % 4) := nI_r (b := 4) (by omega) (by decide) (by decide)
  have e5 : nI (m % 20) / (4 : Int32) = nI (m % 20 / 4) := nI_q (b := 4) (by omega) (by decide) (by decide)
  have ei : (1 : Int32) + nI (m % 20 / 4) = nI (1 + m % 20 / 4) := by rw [show (1 : Int32) = nI 1 from rfl, nI_a]
  have hi : m % 20 / 4 < 5 := by omega
  have hrd : ∀ (f : FS) (i : Nat), i < 8 → rd f 8 (nI i) = some (f i) := fun f i hi => rd_at hi (by decide)
  have hcc : ∀ p, cc (t ++ [nI c]) p = if p = m then c else cc t p := fun p => by rw [cc_ap, hm, nv_nI (by omega)]
  have hp0 : ∀ p, m ≤ p → cc t p = 0 := fun p hp => cc_0 (by omega)
  have hclt := fun p => (cc_lt w2 p).1
  have hword : b (1 + m % 20 / 4) ||| (nI c <<< (((24 : Int32) - ((8 : Int32) * nI (m % 4))) &&& 31)) = nI (pkw (t ++ [nI c]) (20 * (m / 20) + 4 * (m % 20 / 4))) := by
    rw [w6 _ hi]
    have hp : m = 20 * (m / 20) + 4 * (m % 20 / 4) + m % 4 := by omega
    generalize hP : 20 * (m / 20) + 4 * (m % 20 / 4) = P at *
    have a0 := hclt P
    have a1 := hclt (P + 1)
    have a2 := hclt (P + 2)
    have a3 := hclt (P + 3)
    have hk : m % 4 < 4 := Nat.mod_lt _ (by decide)
    have d0 := hcc P
    have d1 := hcc (P + 1)
    have d2 := hcc (P + 2)
    have d3 := hcc (P + 3)
    have z0 := hp0 P
    have z1 := hp0 (P + 1)
    have z2 := hp0 (P + 2)
    have z3 := hp0 (P + 3)
    generalize m % 4 = k at *
    unfold pkw
    match k, hk with
    | 0, _ =>
      have z0 := z0 (by omega); have z1 := z1 (by omega); have z2 := z2 (by omega); have z3 := z3 (by omega)
      rw [if_pos (by omega)] at d0
      rw [if_neg (by omega)] at d1 d2 d3
      rw [d0, d1, d2, d3, z0, z1, z2, z3]
      rw [show pk4 0 0 0 0 = 0 from rfl]
      refine (or_pk (W := 0) (k := 0) (by decide) hc (by decide) (Nat.zero_mod _) (by omega)).trans (congrArg nI ?_)
      unfold pk4; omega
    | 1, _ =>
      have z1 := z1 (by omega); have z2 := z2 (by omega); have z3 := z3 (by omega)
      rw [if_pos (by omega)] at d1
      rw [if_neg (by omega)] at d0 d2 d3
      rw [d0, d1, d2, d3, z1, z2, z3]
      refine (or_pk (W := pk4 (cc t P) 0 0 0) (k := 1) (by decide) hc (by unfold pk4; omega) (by unfold pk4; omega) (by unfold pk4; omega)).trans (congrArg nI ?_)
      unfold pk4; omega
    | 2, _ =>
      have z2 := z2 (by omega); have z3 := z3 (by omega)
      rw [if_pos (by omega)] at d2
      rw [if_neg (by omega)] at d0 d1 d3
      rw [d0, d1, d2, d3, z2, z3]
      refine (or_pk (W := pk4 (cc t P) (cc t (P + 1)) 0 0) (k := 2) (by decide) hc (by unfold pk4; omega) (by unfold pk4; omega) (by unfold pk4; omega)).trans (congrArg nI ?_)
      unfold pk4; omega
    | 3, _ =>
      have z3 := z3 (by omega)
      rw [if_pos (by omega)] at d3
      rw [if_neg (by omega)] at d0 d1 d2
      rw [d0, d1, d2, d3, z3]
      refine (or_pk (W := pk4 (cc t P) (cc t (P + 1)) (cc t (P + 2)) 0) (k := 3) (by decide) hc (by unfold pk4; omega) (by unfold pk4; omega) (by unfold pk4; omega)).trans (congrArg nI ?_)
      unfold pk4; omega
    | n + 4, hk => exact absurd hk (by omega)
  have hupd : ∀ (f : FS) (i j : Nat) (v : Int32), upd f i v j = if j = i then v else f j := fun f i j v => rfl
  have hW6 : ∀ i, i < 5 → upd (upd b (1 + m % 20 / 4) (nI (pkw (t ++ [nI c]) (20 * (m / 20) + 4 * (m % 20 / 4))))) 0 (nI (m + 1)) (1 + i) = nI (pkw (t ++ [nI c]) (20 * (m / 20) + 4 * i)) := fun i hi2 => by
    rw [hupd, if_neg (by omega), hupd]
    by_cases q : i = m % 20 / 4
    · subst q; rw [if_pos rfl]
    · rw [if_neg (by omega), w6 i hi2]
      refine congrArg nI ?_
      unfold pkw
      rw [hcc, hcc, hcc, hcc, if_neg (by omega), if_neg (by omega), if_neg (by omega), if_neg (by omega)]
  have hβ : ∀ k, k < 20 * (m / 20) → β k = (t ++ [nI c]).getD k 0 := fun k hk => by
    rw [w4 k hk, List.getD_eq_getElem?_getD, List.getD_eq_getElem?_getD, List.getElem?_append_left (by omega)]
  have hbl : b 0 = nI m := w5
  have eN : nI (m + 1) - nI (m + 1) / (20 : Int32) * (20 : Int32) = nI ((m + 1) % 20) := nI_r (b := 20) (by omega) (by decide) (by decide)
  have hstart : mL_put F τs n pa β υ ω sid b (nI c) = ob3 (if nI ((m + 1) % 20) = 0 then ob3 (mL_flush F τs n pa β υ ω sid (upd (upd b (1 + m % 20 / 4) (nI (pkw (t ++ [nI c]) (20 * (m / 20) + 4 * (m % 20 / 4))))) 0 (nI (m + 1)))) fun β14 υ15 b16 => some (β14, υ15, b16) else some (β, υ, upd (upd b (1 + m % 20 / 4) (nI (pkw (t ++ [nI c]) (20 * (m / 20) + 4 * (m % 20 / 4))))) 0 (nI (m + 1)))) fun β8 υ9 b10 => some (β8, υ9, b10) := by
    unfold mL_put
    rw [show rd b 8 (0 : Int32) = some (nI m) from by rw [← hbl]; exact hrd b 0 (by decide)]
    simp only [ob1_e]
    rw [e20, e5, ei, hrd b _ (by omega), ob1_e, e4, hword, wr_at (show 1 + m % 20 / 4 < 8 by omega) (by decide), ob1_e]
    rw [show rd (upd b (1 + m % 20 / 4) (nI (pkw (t ++ [nI c]) (20 * (m / 20) + 4 * (m % 20 / 4))))) 8 (0 : Int32) = some (nI m) from by
      rw [← hbl, show rd (upd b (1 + m % 20 / 4) (nI (pkw (t ++ [nI c]) (20 * (m / 20) + 4 * (m % 20 / 4))))) 8 (0 : Int32) = _ from hrd _ 0 (by decide), hupd, if_neg (by omega)], ob1_e, nI_s]
    rw [show wr (upd b (1 + m % 20 / 4) (nI (pkw (t ++ [nI c]) (20 * (m / 20) + 4 * (m % 20 / 4))))) 8 (0 : Int32) (nI (m + 1)) = _ from wr_at (k := 0) (by decide) (by decide), ob1_e]
    rw [show rd (upd (upd b (1 + m % 20 / 4) (nI (pkw (t ++ [nI c]) (20 * (m / 20) + 4 * (m % 20 / 4))))) 0 (nI (m + 1))) 8 (0 : Int32) = some (nI (m + 1)) from by
      rw [show rd (upd (upd b (1 + m % 20 / 4) (nI (pkw (t ++ [nI c]) (20 * (m / 20) + 4 * (m % 20 / 4))))) 0 (nI (m + 1))) 8 (0 : Int32) = _ from hrd _ 0 (by decide), hupd, if_pos rfl], ob1_e, eN]
  rw [hstart]
  by_cases hz : (m + 1) % 20 = 0
  · obtain ⟨β1, υ1, b1, f1, f2, f3, f4, f5, f6⟩ := l_flush (F := F) (τs := τs) (n := n) (pa := pa) (β := β) (υ := υ) (ω := ω) (sid := sid) (b := upd (upd b (1 + m % 20 / 4) (nI (pkw (t ++ [nI c]) (20 * (m / 20) + 4 * (m % 20 / 4))))) 0 (nI (m + 1))) (t := t ++ [nI c]) (f := m / 20) hF w2' w3 hβ hW6 (by omega)
    rw [hz, if_pos (show nI 0 = 0 from rfl), f1, ob3_e, ob3_e]
    have hd : (m + 1) / 20 = m / 20 + 1 := by omega
    refine ⟨β1, υ1, b1, rfl, ⟨by omega, w2', ?_, fun k hk => ?_, ?_, fun i hi2 => ?_⟩, f3⟩
    · rw [hlen, hd, f2]
      exact congrArg nI (by omega)
    · rw [hlen, hd] at hk
      exact f4 k (by omega)
    · rw [f5, hlen, hupd, if_pos rfl]
    · rw [f6 i hi2, hlen, hd]
      unfold pkw
      rw [cc_0 (by omega), cc_0 (by omega), cc_0 (by omega), cc_0 (by omega)]
      rfl
  · rw [if_neg (show ¬ nI ((m + 1) % 20) = 0 from fun q => hz ((nI_i (b := 0) (by omega) (by decide)).mp q)), ob3_e]
    have hd : (m + 1) / 20 = m / 20 := by omega
    refine ⟨_, _, _, rfl, ⟨by omega, w2', ?_, fun k hk => ?_, ?_, fun i hi2 => ?_⟩, fun q _ => rfl⟩
    · rw [hlen, hd]; exact w3
    · rw [hlen, hd] at hk
      exact hβ k hk
    · rw [hlen, hupd, if_pos rfl]
    · rw [hlen, hd]; exact hW6 i hi2
end AP
