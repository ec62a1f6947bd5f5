/-! pure: the class's memory; the law's world beside the class's -/
def PAok (pa : PA) : Prop := (∀ j, j < 8 → 2 ≤ pa j ∧ pa j < 10) ∧ ∀ i j, i < 8 → j < 8 → pa i = pa j → i = j
def SDok (sid : PA) (n : Nat) : Prop := ∀ v, v < 10 → sid v < n
theorem SDok.g {sid : PA} {n : Nat} (h : SDok sid n) : gW sid n 0 = some () := gW_at (by decide) (h 0 (by decide))
/-- one more world is remembered -/
def RM (n u : Nat) (pa : PA) (υ : MS) (ω : WS) (sid pa1 : PA) (υ1 : MS) (ω1 : WS) (sid1 : PA) : Prop := ∃ u1, u1 ≤ 8 ∧ 1 ≤ u1 ∧ u1 = (if u < 8 then u + 1 else 8) ∧ υ1 6 0 = nI u1 ∧ (∀ q, q ≠ 6 → υ1 q = υ q) ∧ SDok sid1 n ∧ PAok pa1 ∧ ω1 0 = ω 0 ∧ sid1 0 = sid 0 ∧ sid1 (pa1 (u1 - 1)) = sid 0 ∧ Cpy (ω1 (pa1 (u1 - 1))) (ω 0) ∧ ∀ x, x + 1 < u1 → x < u ∧ sid1 (pa1 (u1 - 1 - (x + 1))) = sid (pa (u - 1 - x)) ∧ ω1 (pa1 (u1 - 1 - (x + 1))) = ω (pa (u - 1 - x))
theorem rem_c {F : Nat} (hF : 5000 ≤ F) {τs : WS} {n : Nat} {pa : PA} {β : FS} {υ : MS} {ω : WS} {sid : PA} {u : Nat} (hs : SDok sid n) (hp : PAok pa) (hu : u ≤ 8) (h6 : υ 6 0 = nI u) : ∃ pa1 υ1 ω1 sid1, mX3_remember F τs n pa β υ ω sid = some (pa1, υ1, ω1, sid1) ∧ RM n u pa υ ω sid pa1 υ1 ω1 sid1 := by
  obtain ⟨pa1, υ1, u2, a1, a2, a3, a4, a5, a6, a7⟩ := room_c (F := F) (by omega) (τs := τs) (β := β) (ω := ω) hu h6 hp.1 hp.2 hs
  obtain ⟨σ1, c1, c2, -⟩ := copyFrom_c F (ω 0) (ω (pa1 u2))
  have hv := a5 u2 a2
  have hgC : gC (pa1 u2) 0 sid n = some () := by
    unfold gC
    rw [if_pos ⟨hv.2, by decide, by omega, hs _ hv.2, hs 0 (by decide)⟩]
  refine ⟨pa1, pf υ1 6 (υ1 6 0 + 1), va_up ω (pa1 u2) σ1, va_up sid (pa1 u2) (sid 0), ?_, u2 + 1, by omega, by omega, ?_, ?_, fun q hq => ?_, fun v hv9 => ?_, ⟨a5, a6⟩, va_up_ne _ _ (by omega), va_up_ne _ _ (by omega), ?_, ?_, fun x hx => ?_⟩
  · unfold mX3_remember
    rw [a1, ob2_e, a3, hix_at a2, ob1_e, hgC, ob1_e, c1, ob1_e, ob1_e, ob1_e, ob1_e]
  · rcases a7 with ⟨x1, x2, -⟩ | ⟨x1, x2, -⟩
    · rw [if_pos x1, x2]
    · rw [if_neg (by omega), x2]
  · rw [pf_at, if_pos rfl, a3, nI_s]
  · funext i
    rw [pf_at, if_neg hq, a4 q hq]
  · by_cases hvv : v = pa1 u2
    · rw [hvv, va_up_self]; exact hs 0 (by decide)
    · rw [va_up_ne _ _ hvv]; exact hs v hv9
  · rw [Nat.add_sub_cancel, va_up_self]
  · rw [Nat.add_sub_cancel, va_up_self]; exact c2
  · have e : u2 + 1 - 1 - (x + 1) = u2 - 1 - x := by omega
    rw [e]
    have hjv : pa1 (u2 - 1 - x) ≠ pa1 u2 := fun h => by have := a6 _ u2 (by omega) a2 h; omega
    rw [va_up_ne _ _ hjv, va_up_ne _ _ hjv]
    rcases a7 with ⟨x1, x2, rfl⟩ | ⟨x1, x2, x3⟩
    · rw [x2]; exact ⟨by omega, rfl, rfl⟩
    · rw [x3 (u2 - 1 - x) (by omega), show u2 - 1 - x + 1 = u - 1 - x by omega]
      exact ⟨by omega, rfl, rfl⟩
/-- the latest change is undone -/
theorem undo_c {F : Nat} {τs : WS} {n : Nat} {pa : PA} {β : FS} {υ : MS} {ω : WS} {sid : PA} {u : Nat} (hs : SDok sid n) (hp : PAok pa) (hu : u ≤ 8) (h1 : 1 ≤ u) (h6 : υ 6 0 = nI u) : ∃ σ1, mX3_undo F τs n pa β υ ω sid = some (nI (u - 1), pf υ 6 (nI (u - 1)), va_up ω 0 σ1, va_up sid 0 (sid (pa (u - 1)))) ∧ Cpy σ1 (ω (pa (u - 1))) := by
  have hu1 : u - 1 < 8 := by omega
  have hv := hp.1 (u - 1) hu1
  obtain ⟨σ1, c1, c2, -⟩ := copyFrom_c F (ω (pa (u - 1))) (ω 0)
  have hgC : gC 0 (pa (u - 1)) sid n = some () := by
    unfold gC
    rw [if_pos ⟨by decide, hv.2, by omega, hs 0 (by decide), hs _ hv.2⟩]
  have hle : (1 : Int32) ≤ nI u := (nI_leq 1 u (by omega) (by omega)).mpr h1
  refine ⟨σ1, ?_, c2⟩
  unfold mX3_undo
  rw [h6, if_pos hle, nI_p h1, ob1_e, show pf υ 6 (nI (u - 1)) 6 0 = nI (u - 1) from by rw [pf_at, if_pos rfl], hix_at hu1, ob1_e, hgC, ob1_e, c1, ob1_e, ob1_e, ob1_e]
theorem undo_0 {F : Nat} {τs : WS} {n : Nat} {pa : PA} {β : FS} {υ : MS} {ω : WS} {sid : PA} (h6 : υ 6 0 = 0) : mX3_undo F τs n pa β υ ω sid = some (-1, υ, ω, sid) := by
  unfold mX3_undo
  rw [h6, if_neg (by decide)]
/-- the repeats that a setup gives -/
def R16 (τ : MS) : Prop := ∀ s, s < Nn τ → 0 ≤ (τ 16 s).toInt
/-- the class's world, and the law's beside it -/
def PS (τ : MS) (B T : Int) (σ ζ κ : MS) (Φ Ψ : WS) : Prop := LW τ σ ζ κ Φ Ψ ∧ WI B T τ σ ∧ RI τ σ
theorem LW.cpy {τ σ σ1 ζ κ : MS} {Φ Ψ : WS} (h : LW τ σ ζ κ Φ Ψ) (hc : Cpy σ1 σ) : LW τ σ1 ζ κ Φ Ψ := by
  obtain ⟨h1, h2, h3⟩ := hc
  obtain ⟨a, b, c, d⟩ := h
  exact ⟨a.same (h1 0) h2 (fun _ => rfl), fun k hk => (b k hk).same (by rw [h3 3 (by decide)]) rfl, fun j hj => (c j hj).same (fun c h4 h5 => by rw [h3 c (by omega)]) rfl, fun j hj i hi => (d j hj i hi).same (fun c h4 h5 => by rw [h3 c (by omega)]) rfl⟩
theorem PS.cpy {τ σ σ1 ζ κ : MS} {Φ Ψ : WS} {B T : Int} (h : PS τ B T σ ζ κ Φ Ψ) (hc : Cpy σ1 σ) : PS τ B T σ1 ζ κ Φ Ψ := ⟨h.1.cpy hc, h.2.1.cpy hc, fun s hs => by rw [hc.2.2 11 (by decide)]; exact h.2.2 s hs⟩
theorem PS.mono {τ σ ζ κ : MS} {Φ Ψ : WS} {B T B' T' : Int} (h : PS τ B T σ ζ κ Φ Ψ) (hB : B ≤ B') (hT : T ≤ T') : PS τ B' T' σ ζ κ Φ Ψ := ⟨h.1, h.2.1.mono hB hT, h.2.2⟩
/-- what one of the law's changes does -/
def SR (τ : MS) (B T : Int) (n u : Nat) (pa : PA) (υ : MS) (ω : WS) (sid : PA) (ch : Int32) (pa' : PA) (υ' : MS) (ω' : WS) (sid' : PA) (ζ' κ' : MS) (Φ' Ψ' : WS) : Prop := (ch = 0 ∧ pa' = pa ∧ υ' = υ ∧ ω' = ω ∧ sid' = sid ∧ PS τ B T (ω 0) ζ' κ' Φ' Ψ') ∨ (ch = 1 ∧ ∃ ω1 σ', RM n u pa υ ω sid pa' υ' ω1 sid' ∧ ω' = va_up ω1 0 σ' ∧ PS τ B T σ' ζ' κ' Φ' Ψ')
/-- the law's random numbers -/
def stt (sd : MS) : Nat := (sd 0 0).toUInt32.toNat
def nxt (s : Nat) : Nat := (1103515245 * s + 12345) % 4294967296
theorem ush (x : Int32) : (x.toUInt32 >>> ((16 : Int32).toUInt32 &&& Int32.toUInt32 31)).toInt32 = nI (x.toUInt32.toNat / 65536) := by
  have ec : ((16 : Int32).toUInt32 &&& Int32.toUInt32 31) = 16 := by decide
  rw [ec]
  apply Int32.toBitVec_inj.mp
  apply BitVec.eq_of_toNat_eq
  have e1 : ((x.toUInt32 >>> 16).toInt32).toBitVec.toNat = (x.toUInt32 >>> 16).toNat := rfl
  have e2 : (nI (x.toUInt32.toNat / 65536)).toBitVec.toNat = x.toUInt32.toNat / 65536 % 2 ^ 32 := by
    show (BitVec.ofNat 32 _).toNat = _
    rw [BitVec.toNat_ofNat]
  have e3 : (16 : UInt32).toNat % 32 = 16 := by decide
  have hx : x.toUInt32.toNat < 2 ^ 32 := x.toUInt32.toNat_lt
  rw [e1, e2, UInt32.toNat_shiftRight, e3, Nat.shiftRight_eq_div_pow, show 2 ^ 16 = 65536 from rfl]
  omega
theorem nI_q {m b : Nat} (hm : m < 2 ^ 31) (h1 : 1 ≤ b) (hb : b < 2 ^ 31) : nI m / nI b = nI (m / b) := by
  apply Int32.toInt_inj.mp
  have hd : m / b ≤ m := Nat.div_le_self m b
  rw [Int32.toInt_div, nI_toInt hm, nI_toInt hb, nI_toInt (by omega), ← Int.ofNat_tdiv, Int.bmod_def]
  generalize m / b = z at hd ⊢
  split <;> omega
theorem nI_r {m b : Nat} (hm : m < 2 ^ 31) (h1 : 1 ≤ b) (hb : b < 2 ^ 31) : nI m - nI m / nI b * nI b = nI (m % b) := by
  rw [nI_q hm h1 hb, nI_m, nI_d (Nat.div_mul_le_self m b)]
  congr 1
  have := Nat.div_add_mod m b
  rw [Nat.mul_comm] at this
  omega
theorem stt_nxt (sd : MS) : stt (pf sd 0 (((1103515245 : Int32) * (sd 0 0)) + (12345 : Int32))) = nxt (stt sd) := by
  unfold stt nxt
  rw [pf_at, if_pos rfl]
  have e : (((1103515245 : Int32) * (sd 0 0)) + (12345 : Int32)).toUInt32.toNat = ((1103515245 * (sd 0 0).toUInt32.toNat) % 2 ^ 32 + 12345) % 2 ^ 32 := by
    have e1 : (((1103515245 : Int32) * (sd 0 0)) + (12345 : Int32)).toUInt32 = (1103515245 : UInt32) * (sd 0 0).toUInt32 + 12345 := by
      apply UInt32.toBitVec_inj.mp
      rfl
    rw [e1, UInt32.toNat_add, UInt32.toNat_mul]
    rfl
  rw [e]
  omega
theorem below_eq (F : Nat) (sd : MS) {b : Nat} (h1 : 1 ≤ b) (h2 : b < 2 ^ 31) : ∃ sd', mX4_below F sd (nI b) = some (nI (nxt (stt sd) / 65536 % b), sd') ∧ stt sd' = nxt (stt sd) := by
  have hnz : gNz (nI b) = some () := by
    unfold gNz
    rw [if_neg (fun q => by rw [show (0 : Int32) = nI 0 from rfl, nI_i h2 (by decide)] at q; omega)]
  refine ⟨pf sd 0 (((1103515245 : Int32) * (sd 0 0)) + (12345 : Int32)), ?_, stt_nxt sd⟩
  have e := stt_nxt sd
  unfold mX4_below
  rw [ob1_e, hnz, ob1_e, ush]
  unfold stt at e
  rw [e]
  have hn : nxt (stt sd) / 65536 < 2 ^ 31 := by
    have : nxt (stt sd) < 4294967296 := Nat.mod_lt _ (by decide)
    omega
  rw [show nxt ((sd 0 0).toUInt32.toNat) = nxt (stt sd) from rfl, nI_r hn h1 h2]
theorem below_ok (F : Nat) (sd : MS) {b : Nat} (h1 : 1 ≤ b) (h2 : b < 2 ^ 31) : ∃ q sd', q < b ∧ mX4_below F sd (nI b) = some (nI q, sd') := by
  obtain ⟨sd', h, -⟩ := below_eq F sd h1 h2
  exact ⟨_, sd', Nat.mod_lt _ (by omega), h⟩
