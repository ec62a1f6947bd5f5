/-! pure: the checks of both sides; the methods that only tell -/
def WRB (B : Int) (τ σ : MS) (d : FS) : Prop := SI τ ∧ Rel τ σ d ∧ WI B 9999 τ σ
theorem pf8 (μ : MS) (x : Int32) : pf μ 0 x 8 = μ 8 := rfl
theorem pfo (μ : MS) (x : Int32) (q : Nat) (h : q ≠ 0) : pf μ 0 x q = μ q := by funext i; rw [pf_at, if_neg h]
theorem pf00 (μ : MS) (x : Int32) : pf μ 0 x 0 0 = x := by rw [pf_at, if_pos rfl]
theorem pf0f (μ : MS) (x y : Int32) : pf (pf μ 0 x) 0 y = pf μ 0 y := by
  funext q i
  rw [pf_at, pf_at, pf_at]
  by_cases h : q = 0 <;> simp [h]
theorem mrOf {τ σ μ : MS} (h : Rel τ σ (μ 8)) : MR τ σ (fun j => μ 8 (27 + 9 * j)) μ μ := ⟨h, fun _ _ => rfl, fun _ _ => rfl⟩
theorem HI.p0 {WR : MS → MS → FS → Prop} {τs : WS} {n : Nat} {pa : PA} {β : FS} {υ : MS} {ω : WS} {sid : PA} {μ : MS} (h : HI WR τs n pa β υ ω sid μ) (x : Int32) : HI WR τs n pa β υ ω sid (pf μ 0 x) := by
  obtain ⟨len, h1, h2, h3, h4⟩ := h.1
  exact h.same ⟨len, h1, h2, by rw [pfo _ _ 2 (by decide)]; exact h3, fun k hk => by rw [pfo _ _ 1 (by decide)]; exact h4 k hk⟩ (by rw [pfo _ _ 7 (by decide)]; exact h.2.1) rfl (fun q hq => pfo _ _ q (by omega))
theorem HI.now {WR : MS → MS → FS → Prop} {τs : WS} {n : Nat} {pa : PA} {β : FS} {υ : MS} {ω : WS} {sid : PA} {μ : MS} (h : HI WR τs n pa β υ ω sid μ) : WR (τs (sid 0)) (ω 0) (μ 8) ∧ gW sid n 0 = some () := ⟨h.2.2.2.2.2.1, gW_at (by decide) (h.2.2.1 0 (by decide))⟩
theorem m_fails {F : Nat} {μ : MS} {c : Bool} {n : Int32} (h0 : μ 0 0 = 0) (hn : n ≠ 0) : mX4_fails F μ (b01 c) n = some (b01 c, if c then pf μ 0 n else μ) := by
  unfold mX4_fails
  cases c
  · simp [b01, h0, cnd, ob1]
  · simp [b01, h0, cnd, ob1, pf00, hn]
def outJ (τ : MS) (i : Int32) : Bool := decide (i < 0) || decide (¬ i < τ 5 0)
def outS (τ : MS) (i : Int32) : Bool := decide (i < 0) || decide (¬ i < τ 2 0)
def outW (i n : Int32) : Bool := decide (i < 0) || decide (¬ i < n)
theorem outW_F {i n : Int32} {m : Nat} (hn : n = nI m) (hm : m < 2 ^ 31) (h : outW i n = false) : ∃ q, q < m ∧ i = nI q := by
  subst hn
  unfold outW at h
  simp only [Bool.or_eq_false_iff, decide_eq_false_iff_not, Classical.not_not] at h
  obtain ⟨h1, h2⟩ := h
  have h0 : (0 : Int32).toInt = 0 := rfl
  rw [ltI, h0] at h1
  rw [ltI, nI_toInt hm] at h2
  refine ⟨nv i, ?_, nI_nv (by omega)⟩
  unfold nv; omega
theorem m_in {F m : Nat} {i lo hi : Int32} (hlo : lo = 0) (hhi : hi = nI m - 1) (hm : m < 2 ^ 31) : mX4_in F i lo hi = some (b01 (!outW i (nI m))) := by
  subst hlo hhi
  have e : (nI m - 1 : Int32).toInt = (m : Int) - 1 := by
    have h1 : (1 : Int32).toInt = 1 := rfl
    rw [sI] <;> rw [nI_toInt hm, h1] <;> omega
  unfold mX4_in outW
  by_cases h1 : i < 0
  · simp [h1, ob1, cnd, b01]
  · by_cases h2 : i < nI m
    · have : ¬ nI m - 1 < i := by rw [ltI, e]; rw [ltI, nI_toInt hm] at h2; omega
      simp [h1, this, h2, ob1, cnd, b01]
    · have : nI m - 1 < i := by rw [ltI, e]; rw [ltI, nI_toInt hm] at h2; omega
      simp [h1, this, h2, ob1, cnd, b01]
theorem b01_n (b : Bool) : (if b01 (!b) = 0 then some (1 : Int32) else some 0) = some (b01 b) := by cases b <;> rfl
section CK
variable {τ σ : MS} {μ : MS} {F : Nat} {i : Int32}
theorem m_noJ (hI : SI τ) (hR : Rel τ σ (μ 8)) (h0 : μ 0 0 = 0) : mX4_noJourney F μ i = some (b01 (outJ τ i), if outJ τ i then pf μ 0 1 else μ) := by
  unfold mX4_noJourney
  rw [rG2, hR.1.2.2.1, ob1_e, hI.J.1, m_in rfl rfl (by have := hI.J.2; omega), ob1_e, b01_n, ob1_e, m_fails h0 (by decide), ob2_e]
  unfold outJ outW
  rw [hI.J.1]
theorem m_noS (hI : SI τ) (hR : Rel τ σ (μ 8)) (h0 : μ 0 0 = 0) : mX4_noStock F μ i = some (b01 (outS τ i), if outS τ i then pf μ 0 1 else μ) := by
  unfold mX4_noStock
  rw [rG1, hR.1.2.1, ob1_e, hI.S.1, m_in rfl rfl (by have := hI.S.2; omega), ob1_e, b01_n, ob1_e, m_fails h0 (by decide), ob2_e]
  unfold outS outW
  rw [hI.S.1]
theorem outJ_F (hI : SI τ) (h : outJ τ i = false) : ∃ j, j < Jn τ ∧ i = nI j := outW_F hI.J.1 (by have := hI.J.2; omega) h
theorem outS_F (hI : SI τ) (h : outS τ i = false) : ∃ j, j < Sn τ ∧ i = nI j := outW_F hI.S.1 (by have := hI.S.2; omega) h
variable {τs : WS} {n : Nat} {pa : PA} {β : FS} {υ : MS} {ω : WS} {sid : PA} {m : Int32}
theorem c_ckW : mX3_checkWhat F τs n pa β υ ω sid i m = some (if outW i m then .inl "java/lang/IllegalArgumentException" else .inr ()) := by
  unfold mX3_checkWhat outW
  by_cases h1 : i < 0 <;> by_cases h2 : i < m <;> simp [h1, h2, ob1, cnd]
theorem c_ckJ (hg : gW sid n 0 = some ()) : mX3_checkJourney F τs n pa β υ ω sid i = some (if outJ (τs (sid 0)) i then .inl "java/lang/IndexOutOfBoundsException" else .inr ()) := by
  unfold mX3_checkJourney outJ
  rw [hg]
  by_cases h1 : i < 0 <;> by_cases h2 : i < τs (sid 0) 5 0 <;> simp [h1, h2, ob1, cnd]
theorem c_ckS (hg : gW sid n 0 = some ()) : mX3_checkStock F τs n pa β υ ω sid i = some (if outS (τs (sid 0)) i then .inl "java/lang/IndexOutOfBoundsException" else .inr ()) := by
  unfold mX3_checkStock outS
  rw [hg]
  by_cases h1 : i < 0 <;> by_cases h2 : i < τs (sid 0) 2 0 <;> simp [h1, h2, ob1, cnd]
end CK
theorem obX_L {α γ : Type} (E : String) (f : α → Option (String ⊕ γ)) : obX (some (.inl E)) f = some (.inl E) := rfl
theorem obX_R {α γ : Type} (x : α) (f : α → Option (String ⊕ γ)) : obX (some (.inr x)) f = f x := rfl
theorem th0 (F : Nat) (μ : MS) (x : Int32) : mX4_thrown F (pf μ 0 x) = some x := by unfold mX4_thrown; rw [pf00]
theorem ift {α : Type} {b : Bool} {x y : α} (h : b = true) : (if b then x else y) = x := by rw [h]; rfl
theorem iff' {α : Type} {b : Bool} {x y : α} (h : b = false) : (if b then x else y) = y := by rw [h]; rfl
theorem p_state {F : Nat} (hF : 5000 ≤ F) {B : Int} : ag_state F (HI (WRB B)) (HI (WRB B)) := by
  intro τs n pa β υ ω sid μ hI i
  obtain ⟨⟨hS, hR, hW⟩, hg⟩ := hI.now
  have hin := m_in (F := F) (m := 10) (i := i) (lo := 0) (hi := 9) rfl rfl (by decide)
  cases hw : outW i 10 with
  | true =>
    refine ⟨.inl "java/lang/IllegalArgumentException", 0, pf μ 0 1, ?_, by simp, ?_, th0 _ _ _, (by simp), fun _ _ => hI.p0 _, fun _ h => (by cases h)⟩
    · unfold mX3_state; rw [c_ckW, ift hw, obX_L]
    · unfold mX4_state
      rw [ob1_e, hin, show outW i (nI 10) = true from hw, ob1_e, b01_n, ob1_e, m_fails (pf00 _ _) (by decide), ob2_e, if_neg (by decide), ob1_e, if_pos rfl, pf0f]
  | false =>
    obtain ⟨q, hq, rfl⟩ := outW_F (m := 10) rfl (by decide) hw
    obtain ⟨r, t1, t2⟩ := t_all (F := F) hS (mrOf (μ := pf μ 0 0) hR) hF hq
    refine ⟨.inr r, r, pf μ 0 0, ?_, by simp, ?_, th0 _ _ _, (by simp), fun _ h => (by cases h), fun _ _ => hI.p0 _⟩
    · unfold mX3_state; rw [c_ckW, iff' hw, obX_R, hg, ob1_e, t1, ob1_e]
    · unfold mX4_state
      rw [ob1_e, hin, show outW (nI q) (nI 10) = false from hw, ob1_e, b01_n, ob1_e, m_fails (pf00 _ _) (by decide), ob2_e, if_pos (by decide), if_neg (by decide), t2, ob1_e, ob1_e]
theorem p_stock {F : Nat} (hF : 5000 ≤ F) {B : Int} : ag_stock F (HI (WRB B)) (HI (WRB B)) := by
  intro τs n pa β υ ω sid μ hI i i2
  obtain ⟨⟨hS, hR, hW⟩, hg⟩ := hI.now
  have hin := m_in (F := F) (m := 6) (i := i2) (lo := 0) (hi := 5) rfl rfl (by decide)
  cases hs : outS (τs (sid 0)) i with
  | true =>
    refine ⟨.inl "java/lang/IndexOutOfBoundsException", 0, pf μ 0 1, ?_, by simp, ?_, th0 _ _ _, (by simp), fun _ _ => hI.p0 _, fun _ h => (by cases h)⟩
    · unfold mX3_stock; rw [c_ckS hg, ift hs, obX_L]
    · unfold mX4_stock
      rw [ob1_e, m_noS (μ := pf μ 0 0) hS hR (pf00 _ _), ob2_e, hs, if_neg (by decide), ob2_e, if_pos rfl, pf0f]
  | false =>
    obtain ⟨k, hk, rfl⟩ := outS_F hS hs
    cases hw : outW i2 6 with
    | true =>
      refine ⟨.inl "java/lang/IllegalArgumentException", 0, pf μ 0 2, ?_, by simp, ?_, th0 _ _ _, (by simp), fun _ _ => hI.p0 _, fun _ h => (by cases h)⟩
      · unfold mX3_stock; rw [c_ckS hg, iff' hs, obX_R, c_ckW, ift hw, obX_L]
      · unfold mX4_stock
        rw [ob1_e, m_noS (μ := pf μ 0 0) hS hR (pf00 _ _), ob2_e, hs, if_pos (by decide), hin, show outW i2 (nI 6) = true from hw, ob1_e, b01_n, ob1_e, if_neg (by decide), m_fails (pf00 _ _) (by decide), ob2_e, if_neg (by decide), ob2_e, if_pos rfl, pf0f]
    | false =>
      obtain ⟨q, hq, rfl⟩ := outW_F (m := 6) rfl (by decide) hw
      obtain ⟨r, t1, t2⟩ := t_stock (F := F) hS (mrOf (μ := pf μ 0 0) hR) hF hk hq
      refine ⟨.inr r, r, pf μ 0 0, ?_, by simp, ?_, th0 _ _ _, (by simp), fun _ h => (by cases h), fun _ _ => hI.p0 _⟩
      · unfold mX3_stock; rw [c_ckS hg, iff' hs, obX_R, c_ckW, iff' hw, obX_R, hg, ob1_e, t1, ob1_e]
      · unfold mX4_stock
        rw [ob1_e, m_noS (μ := pf μ 0 0) hS hR (pf00 _ _), ob2_e, hs, if_pos (by decide), hin, show outW (nI q) (nI 6) = false from hw, ob1_e, b01_n, ob1_e, if_neg (by decide), m_fails (pf00 _ _) (by decide), ob2_e, if_pos (by decide), if_neg (by decide), t2, ob1_e, ob2_e]
theorem p_journey {F : Nat} (hF : 5000 ≤ F) {B : Int} : ag_journey F (HI (WRB B)) (HI (WRB B)) := by
  intro τs n pa β υ ω sid μ hI i i2
  obtain ⟨⟨hS, hR, hW⟩, hg⟩ := hI.now
  have hin := m_in (F := F) (m := 7) (i := i2) (lo := 0) (hi := 6) rfl rfl (by decide)
  cases hs : outJ (τs (sid 0)) i with
  | true =>
    refine ⟨.inl "java/lang/IndexOutOfBoundsException", 0, pf μ 0 1, ?_, by simp, ?_, th0 _ _ _, (by simp), fun _ _ => hI.p0 _, fun _ h => (by cases h)⟩
    · unfold mX3_journey; rw [c_ckJ hg, ift hs, obX_L]
    · unfold mX4_journey
      rw [ob1_e, m_noJ (μ := pf μ 0 0) hS hR (pf00 _ _), ob2_e, hs, if_neg (by decide), ob2_e, if_pos rfl, pf0f]
  | false =>
    obtain ⟨k, hk, rfl⟩ := outJ_F hS hs
    cases hw : outW i2 7 with
    | true =>
      refine ⟨.inl "java/lang/IllegalArgumentException", 0, pf μ 0 2, ?_, by simp, ?_, th0 _ _ _, (by simp), fun _ _ => hI.p0 _, fun _ h => (by cases h)⟩
      · unfold mX3_journey; rw [c_ckJ hg, iff' hs, obX_R, c_ckW, ift hw, obX_L]
      · unfold mX4_journey
        rw [ob1_e, m_noJ (μ := pf μ 0 0) hS hR (pf00 _ _), ob2_e, hs, if_pos (by decide), hin, show outW i2 (nI 7) = true from hw, ob1_e, b01_n, ob1_e, if_neg (by decide), m_fails (pf00 _ _) (by decide), ob2_e, if_neg (by decide), ob2_e, if_pos rfl, pf0f]
    | false =>
      obtain ⟨q, hq, rfl⟩ := outW_F (m := 7) rfl (by decide) hw
      obtain ⟨r, t1, t2⟩ := t_journey (F := F) hS (mrOf (μ := pf μ 0 0) hR) hF hk (hW.2.1 k hk).2.1 hq
      refine ⟨.inr r, r, pf μ 0 0, ?_, by simp, ?_, th0 _ _ _, (by simp), fun _ h => (by cases h), fun _ _ => hI.p0 _⟩
      · unfold mX3_journey; rw [c_ckJ hg, iff' hs, obX_R, c_ckW, iff' hw, obX_R, hg, ob1_e, t1, ob1_e]
      · unfold mX4_journey
        rw [ob1_e, m_noJ (μ := pf μ 0 0) hS hR (pf00 _ _), ob2_e, hs, if_pos (by decide), hin, show outW (nI q) (nI 7) = false from hw, ob1_e, b01_n, ob1_e, if_neg (by decide), m_fails (pf00 _ _) (by decide), ob2_e, if_pos (by decide), if_neg (by decide), t2, ob1_e, ob2_e]
theorem p_step {F : Nat} (hF : 5000 ≤ F) {B : Int} : ag_step F (HI (WRB B)) (HI (WRB B)) := by
  intro τs n pa β υ ω sid μ hI i i2 i3
  obtain ⟨⟨hS, hR, hW⟩, hg⟩ := hI.now
  cases hs : outJ (τs (sid 0)) i with
  | true =>
    refine ⟨.inl "java/lang/IndexOutOfBoundsException", 0, pf μ 0 1, ?_, by simp, ?_, th0 _ _ _, (by simp), fun _ _ => hI.p0 _, fun _ h => (by cases h)⟩
    · unfold mX3_step; rw [c_ckJ hg, ift hs, obX_L]
    · unfold mX4_step
      rw [ob1_e, m_noJ (μ := pf μ 0 0) hS hR (pf00 _ _), ob2_e, hs, if_neg (by decide), if_pos rfl, pf0f]
  | false =>
    obtain ⟨j, hj, rfl⟩ := outJ_F hS hs
    have hA := hS.A hj
    have hN := hS.N.2
    have hM := mrOf (μ := pf μ 0 0) hR
    have hin := m_in (F := F) (m := En (τs (sid 0)) j - An (τs (sid 0)) j) (i := i2) (lo := 0) rfl rfl (by omega)
    have hc : (if i2 < 0 then some true else ob1 (gW sid n 0) fun _ => ob1 (gW sid n 0) fun _ => ob1 (mX0_stepsOf F (τs (sid 0)) (nI j)) fun r7 => (if i2 < r7 then some false else some true)) = some (outW i2 (nI (En (τs (sid 0)) j - An (τs (sid 0)) j))) := by
      rw [hg, ob1_e, ob1_e, c_stepsOf hS hj, ob1_e]
      unfold outW
      by_cases h1 : i2 < 0
      · simp [h1]
      · by_cases h2 : i2 < nI (En (τs (sid 0)) j - An (τs (sid 0)) j) <;> simp [h1, h2]
    cases hw : outW i2 (nI (En (τs (sid 0)) j - An (τs (sid 0)) j)) with
    | true =>
      refine ⟨.inl "java/util/NoSuchElementException", 0, pf μ 0 2, ?_, by simp, ?_, th0 _ _ _, (by simp), fun _ _ => hI.p0 _, fun _ h => (by cases h)⟩
      · unfold mX3_step; rw [c_ckJ hg, iff' hs, obX_R, hc, hw, ob1_e, cnd_T]
      · unfold mX4_step
        rw [ob1_e, m_noJ (μ := pf μ 0 0) hS hR (pf00 _ _), ob2_e, hs, if_pos (by decide), if_neg (by decide), hM.cnt hS hj, ob1_e, hin, hw, ob1_e, b01_n, ob1_e, m_fails (pf00 _ _) (by decide), ob2_e, if_neg (by decide), if_pos rfl, pf0f]
    | false =>
      obtain ⟨k, hk, rfl⟩ := outW_F rfl (by omega) hw
      have hsN := hS.sN (s := An (τs (sid 0)) j + k) hj (by omega)
      have hin2 := m_in (F := F) (m := 7) (i := i3) (lo := 0) (hi := 6) rfl rfl (by decide)
      cases hw2 : outW i3 7 with
      | true =>
        refine ⟨.inl "java/lang/IllegalArgumentException", 0, pf μ 0 3, ?_, by simp, ?_, th0 _ _ _, (by simp), fun _ _ => hI.p0 _, fun _ h => (by cases h)⟩
        · unfold mX3_step; rw [c_ckJ hg, iff' hs, obX_R, hc, hw, ob1_e, cnd_F, c_ckW, ift hw2, obX_L]
        · unfold mX4_step
          rw [ob1_e, m_noJ (μ := pf μ 0 0) hS hR (pf00 _ _), ob2_e, hs, if_pos (by decide), if_neg (by decide), hM.cnt hS hj, ob1_e, hin, hw, ob1_e, b01_n, ob1_e, m_fails (pf00 _ _) (by decide), ob2_e, if_pos (by decide), if_neg (by decide), hin2, show outW i3 (nI 7) = true from hw2, ob1_e, b01_n, ob1_e, m_fails (pf00 _ _) (by decide), ob2_e, if_neg (by decide), if_pos rfl, pf0f]
      | false =>
        obtain ⟨q, hq, rfl⟩ := outW_F (m := 7) rfl (by decide) hw2
        obtain ⟨r, t1, t2⟩ := t_step (F := F) hS hM hsN hq
        refine ⟨.inr r, r, pf μ 0 0, ?_, by simp, ?_, th0 _ _ _, (by simp), fun _ h => (by cases h), fun _ _ => hI.p0 _⟩
        · unfold mX3_step; rw [c_ckJ hg, iff' hs, obX_R, hc, hw, ob1_e, cnd_F, c_ckW, iff' hw2, obX_R]; simp only [hg, ob1_e]; rw [rA hS hj, ob1_e, nI_a, t1, ob1_e]
        · unfold mX4_step
          rw [ob1_e, m_noJ (μ := pf μ 0 0) hS hR (pf00 _ _), ob2_e, hs, if_pos (by decide), if_neg (by decide), hM.cnt hS hj, ob1_e, hin, hw, ob1_e, b01_n, ob1_e, m_fails (pf00 _ _) (by decide), ob2_e, if_pos (by decide), if_neg (by decide), hin2, show outW (nI q) (nI 7) = false from hw2, ob1_e, b01_n, ob1_e, m_fails (pf00 _ _) (by decide), ob2_e, if_pos (by decide), if_neg (by decide), hM.at hS hj, ob1_e, t2, ob1_e]
theorem p_owed {F : Nat} (hF : 5000 ≤ F) {B : Int} : ag_owed F (HI (WRB B)) (HI (WRB B)) := by
  intro τs n pa β υ ω sid μ hI i i2
  obtain ⟨⟨hS, hR, hW⟩, hg⟩ := hI.now
  cases hs : outJ (τs (sid 0)) i with
  | true =>
    refine ⟨.inl "java/lang/IndexOutOfBoundsException", 0, pf μ 0 1, ?_, by simp, ?_, th0 _ _ _, (by simp), fun _ _ => hI.p0 _, fun _ h => (by cases h)⟩
    · unfold mX3_owed; rw [c_ckJ hg, ift hs, obX_L]
    · unfold mX4_owed
      rw [ob1_e, m_noJ (μ := pf μ 0 0) hS hR (pf00 _ _), ob2_e, hs, if_neg (by decide), if_pos rfl, pf0f]
  | false =>
    obtain ⟨j, hj, rfl⟩ := outJ_F hS hs
    have hA := hS.A hj
    have hN := hS.N.2
    have hM := mrOf (μ := pf μ 0 0) hR
    have hthrow : mX3_owed F τs n pa β υ ω sid (nI j) i2 = some (.inl "java/util/NoSuchElementException") → mX4_owed F μ (nI j) i2 = some (0, pf μ 0 2) → ∃ o b μ1, mX3_owed F τs n pa β υ ω sid (nI j) i2 = some o ∧ (∀ E, o = .inl E → E ∈ (["java/lang/IndexOutOfBoundsException", "java/util/NoSuchElementException"] : List String)) ∧ mX4_owed F μ (nI j) i2 = some (b, μ1) ∧ mX4_thrown F μ1 = some (xR ["java/lang/IndexOutOfBoundsException", "java/util/NoSuchElementException"] o) ∧ (∀ x, o = .inr x → x = b) ∧ (∀ E, o = .inl E → HI (WRB B) τs n pa β υ ω sid μ1) ∧ ∀ x, o = .inr x → HI (WRB B) τs n pa β υ ω sid μ1 := fun h1 h2 =>
      ⟨.inl "java/util/NoSuchElementException", 0, pf μ 0 2, h1, by simp, h2, th0 _ _ _, (by simp), fun _ _ => hI.p0 _, fun _ h => (by cases h)⟩
    by_cases h0 : 0 ≤ i2
    · obtain ⟨q, hq, rfl⟩ : ∃ q : Nat, q < 2 ^ 31 ∧ i2 = nI q := by
        have := Int32.toInt_lt i2
        rw [leI, show (0 : Int32).toInt = 0 from rfl] at h0
        exact ⟨nv i2, by unfold nv; omega, nI_nv h0⟩
      have hl := m_owedL (F := F) hS hM hj hF hq
      cases hd : lsd (τs (sid 0)) (ω 0) j q with
      | none =>
        rw [hd] at hl
        refine hthrow ?_ ?_
        · unfold mX3_owed; rw [c_ckJ hg, iff' hs, obX_R, if_pos h0, hg, ob1_e, c_lsd hS hj hF hq, hd, ob1_e, ob1_e]
          exact if_neg (by decide)
        · unfold mX4_owed
          rw [ob1_e, m_noJ (μ := pf μ 0 0) hS hR (pf00 _ _), ob2_e, hs, if_pos (by decide), if_neg (by decide), hM.cnt hS hj, ob1_e, hl, ob1_e, el1_R, ob1_e, pf0f]
      | some s =>
        rw [hd] at hl
        obtain ⟨s1, s2, s3⟩ := lst_some hd
        refine ⟨.inr (nI (s - An (τs (sid 0)) j)), nI (s - An (τs (sid 0)) j), pf μ 0 0, ?_, by simp, ?_, th0 _ _ _, (by simp), fun _ h => (by cases h), fun _ _ => hI.p0 _⟩
        · unfold mX3_owed; rw [c_ckJ hg, iff' hs, obX_R, if_pos h0, hg, ob1_e, c_lsd hS hj hF hq, hd, ob1_e, ob1_e]
          rw [if_pos (by show (0 : Int32) ≤ nI s; exact (nI_leI (a := 0) (by decide) (by omega)).mpr (by omega)), rA hS hj]
          show some (Sum.inr (nI s - nI _)) = _
          rw [nI_d (by omega)]
        · unfold mX4_owed
          rw [ob1_e, m_noJ (μ := pf μ 0 0) hS hR (pf00 _ _), ob2_e, hs, if_pos (by decide), if_neg (by decide), hM.cnt hS hj, ob1_e, hl, ob1_e, el1_L]
    · have hn : i2 < 0 := Int32.not_le.mp h0
      refine hthrow ?_ ?_
      · unfold mX3_owed; rw [c_ckJ hg, iff' hs, obX_R, if_neg h0, ob1_e]; exact if_neg (by decide)
      · obtain ⟨f, rfl⟩ : ∃ f, F = f + 1 := ⟨F - 1, by omega⟩
        unfold mX4_owed
        rw [ob1_e, m_noJ (μ := pf μ 0 0) hS hR (pf00 _ _), ob2_e, hs, if_pos (by decide), if_neg (by decide), hM.cnt hS hj, ob1_e]
        rw [show loopM (fun st : Int32 × Int32 => mX4_owed_L27 (f + 1) (nI j) i2 (pf μ 0 0) st.1 st.2) (f + 1) (nI (En (τs (sid 0)) j - An (τs (sid 0)) j) - 1, i2) = some (.inr ()) from loopM_l (by
          show mX4_owed_L27 (f + 1) (nI j) i2 (pf μ 0 0) (nI (En (τs (sid 0)) j - An (τs (sid 0)) j) - 1) i2 = _
          unfold mX4_owed_L27
          rw [nI_m1 (by omega), if_neg (nI_nl0 (by omega)), if_pos hn, ob1_e, cnd_F]), ob1_e, el1_R, ob1_e, pf0f]
