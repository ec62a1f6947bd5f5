/-! pure: words and numbers into the buffer -/
def sN (w : Nat) : List Nat := (sW w).map nv
theorem sTab_ok : ∀ y ∈ sTab, (∀ x ∈ y, nv x < 128) ∧ (y.map nv).map nI = y := by decide +kernel
theorem sN_ok (w : Nat) : (∀ c ∈ sN w, c < 128) ∧ (sN w).map nI = sW w := by
  unfold sN sW
  rw [List.getD_eq_getElem?_getD]
  cases h : sTab[w]? with
  | none => exact ⟨fun c hc => by simp at hc, rfl⟩
  | some y =>
    obtain ⟨h1, h2⟩ := sTab_ok y (List.mem_of_getElem? h)
    refine ⟨fun c hc => ?_, h2⟩
    obtain ⟨x, hx, rfl⟩ := List.mem_map.mp hc
    exact h1 x hx
theorem getD_nI (s : List Nat) (k : Nat) : (s.map nI).getD k 0 = nI (s.getD k 0) := by
  rw [List.getD_eq_getElem?_getD, List.getD_eq_getElem?_getD, List.getElem?_map]
  cases s[k]? <;> rfl
theorem take_s {s : List Nat} {k : Nat} (h : k < s.length) : s.take (k + 1) = s.take k ++ [s.getD k 0] := by
  rw [List.take_succ, List.getD_eq_getElem?_getD, List.getElem?_eq_getElem h]
  rfl
def WU (s : List Nat) (β : FS) (υ : MS) (b : FS) (υ0 : MS) : Prop := (∀ c ∈ s, c < 128) ∧ WT (s.map nI) β υ b ∧ ∀ q, q ≠ 1 → υ q = υ0 q
def dd (v : Nat) : Nat → List Nat
  | 0 => []
  | j + 1 => (48 + v / 10 ^ j % 10) :: dd v j
def nd (v : Nat) : Nat := if v < 10 then 1 else if v < 100 then 2 else 3
def dn (v : Nat) : List Nat := dd v (nd v)
theorem dd_len (v : Nat) : ∀ j, (dd v j).length = j
  | 0 => rfl
  | j + 1 => by
    show (dd v j).length + 1 = _
    rw [dd_len v j]
theorem dn_len (v : Nat) : (dn v).length = nd v := dd_len v _
theorem nI_lt2 {a b : Nat} (ha : a < 2 ^ 31) (hb : b < 2 ^ 31) : nI a < nI b ↔ a < b := by
  rw [ltI, nI_toInt ha, nI_toInt hb]
  omega
section AQ
variable {F n : Nat} {τs : WS} {pa : PA} {β : FS} {υ υ0 : MS} {ω : WS} {sid : PA} {b : FS} {s : List Nat}
theorem l_putU (hF : 5000 ≤ F) {c : Nat} (h : WU s β υ b υ0) (hc : c < 128) (hl : s.length + 1 ≤ 700) : ok (mL_put F τs n pa β υ ω sid b (nI c)) (fun r => WU (s ++ [c]) r.1 r.2.1 r.2.2 υ0) := by
  obtain ⟨h1, h2, h3⟩ := h
  obtain ⟨β1, υ1, b1, e1, e2, e3⟩ := l_put (τs := τs) (n := n) (pa := pa) (ω := ω) (sid := sid) hF h2 ⟨c, hc, rfl⟩ (by rw [List.length_map]; exact hl)
  refine ok_eq e1 ⟨fun y hy => ?_, ?_, fun q hq => (e3 q hq).trans (h3 q hq)⟩
  · rcases List.mem_append.mp hy with z | z
    · exact h1 y z
    · rw [List.mem_singleton.mp z]; exact hc
  · rw [List.map_append]; exact e2
theorem l_write (hF : 5000 ≤ F) {w : Nat} (h : WU s β υ b υ0) (hl : s.length + (sN w).length ≤ 700) : ok (mL_write F τs n pa β υ ω sid b w) (fun r => WU (s ++ sN w) r.1 r.2.1 r.2.2 υ0) := by
  unfold mL_write
  have hlen : (sN w).length = (sW w).length := List.length_map ..
  obtain ⟨k1, k2⟩ := sN_ok w
  have hx := fun (r : FS × MS × FS) (hr : WU (s ++ sN w) r.1 r.2.1 r.2.2 υ0) => (ok_some (Q := fun r => WU (s ++ sN w) r.1 r.2.1 r.2.2 υ0) (x := (r.1, r.2.1, r.2.2)) hr)
  refine ok_ob3 (ok_mono (P := fun r => WU (s ++ sN w) r.1 r.2.1 r.2.2 υ0) ?_ hx)
  refine loop_rel (fun k x => WU (s ++ (sN w).take k) x.1 x.2.1 x.2.2 υ0) (sN w).length (fun k x hk hx => ?_) (fun x hx => ?_) (sN w).length 0 F (β, υ, b) (by omega) (by omega) (by rw [List.take_zero, List.append_nil]; exact h)
  · show ok (mL_write_L2 F w τs n pa ω sid (nI k) x.1 x.2.1 x.2.2) _
    unfold mL_write_L2 sLen
    have hc : sChr w (nI k) = some (nI ((sN w).getD k 0)) := by
      rw [show sChr w (nI k) = rd (fun j => (sW w).getD j 0) (sW w).length (nI k) from rfl, rd_at (by omega) (by omega)]
      show some ((sW w).getD k 0) = _
      rw [← k2, getD_nI]
    rw [if_neg (nle (by omega) (by omega) (by omega)), hc, ob1_e]
    have hm : (sN w).getD k 0 < 128 := by
      rw [List.getD_eq_getElem?_getD, List.getElem?_eq_getElem hk]
      exact k1 _ (List.getElem_mem hk)
    refine ok_ob3 (ok_mono (l_putU hF hx hm (by rw [List.length_append, List.length_take]; omega)) fun r hr => ?_)
    rw [nI_s]
    refine ok_some ⟨_, rfl, ?_⟩
    rw [take_s hk, ← List.append_assoc]
    exact hr
  · show ok (mL_write_L2 F w τs n pa ω sid (nI (sN w).length) x.1 x.2.1 x.2.2) _
    unfold mL_write_L2 sLen
    rw [if_pos ((nI_leI (by omega) (by omega)).mpr (by omega))]
    rw [List.take_length] at hx
    exact ok_some ⟨_, rfl, hx⟩
theorem l_dd (hF : 5000 ≤ F) {v : Nat} (hv : v < 1000) : ∀ (j G : Nat) (s : List Nat) (β : FS) (υ : MS) (b : FS), j ≤ 3 → j < G → WU s β υ b υ0 → s.length + j ≤ 700 → ok (loopM (fun st : Int32 × FS × MS × FS => mL_writeNumber_L18 F (nI v) τs n pa ω sid st.1 st.2.1 st.2.2.1 st.2.2.2) G (nI (10 ^ j / 10), β, υ, b)) (fun r => WU (s ++ dd v j) r.1 r.2.1 r.2.2 υ0) := by
  intro j
  induction j with
  | zero =>
    intro G s β υ b h1 h2 h3 h4
    obtain ⟨G, rfl⟩ : ∃ m, G = m + 1 := ⟨G - 1, by omega⟩
    rw [loopM_l (b := (β, υ, b)) (by
      show mL_writeNumber_L18 F (nI v) τs n pa ω sid (nI 0) β υ b = _
      unfold mL_writeNumber_L18
      rw [if_pos (by decide)])]
    refine ok_some ?_
    rw [show dd v 0 = [] from rfl, List.append_nil]
    exact h3
  | succ j ih =>
    intro G s β υ b h1 h2 h3 h4
    obtain ⟨G, rfl⟩ : ∃ m, G = m + 1 := ⟨G - 1, by omega⟩
    have hp : 10 ^ j ≤ 1000 := show 10 ^ j ≤ 10 ^ 3 from Nat.pow_le_pow_right (by decide) (by omega)
    have hp0 : 1 ≤ 10 ^ j := Nat.le_trans Nat.one_le_two_pow (Nat.pow_le_pow_left (by decide) j)
    have e0 : 10 ^ (j + 1) / 10 = 10 ^ j := by rw [Nat.pow_succ]; exact Nat.mul_div_cancel _ (by decide)
    rw [e0]
    have hd : v / 10 ^ j ≤ v := Nat.div_le_self _ _
    obtain ⟨r, e1, e2⟩ := l_putU (τs := τs) (n := n) (pa := pa) (ω := ω) (sid := sid) (c := 48 + v / 10 ^ j % 10) hF h3 (by omega) (by omega)
    have hz : gNz (nI (10 ^ j)) = some () := by
      unfold gNz
      rw [if_neg (fun q => by rw [show (0 : Int32) = nI 0 from rfl, nI_i (by omega) (by decide)] at q; omega)]
    have hst : mL_writeNumber_L18 F (nI v) τs n pa ω sid (nI (10 ^ j)) β υ b = some (.inr (nI (10 ^ j / 10), r.1, r.2.1, r.2.2)) := by
      unfold mL_writeNumber_L18
      have e9 : nI (v / 10 ^ j) - nI (v / 10 ^ j) / (10 : Int32) * (10 : Int32) = nI (v / 10 ^ j % 10) := nI_r (b := 10) (by omega) (by decide) (by decide)
      have e8 : nI (10 ^ j) / (10 : Int32) = nI (10 ^ j / 10) := nI_q (b := 10) (by omega) (by decide) (by decide)
      rw [if_neg (show ¬ nI (10 ^ j) ≤ (0 : Int32) from nle (a := 0) (by decide) (by omega) (by omega)), hz, ob1_e, nI_q (by omega) hp0 (by omega), e9, show (48 : Int32) = nI 48 from rfl, nI_a, e1, ob3_e, e8]
    rw [loopM_r hst]
    refine ok_mono (ih G _ _ _ _ (by omega) (by omega) e2 (by rw [List.length_append]; show s.length + 1 + j ≤ 700; omega)) fun r' hr => ?_
    rw [List.append_assoc] at hr
    exact hr
theorem l_num (hF : 5000 ≤ F) {v : Nat} (hv : v < 1000) (h : WU s β υ b υ0) (hl : s.length + nd v ≤ 700) : ok (mL_writeNumber F τs n pa β υ ω sid b (nI v)) (fun r => WU (s ++ dn v) r.1 r.2.1 r.2.2 υ0) := by
  have e10 : nI v / (10 : Int32) = nI (v / 10) := nI_q (b := 10) (by omega) (by decide) (by decide)
  have key : loopM (fun st => mL_writeNumber_L2 F (nI v) τs n pa β υ ω sid b st) F (1 : Int32) = some (nI (10 ^ nd v / 10)) := by
    obtain ⟨G, rfl⟩ : ∃ m, F = m + 3 := ⟨F - 3, by omega⟩
    generalize hFF : G + 3 = F' at hF ⊢
    have hs : ∀ q, q < 1000 → mL_writeNumber_L2 F' (nI v) τs n pa β υ ω sid b (nI q) = if v / 10 < q then some (.inl (nI q)) else some (.inr (nI (q * 10))) := fun q hq => by
      unfold mL_writeNumber_L2
      rw [e10]
      by_cases z : v / 10 < q
      · rw [if_pos ((nI_lt2 (by omega) (by omega)).mpr z), if_pos z]
      · rw [if_neg (fun y => z ((nI_lt2 (by omega) (by omega)).mp y)), if_neg z, show (10 : Int32) = nI 10 from rfl, nI_m]
    have s1 := hs 1 (by decide)
    have s2 := hs 10 (by decide)
    have s3 := hs 100 (by decide)
    rw [← hFF]
    unfold nd
    by_cases q1 : v < 10
    · rw [if_pos (by omega)] at s1
      rw [if_pos q1]
      exact loopM_l s1
    · rw [if_neg (by omega)] at s1
      rw [if_neg q1]
      refine (loopM_r s1).trans ?_
      by_cases q2 : v < 100
      · rw [if_pos (by omega)] at s2
        rw [if_pos q2]
        exact loopM_l s2
      · rw [if_neg (by omega)] at s2
        rw [if_pos (by omega)] at s3
        rw [if_neg q2]
        refine (loopM_r s2).trans ?_
        exact loopM_l s3
  have hn : nd v ≤ 3 := by
    unfold nd
    split
    · omega
    · split <;> omega
  unfold mL_writeNumber
  rw [key, ob1_e]
  have hx := fun (r : FS × MS × FS) (hr : WU (s ++ dd v (nd v)) r.1 r.2.1 r.2.2 υ0) => (ok_some (Q := fun r => WU (s ++ dn v) r.1 r.2.1 r.2.2 υ0) (x := (r.1, r.2.1, r.2.2)) hr)
  exact ok_ob3 (ok_mono (l_dd hF hv (nd v) F s β υ b hn (by omega) h hl) hx)
theorem l_all (hF : 5000 ≤ F) {w v : Nat} (hv : v < 1000) (h : WU s β υ b υ0) (hl : s.length + (sN w).length + nd v ≤ 700) : ok (mL_writeAll F τs n pa β υ ω sid b w (nI v)) (fun r => WU (s ++ sN w ++ dn v) r.1 r.2.1 r.2.2 υ0) := by
  unfold mL_writeAll
  refine ok_ob3 (ok_mono (l_write hF h (by omega)) fun r hr => ok_ob3 (ok_mono (l_num hF hv hr (by rw [List.length_append]; omega)) fun r' hr' => ok_some hr'))
end AQ
theorem WT_0 {υ : MS} (h : υ 1 0 = 0) : WU [] (fun _ => 0) υ (fun _ => 0) υ := by
  have e : 20 * ((([] : List Nat).map nI).length / 20) = 0 := rfl
  refine ⟨fun c hc => by simp at hc, ⟨Nat.zero_le _, fun x hx => by simp at hx, ?_, fun k hk => ?_, rfl, fun i hi => ?_⟩, fun _ _ => rfl⟩
  · rw [e]; exact h
  · rw [e] at hk; exact absurd hk (Nat.not_lt_zero _)
  · rw [e]
    show (0 : Int32) = nI (pkw [] (0 + 4 * i))
    unfold pkw
    rw [cc_0 (Nat.zero_le _), cc_0 (Nat.zero_le _), cc_0 (Nat.zero_le _), cc_0 (Nat.zero_le _)]
    rfl
