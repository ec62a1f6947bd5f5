/-! what the law's own methods do -/
/-- what is thrown is one of these -/
def hEl {X : Type} (hs : List String) (o : Option (String ⊕ X)) : Option (String ⊕ X) := match o with
  | none => none
  | some (.inr x) => some (.inr x)
  | some (.inl E) => if E ∈ hs then some (.inl E) else none
theorem hEl_s {X : Type} {hs : List String} {o : Option (String ⊕ X)} {r : String ⊕ X} (h : hEl hs o = some r) : o = some r ∧ ∀ E, r = .inl E → E ∈ hs := by
  match o, h with
  | some (.inr x), h => exact ⟨h, fun E hE => by rw [hE] at h; cases h⟩
  | some (.inl E), h =>
    have h : (if E ∈ hs then some (Sum.inl E) else none) = some r := h
    by_cases q : E ∈ hs
    · rw [if_pos q] at h; exact ⟨h, fun E' hE => by rw [hE] at h; cases h; exact q⟩
    · rw [if_neg q] at h; cases h
/-- a state behind a call that may have thrown -/
def xV {X Y : Type} (y : Y) (f : X → Y) (o : String ⊕ X) : Y := match o with
  | .inl _ => y
  | .inr x => f x
theorem xU_same {X : Type} (w : va_W) (o : String ⊕ X) : xU w (fun _ => w) o = w := by cases o <;> rfl
theorem spl_nil (ws : va_W) : spl ws [] [] = ws := by
  unfold spl
  apply List.ext_getElem?
  intro k
  rw [List.getElem?_mapIdx]
  cases ws[k]? <;> rfl
section VXr
variable (cyI cyA cyT : ClassId) (wa ks ts : Nat) (kr ta sa : PA) (ra : Nat → PA) (K m : Nat) (Ns : PA) (ζ κ : MS) (Φ Ψ : WS)
theorem cX_viewr {k : Nat} (hk : k < m) (r : va_W) : (cX cyI cyA cyT wa ks ts kr ta sa ra K m Ns ζ κ Φ Ψ ++ r).Perm (cT cyI cyA (ta k) (sa k) (ra k) (Ns k) (Φ k) (Ψ k) ++ (rX cyI cyA cyT wa ks ts kr ta sa ra K m Ns ζ κ Φ Ψ k ++ r)) :=
  ((cX_view cyI cyA cyT wa ks ts kr ta sa ra K m Ns ζ κ Φ Ψ hk).append_right r).trans (List.Perm.of_eq (List.append_assoc _ _ _))
theorem cX_backr {k : Nat} (hk : k < m) (Φ' Ψ' : WS) (h : ∀ v, v ≠ k → Φ' v = Φ v ∧ Ψ' v = Ψ v) (r : va_W) : (cT cyI cyA (ta k) (sa k) (ra k) (Ns k) (Φ' k) (Ψ' k) ++ (rX cyI cyA cyT wa ks ts kr ta sa ra K m Ns ζ κ Φ Ψ k ++ r)).Perm (cX cyI cyA cyT wa ks ts kr ta sa ra K m Ns ζ κ Φ' Ψ' ++ r) :=
  (List.Perm.of_eq (List.append_assoc _ _ _).symm).trans ((cX_back2 cyI cyA cyT wa ks ts kr ta sa ra K m Ns ζ κ Φ Ψ hk Φ' Ψ' h).append_right r)
theorem cX_br {k : Nat} (hk : k < m) (φ ψ : MS) (r : va_W) : (cT cyI cyA (ta k) (sa k) (ra k) (Ns k) φ ψ ++ (rX cyI cyA cyT wa ks ts kr ta sa ra K m Ns ζ κ Φ Ψ k ++ r)).Perm (cX cyI cyA cyT wa ks ts kr ta sa ra K m Ns ζ κ (va_up Φ k φ) (va_up Ψ k ψ) ++ r) := by
  have h := cX_backr cyI cyA cyT wa ks ts kr ta sa ra K m Ns ζ κ Φ Ψ hk (va_up Φ k φ) (va_up Ψ k ψ) (fun v hv => ⟨va_up_ne _ _ hv, va_up_ne _ _ hv⟩) r
  rw [va_up_self, va_up_self] at h
  exact h
theorem cX_brF {k : Nat} (hk : k < m) (φ : MS) (r : va_W) : (cT cyI cyA (ta k) (sa k) (ra k) (Ns k) φ (Ψ k) ++ (rX cyI cyA cyT wa ks ts kr ta sa ra K m Ns ζ κ Φ Ψ k ++ r)).Perm (cX cyI cyA cyT wa ks ts kr ta sa ra K m Ns ζ κ (va_up Φ k φ) Ψ ++ r) := by
  have h := cX_backr cyI cyA cyT wa ks ts kr ta sa ra K m Ns ζ κ Φ Ψ hk (va_up Φ k φ) Ψ (fun v hv => ⟨va_up_ne _ _ hv, rfl⟩) r
  rw [va_up_self] at h
  exact h
theorem cX_brS {k : Nat} (hk : k < m) (ψ : MS) (r : va_W) : (cT cyI cyA (ta k) (sa k) (ra k) (Ns k) (Φ k) ψ ++ (rX cyI cyA cyT wa ks ts kr ta sa ra K m Ns ζ κ Φ Ψ k ++ r)).Perm (cX cyI cyA cyT wa ks ts kr ta sa ra K m Ns ζ κ Φ (va_up Ψ k ψ) ++ r) := by
  have h := cX_backr cyI cyA cyT wa ks ts kr ta sa ra K m Ns ζ κ Φ Ψ hk Φ (va_up Ψ k ψ) (fun v hv => ⟨rfl, va_up_ne _ _ hv⟩) r
  rw [va_up_self] at h
  exact h
theorem cX_ksetr {i : Nat} (hi : i < K) (f : FS) (r : va_W) : (cX cyI cyA cyT wa ks ts kr ta sa ra K m Ns ζ κ Φ Ψ ++ r).set (3 + i) (kr i, .inl (cyI, 2, .inl f)) = cX cyI cyA cyT wa ks ts kr ta sa ra K m Ns ζ (va_up κ i f) Φ Ψ ++ r := by
  have h := cX_krow cyI cyA cyT wa ks ts kr ta sa ra K m Ns ζ κ Φ Ψ hi
  rw [List.set_append_left _ _ (List.getElem?_eq_some_iff.mp h).1, cX_kset _ _ _ _ _ _ _ _ _ _ _ _ _ _ _ _ _ hi]
theorem cX_krowr {i : Nat} (hi : i < K) (r : va_W) : (cX cyI cyA cyT wa ks ts kr ta sa ra K m Ns ζ κ Φ Ψ ++ r)[3 + i]? = some (kr i, .inl (cyI, 2, .inl (κ i))) := by
  have h := cX_krow cyI cyA cyT wa ks ts kr ta sa ra K m Ns ζ κ Φ Ψ hi
  rw [List.getElem?_append_left (List.getElem?_eq_some_iff.mp h).1]
  exact h
end VXr
def mX6_tick_L10 (fu : Nat) (K : Nat) (mT : Nat) (Ns : PA) (ζ3 : MS) (κ4 : MS) (v2 : Int32) (Φ5 : WS) (Ψ6 : WS) (bo7 : FS) : Option ((WS × WS × FS) ⊕ (Int32 × WS × WS × FS)) :=
  (if (nI mT) ≤ v2 then some (.inl (Φ5, Ψ6, bo7)) else ob1 (hixn mT v2) fun j9 => ob1 (if (Φ5 j9 2 0) = (2 : Int32) then some (1 : Int32) else some (0 : Int32)) fun v10 => ob1 (wr bo7 mT v2 (vp_nar .boolean v10)) fun bo15 => ob2 (ob1 (if (Φ5 j9 2 0) = 0 then (if (Φ5 j9 0 0) = (ζ3 0 0) then some true else some false) else some false) fun t20 => cnd t20 (ob1 (some (pf (Φ5 j9) 2 (1 : Int32))) fun φ24 => ob1 (some (va_up Φ5 j9 φ24)) fun Φ25 => ob2 (mX5_opens fu (Ns j9) (Φ25 j9) (Ψ6 j9) (0 : Int32)) fun φ26 ψ27 => ob1 (some (va_up Φ25 j9 φ26)) fun Φ28 => ob1 (some (va_up Ψ6 j9 ψ27)) fun Ψ29 => some (Φ28, Ψ29)) (some (Φ5, Ψ6))) fun Φ16 Ψ17 => some (.inr ((v2 + (1 : Int32)), Φ16, Ψ17, bo15)))

def mX6_tick_L87 (fu : Nat) (K : Nat) (mT : Nat) (Ns : PA) (p43 : Int32) (ζ38 : MS) (bo42 : FS) (v37 : Int32) (κ39 : MS) (Φ40 : WS) (Ψ41 : WS) : Option ((MS × WS × WS) ⊕ (Int32 × MS × WS × WS)) :=
  (if p43 ≤ v37 then some (.inl (κ39, Φ40, Ψ41)) else ob1 (hixn mT v37) fun j45 => ob3 (if (Φ40 j45 2 0) = (1 : Int32) then ob3 (mX6_goes fu K mT Ns ζ38 κ39 Φ40 Ψ41 j45) fun κ52 Φ53 Ψ54 => some (κ52, Φ53, Ψ54) else some (κ39, Φ40, Ψ41)) fun κ46 Φ47 Ψ48 => some (.inr ((v37 + (1 : Int32)), κ46, Φ47, Ψ48)))

def mX6_tick_L122 (fu : Nat) (K : Nat) (mT : Nat) (Ns : PA) (bo67 : FS) (v62 : Int32) (ζ63 : MS) (κ64 : MS) (Φ65 : WS) (Ψ66 : WS) : Option ((MS × MS × WS × WS) ⊕ (Int32 × MS × MS × WS × WS)) :=
  (if (nI mT) ≤ v62 then some (.inl (ζ63, κ64, Φ65, Ψ66)) else ob1 (rd bo67 mT v62) fun x69 => ob4 (if x69 = 0 then some (ζ63, κ64, Φ65, Ψ66) else ob1 (hixn mT v62) fun j77 => ob4 (mX6_back fu K mT Ns ζ63 κ64 Φ65 Ψ66 j77) fun ζ78 κ79 Φ80 Ψ81 => some (ζ78, κ79, Φ80, Ψ81)) fun ζ70 κ71 Φ72 Ψ73 => some (.inr ((v62 + (1 : Int32)), ζ70, κ71, Φ72, Ψ73)))

def mX6_tick (fu : Nat) (K : Nat) (mT : Nat) (Ns : PA) (ζ : MS) (κ : MS) (Φ : WS) (Ψ : WS) : Option (MS × MS × WS × WS) :=
  ob1 (gLt mT 9) fun _ => ob3 (loopM (fun st => mX6_tick_L10 fu K mT Ns ζ κ st.1 st.2.1 st.2.2.1 st.2.2.2) fu ((0 : Int32), Φ, Ψ, (fun _ => 0))) fun Φ30 Ψ31 bo32 => ob3 (loopM (fun st => mX6_tick_L87 fu K mT Ns (nI mT) ζ bo32 st.1 st.2.1 st.2.2.1 st.2.2.2) fu ((0 : Int32), κ, Φ30, Ψ31)) fun κ55 Φ56 Ψ57 => ob4 (loopM (fun st => mX6_tick_L122 fu K mT Ns bo32 st.1 st.2.1 st.2.2.1 st.2.2.2.1 st.2.2.2.2) fu ((0 : Int32), ζ, κ55, Φ56, Ψ57)) fun ζ82 κ83 Φ84 Ψ85 => ob1 (some (pf ζ82 0 ((ζ82 0 0) + (1 : Int32)))) fun ζ90 => some (ζ90, κ83, Φ84, Ψ85)

def mL_flush_L22 (fu : Nat) (τs10 : WS) (n11 : Nat) (pa12 : PA) (β13 : FS) (υ14 : MS) (ω15 : WS) (sid16 : PA) (v9 : Int32) (b17 : FS) : Option (FS ⊕ (Int32 × FS)) :=
  (if (6 : Int32) ≤ v9 then some (.inl b17) else ob1 (wr b17 8 v9 (0 : Int32)) fun b19 => some (.inr ((v9 + (1 : Int32)), b19)))

def mL_flush (fu : Nat) (τs : WS) (n : Nat) (pa : PA) (β : FS) (υ : MS) (ω : WS) (sid : PA) (b : FS) : Option (FS × MS × FS) :=
  ob1 (rd b 8 (1 : Int32)) fun x1 => ob1 (rd b 8 (2 : Int32)) fun x2 => ob1 (rd b 8 (3 : Int32)) fun x3 => ob1 (rd b 8 (4 : Int32)) fun x4 => ob1 (rd b 8 (5 : Int32)) fun x5 => ob3 (mX3_append fu τs n pa β υ ω sid x1 x2 x3 x4 x5) fun r6 β7 υ8 => ob1 (loopM (fun st => mL_flush_L22 fu τs n pa β7 υ8 ω sid st.1 st.2) fu ((1 : Int32), b)) fun b20 => some (β7, υ8, b20)

def mL_put (fu : Nat) (τs : WS) (n : Nat) (pa : PA) (β : FS) (υ : MS) (ω : WS) (sid : PA) (b : FS) (i3 : Int32) : Option (FS × MS × FS) :=
  ob1 (rd b 8 (0 : Int32)) fun x1 => ob1 (rd b 8 ((1 : Int32) + ((x1 - x1 / (20 : Int32) * (20 : Int32)) / (4 : Int32)))) fun x2 => ob1 (rd b 8 (0 : Int32)) fun x3 => ob1 (wr b 8 ((1 : Int32) + ((x1 - x1 / (20 : Int32) * (20 : Int32)) / (4 : Int32))) (x2 ||| (i3 <<< (((24 : Int32) - ((8 : Int32) * (x3 - x3 / (4 : Int32) * (4 : Int32)))) &&& 31)))) fun b4 => ob1 (rd b4 8 (0 : Int32)) fun x5 => ob1 (wr b4 8 (0 : Int32) (x5 + (1 : Int32))) fun b6 => ob1 (rd b6 8 (0 : Int32)) fun x7 => ob3 (if (x7 - x7 / (20 : Int32) * (20 : Int32)) = 0 then ob3 (mL_flush fu τs n pa β υ ω sid b6) fun β14 υ15 b16 => some (β14, υ15, b16) else some (β, υ, b6)) fun β8 υ9 b10 => some (β8, υ9, b10)

def mL_write_L2 (fu : Nat) (p10 : Nat) (τs2 : WS) (n3 : Nat) (pa4 : PA) (ω7 : WS) (sid8 : PA) (v1 : Int32) (β5 : FS) (υ6 : MS) (b9 : FS) : Option ((FS × MS × FS) ⊕ (Int32 × FS × MS × FS)) :=
  (if (sLen p10) ≤ v1 then some (.inl (β5, υ6, b9)) else ob1 (sChr p10 v1) fun x12 => ob3 (mL_put fu τs2 n3 pa4 β5 υ6 ω7 sid8 b9 x12) fun β13 υ14 b15 => some (.inr ((v1 + (1 : Int32)), β13, υ14, b15)))

def mL_write (fu : Nat) (τs : WS) (n : Nat) (pa : PA) (β : FS) (υ : MS) (ω : WS) (sid : PA) (b : FS) (w3 : Nat) : Option (FS × MS × FS) :=
  ob3 (loopM (fun st => mL_write_L2 fu w3 τs n pa ω sid st.1 st.2.1 st.2.2.1 st.2.2.2) fu ((0 : Int32), β, υ, b)) fun β16 υ17 b18 => some (β16, υ17, b18)

def mL_writeNumber_L2 (fu : Nat) (p10 : Int32) (τs2 : WS) (n3 : Nat) (pa4 : PA) (β5 : FS) (υ6 : MS) (ω7 : WS) (sid8 : PA) (b9 : FS) (v1 : Int32)  : Option (Int32 ⊕ Int32) :=
  (if (p10 / (10 : Int32)) < v1 then some (.inl v1) else some (.inr (v1 * (10 : Int32))))

def mL_writeNumber_L18 (fu : Nat) (p26 : Int32) (τs18 : WS) (n19 : Nat) (pa20 : PA) (ω23 : WS) (sid24 : PA) (v17 : Int32) (β21 : FS) (υ22 : MS) (b25 : FS) : Option ((FS × MS × FS) ⊕ (Int32 × FS × MS × FS)) :=
  (if v17 ≤ 0 then some (.inl (β21, υ22, b25)) else ob1 (gNz v17) fun _ => ob3 (mL_put fu τs18 n19 pa20 β21 υ22 ω23 sid24 b25 ((48 : Int32) + ((p26 / v17) - (p26 / v17) / (10 : Int32) * (10 : Int32)))) fun β29 υ30 b31 => some (.inr ((v17 / (10 : Int32)), β29, υ30, b31)))

def mL_writeNumber (fu : Nat) (τs : WS) (n : Nat) (pa : PA) (β : FS) (υ : MS) (ω : WS) (sid : PA) (b : FS) (i3 : Int32) : Option (FS × MS × FS) :=
  ob1 (loopM (fun st => mL_writeNumber_L2 fu i3 τs n pa β υ ω sid b st) fu (1 : Int32)) fun v12 => ob3 (loopM (fun st => mL_writeNumber_L18 fu i3 τs n pa ω sid st.1 st.2.1 st.2.2.1 st.2.2.2) fu (v12, β, υ, b)) fun β32 υ33 b34 => some (β32, υ33, b34)

def mL_writeAll (fu : Nat) (τs : WS) (n : Nat) (pa : PA) (β : FS) (υ : MS) (ω : WS) (sid : PA) (b : FS) (w3 : Nat) (i4 : Int32) : Option (FS × MS × FS) :=
  ob3 (mL_write fu τs n pa β υ ω sid b w3) fun β1 υ2 b3 => ob3 (mL_writeNumber fu τs n pa β1 υ2 ω sid b3 i4) fun β4 υ5 b6 => some (β4, υ5, b6)

def mL_agrees_L31 (fu : Nat) (K : Nat) (mT : Nat) (Ns : PA) (τs15 : WS) (n16 : Nat) (pa17 : PA) (β18 : FS) (υ19 : MS) (ω20 : WS) (sid21 : PA) (ζ22 : MS) (κ23 : MS) (Φ24 : WS) (Ψ25 : WS) (v13 : Int32) (v14 : Int32)  : Option (Int32 ⊕ (Int32 × Int32)) :=
  ob1 (if (10 : Int32) ≤ v13 then some false else (if v14 = 0 then some false else some true)) fun t26 => cnd t26 (ob1 (hEl ["java/lang/IllegalArgumentException"] (mX3_state fu τs15 n16 pa17 β18 υ19 ω20 sid21 v13)) fun o30 => ob1 (some (xE [("java/lang/IllegalArgumentException", (-2000000098 : Int32))] (fun x => x) o30)) fun r31 => ob1 (mX6_told fu K mT Ns ζ22 κ23 Φ24 Ψ25 v13) fun r32 => ob1 (if r31 = r32 then some (1 : Int32) else some (0 : Int32)) fun v33 => some (.inr ((v13 + (1 : Int32)), v33))) (some (.inl v14))

def mL_agrees_L84 (fu : Nat) (K : Nat) (mT : Nat) (Ns : PA) (p73 : Int32) (τs62 : WS) (n63 : Nat) (pa64 : PA) (β65 : FS) (υ66 : MS) (ω67 : WS) (sid68 : PA) (ζ69 : MS) (κ70 : MS) (Φ71 : WS) (Ψ72 : WS) (v60 : Int32) (v61 : Int32)  : Option (Int32 ⊕ (Int32 × Int32)) :=
  ob1 (if (6 : Int32) ≤ v60 then some false else (if v61 = 0 then some false else some true)) fun t74 => cnd t74 (ob1 (hEl ["java/lang/IndexOutOfBoundsException", "java/lang/IllegalArgumentException"] (mX3_stock fu τs62 n63 pa64 β65 υ66 ω67 sid68 p73 v60)) fun o78 => ob1 (some (xE [("java/lang/IndexOutOfBoundsException", (-2000000097 : Int32)), ("java/lang/IllegalArgumentException", (-2000000098 : Int32))] (fun x => x) o78)) fun r79 => ob1 (mX6_ofStock fu K mT Ns ζ69 κ70 Φ71 Ψ72 p73 v60) fun r80 => ob1 (if r79 = r80 then some (1 : Int32) else some (0 : Int32)) fun v81 => some (.inr ((v60 + (1 : Int32)), v81))) (some (.inl v61))

def mL_agrees_L68 (fu : Nat) (K : Nat) (mT : Nat) (Ns : PA) (τs45 : WS) (n46 : Nat) (pa47 : PA) (β48 : FS) (υ49 : MS) (ω50 : WS) (sid51 : PA) (ζ52 : MS) (κ53 : MS) (Φ54 : WS) (Ψ55 : WS) (v43 : Int32) (v44 : Int32)  : Option (Int32 ⊕ (Int32 × Int32)) :=
  ob1 (if (nI K) ≤ v43 then some false else (if v44 = 0 then some false else some true)) fun t56 => cnd t56 (ob1 (loopM (fun st => mL_agrees_L84 fu K mT Ns v43 τs45 n46 pa47 β48 υ49 ω50 sid51 ζ52 κ53 Φ54 Ψ55 st.1 st.2) 7 ((0 : Int32), v44)) fun v86 => some (.inr ((v43 + (1 : Int32)), v86))) (some (.inl v44))

def mL_agrees_L148 (fu : Nat) (K : Nat) (mT : Nat) (Ns : PA) (p144 : Int32) (τs133 : WS) (n134 : Nat) (pa135 : PA) (β136 : FS) (υ137 : MS) (ω138 : WS) (sid139 : PA) (ζ140 : MS) (κ141 : MS) (Φ142 : WS) (Ψ143 : WS) (v131 : Int32) (v132 : Int32)  : Option (Int32 ⊕ (Int32 × Int32)) :=
  ob1 (if (7 : Int32) ≤ v131 then some false else (if v132 = 0 then some false else some true)) fun t145 => cnd t145 (ob1 (hEl ["java/lang/IndexOutOfBoundsException", "java/lang/IllegalArgumentException"] (mX3_journey fu τs133 n134 pa135 β136 υ137 ω138 sid139 p144 v131)) fun o149 => ob1 (some (xE [("java/lang/IndexOutOfBoundsException", (-2000000097 : Int32)), ("java/lang/IllegalArgumentException", (-2000000098 : Int32))] (fun x => x) o149)) fun r150 => ob1 (mX6_ofTrip fu K mT Ns ζ140 κ141 Φ142 Ψ143 p144 v131) fun r151 => ob1 (if r150 = r151 then some (1 : Int32) else some (0 : Int32)) fun v152 => some (.inr ((v131 + (1 : Int32)), v152))) (some (.inl v132))

def mL_agrees_L217 (fu : Nat) (K : Nat) (mT : Nat) (Ns : PA) (p195 : Int32) (p196 : Nat) (p197 : Int32) (τs184 : WS) (n185 : Nat) (pa186 : PA) (β187 : FS) (υ188 : MS) (ω189 : WS) (sid190 : PA) (ζ191 : MS) (κ192 : MS) (Φ193 : WS) (Ψ194 : WS) (v182 : Int32) (v183 : Int32)  : Option (Int32 ⊕ (Int32 × Int32)) :=
  ob1 (if (7 : Int32) ≤ v182 then some false else (if v183 = 0 then some false else some true)) fun t198 => cnd t198 (ob1 (hEl ["java/lang/IndexOutOfBoundsException", "java/util/NoSuchElementException", "java/lang/IllegalArgumentException"] (mX3_step fu τs184 n185 pa186 β187 υ188 ω189 sid190 p197 p195 v182)) fun o202 => ob1 (some (xE [("java/lang/IndexOutOfBoundsException", (-2000000097 : Int32)), ("java/util/NoSuchElementException", (-2000000100 : Int32)), ("java/lang/IllegalArgumentException", (-2000000098 : Int32))] (fun x => x) o202)) fun r203 => ob1 (hixn (Ns p196) p195) fun j204 => ob1 (rd (Ψ194 p196 j204) 9 v182) fun x205 => ob1 (if r203 = x205 then some (1 : Int32) else some (0 : Int32)) fun v206 => some (.inr ((v182 + (1 : Int32)), v206))) (some (.inl v183))

def mL_agrees_L202 (fu : Nat) (K : Nat) (mT : Nat) (Ns : PA) (p176 : Nat) (p177 : Int32) (τs165 : WS) (n166 : Nat) (pa167 : PA) (β168 : FS) (υ169 : MS) (ω170 : WS) (sid171 : PA) (ζ172 : MS) (κ173 : MS) (Φ174 : WS) (Ψ175 : WS) (v163 : Int32) (v164 : Int32)  : Option (Int32 ⊕ (Int32 × Int32)) :=
  ob1 (if (nI (Ns p176)) ≤ v163 then some false else (if v164 = 0 then some false else some true)) fun t178 => cnd t178 (ob1 (loopM (fun st => mL_agrees_L217 fu K mT Ns v163 p176 p177 τs165 n166 pa167 β168 υ169 ω170 sid171 ζ172 κ173 Φ174 Ψ175 st.1 st.2) 8 ((0 : Int32), v164)) fun v211 => some (.inr ((v163 + (1 : Int32)), v211))) (some (.inl v164))

def mL_agrees_L132 (fu : Nat) (K : Nat) (mT : Nat) (Ns : PA) (τs116 : WS) (n117 : Nat) (pa118 : PA) (β119 : FS) (υ120 : MS) (ω121 : WS) (sid122 : PA) (ζ123 : MS) (κ124 : MS) (Φ125 : WS) (Ψ126 : WS) (v114 : Int32) (v115 : Int32)  : Option (Int32 ⊕ (Int32 × Int32)) :=
  ob1 (if (nI mT) ≤ v114 then some false else (if v115 = 0 then some false else some true)) fun t127 => cnd t127 (ob1 (loopM (fun st => mL_agrees_L148 fu K mT Ns v114 τs116 n117 pa118 β119 υ120 ω121 sid122 ζ123 κ124 Φ125 Ψ126 st.1 st.2) 8 ((0 : Int32), v115)) fun v157 => ob1 (hixn mT v114) fun j162 => ob1 (loopM (fun st => mL_agrees_L202 fu K mT Ns j162 v114 τs116 n117 pa118 β119 υ120 ω121 sid122 ζ123 κ124 Φ125 Ψ126 st.1 st.2) 11 ((0 : Int32), v157)) fun v235 => ob1 (ob1 (if v235 = 0 then some false else ob1 (hEl ["java/lang/IndexOutOfBoundsException", "java/util/NoSuchElementException", "java/lang/IllegalArgumentException"] (mX3_step fu τs116 n117 pa118 β119 υ120 ω121 sid122 v114 (nI (Ns j162)) (9 : Int32))) fun o247 => ob1 (some (xE [("java/lang/IndexOutOfBoundsException", (-2000000097 : Int32)), ("java/util/NoSuchElementException", (-2000000100 : Int32)), ("java/lang/IllegalArgumentException", (-2000000098 : Int32))] (fun x => x) o247)) fun r248 => (if r248 = (-2000000100 : Int32) then some true else some false)) fun t244 => cnd t244 (some (1 : Int32)) (some (0 : Int32))) fun v240 => some (.inr ((v114 + (1 : Int32)), v240))) (some (.inl v115))

def mL_agrees (fu : Nat) (K : Nat) (mT : Nat) (Ns : PA) (τs : WS) (n : Nat) (pa : PA) (β : FS) (υ : MS) (ω : WS) (sid : PA) (ζ : MS) (κ : MS) (Φ : WS) (Ψ : WS) : Option Int32 :=
  ob1 (mX3_checksum fu τs n pa β υ ω sid) fun r1 => ob1 (mX6_checksum fu K mT Ns ζ κ Φ Ψ) fun r2 => ob1 (ob1 (if (lg_cmp r1 r2) = 0 then ob1 (hEl ["java/lang/IllegalArgumentException"] (mX3_state fu τs n pa β υ ω sid (10 : Int32))) fun o10 => ob1 (some (xE [("java/lang/IllegalArgumentException", (-2000000098 : Int32))] (fun x => x) o10)) fun r11 => (if r11 = (-2000000098 : Int32) then some true else some false) else some false) fun t7 => cnd t7 (some (1 : Int32)) (some (0 : Int32))) fun v3 => ob1 (loopM (fun st => mL_agrees_L31 fu K mT Ns τs n pa β υ ω sid ζ κ Φ Ψ st.1 st.2) 11 ((0 : Int32), v3)) fun v38 => ob1 (loopM (fun st => mL_agrees_L68 fu K mT Ns τs n pa β υ ω sid ζ κ Φ Ψ st.1 st.2) 5 ((0 : Int32), v38)) fun v109 => ob1 (loopM (fun st => mL_agrees_L132 fu K mT Ns τs n pa β υ ω sid ζ κ Φ Ψ st.1 st.2) 6 ((0 : Int32), v109)) fun v318 => ob1 (ob1 (if v318 = 0 then some false else ob1 (hEl ["java/lang/IndexOutOfBoundsException", "java/lang/IllegalArgumentException"] (mX3_stock fu τs n pa β υ ω sid (nI K) (0 : Int32))) fun o330 => ob1 (some (xE [("java/lang/IndexOutOfBoundsException", (-2000000097 : Int32)), ("java/lang/IllegalArgumentException", (-2000000098 : Int32))] (fun x => x) o330)) fun r331 => (if r331 = (-2000000097 : Int32) then ob1 (hEl ["java/lang/IndexOutOfBoundsException", "java/lang/IllegalArgumentException"] (mX3_journey fu τs n pa β υ ω sid (nI mT) (0 : Int32))) fun o333 => ob1 (some (xE [("java/lang/IndexOutOfBoundsException", (-2000000097 : Int32)), ("java/lang/IllegalArgumentException", (-2000000098 : Int32))] (fun x => x) o333)) fun r334 => (if r334 = (-2000000097 : Int32) then some true else some false) else some false)) fun t327 => cnd t327 (some (1 : Int32)) (some (0 : Int32))) fun v323 => some v323

