/-! what the trips and worlds of the law do -/
def mX4_below (fu : Nat) (sd : MS) (i1 : Int32) : Option (Int32 × MS) :=
  ob1 (some (pf sd 0 (((1103515245 : Int32) * (sd 0 0)) + (12345 : Int32)))) fun sd1 => ob1 (gNz i1) fun _ => some ((((sd1 0 0).toUInt32 >>> ((16 : Int32).toUInt32 &&& Int32.toUInt32 31)).toInt32 - ((sd1 0 0).toUInt32 >>> ((16 : Int32).toUInt32 &&& Int32.toUInt32 31)).toInt32 / i1 * i1), sd1)

def mX5_isOpen (fu : Nat) (N : Nat) (φ : MS) (ψ : MS) : Option Int32 :=
  ob1 (ob1 (if (φ 2 0) = (3 : Int32) then some false else (if (φ 2 0) = (4 : Int32) then some false else some true)) fun t5 => cnd t5 (some (1 : Int32)) (some (0 : Int32))) fun v1 => some v1

def mX5_holds_L14 (fu : Nat) (N : Nat) (p5 : Int32) (p6 : Int32) (φ3 : MS) (ψ4 : MS) (v1 : Int32) (v2 : Int32)  : Option (Int32 ⊕ (Int32 × Int32)) :=
  (if p5 ≤ v1 then some (.inl v2) else ob1 (hixn N v1) fun j8 => ob1 (rd (ψ4 j8) 9 (1 : Int32)) fun x9 => ob1 (ob1 (if x9 = p6 then ob1 (rd (ψ4 j8) 9 (4 : Int32)) fun x17 => (if x17 = (2 : Int32) then some true else ob1 (rd (ψ4 j8) 9 (4 : Int32)) fun x19 => (if x19 = (3 : Int32) then some true else some false)) else some false) fun t14 => cnd t14 (some (1 : Int32)) (some (0 : Int32))) fun v10 => some (.inr ((v1 + (1 : Int32)), (v2 ||| v10))))

def mX5_holds (fu : Nat) (N : Nat) (φ : MS) (ψ : MS) (i1 : Int32) : Option Int32 :=
  ob1 (loopM (fun st => mX5_holds_L14 fu N (nI N) i1 φ ψ st.1 st.2) fu ((0 : Int32), (0 : Int32))) fun v21 => ob1 (ob1 (if v21 = 0 then some false else ob1 (mX5_isOpen fu N φ ψ) fun r33 => (if r33 = 0 then some false else some true)) fun t30 => cnd t30 (some (1 : Int32)) (some (0 : Int32))) fun v26 => some v26

def mX5_count_L16 (fu : Nat) (N : Nat) (p5 : Int32) (p6 : Int32) (p7 : Int32) (φ3 : MS) (ψ4 : MS) (v1 : Int32) (v2 : Int32)  : Option (Int32 ⊕ (Int32 × Int32)) :=
  (if p5 ≤ v1 then some (.inl v2) else ob1 (hixn N v1) fun j9 => ob1 (rd (ψ4 j9) 9 (0 : Int32)) fun x10 => ob1 (ob1 (if x10 = p6 then ob1 (rd (ψ4 j9) 9 (4 : Int32)) fun x17 => (if x17 = p7 then some true else some false) else some false) fun t14 => cnd t14 (some (v2 + (1 : Int32))) (some v2)) fun v11 => some (.inr ((v1 + (1 : Int32)), v11)))

def mX5_count (fu : Nat) (N : Nat) (φ : MS) (ψ : MS) (i1 : Int32) (i2 : Int32) : Option Int32 :=
  ob1 (loopM (fun st => mX5_count_L16 fu N (nI N) i1 i2 φ ψ st.1 st.2) fu ((0 : Int32), (0 : Int32))) fun v19 => some v19

def mX5_size_L14 (fu : Nat) (N : Nat) (p5 : Int32) (p6 : Int32) (φ3 : MS) (ψ4 : MS) (v1 : Int32) (v2 : Int32)  : Option (Int32 ⊕ (Int32 × Int32)) :=
  (if p5 ≤ v1 then some (.inl v2) else ob1 (hixn N v1) fun j8 => ob1 (rd (ψ4 j8) 9 (0 : Int32)) fun x9 => ob1 (if x9 = p6 then some (v2 + (1 : Int32)) else some v2) fun v10 => some (.inr ((v1 + (1 : Int32)), v10)))

def mX5_size (fu : Nat) (N : Nat) (φ : MS) (ψ : MS) (i1 : Int32) : Option Int32 :=
  ob1 (loopM (fun st => mX5_size_L14 fu N (nI N) i1 φ ψ st.1 st.2) fu ((0 : Int32), (0 : Int32))) fun v14 => some v14

def mX5_isFinished (fu : Nat) (N : Nat) (φ : MS) (ψ : MS) (i1 : Int32) : Option Int32 :=
  ob1 (mX5_count fu N φ ψ i1 (3 : Int32)) fun r1 => ob1 (mX5_count fu N φ ψ i1 (6 : Int32)) fun r2 => ob1 (mX5_size fu N φ ψ i1) fun r3 => ob1 (if (r1 + r2) = r3 then some (1 : Int32) else some (0 : Int32)) fun v4 => some v4

def mX5_last_L4 (fu : Nat) (N : Nat) (φ3 : MS) (ψ4 : MS) (v1 : Int32) (v2 : Int32)  : Option (Int32 ⊕ (Int32 × Int32)) :=
  (if (nI N) ≤ v1 then some (.inl v2) else ob1 (hixn N v1) fun j6 => ob1 (rd (ψ4 j6) 9 (4 : Int32)) fun x7 => ob1 (if x7 = (3 : Int32) then some v1 else some v2) fun v8 => some (.inr ((v1 + (1 : Int32)), v8)))

def mX5_last (fu : Nat) (N : Nat) (φ : MS) (ψ : MS) : Option Int32 :=
  ob1 (loopM (fun st => mX5_last_L4 fu N φ ψ st.1 st.2) fu ((0 : Int32), (-1 : Int32))) fun v12 => some v12

def mX5_opens_L16 (fu : Nat) (N : Nat) (p5 : Int32) (φ3 : MS) (v2 : Int32) (ψ4 : MS) : Option (MS ⊕ (Int32 × MS)) :=
  (if p5 ≤ v2 then some (.inl ψ4) else ob1 (hixn N v2) fun j7 => ob1 (rd (ψ4 j7) 9 (0 : Int32)) fun x8 => ob1 (if x8 = (φ3 3 0) then ob1 (rd (ψ4 j7) 9 (4 : Int32)) fun x13 => (if x13 = 0 then ob1 (wra ψ4 j7 9 (4 : Int32) (1 : Int32)) fun ψ15 => ob1 (wra ψ15 j7 9 (8 : Int32) (0 : Int32)) fun ψ16 => some ψ16 else some ψ4) else some ψ4) fun ψ9 => some (.inr ((v2 + (1 : Int32)), ψ9)))

def mX5_opens (fu : Nat) (N : Nat) (φ : MS) (ψ : MS) (i1 : Int32) : Option (MS × MS) :=
  ob1 (some (pf φ 3 i1)) fun φ1 => ob1 (loopM (fun st => mX5_opens_L16 fu N (nI N) φ1 st.1 st.2) fu ((0 : Int32), ψ)) fun ψ17 => some (φ1, ψ17)

def mX5_rests (fu : Nat) (N : Nat) (φ : MS) (ψ : MS) (i1 : Int32) (i2 : Int32) : Option MS :=
  ob1 (some (pf φ 2 i1)) fun φ1 => ob1 (some (pf φ1 3 (-1 : Int32))) fun φ2 => ob1 (some (pf φ2 4 i2)) fun φ3 => some φ3

def mX5_goesBack (fu : Nat) (N : Nat) (φ : MS) (ψ : MS) : Option MS :=
  ob1 (some (pf φ 2 (2 : Int32))) fun φ1 => ob1 (some (pf φ1 3 (-1 : Int32))) fun φ2 => ob1 (some (pf φ2 4 (-1 : Int32))) fun φ3 => ob1 (some (pf φ3 5 (0 : Int32))) fun φ4 => some φ4

def mX5_owes_L13 (fu : Nat) (N : Nat) (p5 : Int32) (φ3 : MS) (ψ4 : MS) (v1 : Int32) (v2 : Int32)  : Option (Int32 ⊕ (Int32 × Int32)) :=
  (if p5 ≤ v1 then some (.inl v2) else ob1 (hixn N v1) fun j7 => ob1 (rd (ψ4 j7) 9 (4 : Int32)) fun x8 => ob1 (ob1 (if x8 = (3 : Int32) then (if (φ3 2 0) = (2 : Int32) then some true else (if (φ3 2 0) = (5 : Int32) then some true else some false)) else some false) fun t12 => cnd t12 (ob1 (rd (ψ4 j7) 9 (2 : Int32)) fun x17 => some (v2 + x17)) (some v2)) fun v9 => some (.inr ((v1 + (1 : Int32)), v9)))

def mX5_owes (fu : Nat) (N : Nat) (φ : MS) (ψ : MS) : Option Int32 :=
  ob1 (loopM (fun st => mX5_owes_L13 fu N (nI N) φ ψ st.1 st.2) fu ((0 : Int32), (0 : Int32))) fun v18 => some v18

def mX6_holders_L14 (fu : Nat) (K : Nat) (mT : Nat) (Ns : PA) (p7 : Int32) (p8 : Int32) (ζ3 : MS) (κ4 : MS) (Φ5 : WS) (Ψ6 : WS) (v1 : Int32) (v2 : Int32)  : Option (Int32 ⊕ (Int32 × Int32)) :=
  (if p7 ≤ v1 then some (.inl v2) else ob1 (hixn mT v1) fun j10 => ob1 (mX5_holds fu (Ns j10) (Φ5 j10) (Ψ6 j10) p8) fun r11 => ob1 (if r11 = 0 then some v2 else some (v2 + (1 : Int32))) fun v13 => some (.inr ((v1 + (1 : Int32)), v13)))

def mX6_holders (fu : Nat) (K : Nat) (mT : Nat) (Ns : PA) (ζ : MS) (κ : MS) (Φ : WS) (Ψ : WS) (i1 : Int32) : Option Int32 :=
  ob1 (loopM (fun st => mX6_holders_L14 fu K mT Ns (nI mT) i1 ζ κ Φ Ψ st.1 st.2) fu ((0 : Int32), (0 : Int32))) fun v17 => some v17

def mX6_begins (fu : Nat) (K : Nat) (mT : Nat) (Ns : PA) (ζ : MS) (κ : MS) (Φ : WS) (Ψ : WS) (kt : Nat) (js : Nat) : Option (MS × WS) :=
  ob1 (gLt kt mT) fun _ => ob1 (gLt js (Ns kt)) fun _ => ob1 (rd (Ψ kt js) 9 (1 : Int32)) fun x1 => ob1 (hixn K x1) fun j2 => ob1 (rd (Ψ kt js) 9 (1 : Int32)) fun x3 => ob1 (mX5_holds fu (Ns kt) (Φ kt) (Ψ kt) x3) fun r4 => ob1 (if r4 = 0 then ob1 (rd (Ψ kt js) 9 (1 : Int32)) fun x9 => ob1 (mX6_holders fu K mT Ns ζ κ Φ Ψ x9) fun r10 => ob1 (rd (κ j2) 2 (1 : Int32)) fun x11 => (if r10 < x11 then some false else some true) else some false) fun t6 => cnd t6 (ob1 (rd (Ψ kt js) 9 (8 : Int32)) fun x13 => ob1 (if x13 < (ζ 1 0) then some Ψ else ob1 (wra (Ψ kt) js 9 (4 : Int32) (4 : Int32)) fun ψ18 => ob1 (some (va_up Ψ kt ψ18)) fun Ψ19 => some Ψ19) fun Ψ14 => ob1 (rd (Ψ14 kt js) 9 (8 : Int32)) fun x20 => ob1 (wra (Ψ14 kt) js 9 (8 : Int32) (x20 + (1 : Int32))) fun ψ21 => ob1 (some (va_up Ψ14 kt ψ21)) fun Ψ22 => some (κ, Ψ22)) (ob1 (rd (κ j2) 2 (0 : Int32)) fun x23 => ob1 (rd (Ψ kt js) 9 (2 : Int32)) fun x24 => (if x23 < x24 then ob1 (rd (Ψ kt js) 9 (6 : Int32)) fun x26 => ob1 (if x26 = 0 then ob1 (wra (Ψ kt) js 9 (4 : Int32) (4 : Int32)) fun ψ34 => ob1 (some (va_up Ψ kt ψ34)) fun Ψ35 => some Ψ35 else ob1 (rd (Ψ kt js) 9 (6 : Int32)) fun x31 => ob1 (wra (Ψ kt) js 9 (6 : Int32) (x31 - (1 : Int32))) fun ψ32 => ob1 (some (va_up Ψ kt ψ32)) fun Ψ33 => some Ψ33) fun Ψ27 => some (κ, Ψ27) else ob1 (rd (κ j2) 2 (0 : Int32)) fun x36 => ob1 (rd (Ψ kt js) 9 (2 : Int32)) fun x37 => ob1 (wra κ j2 2 (0 : Int32) (x36 - x37)) fun κ38 => ob1 (wra (Ψ kt) js 9 (4 : Int32) (2 : Int32)) fun ψ39 => ob1 (some (va_up Ψ kt ψ39)) fun Ψ40 => ob1 (wra (Ψ40 kt) js 9 (8 : Int32) (ζ 0 0)) fun ψ41 => ob1 (some (va_up Ψ40 kt ψ41)) fun Ψ42 => some (κ38, Ψ42)))

def mX6_goes_L17 (fu : Nat) (K : Nat) (mT : Nat) (Ns : PA) (p6 : Int32) (p7 : Nat) (p8 : Int32) (ζ2 : MS) (Φ4 : WS) (v1 : Int32) (κ3 : MS) (Ψ5 : WS) : Option ((MS × WS) ⊕ (Int32 × MS × WS)) :=
  (if p6 ≤ v1 then some (.inl (κ3, Ψ5)) else ob1 (hixn (Ns p7) v1) fun j10 => ob1 (rd (Ψ5 p7 j10) 9 (0 : Int32)) fun x11 => ob2 (if x11 = p8 then ob1 (rd (Ψ5 p7 j10) 9 (4 : Int32)) fun x17 => ob1 (if x17 = (2 : Int32) then ob1 (rd (Ψ5 p7 j10) 9 (8 : Int32)) fun x21 => ob1 (rd (Ψ5 p7 j10) 9 (3 : Int32)) fun x22 => (if ((ζ2 0 0) - x21) < x22 then some false else some true) else some false) fun t18 => cnd t18 (ob1 (wra (Ψ5 p7) j10 9 (4 : Int32) (3 : Int32)) fun ψ24 => ob1 (some (va_up Ψ5 p7 ψ24)) fun Ψ25 => some (κ3, Ψ25)) (ob1 (rd (Ψ5 p7 j10) 9 (4 : Int32)) fun x26 => (if x26 = (1 : Int32) then ob2 (mX6_begins fu K mT Ns ζ2 κ3 Φ4 Ψ5 p7 j10) fun κ28 Ψ29 => some (κ28, Ψ29) else some (κ3, Ψ5))) else some (κ3, Ψ5)) fun κ12 Ψ13 => some (.inr ((v1 + (1 : Int32)), κ12, Ψ13)))

def mX6_goes_L124 (fu : Nat) (K : Nat) (mT : Nat) (Ns : PA) (p47 : Int32) (p48 : Nat) (p49 : Int32) (p50 : Int32) (ζ43 : MS) (κ44 : MS) (Φ45 : WS) (v42 : Int32) (Ψ46 : WS) : Option (WS ⊕ (Int32 × WS)) :=
  (if p47 ≤ v42 then some (.inl Ψ46) else ob1 (hixn (Ns p48) v42) fun j52 => ob1 (ob1 (if p49 = 0 then some false else ob1 (rd (Ψ46 p48 j52) 9 (0 : Int32)) fun x59 => (if x59 = p50 then ob1 (rd (Ψ46 p48 j52) 9 (4 : Int32)) fun x61 => (if x61 = (1 : Int32) then some true else some false) else some false)) fun t56 => cnd t56 (ob1 (wra (Ψ46 p48) j52 9 (4 : Int32) (0 : Int32)) fun ψ63 => ob1 (some (va_up Ψ46 p48 ψ63)) fun Ψ64 => some Ψ64) (some Ψ46)) fun Ψ53 => some (.inr ((v42 + (1 : Int32)), Ψ53)))

def mX6_goes (fu : Nat) (K : Nat) (mT : Nat) (Ns : PA) (ζ : MS) (κ : MS) (Φ : WS) (Ψ : WS) (kt : Nat) : Option (MS × WS × WS) :=
  ob1 (gLt kt mT) fun _ => ob2 (loopM (fun st => mX6_goes_L17 fu K mT Ns (nI (Ns kt)) kt (Φ kt 3 0) ζ Φ st.1 st.2.1 st.2.2) fu ((0 : Int32), κ, Ψ)) fun κ30 Ψ31 => ob1 (mX5_count fu (Ns kt) (Φ kt) (Ψ31 kt) (Φ kt 3 0) (4 : Int32)) fun r36 => ob1 (if r36 ≤ 0 then some (0 : Int32) else some (1 : Int32)) fun v37 => ob1 (loopM (fun st => mX6_goes_L124 fu K mT Ns (nI (Ns kt)) kt v37 (Φ kt 3 0) ζ κ30 Φ st.1 st.2) fu ((0 : Int32), Ψ31)) fun Ψ65 => ob1 (mX5_isFinished fu (Ns kt) (Φ kt) (Ψ65 kt) (Φ kt 3 0)) fun r70 => ob2 (if r70 = 0 then ob1 (if v37 = 0 then some false else ob1 (mX5_count fu (Ns kt) (Φ kt) (Ψ65 kt) (Φ kt 3 0) (2 : Int32)) fun r80 => (if r80 = 0 then some true else some false)) fun t77 => cnd t77 (ob1 (mX5_goesBack fu (Ns kt) (Φ kt) (Ψ65 kt)) fun φ82 => ob1 (some (va_up Φ kt φ82)) fun Φ83 => some (Φ83, Ψ65)) (some (Φ, Ψ65)) else (if (Φ kt 1 0) ≤ ((Φ kt 3 0) + (1 : Int32)) then ob1 (mX5_rests fu (Ns kt) (Φ kt) (Ψ65 kt) (3 : Int32) (ζ 0 0)) fun φ85 => ob1 (some (va_up Φ kt φ85)) fun Φ86 => some (Φ86, Ψ65) else ob2 (mX5_opens fu (Ns kt) (Φ kt) (Ψ65 kt) ((Φ kt 3 0) + (1 : Int32))) fun φ87 ψ88 => ob1 (some (va_up Φ kt φ87)) fun Φ89 => ob1 (some (va_up Ψ65 kt ψ88)) fun Ψ90 => some (Φ89, Ψ90))) fun Φ72 Ψ73 => some (κ30, Φ72, Ψ73)

def mX6_undoes (fu : Nat) (K : Nat) (mT : Nat) (Ns : PA) (ζ : MS) (κ : MS) (Φ : WS) (Ψ : WS) (kt : Nat) (js : Nat) : Option (MS × WS) :=
  ob1 (gLt kt mT) fun _ => ob1 (gLt js (Ns kt)) fun _ => ob1 (rd (Ψ kt js) 9 (1 : Int32)) fun x1 => ob1 (hixn K x1) fun j2 => ob1 (rd (κ j2) 2 (0 : Int32)) fun x3 => ob1 (rd (Ψ kt js) 9 (2 : Int32)) fun x4 => ob1 (wra κ j2 2 (0 : Int32) (x3 + x4)) fun κ5 => ob1 (wra (Ψ kt) js 9 (4 : Int32) (5 : Int32)) fun ψ6 => ob1 (some (va_up Ψ kt ψ6)) fun Ψ7 => some (κ5, Ψ7)

def mX6_back (fu : Nat) (K : Nat) (mT : Nat) (Ns : PA) (ζ : MS) (κ : MS) (Φ : WS) (Ψ : WS) (kt : Nat) : Option (MS × MS × WS × WS) :=
  ob1 (gLt kt mT) fun _ => ob1 (mX5_last fu (Ns kt) (Φ kt) (Ψ kt)) fun r1 => (if 0 ≤ r1 then ob1 (mX5_last fu (Ns kt) (Φ kt) (Ψ kt)) fun r3 => ob1 (hixn (Ns kt) r3) fun j4 => ob1 (rd (Ψ kt j4) 9 (5 : Int32)) fun x5 => (if x5 = 0 then ob2 (mX6_undoes fu K mT Ns ζ κ Φ Ψ kt j4) fun κ19 Ψ20 => ob1 (some (pf (Φ kt) 5 (0 : Int32))) fun φ21 => ob1 (some (va_up Φ kt φ21)) fun Φ22 => some (ζ, κ19, Φ22, Ψ20) else ob1 (rd (Ψ kt j4) 9 (5 : Int32)) fun x7 => ob1 (wra (Ψ kt) j4 9 (5 : Int32) (x7 - (1 : Int32))) fun ψ8 => ob1 (some (va_up Ψ kt ψ8)) fun Ψ9 => ob1 (some (pf ζ 3 ((ζ 3 0) + (1 : Int32)))) fun ζ10 => ob1 (some (pf (Φ kt) 5 ((Φ kt 5 0) + (1 : Int32)))) fun φ11 => ob1 (some (va_up Φ kt φ11)) fun Φ12 => ob1 (if (Φ12 kt 5 0) < (ζ10 2 0) then some Φ12 else ob1 (mX5_rests fu (Ns kt) (Φ12 kt) (Ψ9 kt) (5 : Int32) (ζ10 0 0)) fun φ17 => ob1 (some (va_up Φ12 kt φ17)) fun Φ18 => some Φ18) fun Φ13 => some (ζ10, κ, Φ13, Ψ9)) else ob1 (mX5_rests fu (Ns kt) (Φ kt) (Ψ kt) (4 : Int32) (ζ 0 0)) fun φ23 => ob1 (some (va_up Φ kt φ23)) fun Φ24 => some (ζ, κ, Φ24, Ψ))

def mX6_count_L14 (fu : Nat) (K : Nat) (mT : Nat) (Ns : PA) (p7 : Int32) (p8 : Int32) (ζ3 : MS) (κ4 : MS) (Φ5 : WS) (Ψ6 : WS) (v1 : Int32) (v2 : Int32)  : Option (Int32 ⊕ (Int32 × Int32)) :=
  (if p7 ≤ v1 then some (.inl v2) else ob1 (hixn mT v1) fun j10 => ob1 (if (Φ5 j10 2 0) = p8 then some (v2 + (1 : Int32)) else some v2) fun v11 => some (.inr ((v1 + (1 : Int32)), v11)))

def mX6_count (fu : Nat) (K : Nat) (mT : Nat) (Ns : PA) (ζ : MS) (κ : MS) (Φ : WS) (Ψ : WS) (i1 : Int32) : Option Int32 :=
  ob1 (loopM (fun st => mX6_count_L14 fu K mT Ns (nI mT) i1 ζ κ Φ Ψ st.1 st.2) fu ((0 : Int32), (0 : Int32))) fun v15 => some v15

def mX6_told_L14 (fu : Nat) (K : Nat) (mT : Nat) (Ns : PA) (p7 : Int32) (p8 : Int32) (ζ3 : MS) (κ4 : MS) (Φ5 : WS) (Ψ6 : WS) (v1 : Int32) (v2 : Int32)  : Option (Int32 ⊕ (Int32 × Int32)) :=
  (if p7 ≤ v1 then some (.inl v2) else ob1 (hixn mT v1) fun j10 => some (.inr ((v1 + (1 : Int32)), (v2 + (nI (Ns j10))))))

def mX6_told (fu : Nat) (K : Nat) (mT : Nat) (Ns : PA) (ζ : MS) (κ : MS) (Φ : WS) (Ψ : WS) (i1 : Int32) : Option Int32 :=
  ob1 (loopM (fun st => mX6_told_L14 fu K mT Ns (nI mT) i1 ζ κ Φ Ψ st.1 st.2) fu ((0 : Int32), (0 : Int32))) fun v11 => ob1 (if i1 = 0 then some (ζ 0 0) else (if i1 = (1 : Int32) then some (nI K) else (if i1 = (2 : Int32) then some (nI mT) else (if i1 = (3 : Int32) then some v11 else (if i1 = (4 : Int32) then some (ζ 1 0) else (if i1 = (5 : Int32) then some (ζ 2 0) else (if (9 : Int32) ≤ i1 then some (ζ 3 0) else ob1 (mX6_count fu K mT Ns ζ κ Φ Ψ (i1 - (3 : Int32))) fun r26 => some r26))))))) fun v16 => some v16

def mX6_ofStock_L45 (fu : Nat) (K : Nat) (mT : Nat) (Ns : PA) (p18 : Int32) (p19 : Nat) (p20 : Int32) (p21 : Int32) (p22 : Int32) (p23 : Int32) (ζ14 : MS) (κ15 : MS) (Φ16 : WS) (Ψ17 : WS) (v12 : Int32) (v13 : Int32)  : Option (Int32 ⊕ (Int32 × Int32)) :=
  (if p18 ≤ v12 then some (.inl v13) else ob1 (hixn (Ns p19) v12) fun j25 => ob1 (rd (Ψ17 p19 j25) 9 (4 : Int32)) fun x26 => ob1 (ob1 (if x26 = (2 : Int32) then some true else ob1 (rd (Ψ17 p19 j25) 9 (4 : Int32)) fun x34 => (if x34 = (3 : Int32) then some true else some false)) fun t31 => cnd t31 (some (1 : Int32)) (some (0 : Int32))) fun v27 => ob1 (rd (Ψ17 p19 j25) 9 (1 : Int32)) fun x36 => ob1 (if x36 = p22 then (if p23 = (3 : Int32) then ob1 (if v27 = 0 then some false else ob1 (mX5_isOpen fu (Ns p19) (Φ16 p19) (Ψ17 p19)) fun r54 => (if r54 = 0 then some false else some true)) fun t51 => cnd t51 (ob1 (rd (Ψ17 p19 j25) 9 (2 : Int32)) fun x57 => some (v13 + x57)) (some v13) else (if p23 = (4 : Int32) then ob1 (if v27 = 0 then some false else (if (Φ16 p19 2 0) = (3 : Int32) then some true else some false)) fun t46 => cnd t46 (ob1 (rd (Ψ17 p19 j25) 9 (2 : Int32)) fun x50 => some (v13 + x50)) (some v13) else ob1 (rd (Ψ17 p19 j25) 9 (4 : Int32)) fun x43 => (if x43 = (6 : Int32) then ob1 (rd (Ψ17 p19 j25) 9 (2 : Int32)) fun x45 => some (v13 + x45) else some v13))) else some v13) fun v37 => some (.inr ((v12 + (1 : Int32)), v37)))

def mX6_ofStock_L16 (fu : Nat) (K : Nat) (mT : Nat) (Ns : PA) (p7 : Int32) (p8 : Int32) (p9 : Int32) (ζ3 : MS) (κ4 : MS) (Φ5 : WS) (Ψ6 : WS) (v1 : Int32) (v2 : Int32)  : Option (Int32 ⊕ (Int32 × Int32)) :=
  (if p7 ≤ v1 then some (.inl v2) else ob1 (hixn mT v1) fun j11 => ob1 (loopM (fun st => mX6_ofStock_L45 fu K mT Ns (nI (Ns j11)) j11 v1 p7 p8 p9 ζ3 κ4 Φ5 Ψ6 st.1 st.2) fu ((0 : Int32), v2)) fun v58 => some (.inr ((v1 + (1 : Int32)), v58)))

def mX6_ofStock (fu : Nat) (K : Nat) (mT : Nat) (Ns : PA) (ζ : MS) (κ : MS) (Φ : WS) (Ψ : WS) (i1 : Int32) (i2 : Int32) : Option Int32 :=
  ob1 (loopM (fun st => mX6_ofStock_L16 fu K mT Ns (nI mT) i1 i2 ζ κ Φ Ψ st.1 st.2) fu ((0 : Int32), (0 : Int32))) fun v101 => ob1 (if (2 : Int32) ≤ i2 then (if i2 = (2 : Int32) then ob1 (mX6_holders fu K mT Ns ζ κ Φ Ψ i1) fun r111 => some r111 else some v101) else ob1 (hixn K i1) fun j112 => ob1 (rd (κ j112) 2 i2) fun x113 => some x113) fun v106 => some v106

def mX6_ofTrip (fu : Nat) (K : Nat) (mT : Nat) (Ns : PA) (ζ : MS) (κ : MS) (Φ : WS) (Ψ : WS) (i1 : Int32) (i2 : Int32) : Option Int32 :=
  ob1 (hixn mT i1) fun j1 => ob1 (if i2 = 0 then some (Φ j1 2 0) else (if i2 = (1 : Int32) then some (Φ j1 0 0) else (if i2 = (2 : Int32) then some (Φ j1 1 0) else (if i2 = (3 : Int32) then some (nI (Ns j1)) else (if i2 = (4 : Int32) then some (Φ j1 3 0) else (if i2 = (5 : Int32) then some (Φ j1 4 0) else ob1 (mX5_owes fu (Ns j1) (Φ j1) (Ψ j1)) fun r11 => some r11)))))) fun v2 => some v2

def mX6_checksum_L4 (fu : Nat) (K : Nat) (mT : Nat) (Ns : PA) (ζ3 : MS) (κ4 : MS) (Φ5 : WS) (Ψ6 : WS) (v1 : Int32) (v2 : Int64)  : Option (Int64 ⊕ (Int32 × Int64)) :=
  (if (10 : Int32) ≤ v1 then some (.inl v2) else ob1 (mX6_told fu K mT Ns ζ3 κ4 Φ5 Ψ6 v1) fun r8 => some (.inr ((v1 + (1 : Int32)), (((31 : Int64) * v2) + (r8.toInt64)))))

def mX6_checksum_L43 (fu : Nat) (K : Nat) (mT : Nat) (Ns : PA) (p27 : Int32) (ζ23 : MS) (κ24 : MS) (Φ25 : WS) (Ψ26 : WS) (v21 : Int32) (v22 : Int64)  : Option (Int64 ⊕ (Int32 × Int64)) :=
  (if (6 : Int32) ≤ v21 then some (.inl v22) else ob1 (mX6_ofStock fu K mT Ns ζ23 κ24 Φ25 Ψ26 p27 v21) fun r29 => some (.inr ((v21 + (1 : Int32)), (((31 : Int64) * v22) + (r29.toInt64)))))

def mX6_checksum_L31 (fu : Nat) (K : Nat) (mT : Nat) (Ns : PA) (ζ16 : MS) (κ17 : MS) (Φ18 : WS) (Ψ19 : WS) (v14 : Int32) (v15 : Int64)  : Option (Int64 ⊕ (Int32 × Int64)) :=
  (if (nI K) ≤ v14 then some (.inl v15) else ob1 (loopM (fun st => mX6_checksum_L43 fu K mT Ns v14 ζ16 κ17 Φ18 Ψ19 st.1 st.2) fu ((0 : Int32), v15)) fun v30 => some (.inr ((v14 + (1 : Int32)), v30)))

def mX6_checksum_L91 (fu : Nat) (K : Nat) (mT : Nat) (Ns : PA) (p59 : Int32) (ζ55 : MS) (κ56 : MS) (Φ57 : WS) (Ψ58 : WS) (v53 : Int32) (v54 : Int64)  : Option (Int64 ⊕ (Int32 × Int64)) :=
  (if (7 : Int32) ≤ v53 then some (.inl v54) else ob1 (mX6_ofTrip fu K mT Ns ζ55 κ56 Φ57 Ψ58 p59 v53) fun r61 => some (.inr ((v53 + (1 : Int32)), (((31 : Int64) * v54) + (r61.toInt64)))))

def mX6_checksum_L138 (fu : Nat) (K : Nat) (mT : Nat) (Ns : PA) (p74 : Int32) (p75 : Nat) (p76 : Int32) (ζ70 : MS) (κ71 : MS) (Φ72 : WS) (Ψ73 : WS) (v68 : Int32) (v69 : Int64)  : Option (Int64 ⊕ (Int32 × Int64)) :=
  (if p74 ≤ v68 then some (.inl v69) else ob1 (hixn (Ns p75) v68) fun j78 => ob1 (rd (Ψ73 p75 j78) 9 (4 : Int32)) fun x79 => ob1 (rd (Ψ73 p75 j78) 9 (5 : Int32)) fun x80 => ob1 (rd (Ψ73 p75 j78) 9 (6 : Int32)) fun x81 => some (.inr ((v68 + (1 : Int32)), (((31 : Int64) * (((31 : Int64) * (((31 : Int64) * v69) + (x79.toInt64))) + (x80.toInt64))) + (x81.toInt64)))))

def mX6_checksum_L79 (fu : Nat) (K : Nat) (mT : Nat) (Ns : PA) (ζ48 : MS) (κ49 : MS) (Φ50 : WS) (Ψ51 : WS) (v46 : Int32) (v47 : Int64)  : Option (Int64 ⊕ (Int32 × Int64)) :=
  (if (nI mT) ≤ v46 then some (.inl v47) else ob1 (loopM (fun st => mX6_checksum_L91 fu K mT Ns v46 ζ48 κ49 Φ50 Ψ51 st.1 st.2) fu ((0 : Int32), v47)) fun v62 => ob1 (hixn mT v46) fun j67 => ob1 (loopM (fun st => mX6_checksum_L138 fu K mT Ns (nI (Ns j67)) j67 v46 ζ48 κ49 Φ50 Ψ51 st.1 st.2) fu ((0 : Int32), v62)) fun v82 => some (.inr ((v46 + (1 : Int32)), v82)))

def mX6_checksum (fu : Nat) (K : Nat) (mT : Nat) (Ns : PA) (ζ : MS) (κ : MS) (Φ : WS) (Ψ : WS) : Option Int64 :=
  ob1 (loopM (fun st => mX6_checksum_L4 fu K mT Ns ζ κ Φ Ψ st.1 st.2) fu ((0 : Int32), (0 : Int64))) fun v9 => ob1 (loopM (fun st => mX6_checksum_L31 fu K mT Ns ζ κ Φ Ψ st.1 st.2) fu ((0 : Int32), v9)) fun v41 => ob1 (loopM (fun st => mX6_checksum_L79 fu K mT Ns ζ κ Φ Ψ st.1 st.2) fu ((0 : Int32), v41)) fun v102 => some v102

