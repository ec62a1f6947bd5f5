/-! the cells of each family -/
def cM (cyI cyO : ClassId) (ad : Nat → Nat) (μ : MS) : va_W := [(ad 0, .inr (4, [.int (μ 0 0), .ref (ad 1), .int (μ 2 0), .int (μ 3 0), .int (μ 4 0), .int (μ 5 0), .int (μ 6 0), .int (μ 7 0), .ref (ad 8), .ref (ad 9), .ref (ad 10), .ref (ad 11), .int (μ 12 0), .int (μ 13 0), .int (μ 14 0)])), (ad 1, .inl (cyI, 700, .inl (μ 1))), (ad 8, .inl (cyI, 451, .inl (μ 8))), (ad 9, .inl (cyI, 451, .inl (μ 9))), (ad 10, .inl (cyI, 451, .inl (μ 10))), (ad 11, .inl (cyO, 8, .inr (.inr (.inr (.inr (fun k => some (ad (20 + k)))))))), (ad 20, .inl (cyI, 451, .inl (μ 20))), (ad 21, .inl (cyI, 451, .inl (μ 21))), (ad 22, .inl (cyI, 451, .inl (μ 22))), (ad 23, .inl (cyI, 451, .inl (μ 23))), (ad 24, .inl (cyI, 451, .inl (μ 24))), (ad 25, .inl (cyI, 451, .inl (μ 25))), (ad 26, .inl (cyI, 451, .inl (μ 26))), (ad 27, .inl (cyI, 451, .inl (μ 27)))]
def cS (cyI : ClassId) (bd : Nat → Nat) (τ : MS) : va_W := [(bd 0, .inr (0, [.int (τ 0 0), .int (τ 1 0), .int (τ 2 0), .ref (bd 3), .ref (bd 4), .int (τ 5 0), .ref (bd 6), .ref (bd 7), .ref (bd 8), .ref (bd 9), .int (τ 10 0), .ref (bd 11), .ref (bd 12), .ref (bd 13), .ref (bd 14), .ref (bd 15), .ref (bd 16)])), (bd 3, .inl (cyI, 6, .inl (τ 3))), (bd 4, .inl (cyI, 6, .inl (τ 4))), (bd 6, .inl (cyI, 8, .inl (τ 6))), (bd 7, .inl (cyI, 8, .inl (τ 7))), (bd 8, .inl (cyI, 8, .inl (τ 8))), (bd 9, .inl (cyI, 8, .inl (τ 9))), (bd 11, .inl (cyI, 40, .inl (τ 11))), (bd 12, .inl (cyI, 40, .inl (τ 12))), (bd 13, .inl (cyI, 40, .inl (τ 13))), (bd 14, .inl (cyI, 40, .inl (τ 14))), (bd 15, .inl (cyI, 40, .inl (τ 15))), (bd 16, .inl (cyI, 40, .inl (τ 16)))]
def cW (cyI : ClassId) (ad bd : Nat → Nat) (τ : MS) (σ : MS) : va_W := [(ad 0, .inr (2, [.ref (bd 0), .int (σ 1 0), .int (σ 2 0), .ref (ad 3), .ref (ad 4), .ref (ad 5), .ref (ad 6), .ref (ad 7), .ref (ad 8), .ref (ad 9), .ref (ad 10), .ref (ad 11), .ref (ad 12), .ref (ad 13)])), (ad 3, .inl (cyI, 6, .inl (σ 3))), (ad 4, .inl (cyI, 6, .inl (σ 4))), (ad 5, .inl (cyI, 8, .inl (σ 5))), (ad 6, .inl (cyI, 8, .inl (σ 6))), (ad 7, .inl (cyI, 8, .inl (σ 7))), (ad 8, .inl (cyI, 8, .inl (σ 8))), (ad 9, .inl (cyI, 40, .inl (σ 9))), (ad 10, .inl (cyI, 40, .inl (σ 10))), (ad 11, .inl (cyI, 40, .inl (σ 11))), (ad 12, .inl (cyI, 40, .inl (σ 12))), (ad 13, .inl (cyI, 40, .inl (σ 13))), (bd 0, .inr (0, [.int (τ 0 0), .int (τ 1 0), .int (τ 2 0), .ref (bd 3), .ref (bd 4), .int (τ 5 0), .ref (bd 6), .ref (bd 7), .ref (bd 8), .ref (bd 9), .int (τ 10 0), .ref (bd 11), .ref (bd 12), .ref (bd 13), .ref (bd 14), .ref (bd 15), .ref (bd 16)])), (bd 3, .inl (cyI, 6, .inl (τ 3))), (bd 4, .inl (cyI, 6, .inl (τ 4))), (bd 6, .inl (cyI, 8, .inl (τ 6))), (bd 7, .inl (cyI, 8, .inl (τ 7))), (bd 8, .inl (cyI, 8, .inl (τ 8))), (bd 9, .inl (cyI, 8, .inl (τ 9))), (bd 11, .inl (cyI, 40, .inl (τ 11))), (bd 12, .inl (cyI, 40, .inl (τ 12))), (bd 13, .inl (cyI, 40, .inl (τ 13))), (bd 14, .inl (cyI, 40, .inl (τ 14))), (bd 15, .inl (cyI, 40, .inl (τ 15))), (bd 16, .inl (cyI, 40, .inl (τ 16)))]
def cB (cyI : ClassId) (ad bd : Nat → Nat) (bs : Nat) (τ σ : MS) : va_W := [(ad 0, .inr (2, [.ref bs, .int (σ 1 0), .int (σ 2 0), .ref (ad 3), .ref (ad 4), .ref (ad 5), .ref (ad 6), .ref (ad 7), .ref (ad 8), .ref (ad 9), .ref (ad 10), .ref (ad 11), .ref (ad 12), .ref (ad 13)])), (ad 3, .inl (cyI, 6, .inl (σ 3))), (ad 4, .inl (cyI, 6, .inl (σ 4))), (ad 5, .inl (cyI, 8, .inl (σ 5))), (ad 6, .inl (cyI, 8, .inl (σ 6))), (ad 7, .inl (cyI, 8, .inl (σ 7))), (ad 8, .inl (cyI, 8, .inl (σ 8))), (ad 9, .inl (cyI, 40, .inl (σ 9))), (ad 10, .inl (cyI, 40, .inl (σ 10))), (ad 11, .inl (cyI, 40, .inl (σ 11))), (ad 12, .inl (cyI, 40, .inl (σ 12))), (ad 13, .inl (cyI, 40, .inl (σ 13))), (bd 0, .inr (0, [.int (τ 0 0), .int (τ 1 0), .int (τ 2 0), .ref (bd 3), .ref (bd 4), .int (τ 5 0), .ref (bd 6), .ref (bd 7), .ref (bd 8), .ref (bd 9), .int (τ 10 0), .ref (bd 11), .ref (bd 12), .ref (bd 13), .ref (bd 14), .ref (bd 15), .ref (bd 16)])), (bd 3, .inl (cyI, 6, .inl (τ 3))), (bd 4, .inl (cyI, 6, .inl (τ 4))), (bd 6, .inl (cyI, 8, .inl (τ 6))), (bd 7, .inl (cyI, 8, .inl (τ 7))), (bd 8, .inl (cyI, 8, .inl (τ 8))), (bd 9, .inl (cyI, 8, .inl (τ 9))), (bd 11, .inl (cyI, 40, .inl (τ 11))), (bd 12, .inl (cyI, 40, .inl (τ 12))), (bd 13, .inl (cyI, 40, .inl (τ 13))), (bd 14, .inl (cyI, 40, .inl (τ 14))), (bd 15, .inl (cyI, 40, .inl (τ 15))), (bd 16, .inl (cyI, 40, .inl (τ 16)))]
def cC (cyI : ClassId) (ad ae : Nat → Nat) (bo bs : Nat) (σo σ : MS) : va_W := [(ad 0, .inr (2, [.ref bs, .int (σ 1 0), .int (σ 2 0), .ref (ad 3), .ref (ad 4), .ref (ad 5), .ref (ad 6), .ref (ad 7), .ref (ad 8), .ref (ad 9), .ref (ad 10), .ref (ad 11), .ref (ad 12), .ref (ad 13)])), (ad 3, .inl (cyI, 6, .inl (σ 3))), (ad 4, .inl (cyI, 6, .inl (σ 4))), (ad 5, .inl (cyI, 8, .inl (σ 5))), (ad 6, .inl (cyI, 8, .inl (σ 6))), (ad 7, .inl (cyI, 8, .inl (σ 7))), (ad 8, .inl (cyI, 8, .inl (σ 8))), (ad 9, .inl (cyI, 40, .inl (σ 9))), (ad 10, .inl (cyI, 40, .inl (σ 10))), (ad 11, .inl (cyI, 40, .inl (σ 11))), (ad 12, .inl (cyI, 40, .inl (σ 12))), (ad 13, .inl (cyI, 40, .inl (σ 13))), (ae 0, .inr (2, [.ref bo, .int (σo 1 0), .int (σo 2 0), .ref (ae 3), .ref (ae 4), .ref (ae 5), .ref (ae 6), .ref (ae 7), .ref (ae 8), .ref (ae 9), .ref (ae 10), .ref (ae 11), .ref (ae 12), .ref (ae 13)])), (ae 3, .inl (cyI, 6, .inl (σo 3))), (ae 4, .inl (cyI, 6, .inl (σo 4))), (ae 5, .inl (cyI, 8, .inl (σo 5))), (ae 6, .inl (cyI, 8, .inl (σo 6))), (ae 7, .inl (cyI, 8, .inl (σo 7))), (ae 8, .inl (cyI, 8, .inl (σo 8))), (ae 9, .inl (cyI, 40, .inl (σo 9))), (ae 10, .inl (cyI, 40, .inl (σo 10))), (ae 11, .inl (cyI, 40, .inl (σo 11))), (ae 12, .inl (cyI, 40, .inl (σo 12))), (ae 13, .inl (cyI, 40, .inl (σo 13)))]
def cW1 (cyI : ClassId) (ad : Nat → Nat) (bs : Nat) (σ : MS) : va_W := [(ad 0, .inr (2, [.ref bs, .int (σ 1 0), .int (σ 2 0), .ref (ad 3), .ref (ad 4), .ref (ad 5), .ref (ad 6), .ref (ad 7), .ref (ad 8), .ref (ad 9), .ref (ad 10), .ref (ad 11), .ref (ad 12), .ref (ad 13)])), (ad 3, .inl (cyI, 6, .inl (σ 3))), (ad 4, .inl (cyI, 6, .inl (σ 4))), (ad 5, .inl (cyI, 8, .inl (σ 5))), (ad 6, .inl (cyI, 8, .inl (σ 6))), (ad 7, .inl (cyI, 8, .inl (σ 7))), (ad 8, .inl (cyI, 8, .inl (σ 8))), (ad 9, .inl (cyI, 40, .inl (σ 9))), (ad 10, .inl (cyI, 40, .inl (σ 10))), (ad 11, .inl (cyI, 40, .inl (σ 11))), (ad 12, .inl (cyI, 40, .inl (σ 12))), (ad 13, .inl (cyI, 40, .inl (σ 13)))]
theorem cW_perm (cyI : ClassId) (ad bd : Nat → Nat) (τ σ : MS) : (cW cyI ad bd τ σ).Perm (cS cyI bd τ ++ cW1 cyI ad (bd 0) σ) := (show cW cyI ad bd τ σ = cW1 cyI ad (bd 0) σ ++ cS cyI bd τ from rfl) ▸ List.perm_append_comm
def cR (cyI cyB : ClassId) (rd0 tx : Nat) (bd : Nat → Nat) (β : FS) (τ : MS) (ρ : MS) : va_W := [(rd0, .inr (1, [.ref (bd 0), .int (ρ 1 0), .int (ρ 2 0), .ref tx, .int (ρ 4 0), .int (ρ 5 0), .int (ρ 6 0), .int (ρ 7 0), .int (ρ 8 0), .int (ρ 9 0), .int (ρ 10 0)])), (tx, .inl (cyB, 700, .inl β)), (bd 0, .inr (0, [.int (τ 0 0), .int (τ 1 0), .int (τ 2 0), .ref (bd 3), .ref (bd 4), .int (τ 5 0), .ref (bd 6), .ref (bd 7), .ref (bd 8), .ref (bd 9), .int (τ 10 0), .ref (bd 11), .ref (bd 12), .ref (bd 13), .ref (bd 14), .ref (bd 15), .ref (bd 16)])), (bd 3, .inl (cyI, 6, .inl (τ 3))), (bd 4, .inl (cyI, 6, .inl (τ 4))), (bd 6, .inl (cyI, 8, .inl (τ 6))), (bd 7, .inl (cyI, 8, .inl (τ 7))), (bd 8, .inl (cyI, 8, .inl (τ 8))), (bd 9, .inl (cyI, 8, .inl (τ 9))), (bd 11, .inl (cyI, 40, .inl (τ 11))), (bd 12, .inl (cyI, 40, .inl (τ 12))), (bd 13, .inl (cyI, 40, .inl (τ 13))), (bd 14, .inl (cyI, 40, .inl (τ 14))), (bd 15, .inl (cyI, 40, .inl (τ 15))), (bd 16, .inl (cyI, 40, .inl (τ 16)))]
def cR1 (cyB : ClassId) (rd0 tx : Nat) (bs : Nat) (β : FS) (ρ : MS) : va_W := [(rd0, .inr (1, [.ref bs, .int (ρ 1 0), .int (ρ 2 0), .ref tx, .int (ρ 4 0), .int (ρ 5 0), .int (ρ 6 0), .int (ρ 7 0), .int (ρ 8 0), .int (ρ 9 0), .int (ρ 10 0)])), (tx, .inl (cyB, 700, .inl β))]
theorem cR_perm (cyI cyB : ClassId) (rd0 tx : Nat) (bd : Nat → Nat) (β : FS) (τ ρ : MS) : (cR cyI cyB rd0 tx bd β τ ρ).Perm (cS cyI bd τ ++ cR1 cyB rd0 tx (bd 0) β ρ) := (show cR cyI cyB rd0 tx bd β τ ρ = cR1 cyB rd0 tx (bd 0) β ρ ++ cS cyI bd τ from rfl) ▸ List.perm_append_comm
def mX0_stepsOf (fu : Nat) (τ : MS) (i1 : Int32) : Option Int32 :=
  ob1 (rd (τ 9) 8 i1) fun x1 => ob1 (rd (τ 8) 8 i1) fun x2 => some (x1 - x2)

def mX0_hasRoomForStock (fu : Nat) (τ : MS) : Option Int32 :=
  ob1 (if (6 : Int32) ≤ (τ 2 0) then some (0 : Int32) else some (1 : Int32)) fun v1 => some v1

def mX0_hasRoomForJourney (fu : Nat) (τ : MS) : Option Int32 :=
  ob1 (if (8 : Int32) ≤ (τ 5 0) then some (0 : Int32) else some (1 : Int32)) fun v1 => some v1

def mX0_hasRoomForStep (fu : Nat) (τ : MS) : Option Int32 :=
  ob1 (if (40 : Int32) ≤ (τ 10 0) then some (0 : Int32) else some (1 : Int32)) fun v1 => some v1

def mX0_addStock (fu : Nat) (τ : MS) (i1 : Int32) (i2 : Int32) : Option MS :=
  ob1 (mX0_hasRoomForStock fu τ) fun r1 => ob1 (if r1 = 0 then some τ else ob1 (wra τ 3 6 (τ 2 0) i1) fun τ7 => ob1 (wra τ7 4 6 (τ7 2 0) i2) fun τ8 => ob1 (some (pf τ8 2 ((τ8 2 0) + (1 : Int32)))) fun τ9 => some τ9) fun τ3 => some τ3

def mX0_addJourney (fu : Nat) (τ : MS) (i1 : Int32) : Option MS :=
  ob1 (mX0_hasRoomForJourney fu τ) fun r1 => ob1 (if r1 = 0 then some τ else ob1 (wra τ 6 8 (τ 5 0) i1) fun τ7 => ob1 (wra τ7 8 8 (τ7 5 0) (τ7 10 0)) fun τ8 => ob1 (wra τ8 9 8 (τ8 5 0) (τ8 10 0)) fun τ9 => ob1 (some (pf τ9 5 ((τ9 5 0) + (1 : Int32)))) fun τ10 => some τ10) fun τ3 => some τ3

def mX0_addStep (fu : Nat) (τ : MS) (i1 : Int32) (i2 : Int32) (i3 : Int32) (i4 : Int32) (i5 : Int32) (i6 : Int32) : Option MS :=
  ob1 (mX0_hasRoomForStep fu τ) fun r1 => ob1 (ob1 (if r1 = 0 then some false else (if (τ 5 0) ≤ 0 then some false else some true)) fun t6 => cnd t6 (ob1 (wra τ 11 40 (τ 10 0) i1) fun τ10 => ob1 (wra τ10 12 40 (τ10 10 0) i2) fun τ11 => ob1 (wra τ11 13 40 (τ11 10 0) i3) fun τ12 => ob1 (wra τ12 14 40 (τ12 10 0) i4) fun τ13 => ob1 (wra τ13 15 40 (τ13 10 0) i5) fun τ14 => ob1 (wra τ14 16 40 (τ14 10 0) i6) fun τ15 => ob1 (some (pf τ15 10 ((τ15 10 0) + (1 : Int32)))) fun τ16 => ob1 (wra τ16 9 8 ((τ16 5 0) - (1 : Int32)) (τ16 10 0)) fun τ17 => ob1 (wra τ17 7 8 ((τ17 5 0) - (1 : Int32)) (i1 + (1 : Int32))) fun τ18 => some τ18) (some τ)) fun τ3 => some τ3

def mX1_kindAt (fu : Nat) (β : FS) (τ : MS) (ρ : MS) (i1 : Int32) : Option Int32 :=
  ob1 (if i1 < 0 then some true else (if i1 < (ρ 4 0) then some false else some true)) fun t1 => cnd t1 (some (0 : Int32)) (ob1 (rd β 700 i1) fun x5 => ob1 (if x5 < (48 : Int32) then some false else (if (57 : Int32) < x5 then some false else some true)) fun t6 => cnd t6 (some (1 : Int32)) (ob1 (if x5 < (97 : Int32) then some false else (if (122 : Int32) < x5 then some false else some true)) fun t10 => cnd t10 (some (2 : Int32)) (ob1 (if x5 = (59 : Int32) then some true else (if x5 = (42 : Int32) then some true else (if x5 = (58 : Int32) then some true else some false))) fun t14 => cnd t14 (some (3 : Int32)) (ob1 (if x5 = (32 : Int32) then some (4 : Int32) else some (5 : Int32)) fun v19 => some v19))))

def mX1_nextToken_L8 (fu : Nat) (β2 : FS) (τ3 : MS)  (ρ4 : MS) : Option (MS ⊕ MS) :=
  ob1 (if (ρ4 4 0) ≤ (ρ4 8 0) then some false else ob1 (mX1_kindAt fu β2 τ3 ρ4 (ρ4 8 0)) fun r8 => (if r8 = (4 : Int32) then some true else some false)) fun t5 => cnd t5 (ob1 (some (pf ρ4 8 ((ρ4 8 0) + (1 : Int32)))) fun ρ10 => some (.inr ρ10)) (some (.inl ρ4))

def mX1_nextToken_L96 (fu : Nat) (β25 : FS) (τ26 : MS)  (ρ27 : MS) : Option (MS ⊕ MS) :=
  ob1 (if (ρ27 4 0) ≤ (ρ27 9 0) then some false else ob1 (mX1_kindAt fu β25 τ26 ρ27 (ρ27 9 0)) fun r31 => (if r31 = (ρ27 7 0) then some true else some false)) fun t28 => cnd t28 (ob1 (if (ρ27 7 0) = (1 : Int32) then ob1 (rd β25 700 (ρ27 9 0)) fun x37 => ob1 (some (pf ρ27 10 (if ((((10 : Int32) * (ρ27 10 0)) + x37) - (48 : Int32)) < (1000000 : Int32) then ((((10 : Int32) * (ρ27 10 0)) + x37) - (48 : Int32)) else (1000000 : Int32)))) fun ρ38 => some ρ38 else some ρ27) fun ρ33 => ob1 (some (pf ρ33 9 ((ρ33 9 0) + (1 : Int32)))) fun ρ39 => some (.inr ρ39)) (some (.inl ρ27))

def mX1_nextToken (fu : Nat) (β : FS) (τ : MS) (ρ : MS) : Option MS :=
  ob1 (some (pf ρ 8 (ρ 9 0))) fun ρ1 => ob1 (loopM (fun st => mX1_nextToken_L8 fu β τ st) fu ρ1) fun ρ11 => ob1 (mX1_kindAt fu β τ ρ11 (ρ11 8 0)) fun r16 => ob1 (some (pf ρ11 7 r16)) fun ρ17 => ob1 (some (pf ρ17 10 (0 : Int32))) fun ρ18 => ob1 (some (pf ρ18 9 (ρ18 8 0))) fun ρ19 => ob1 (if (ρ19 7 0) = (3 : Int32) then some true else (if (ρ19 7 0) = (5 : Int32) then some true else some false)) fun t20 => cnd t20 (ob1 (some (pf ρ19 9 ((ρ19 9 0) + (1 : Int32)))) fun ρ24 => some ρ24) (ob1 (loopM (fun st => mX1_nextToken_L96 fu β τ st) fu ρ19) fun ρ40 => some ρ40)

def mX1_wordIs_L28 (fu : Nat) (p9 : Nat) (β6 : FS) (τ7 : MS) (ρ8 : MS) (v5 : Int32)  : Option ((Int32 ⊕ Unit) ⊕ Int32) :=
  (if (sLen p9) ≤ v5 then some (.inl (.inr ())) else ob1 (rd β6 700 ((ρ8 8 0) + v5)) fun x11 => ob1 (sChr p9 v5) fun x12 => (if x11 = x12 then some (.inr (v5 + (1 : Int32))) else some (.inl (.inl (0 : Int32)))))

def mX1_wordIs (fu : Nat) (β : FS) (τ : MS) (ρ : MS) (w1 : Nat) : Option Int32 :=
  ob1 (if (ρ 7 0) = (2 : Int32) then (if ((ρ 9 0) - (ρ 8 0)) = (sLen w1) then some false else some true) else some true) fun t1 => cnd t1 (some (0 : Int32)) (ob1 (loopM (fun st => mX1_wordIs_L28 fu w1 β τ ρ st) fu (0 : Int32)) fun b18 => el1 b18 (fun r => some r) fun _ => some (1 : Int32))

def mX1_skipsWord (fu : Nat) (β : FS) (τ : MS) (ρ : MS) (w1 : Nat) : Option (Int32 × MS) :=
  ob1 (mX1_wordIs fu β τ ρ w1) fun r1 => (if r1 = 0 then some ((0 : Int32), ρ) else ob1 (mX1_nextToken fu β τ ρ) fun ρ4 => some ((1 : Int32), ρ4))

def mX1_fail (fu : Nat) (β : FS) (τ : MS) (ρ : MS) (i1 : Int32) (i2 : Int32) : Option MS :=
  ob1 (if (ρ 1 0) = 0 then ob1 (some (pf ρ 1 i1)) fun ρ5 => ob1 (some (pf ρ5 2 i2)) fun ρ6 => some ρ6 else some ρ) fun ρ1 => some ρ1

def mX1_takeWord (fu : Nat) (β : FS) (τ : MS) (ρ : MS) (w1 : Nat) : Option MS :=
  ob2 (mX1_skipsWord fu β τ ρ w1) fun r1 ρ2 => ob1 (if r1 = 0 then ob1 (mX1_fail fu β τ ρ2 (-2 : Int32) (ρ2 8 0)) fun ρ8 => some ρ8 else some ρ2) fun ρ4 => some ρ4

def mX1_takeSign (fu : Nat) (β : FS) (τ : MS) (ρ : MS) (i1 : Int32) : Option MS :=
  ob1 (if (ρ 7 0) = (3 : Int32) then ob1 (rd β 700 (ρ 8 0)) fun x4 => (if x4 = i1 then some false else some true) else some true) fun t1 => cnd t1 (ob1 (mX1_fail fu β τ ρ (-2 : Int32) (ρ 8 0)) fun ρ6 => some ρ6) (ob1 (mX1_nextToken fu β τ ρ) fun ρ7 => some ρ7)

def mX1_readNumber (fu : Nat) (β : FS) (τ : MS) (ρ : MS) (i1 : Int32) (i2 : Int32) : Option (Int32 × MS) :=
  (if (ρ 7 0) = (1 : Int32) then ob1 (if (ρ 10 0) < i1 then some true else (if (ρ 10 0) ≤ i2 then some false else some true)) fun t2 => cnd t2 (ob1 (mX1_fail fu β τ ρ (-3 : Int32) (ρ 8 0)) fun ρ6 => some ((0 : Int32), ρ6)) (ob1 (mX1_nextToken fu β τ ρ) fun ρ7 => some ((ρ 10 0), ρ7)) else ob1 (mX1_fail fu β τ ρ (-2 : Int32) (ρ 8 0)) fun ρ8 => some ((0 : Int32), ρ8))

def mX1_readStock (fu : Nat) (β : FS) (τ : MS) (ρ : MS) : Option (MS × MS) :=
  ob1 (mX0_hasRoomForStock fu τ) fun r1 => (if r1 = 0 then ob1 (mX1_fail fu β τ ρ (-4 : Int32) (ρ 8 0)) fun ρ10 => some (τ, ρ10) else ob1 (mX1_nextToken fu β τ ρ) fun ρ4 => ob2 (mX1_readNumber fu β τ ρ4 (0 : Int32) (9999 : Int32)) fun r5 ρ6 => ob2 (mX1_readNumber fu β τ ρ6 (1 : Int32) (9 : Int32)) fun r7 ρ8 => ob1 (mX0_addStock fu τ r5 r7) fun τ9 => some (τ9, ρ8))

def mX1_readStep (fu : Nat) (β : FS) (τ : MS) (ρ : MS) (i1 : Int32) : Option (MS × MS) :=
  ob2 (mX1_readNumber fu β τ ρ (0 : Int32) ((τ 2 0) - (1 : Int32))) fun r1 ρ2 => ob1 (mX0_hasRoomForStep fu τ) fun r3 => (if r3 = 0 then ob1 (mX1_fail fu β τ ρ2 (-4 : Int32) (ρ 8 0)) fun ρ33 => some (τ, ρ33) else ob1 (mX1_takeSign fu β τ ρ2 (42 : Int32)) fun ρ6 => ob2 (mX1_readNumber fu β τ ρ6 (1 : Int32) (999 : Int32)) fun r7 ρ8 => ob1 (mX1_takeSign fu β τ ρ8 (58 : Int32)) fun ρ9 => ob2 (mX1_readNumber fu β τ ρ9 (1 : Int32) (99 : Int32)) fun r10 ρ11 => ob2 (mX1_skipsWord fu β τ ρ11 7) fun r12 ρ13 => ob2 (if r12 = 0 then some ((0 : Int32), ρ13) else ob2 (mX1_readNumber fu β τ ρ13 (0 : Int32) (9 : Int32)) fun r20 ρ21 => some (r20, ρ21)) fun v15 ρ16 => ob2 (mX1_skipsWord fu β τ ρ16 8) fun r22 ρ23 => ob2 (if r22 = 0 then some ((0 : Int32), ρ23) else ob2 (mX1_readNumber fu β τ ρ23 (0 : Int32) (9 : Int32)) fun r30 ρ31 => some (r30, ρ31)) fun v25 ρ26 => ob1 (mX0_addStep fu τ i1 r1 r7 r10 v15 v25) fun τ32 => some (τ32, ρ26))

def mX1_readJourney_L54 (fu : Nat) (β13 : FS) (v10 : Int32) (v11 : Int32) (v12 : Int32) (τ14 : MS) (ρ15 : MS) : Option (((MS × MS) ⊕ (MS × MS)) ⊕ (Int32 × Int32 × Int32 × MS × MS)) :=
  ob1 (if (40 : Int32) ≤ v10 then some false else (if (ρ15 1 0) = 0 then ob1 (mX1_wordIs fu β13 τ14 ρ15 5) fun r20 => (if r20 = 0 then ob1 (mX1_wordIs fu β13 τ14 ρ15 6) fun r23 => (if r23 = 0 then some false else some true) else some true) else some false)) fun t16 => cnd t16 (ob1 (mX1_wordIs fu β13 τ14 ρ15 5) fun r26 => ob1 (if r26 = 0 then some (1 : Int32) else some (v11 + (1 : Int32))) fun v28 => ob1 (if r26 = 0 then some (v12 + (1 : Int32)) else some v12) fun v32 => ob1 (if (3 : Int32) < v28 then some true else (if v32 < (5 : Int32) then some false else some true)) fun t36 => cnd t36 (ob1 (mX1_fail fu β13 τ14 ρ15 (-4 : Int32) (ρ15 8 0)) fun ρ40 => some (.inl (.inl (τ14, ρ40)))) (ob1 (mX1_nextToken fu β13 τ14 ρ15) fun ρ41 => ob2 (mX1_readStep fu β13 τ14 ρ41 v32) fun τ42 ρ43 => some (.inr ((v10 + (1 : Int32)), v28, v32, τ42, ρ43)))) (some (.inl (.inr (τ14, ρ15))))

def mX1_readJourney (fu : Nat) (β : FS) (τ : MS) (ρ : MS) : Option (MS × MS) :=
  ob1 (mX0_hasRoomForJourney fu τ) fun r1 => (if r1 = 0 then ob1 (mX1_fail fu β τ ρ (-4 : Int32) (ρ 8 0)) fun ρ85 => some (τ, ρ85) else ob1 (mX1_nextToken fu β τ ρ) fun ρ4 => ob2 (mX1_readNumber fu β τ ρ4 (0 : Int32) (999 : Int32)) fun r5 ρ6 => ob1 (mX0_addJourney fu τ r5) fun τ7 => ob2 (mX1_readStep fu β τ7 ρ6 (0 : Int32)) fun τ8 ρ9 => ob1 (loopM (fun st => mX1_readJourney_L54 fu β st.1 st.2.1 st.2.2.1 st.2.2.2.1 st.2.2.2.2) fu ((0 : Int32), (1 : Int32), (0 : Int32), τ8, ρ9)) fun b50 => el2 b50 (fun r => some r) fun τ44 ρ45 => some (τ44, ρ45))

def mX1_readSetup_L18 (fu : Nat) (β5 : FS) (v4 : Int32) (τ6 : MS) (ρ7 : MS) : Option ((MS × MS) ⊕ (Int32 × MS × MS)) :=
  ob1 (if (ρ7 4 0) ≤ v4 then some false else (if (ρ7 1 0) = 0 then (if (ρ7 7 0) = 0 then some false else some true) else some false)) fun t8 => cnd t8 (ob1 (mX1_wordIs fu β5 τ6 ρ7 1) fun r13 => ob2 (if r13 = 0 then ob1 (mX1_wordIs fu β5 τ6 ρ7 2) fun r20 => (if r20 = 0 then ob1 (mX1_wordIs fu β5 τ6 ρ7 3) fun r23 => ob1 (if r23 = 0 then some false else (if (ρ7 5 0) = 0 then some true else some false)) fun t25 => cnd t25 (ob1 (some (pf ρ7 5 (1 : Int32))) fun ρ29 => ob1 (mX1_nextToken fu β5 τ6 ρ29) fun ρ30 => ob2 (mX1_readNumber fu β5 τ6 ρ30 (1 : Int32) (99 : Int32)) fun r31 ρ32 => ob1 (some (pf τ6 0 r31)) fun τ33 => some (τ33, ρ32)) (ob1 (mX1_wordIs fu β5 τ6 ρ7 4) fun r34 => ob1 (if r34 = 0 then some false else (if (ρ7 6 0) = 0 then some true else some false)) fun t36 => cnd t36 (ob1 (some (pf ρ7 6 (1 : Int32))) fun ρ40 => ob1 (mX1_nextToken fu β5 τ6 ρ40) fun ρ41 => ob2 (mX1_readNumber fu β5 τ6 ρ41 (1 : Int32) (9 : Int32)) fun r42 ρ43 => ob1 (some (pf τ6 1 r42)) fun τ44 => some (τ44, ρ43)) (ob1 (mX1_fail fu β5 τ6 ρ7 (-2 : Int32) (ρ7 8 0)) fun ρ45 => some (τ6, ρ45))) else ob2 (mX1_readJourney fu β5 τ6 ρ7) fun τ46 ρ47 => some (τ46, ρ47)) else ob2 (mX1_readStock fu β5 τ6 ρ7) fun τ48 ρ49 => some (τ48, ρ49)) fun τ15 ρ16 => ob1 (mX1_takeSign fu β5 τ15 ρ16 (59 : Int32)) fun ρ50 => some (.inr ((v4 + (1 : Int32)), τ15, ρ50))) (some (.inl (τ6, ρ7)))

def mX1_readSetup (fu : Nat) (β : FS) (τ : MS) (ρ : MS) : Option (MS × MS) :=
  ob1 (mX1_nextToken fu β τ ρ) fun ρ1 => ob1 (mX1_takeWord fu β τ ρ1 0) fun ρ2 => ob1 (mX1_takeSign fu β τ ρ2 (59 : Int32)) fun ρ3 => ob2 (loopM (fun st => mX1_readSetup_L18 fu β st.1 st.2.1 st.2.2) fu ((0 : Int32), τ, ρ3)) fun τ51 ρ52 => some (τ51, ρ52)

def mJ7_fill_53178_L5 (fu : Nat) (n : Nat) (p3 : Int32) (p4 : Int32) (v1 : Int32) (f02 : FS) : Option (FS ⊕ (Int32 × FS)) :=
  (if p3 ≤ v1 then some (.inl f02) else ob1 (wr f02 n v1 p4) fun f06 => some (.inr ((v1 + (1 : Int32)), f06)))

def mJ7_fill_53178 (fu : Nat) (n : Nat) (f0 : FS) (i2 : Int32) : Option FS :=
  ob1 (loopM (fun st => mJ7_fill_53178_L5 fu n (Int32.ofNat n) i2 st.1 st.2) fu ((0 : Int32), f0)) fun f07 => some f07

def mX2_begin (fu : Nat) (τ : MS) (σ : MS) : Option MS :=
  ob1 (some (pf σ 1 (0 : Int32))) fun σ1 => ob1 (some (pf σ1 2 (0 : Int32))) fun σ2 => ob1 (some (va_up σ2 3 (τ 3))) fun σ3 => ob1 (some (pf σ3 5 (0 : Int32))) fun σ4 => ob1 (some (pf σ4 6 (0 : Int32))) fun σ5 => ob1 (some (pf σ5 7 (0 : Int32))) fun σ6 => ob1 (some (pf σ6 8 (0 : Int32))) fun σ7 => ob1 (some (pf σ7 9 (0 : Int32))) fun σ8 => ob1 (some (va_up σ8 10 (τ 15))) fun σ9 => ob1 (some (va_up σ9 11 (τ 16))) fun σ10 => ob1 (some (pf σ10 12 (0 : Int32))) fun σ11 => ob1 (some (pf σ11 13 (0 : Int32))) fun σ12 => some σ12

def mX2_copyFrom (fu : Nat) (σo : MS) (σ : MS) : Option MS :=
  ob1 (some (pf σ 1 (σo 1 0))) fun σ1 => ob1 (some (pf σ1 2 (σo 2 0))) fun σ2 => ob1 (some (va_up σ2 3 (σo 3))) fun σ3 => ob1 (some (pf σ3 4 (1000000 : Int32))) fun σ4 => ob1 (some (va_up σ4 5 (σo 5))) fun σ5 => ob1 (some (va_up σ5 6 (σo 6))) fun σ6 => ob1 (some (va_up σ6 7 (σo 7))) fun σ7 => ob1 (some (va_up σ7 8 (σo 8))) fun σ8 => ob1 (some (va_up σ8 9 (σo 9))) fun σ9 => ob1 (some (va_up σ9 10 (σo 10))) fun σ10 => ob1 (some (va_up σ10 11 (σo 11))) fun σ11 => ob1 (some (va_up σ11 12 (σo 12))) fun σ12 => ob1 (some (va_up σ12 13 (σo 13))) fun σ13 => some σ13

def mX2_journeysIn_L4 (fu : Nat) (p5 : Int32) (τ3 : MS) (σ4 : MS) (v1 : Int32) (v2 : Int32)  : Option (Int32 ⊕ (Int32 × Int32)) :=
  (if (τ3 5 0) ≤ v1 then some (.inl v2) else ob1 (rd (σ4 5) 8 v1) fun x7 => ob1 (if x7 = p5 then some (v2 + (1 : Int32)) else some v2) fun v8 => some (.inr ((v1 + (1 : Int32)), v8)))

def mX2_journeysIn (fu : Nat) (τ : MS) (σ : MS) (i1 : Int32) : Option Int32 :=
  ob1 (loopM (fun st => mX2_journeysIn_L4 fu i1 τ σ st.1 st.2) fu ((0 : Int32), (0 : Int32))) fun v12 => some v12

def mX2_numberOfAll (fu : Nat) (τ : MS) (σ : MS) (i1 : Int32) : Option Int32 :=
  (if i1 = 0 then some (σ 1 0) else (if i1 = 1 then some (τ 2 0) else (if i1 = 2 then some (τ 5 0) else (if i1 = 3 then some (τ 10 0) else (if i1 = 4 then some (τ 0 0) else (if i1 = 5 then some (τ 1 0) else (if i1 = 6 then ob1 (mX2_journeysIn fu τ σ (3 : Int32)) fun r8 => some r8 else (if i1 = 7 then ob1 (mX2_journeysIn fu τ σ (4 : Int32)) fun r10 => some r10 else (if i1 = 8 then ob1 (mX2_journeysIn fu τ σ (5 : Int32)) fun r12 => some r12 else some (σ 2 0))))))))))

def mX2_hasEnded (fu : Nat) (τ : MS) (σ : MS) (i1 : Int32) : Option Int32 :=
  ob1 (rd (σ 5) 8 i1) fun x1 => ob1 (ob1 (if x1 = (3 : Int32) then some true else ob1 (rd (σ 5) 8 i1) fun x9 => (if x9 = (4 : Int32) then some true else some false)) fun t6 => cnd t6 (some (1 : Int32)) (some (0 : Int32))) fun v2 => some v2

def mX2_amountTakenBy_L24 (fu : Nat) (p7 : Int32) (p8 : Int32) (τ5 : MS) (σ6 : MS) (v3 : Int32) (v4 : Int32)  : Option (Int32 ⊕ (Int32 × Int32)) :=
  (if p7 ≤ v3 then some (.inl v4) else ob1 (rd (σ6 9) 40 v3) fun x10 => ob1 (ob1 (if x10 = (2 : Int32) then some true else ob1 (rd (σ6 9) 40 v3) fun x18 => (if x18 = (3 : Int32) then some true else some false)) fun t15 => cnd t15 (some (1 : Int32)) (some (0 : Int32))) fun v11 => ob1 (ob1 (if v11 = 0 then some false else ob1 (rd (τ5 12) 40 v3) fun x26 => (if x26 = p8 then some true else some false)) fun t23 => cnd t23 (ob1 (rd (τ5 13) 40 v3) fun x28 => some (v4 + x28)) (some v4)) fun v20 => some (.inr ((v3 + (1 : Int32)), v20)))

def mX2_amountTakenBy (fu : Nat) (τ : MS) (σ : MS) (i1 : Int32) (i2 : Int32) : Option Int32 :=
  ob1 (rd (τ 9) 8 i1) fun x1 => ob1 (rd (τ 8) 8 i1) fun x2 => ob1 (loopM (fun st => mX2_amountTakenBy_L24 fu x1 i2 τ σ st.1 st.2) fu (x2, (0 : Int32))) fun v29 => some v29

def mX2_holdersOf_L4 (fu : Nat) (p5 : Int32) (τ3 : MS) (σ4 : MS) (v1 : Int32) (v2 : Int32)  : Option (Int32 ⊕ (Int32 × Int32)) :=
  (if (τ3 5 0) ≤ v1 then some (.inl v2) else ob1 (mX2_hasEnded fu τ3 σ4 v1) fun r7 => ob1 (ob1 (if r7 = 0 then ob1 (mX2_amountTakenBy fu τ3 σ4 v1 p5) fun r15 => (if r15 ≤ 0 then some false else some true) else some false) fun t12 => cnd t12 (some (v2 + (1 : Int32))) (some v2)) fun v9 => some (.inr ((v1 + (1 : Int32)), v9)))

def mX2_holdersOf (fu : Nat) (τ : MS) (σ : MS) (i1 : Int32) : Option Int32 :=
  ob1 (loopM (fun st => mX2_holdersOf_L4 fu i1 τ σ st.1 st.2) fu ((0 : Int32), (0 : Int32))) fun v17 => some v17

def mX2_amountInOpenJourneys_L4 (fu : Nat) (p5 : Int32) (τ3 : MS) (σ4 : MS) (v1 : Int32) (v2 : Int32)  : Option (Int32 ⊕ (Int32 × Int32)) :=
  (if (τ3 5 0) ≤ v1 then some (.inl v2) else ob1 (mX2_hasEnded fu τ3 σ4 v1) fun r7 => ob1 (if r7 = 0 then ob1 (mX2_amountTakenBy fu τ3 σ4 v1 p5) fun r13 => some r13 else some (0 : Int32)) fun v9 => some (.inr ((v1 + (1 : Int32)), (v2 + v9))))

def mX2_amountInOpenJourneys (fu : Nat) (τ : MS) (σ : MS) (i1 : Int32) : Option Int32 :=
  ob1 (loopM (fun st => mX2_amountInOpenJourneys_L4 fu i1 τ σ st.1 st.2) fu ((0 : Int32), (0 : Int32))) fun v14 => some v14

def mX2_amountInDoneJourneys_L4 (fu : Nat) (p5 : Int32) (τ3 : MS) (σ4 : MS) (v1 : Int32) (v2 : Int32)  : Option (Int32 ⊕ (Int32 × Int32)) :=
  (if (τ3 5 0) ≤ v1 then some (.inl v2) else ob1 (rd (σ4 5) 8 v1) fun x7 => ob1 (if x7 = (3 : Int32) then ob1 (mX2_amountTakenBy fu τ3 σ4 v1 p5) fun r12 => some r12 else some (0 : Int32)) fun v8 => some (.inr ((v1 + (1 : Int32)), (v2 + v8))))

def mX2_amountInDoneJourneys (fu : Nat) (τ : MS) (σ : MS) (i1 : Int32) : Option Int32 :=
  ob1 (loopM (fun st => mX2_amountInDoneJourneys_L4 fu i1 τ σ st.1 st.2) fu ((0 : Int32), (0 : Int32))) fun v13 => some v13

def mX2_amountWrittenOff_L4 (fu : Nat) (p5 : Int32) (τ3 : MS) (σ4 : MS) (v1 : Int32) (v2 : Int32)  : Option (Int32 ⊕ (Int32 × Int32)) :=
  (if (τ3 10 0) ≤ v1 then some (.inl v2) else ob1 (rd (τ3 12) 40 v1) fun x7 => ob1 (ob1 (if x7 = p5 then ob1 (rd (σ4 9) 40 v1) fun x14 => (if x14 = (6 : Int32) then some true else some false) else some false) fun t11 => cnd t11 (ob1 (rd (τ3 13) 40 v1) fun x16 => some (v2 + x16)) (some v2)) fun v8 => some (.inr ((v1 + (1 : Int32)), v8)))

def mX2_amountWrittenOff (fu : Nat) (τ : MS) (σ : MS) (i1 : Int32) : Option Int32 :=
  ob1 (loopM (fun st => mX2_amountWrittenOff_L4 fu i1 τ σ st.1 st.2) fu ((0 : Int32), (0 : Int32))) fun v17 => some v17

def mX2_numberOfStock (fu : Nat) (τ : MS) (σ : MS) (i1 : Int32) (i2 : Int32) : Option Int32 :=
  (if i2 = 0 then ob1 (rd (σ 3) 6 i1) fun x2 => some x2 else (if i2 = 1 then ob1 (rd (τ 4) 6 i1) fun x4 => some x4 else (if i2 = 2 then ob1 (mX2_holdersOf fu τ σ i1) fun r6 => some r6 else (if i2 = 3 then ob1 (mX2_amountInOpenJourneys fu τ σ i1) fun r8 => some r8 else (if i2 = 4 then ob1 (mX2_amountInDoneJourneys fu τ σ i1) fun r10 => some r10 else ob1 (mX2_amountWrittenOff fu τ σ i1) fun r11 => some r11)))))

def mX2_rests (fu : Nat) (τ : MS) (σ : MS) (i1 : Int32) : Option Int32 :=
  ob1 (mX2_hasEnded fu τ σ i1) fun r1 => ob1 (ob1 (if r1 = 0 then ob1 (rd (σ 5) 8 i1) fun x10 => (if x10 = (5 : Int32) then some true else some false) else some true) fun t7 => cnd t7 (some (1 : Int32)) (some (0 : Int32))) fun v3 => some v3

def mX2_amountOwed_L45 (fu : Nat) (p13 : Int32) (τ11 : MS) (σ12 : MS) (v9 : Int32) (v10 : Int32)  : Option (Int32 ⊕ (Int32 × Int32)) :=
  (if p13 ≤ v9 then some (.inl v10) else ob1 (rd (σ12 9) 40 v9) fun x15 => ob1 (if x15 = (3 : Int32) then ob1 (rd (τ11 13) 40 v9) fun x20 => some (v10 + x20) else some v10) fun v16 => some (.inr ((v9 + (1 : Int32)), v16)))

def mX2_amountOwed (fu : Nat) (τ : MS) (σ : MS) (i1 : Int32) : Option Int32 :=
  ob1 (rd (σ 5) 8 i1) fun x1 => ob1 (if x1 = (2 : Int32) then some false else ob1 (rd (σ 5) 8 i1) fun x5 => (if x5 = (5 : Int32) then some false else some true)) fun t2 => cnd t2 (some (0 : Int32)) (ob1 (rd (τ 9) 8 i1) fun x7 => ob1 (rd (τ 8) 8 i1) fun x8 => ob1 (loopM (fun st => mX2_amountOwed_L45 fu x7 τ σ st.1 st.2) fu (x8, (0 : Int32))) fun v21 => some v21)

def mX2_numberOfJourney (fu : Nat) (τ : MS) (σ : MS) (i1 : Int32) (i2 : Int32) : Option Int32 :=
  (if i2 = 0 then ob1 (rd (σ 5) 8 i1) fun x2 => some x2 else (if i2 = 1 then ob1 (rd (τ 6) 8 i1) fun x4 => some x4 else (if i2 = 2 then ob1 (rd (τ 7) 8 i1) fun x6 => some x6 else (if i2 = 3 then ob1 (mX0_stepsOf fu τ i1) fun r8 => some r8 else (if i2 = 4 then ob1 (rd (σ 5) 8 i1) fun x10 => ob1 (if x10 = (1 : Int32) then ob1 (rd (σ 6) 8 i1) fun x15 => some x15 else some (-1 : Int32)) fun v11 => some v11 else (if i2 = 5 then ob1 (mX2_rests fu τ σ i1) fun r17 => ob1 (if r17 = 0 then some (-1 : Int32) else ob1 (rd (σ 7) 8 i1) fun x23 => some x23) fun v19 => some v19 else ob1 (mX2_amountOwed fu τ σ i1) fun r24 => some r24))))))

def mX2_numberOfStep (fu : Nat) (τ : MS) (σ : MS) (i1 : Int32) (i2 : Int32) : Option Int32 :=
  (if i2 = 0 then ob1 (rd (τ 11) 40 i1) fun x2 => some x2 else (if i2 = 1 then ob1 (rd (τ 12) 40 i1) fun x4 => some x4 else (if i2 = 2 then ob1 (rd (τ 13) 40 i1) fun x6 => some x6 else (if i2 = 3 then ob1 (rd (τ 14) 40 i1) fun x8 => some x8 else (if i2 = 4 then ob1 (rd (σ 9) 40 i1) fun x10 => some x10 else (if i2 = 5 then ob1 (rd (σ 10) 40 i1) fun x12 => some x12 else ob1 (rd (σ 11) 40 i1) fun x13 => some x13))))))

def mX2_endedJourneys (fu : Nat) (τ : MS) (σ : MS) : Option Int32 :=
  ob1 (mX2_journeysIn fu τ σ (3 : Int32)) fun r1 => ob1 (mX2_journeysIn fu τ σ (4 : Int32)) fun r2 => some (r1 + r2)

def mX2_doneStepFromBehind_L15 (fu : Nat) (p6 : Int32) (τ4 : MS) (σ5 : MS) (v2 : Int32) (v3 : Int32)  : Option ((Int32 ⊕ Unit) ⊕ (Int32 × Int32)) :=
  ob1 (rd (τ4 8) 8 p6) fun x7 => (if v2 < x7 then some (.inl (.inr ())) else ob1 (rd (σ5 9) 40 v2) fun x9 => (if x9 = (3 : Int32) then (if v3 = 0 then some (.inl (.inl v2)) else some (.inr ((v2 + (-1 : Int32)), (v3 + (-1 : Int32))))) else some (.inr ((v2 + (-1 : Int32)), v3))))

def mX2_doneStepFromBehind (fu : Nat) (τ : MS) (σ : MS) (i1 : Int32) (i2 : Int32) : Option Int32 :=
  ob1 (rd (τ 9) 8 i1) fun x1 => ob1 (loopM (fun st => mX2_doneStepFromBehind_L15 fu i1 τ σ st.1 st.2) fu ((x1 - (1 : Int32)), i2)) fun b16 => el1 b16 (fun r => some r) fun _ => some (-1 : Int32)

def mX2_isPresent (fu : Nat) (τ : MS) (σ : MS) (i1 : Int32) (i2 : Int32) : Option Int32 :=
  ob1 (rd (τ 11) 40 i2) fun x1 => ob1 (rd (σ 6) 8 i1) fun x2 => ob1 (if x1 = x2 then some (1 : Int32) else some (0 : Int32)) fun v3 => some v3

def mX2_nextEventTimeForward_L24 (fu : Nat) (p7 : Int32) (p8 : Int32) (τ5 : MS) (σ6 : MS) (v3 : Int32) (v4 : Int32)  : Option ((Int32 ⊕ Int32) ⊕ (Int32 × Int32)) :=
  (if p7 ≤ v3 then some (.inl (.inr v4)) else ob1 (mX2_isPresent fu τ5 σ6 p8 v3) fun r10 => ob1 (if r10 = 0 then some false else ob1 (rd (σ6 9) 40 v3) fun x15 => (if x15 = (1 : Int32) then some true else some false)) fun t12 => cnd t12 (some (.inl (.inl (σ6 1 0)))) (ob1 (mX2_isPresent fu τ5 σ6 p8 v3) fun r17 => ob1 (ob1 (if r17 = 0 then some false else ob1 (rd (σ6 9) 40 v3) fun x25 => (if x25 = (2 : Int32) then some true else some false)) fun t22 => cnd t22 (ob1 (rd (σ6 12) 40 v3) fun x27 => ob1 (rd (τ5 14) 40 v3) fun x28 => some (if (x27 + x28) < v4 then (x27 + x28) else v4)) (some v4)) fun v19 => some (.inr ((v3 + (1 : Int32)), v19))))

def mX2_nextEventTimeForward (fu : Nat) (τ : MS) (σ : MS) (i1 : Int32) : Option Int32 :=
  ob1 (rd (τ 9) 8 i1) fun x1 => ob1 (rd (τ 8) 8 i1) fun x2 => ob1 (loopM (fun st => mX2_nextEventTimeForward_L24 fu x1 i1 τ σ st.1 st.2) fu (x2, (1000000 : Int32))) fun b38 => el1 b38 (fun r => some r) fun v29 => ob1 (if v29 = (1000000 : Int32) then some (σ 1 0) else some v29) fun v34 => some v34

def mX2_nextEventTimeOf (fu : Nat) (τ : MS) (σ : MS) (i1 : Int32) : Option Int32 :=
  ob1 (rd (σ 5) 8 i1) fun x1 => (if x1 = 0 then ob1 (rd (τ 6) 8 i1) fun x3 => some x3 else (if x1 = 1 then ob1 (mX2_nextEventTimeForward fu τ σ i1) fun r5 => some r5 else (if x1 = 2 then some (σ 1 0) else some (1000000 : Int32))))

def mX2_nextEventTime_L5 (fu : Nat) (τ3 : MS) (σ4 : MS) (v1 : Int32) (v2 : Int32)  : Option (Int32 ⊕ (Int32 × Int32)) :=
  (if (τ3 5 0) ≤ v1 then some (.inl v2) else ob1 (mX2_nextEventTimeOf fu τ3 σ4 v1) fun r6 => some (.inr ((v1 + (1 : Int32)), (if r6 < v2 then r6 else v2))))

def mX2_nextEventTime (fu : Nat) (τ : MS) (σ : MS) : Option Int32 :=
  ob1 (loopM (fun st => mX2_nextEventTime_L5 fu τ σ st.1 st.2) fu ((0 : Int32), (1000000 : Int32))) fun v7 => some (if (σ 1 0) < v7 then v7 else (σ 1 0))

def mX2_comeToRest (fu : Nat) (τ : MS) (σ : MS) (i1 : Int32) (i2 : Int32) : Option MS :=
  ob1 (wra σ 5 8 i1 i2) fun σ1 => ob1 (wra σ1 7 8 i1 (σ1 1 0)) fun σ2 => some σ2

def mX2_enterStage_L48 (fu : Nat) (p9 : Int32) (p10 : Int32) (τ7 : MS) (v6 : Int32) (σ8 : MS) : Option (MS ⊕ (Int32 × MS)) :=
  (if p9 ≤ v6 then some (.inl σ8) else ob1 (mX2_isPresent fu τ7 σ8 p10 v6) fun r12 => ob1 (ob1 (if r12 = 0 then some false else ob1 (rd (σ8 9) 40 v6) fun x20 => (if x20 = 0 then some true else some false)) fun t17 => cnd t17 (ob1 (wra σ8 9 40 v6 (1 : Int32)) fun σ22 => ob1 (wra σ22 13 40 v6 (0 : Int32)) fun σ23 => some σ23) (some σ8)) fun σ14 => some (.inr ((v6 + (1 : Int32)), σ14)))

def mX2_enterStage (fu : Nat) (τ : MS) (σ : MS) (i1 : Int32) (i2 : Int32) : Option MS :=
  ob1 (rd (τ 7) 8 i1) fun x1 => (if i2 < x1 then ob1 (wra σ 6 8 i1 i2) fun σ3 => ob1 (rd (τ 9) 8 i1) fun x4 => ob1 (rd (τ 8) 8 i1) fun x5 => ob1 (loopM (fun st => mX2_enterStage_L48 fu x4 i1 τ st.1 st.2) fu (x5, σ3)) fun σ24 => some σ24 else ob1 (mX2_comeToRest fu τ σ i1 (3 : Int32)) fun σ46 => some σ46)

def mX2_waitForGuard (fu : Nat) (τ : MS) (σ : MS) (i1 : Int32) : Option MS :=
  ob1 (rd (σ 13) 40 i1) fun x1 => ob1 (if x1 < (τ 0 0) then ob1 (rd (σ 13) 40 i1) fun x6 => ob1 (wra σ 13 40 i1 (x6 + (1 : Int32))) fun σ7 => some σ7 else ob1 (wra σ 9 40 i1 (4 : Int32)) fun σ8 => some σ8) fun σ2 => some σ2

def mX2_takeAmount (fu : Nat) (τ : MS) (σ : MS) (i1 : Int32) (i2 : Int32) : Option MS :=
  ob1 (rd (τ 13) 40 i1) fun x1 => ob1 (rd (σ 3) 6 i2) fun x2 => (if 0 < (x1 - x2) then ob1 (rd (σ 4) 6 i2) fun x4 => ob1 (wra σ 4 6 i2 (if (x1 - x2) < x4 then (x1 - x2) else x4)) fun σ5 => ob1 (rd (σ5 11) 40 i1) fun x6 => ob1 (if x6 ≤ 0 then ob1 (wra σ5 9 40 i1 (4 : Int32)) fun σ11 => some σ11 else ob1 (rd (σ5 11) 40 i1) fun x12 => ob1 (wra σ5 11 40 i1 (x12 - (1 : Int32))) fun σ13 => some σ13) fun σ7 => some σ7 else ob1 (rd (σ 3) 6 i2) fun x14 => ob1 (rd (τ 13) 40 i1) fun x15 => ob1 (wra σ 3 6 i2 (x14 - x15)) fun σ16 => ob1 (wra σ16 9 40 i1 (2 : Int32)) fun σ17 => ob1 (wra σ17 12 40 i1 (σ17 1 0)) fun σ18 => some σ18)

def mX2_moveStep (fu : Nat) (τ : MS) (σ : MS) (i1 : Int32) (i2 : Int32) : Option MS :=
  ob1 (rd (σ 9) 40 i2) fun x1 => ob1 (if x1 = (2 : Int32) then ob1 (rd (σ 12) 40 i2) fun x23 => ob1 (rd (τ 14) 40 i2) fun x24 => (if ((σ 1 0) - x23) < x24 then some σ else ob1 (wra σ 9 40 i2 (3 : Int32)) fun σ26 => some σ26) else ob1 (rd (σ 9) 40 i2) fun x6 => (if x6 = (1 : Int32) then ob1 (rd (τ 12) 40 i2) fun x8 => ob1 (mX2_amountTakenBy fu τ σ i1 x8) fun r9 => ob1 (if r9 ≤ 0 then some (0 : Int32) else some (1 : Int32)) fun v10 => ob1 (if v10 = 0 then ob1 (mX2_holdersOf fu τ σ x8) fun r18 => ob1 (rd (τ 4) 6 x8) fun x19 => (if r18 < x19 then some false else some true) else some false) fun t15 => cnd t15 (ob1 (mX2_waitForGuard fu τ σ i2) fun σ21 => some σ21) (ob1 (mX2_takeAmount fu τ σ i2 x8) fun σ22 => some σ22) else some σ)) fun σ2 => some σ2

def mX2_stageHas_L21 (fu : Nat) (p6 : Int32) (p7 : Int32) (p8 : Int32) (τ4 : MS) (σ5 : MS) (v3 : Int32)  : Option ((Int32 ⊕ Unit) ⊕ Int32) :=
  (if p6 ≤ v3 then some (.inl (.inr ())) else ob1 (mX2_isPresent fu τ4 σ5 p7 v3) fun r10 => ob1 (if r10 = 0 then some false else ob1 (rd (σ5 9) 40 v3) fun x15 => (if x15 = p8 then some true else some false)) fun t12 => cnd t12 (some (.inl (.inl (1 : Int32)))) (some (.inr (v3 + (1 : Int32)))))

def mX2_stageHas (fu : Nat) (τ : MS) (σ : MS) (i1 : Int32) (i2 : Int32) : Option Int32 :=
  ob1 (rd (τ 9) 8 i1) fun x1 => ob1 (rd (τ 8) 8 i1) fun x2 => ob1 (loopM (fun st => mX2_stageHas_L21 fu x1 i1 i2 τ σ st) fu x2) fun b21 => el1 b21 (fun r => some r) fun _ => some (0 : Int32)

def mX2_withdrawReadySteps_L20 (fu : Nat) (p6 : Int32) (p7 : Int32) (τ4 : MS) (v3 : Int32) (σ5 : MS) : Option (MS ⊕ (Int32 × MS)) :=
  (if p6 ≤ v3 then some (.inl σ5) else ob1 (mX2_isPresent fu τ4 σ5 p7 v3) fun r9 => ob1 (ob1 (if r9 = 0 then some false else ob1 (rd (σ5 9) 40 v3) fun x17 => (if x17 = (1 : Int32) then some true else some false)) fun t14 => cnd t14 (ob1 (wra σ5 9 40 v3 (0 : Int32)) fun σ19 => some σ19) (some σ5)) fun σ11 => some (.inr ((v3 + (1 : Int32)), σ11)))

def mX2_withdrawReadySteps (fu : Nat) (τ : MS) (σ : MS) (i1 : Int32) : Option MS :=
  ob1 (rd (τ 9) 8 i1) fun x1 => ob1 (rd (τ 8) 8 i1) fun x2 => ob1 (loopM (fun st => mX2_withdrawReadySteps_L20 fu x1 i1 τ st.1 st.2) fu (x2, σ)) fun σ20 => some σ20

def mX2_isOpen (fu : Nat) (τ : MS) (σ : MS) (i1 : Int32) : Option Int32 :=
  ob1 (rd (σ 9) 40 i1) fun x1 => ob1 (ob1 (if x1 = (3 : Int32) then some false else ob1 (rd (σ 9) 40 i1) fun x9 => (if x9 = (6 : Int32) then some false else some true)) fun t6 => cnd t6 (some (1 : Int32)) (some (0 : Int32))) fun v2 => some v2

def mX2_stageIsOver_L20 (fu : Nat) (p6 : Int32) (p7 : Int32) (τ4 : MS) (σ5 : MS) (v3 : Int32)  : Option ((Int32 ⊕ Unit) ⊕ Int32) :=
  (if p6 ≤ v3 then some (.inl (.inr ())) else ob1 (mX2_isPresent fu τ4 σ5 p7 v3) fun r9 => ob1 (if r9 = 0 then some false else ob1 (mX2_isOpen fu τ4 σ5 v3) fun r14 => (if r14 = 0 then some false else some true)) fun t11 => cnd t11 (some (.inl (.inl (0 : Int32)))) (some (.inr (v3 + (1 : Int32)))))

def mX2_stageIsOver (fu : Nat) (τ : MS) (σ : MS) (i1 : Int32) : Option Int32 :=
  ob1 (rd (τ 9) 8 i1) fun x1 => ob1 (rd (τ 8) 8 i1) fun x2 => ob1 (loopM (fun st => mX2_stageIsOver_L20 fu x1 i1 τ σ st) fu x2) fun b21 => el1 b21 (fun r => some r) fun _ => some (1 : Int32)

def mX2_moveForward_L20 (fu : Nat) (p6 : Int32) (p7 : Int32) (τ4 : MS) (v3 : Int32) (σ5 : MS) : Option (MS ⊕ (Int32 × MS)) :=
  (if p6 ≤ v3 then some (.inl σ5) else ob1 (mX2_isPresent fu τ4 σ5 p7 v3) fun r9 => ob1 (if r9 = 0 then some σ5 else ob1 (mX2_moveStep fu τ4 σ5 p7 v3) fun σ15 => some σ15) fun σ11 => some (.inr ((v3 + (1 : Int32)), σ11)))

def mX2_moveForward (fu : Nat) (τ : MS) (σ : MS) (i1 : Int32) : Option MS :=
  ob1 (rd (τ 9) 8 i1) fun x1 => ob1 (rd (τ 8) 8 i1) fun x2 => ob1 (loopM (fun st => mX2_moveForward_L20 fu x1 i1 τ st.1 st.2) fu (x2, σ)) fun σ16 => ob1 (mX2_stageHas fu τ σ16 i1 (4 : Int32)) fun r21 => ob1 (if r21 = 0 then some σ16 else ob1 (mX2_withdrawReadySteps fu τ σ16 i1) fun σ27 => some σ27) fun σ23 => ob1 (mX2_stageIsOver fu τ σ23 i1) fun r28 => ob1 (if r28 = 0 then ob1 (if r21 = 0 then some false else ob1 (mX2_stageHas fu τ σ23 i1 (2 : Int32)) fun r37 => (if r37 = 0 then some true else some false)) fun t34 => cnd t34 (ob1 (wra σ23 5 8 i1 (2 : Int32)) fun σ40 => ob1 (wra σ40 8 8 i1 (0 : Int32)) fun σ41 => some σ41) (some σ23) else ob1 (rd (σ23 6) 8 i1) fun x42 => ob1 (mX2_enterStage fu τ σ23 i1 (x42 + (1 : Int32))) fun σ43 => some σ43) fun σ30 => some σ30

def mX2_putStepAway (fu : Nat) (τ : MS) (σ : MS) (i1 : Int32) (i2 : Int32) (i3 : Int32) : Option MS :=
  ob1 (if i3 = (5 : Int32) then ob1 (rd (τ 12) 40 i2) fun x5 => ob1 (rd (σ 3) 6 x5) fun x6 => ob1 (rd (τ 13) 40 i2) fun x7 => ob1 (wra σ 3 6 x5 (x6 + x7)) fun σ8 => some σ8 else some σ) fun σ1 => ob1 (wra σ1 9 40 i2 i3) fun σ9 => ob1 (wra σ9 8 8 i1 (0 : Int32)) fun σ10 => some σ10

def mX2_undoLastStep (fu : Nat) (τ : MS) (σ : MS) (i1 : Int32) : Option MS :=
  ob1 (mX2_doneStepFromBehind fu τ σ i1 (0 : Int32)) fun r1 => ob1 (if 0 ≤ r1 then ob1 (rd (σ 10) 40 r1) fun x6 => (if x6 ≤ 0 then ob1 (mX2_putStepAway fu τ σ i1 r1 (5 : Int32)) fun σ8 => some σ8 else ob1 (rd (σ 10) 40 r1) fun x9 => ob1 (wra σ 10 40 r1 (x9 - (1 : Int32))) fun σ10 => ob1 (some (pf σ10 2 ((σ10 2 0) + (1 : Int32)))) fun σ11 => ob1 (rd (σ11 8) 8 i1) fun x12 => ob1 (wra σ11 8 8 i1 (x12 + (1 : Int32))) fun σ13 => ob1 (rd (σ13 8) 8 i1) fun x14 => (if x14 < (τ 1 0) then some σ13 else ob1 (mX2_comeToRest fu τ σ13 i1 (5 : Int32)) fun σ16 => some σ16)) else ob1 (mX2_comeToRest fu τ σ i1 (4 : Int32)) fun σ17 => some σ17) fun σ2 => some σ2

def mX2_passTick_L4 (fu : Nat) (τ3 : MS) (v1 : Int32) (v2 : Int32) (σ4 : MS) : Option ((Int32 × MS) ⊕ (Int32 × Int32 × MS)) :=
  (if (τ3 5 0) ≤ v1 then some (.inl (v2, σ4)) else ob1 (rd (σ4 5) 8 v1) fun x6 => ob2 (if x6 = (2 : Int32) then some ((v2 ||| ((1 : Int32) <<< (v1 &&& 31))), σ4) else ob1 (rd (σ4 5) 8 v1) fun x12 => ob1 (if x12 = 0 then ob1 (rd (τ3 6) 8 v1) fun x16 => (if x16 = (σ4 1 0) then some true else some false) else some false) fun t13 => cnd t13 (ob1 (wra σ4 5 8 v1 (1 : Int32)) fun σ18 => ob1 (mX2_enterStage fu τ3 σ18 v1 (0 : Int32)) fun σ19 => some (v2, σ19)) (some (v2, σ4))) fun v7 σ8 => some (.inr ((v1 + (1 : Int32)), v7, σ8)))

def mX2_passTick_L80 (fu : Nat) (p29 : Int32) (τ27 : MS) (v26 : Int32) (σ28 : MS) : Option (MS ⊕ (Int32 × MS)) :=
  (if (τ27 5 0) ≤ v26 then some (.inl σ28) else ob1 (rd (σ28 5) 8 v26) fun x31 => ob1 (if x31 = (1 : Int32) then ob1 (mX2_moveForward fu τ27 σ28 v26) fun σ36 => some σ36 else some σ28) fun σ32 => some (.inr ((v26 + (1 : Int32)), σ32)))

def mX2_passTick_L114 (fu : Nat) (p45 : Int32) (τ43 : MS) (v42 : Int32) (σ44 : MS) : Option (MS ⊕ (Int32 × MS)) :=
  (if (τ43 5 0) ≤ v42 then some (.inl σ44) else ob1 (if ((p45 >>> (v42 &&& 31)) &&& (1 : Int32)) = (1 : Int32) then ob1 (mX2_undoLastStep fu τ43 σ44 v42) fun σ51 => some σ51 else some σ44) fun σ47 => some (.inr ((v42 + (1 : Int32)), σ47)))

def mX2_passTick (fu : Nat) (τ : MS) (σ : MS) : Option MS :=
  ob2 (loopM (fun st => mX2_passTick_L4 fu τ st.1 st.2.1 st.2.2) fu ((0 : Int32), (0 : Int32), σ)) fun v20 σ21 => ob1 (loopM (fun st => mX2_passTick_L80 fu v20 τ st.1 st.2) fu ((0 : Int32), σ21)) fun σ37 => ob1 (loopM (fun st => mX2_passTick_L114 fu v20 τ st.1 st.2) fu ((0 : Int32), σ37)) fun σ52 => ob1 (some (pf σ52 1 ((σ52 1 0) + (1 : Int32)))) fun σ57 => some σ57

def mX2_passTicks_L10 (fu : Nat) (p4 : Int32) (p5 : Int32) (p6 : Int32) (τ2 : MS) (v1 : Int32) (σ3 : MS) : Option ((MS ⊕ MS) ⊕ (Int32 × MS)) :=
  ob1 (if p5 ≤ v1 then some false else (if p4 ≤ (σ3 1 0) then some false else some true)) fun t7 => cnd t7 (ob1 (if p6 < 0 then some false else ob1 (mX2_rests fu τ2 σ3 p6) fun r14 => (if r14 = 0 then some false else some true)) fun t11 => cnd t11 (some (.inl (.inl σ3))) (ob1 (mX2_nextEventTime fu τ2 σ3) fun r17 => ob1 (some (pf σ3 1 (if r17 < p4 then r17 else p4))) fun σ18 => ob1 (if p4 ≤ (σ18 1 0) then some σ18 else ob1 (mX2_passTick fu τ2 σ18) fun σ23 => some σ23) fun σ19 => some (.inr ((v1 + (1 : Int32)), σ19)))) (some (.inl (.inr σ3)))

def mX2_passTicks (fu : Nat) (τ : MS) (σ : MS) (i1 : Int32) (i2 : Int32) : Option MS :=
  ob1 (loopM (fun st => mX2_passTicks_L10 fu ((σ 1 0) + i1) i1 i2 τ st.1 st.2) fu ((0 : Int32), σ)) fun b29 => el1 b29 (fun r => some r) fun σ24 => some σ24

def mX2_putLastStepAway (fu : Nat) (τ : MS) (σ : MS) (i1 : Int32) (i2 : Int32) : Option (Int32 × MS) :=
  ob1 (mX2_doneStepFromBehind fu τ σ i1 (0 : Int32)) fun r1 => (if 0 ≤ r1 then ob1 (mX2_putStepAway fu τ σ i1 r1 i2) fun σ3 => ob1 (wra σ3 5 8 i1 (2 : Int32)) fun σ4 => ob1 (rd (τ 8) 8 i1) fun x5 => some ((r1 - x5), σ4) else some ((-1 : Int32), σ))

def mX2_firstOpenStage_L20 (fu : Nat) (p6 : Int32) (τ4 : MS) (σ5 : MS) (v3 : Int32)  : Option ((Int32 ⊕ Unit) ⊕ Int32) :=
  (if p6 ≤ v3 then some (.inl (.inr ())) else ob1 (mX2_isOpen fu τ4 σ5 v3) fun r8 => (if r8 = 0 then some (.inr (v3 + (1 : Int32))) else ob1 (rd (τ4 11) 40 v3) fun x11 => some (.inl (.inl x11))))

def mX2_firstOpenStage (fu : Nat) (τ : MS) (σ : MS) (i1 : Int32) : Option Int32 :=
  ob1 (rd (τ 9) 8 i1) fun x1 => ob1 (rd (τ 8) 8 i1) fun x2 => ob1 (loopM (fun st => mX2_firstOpenStage_L20 fu x1 τ σ st) fu x2) fun b16 => el1 b16 (fun r => some r) fun _ => some (-1 : Int32)

def mX2_letGoForward_L33 (fu : Nat) (p8 : Int32) (p9 : Int32) (p10 : Int32) (τ6 : MS) (v5 : Int32) (σ7 : MS) : Option (MS ⊕ (Int32 × MS)) :=
  (if p8 ≤ v5 then some (.inl σ7) else ob1 (mX2_isOpen fu τ6 σ7 v5) fun r12 => ob1 (if r12 = 0 then some σ7 else ob1 (wra σ7 9 40 v5 (0 : Int32)) fun σ18 => ob1 (rd (τ6 16) 40 v5) fun x19 => ob1 (wra σ18 11 40 v5 x19) fun σ20 => some σ20) fun σ14 => some (.inr ((v5 + (1 : Int32)), σ14)))

def mX2_letGoForward (fu : Nat) (τ : MS) (σ : MS) (i1 : Int32) : Option (Int32 × MS) :=
  ob1 (mX2_firstOpenStage fu τ σ i1) fun r1 => (if 0 ≤ r1 then ob1 (rd (τ 9) 8 i1) fun x3 => ob1 (rd (τ 8) 8 i1) fun x4 => ob1 (loopM (fun st => mX2_letGoForward_L33 fu x3 r1 i1 τ st.1 st.2) fu (x4, σ)) fun σ21 => ob1 (wra σ21 5 8 i1 (1 : Int32)) fun σ26 => ob1 (mX2_enterStage fu τ σ26 i1 r1) fun σ27 => some (r1, σ27) else some ((-1 : Int32), σ))

def mX3_putWord_L3 (fu : Nat) (τs : WS) (n : Nat) (p7 : Int32) (pa2 : PA) (ω5 : WS) (sid6 : PA) (v1 : Int32) (β3 : FS) (υ4 : MS) : Option ((FS × MS) ⊕ (Int32 × FS × MS)) :=
  (if v1 < 0 then some (.inl (β3, υ4)) else ob1 (wr β3 700 (υ4 1 0) (vp_nar .byte (((p7.toUInt32 >>> (v1.toUInt32 &&& Int32.toUInt32 31)).toInt32).toInt8.toInt32))) fun β9 => ob1 (some (pf υ4 1 ((υ4 1 0) + (1 : Int32)))) fun υ10 => some (.inr ((v1 + (-8 : Int32)), β9, υ10)))

def mX3_putWord (fu : Nat) (τs : WS) (n : Nat) (pa : PA) (β : FS) (υ : MS) (ω : WS) (sid : PA) (i1 : Int32) : Option (FS × MS) :=
  ob2 (loopM (fun st => mX3_putWord_L3 fu τs n i1 pa ω sid st.1 st.2.1 st.2.2) fu ((24 : Int32), β, υ)) fun β11 υ12 => some (β11, υ12)

def mX3_append (fu : Nat) (τs : WS) (n : Nat) (pa : PA) (β : FS) (υ : MS) (ω : WS) (sid : PA) (i1 : Int32) (i2 : Int32) (i3 : Int32) (i4 : Int32) (i5 : Int32) : Option (Int32 × FS × MS) :=
  (if ((υ 1 0) + (20 : Int32)) ≤ (700 : Int32) then ob2 (mX3_putWord fu τs n pa β υ ω sid i1) fun β2 υ3 => ob2 (mX3_putWord fu τs n pa β2 υ3 ω sid i2) fun β4 υ5 => ob2 (mX3_putWord fu τs n pa β4 υ5 ω sid i3) fun β6 υ7 => ob2 (mX3_putWord fu τs n pa β6 υ7 ω sid i4) fun β8 υ9 => ob2 (mX3_putWord fu τs n pa β8 υ9 ω sid i5) fun β10 υ11 => some ((υ11 1 0), β10, υ11) else some ((-1 : Int32), β, υ))

def mX3_errorOffset (fu : Nat) (τs : WS) (n : Nat) (pa : PA) (β : FS) (υ : MS) (ω : WS) (sid : PA) : Option Int32 :=
  some (υ 2 0)

def mX3_checkWhat (fu : Nat) (τs : WS) (n : Nat) (pa : PA) (β : FS) (υ : MS) (ω : WS) (sid : PA) (i1 : Int32) (i2 : Int32) : Option (String ⊕ Unit) :=
  ob1 (if i1 < 0 then some true else (if i1 < i2 then some false else some true)) fun t1 => cnd t1 (some (.inl "java/lang/IllegalArgumentException")) (some (.inr ()))

def mX3_state (fu : Nat) (τs : WS) (n : Nat) (pa : PA) (β : FS) (υ : MS) (ω : WS) (sid : PA) (i1 : Int32) : Option (String ⊕ Int32) :=
  obX (mX3_checkWhat fu τs n pa β υ ω sid i1 (10 : Int32)) fun _ => ob1 (gW sid n 0) fun _ => ob1 (mX2_numberOfAll fu (τs (sid 0)) (ω 0) i1) fun r3 => some (.inr r3)

def mX3_checkStock (fu : Nat) (τs : WS) (n : Nat) (pa : PA) (β : FS) (υ : MS) (ω : WS) (sid : PA) (i1 : Int32) : Option (String ⊕ Unit) :=
  ob1 (if i1 < 0 then some true else ob1 (gW sid n 0) fun _ => ob1 (gW sid n 0) fun _ => (if i1 < (τs (sid 0) 2 0) then some false else some true)) fun t1 => cnd t1 (some (.inl "java/lang/IndexOutOfBoundsException")) (some (.inr ()))

def mX3_stock (fu : Nat) (τs : WS) (n : Nat) (pa : PA) (β : FS) (υ : MS) (ω : WS) (sid : PA) (i1 : Int32) (i2 : Int32) : Option (String ⊕ Int32) :=
  obX (mX3_checkStock fu τs n pa β υ ω sid i1) fun _ => obX (mX3_checkWhat fu τs n pa β υ ω sid i2 (6 : Int32)) fun _ => ob1 (gW sid n 0) fun _ => ob1 (mX2_numberOfStock fu (τs (sid 0)) (ω 0) i1 i2) fun r4 => some (.inr r4)

def mX3_checkJourney (fu : Nat) (τs : WS) (n : Nat) (pa : PA) (β : FS) (υ : MS) (ω : WS) (sid : PA) (i1 : Int32) : Option (String ⊕ Unit) :=
  ob1 (if i1 < 0 then some true else ob1 (gW sid n 0) fun _ => ob1 (gW sid n 0) fun _ => (if i1 < (τs (sid 0) 5 0) then some false else some true)) fun t1 => cnd t1 (some (.inl "java/lang/IndexOutOfBoundsException")) (some (.inr ()))

def mX3_journey (fu : Nat) (τs : WS) (n : Nat) (pa : PA) (β : FS) (υ : MS) (ω : WS) (sid : PA) (i1 : Int32) (i2 : Int32) : Option (String ⊕ Int32) :=
  obX (mX3_checkJourney fu τs n pa β υ ω sid i1) fun _ => obX (mX3_checkWhat fu τs n pa β υ ω sid i2 (7 : Int32)) fun _ => ob1 (gW sid n 0) fun _ => ob1 (mX2_numberOfJourney fu (τs (sid 0)) (ω 0) i1 i2) fun r4 => some (.inr r4)

def mX3_step (fu : Nat) (τs : WS) (n : Nat) (pa : PA) (β : FS) (υ : MS) (ω : WS) (sid : PA) (i1 : Int32) (i2 : Int32) (i3 : Int32) : Option (String ⊕ Int32) :=
  obX (mX3_checkJourney fu τs n pa β υ ω sid i1) fun _ => ob1 (if i2 < 0 then some true else ob1 (gW sid n 0) fun _ => ob1 (gW sid n 0) fun _ => ob1 (mX0_stepsOf fu (τs (sid 0)) i1) fun r7 => (if i2 < r7 then some false else some true)) fun t2 => cnd t2 (some (.inl "java/util/NoSuchElementException")) (obX (mX3_checkWhat fu τs n pa β υ ω sid i3 (7 : Int32)) fun _ => ob1 (gW sid n 0) fun _ => ob1 (gW sid n 0) fun _ => ob1 (gW sid n 0) fun _ => ob1 (rd (τs (sid 0) 8) 8 i1) fun x13 => ob1 (gW sid n 0) fun _ => ob1 (mX2_numberOfStep fu (τs (sid 0)) (ω 0) (x13 + i2) i3) fun r15 => some (.inr r15))

def mX3_owed (fu : Nat) (τs : WS) (n : Nat) (pa : PA) (β : FS) (υ : MS) (ω : WS) (sid : PA) (i1 : Int32) (i2 : Int32) : Option (String ⊕ Int32) :=
  obX (mX3_checkJourney fu τs n pa β υ ω sid i1) fun _ => ob1 (if 0 ≤ i2 then ob1 (gW sid n 0) fun _ => ob1 (mX2_doneStepFromBehind fu (τs (sid 0)) (ω 0) i1 i2) fun r7 => some r7 else some (-1 : Int32)) fun v2 => (if 0 ≤ v2 then ob1 (gW sid n 0) fun _ => ob1 (gW sid n 0) fun _ => ob1 (gW sid n 0) fun _ => ob1 (rd (τs (sid 0) 8) 8 i1) fun x12 => some (.inr (v2 - x12)) else some (.inl "java/util/NoSuchElementException"))

def mX3_restsIn (fu : Nat) (τs : WS) (n : Nat) (pa : PA) (β : FS) (υ : MS) (ω : WS) (sid : PA) (i1 : Int32) : Option (String ⊕ (Int32 × WS × PA)) :=
  obX (mX3_checkJourney fu τs n pa β υ ω sid i1) fun _ => ob1 (gC 1 0 sid n) fun _ => ob1 (mX2_copyFrom fu (ω 0) (ω 1)) fun σ3 => ob1 (some (va_up ω 1 σ3)) fun ω4 => ob1 (some (va_up sid 1 (sid 0))) fun sid5 => ob1 (gW sid5 n 1) fun _ => ob1 (mX2_passTicks fu (τs (sid5 1)) (ω4 1) (3000 : Int32) i1) fun σ7 => ob1 (some (va_up ω4 1 σ7)) fun ω8 => ob1 (gW sid5 n 1) fun _ => ob1 (mX2_rests fu (τs (sid5 1)) (ω8 1) i1) fun r10 => ob1 (if r10 = 0 then some (-1 : Int32) else ob1 (gW sid5 n 1) fun _ => ob1 (gW sid5 n 0) fun _ => some ((ω8 1 1 0) - (ω8 0 1 0))) fun v12 => some (.inr (v12, ω8, sid5))

def mX3_stateAfter (fu : Nat) (τs : WS) (n : Nat) (pa : PA) (β : FS) (υ : MS) (ω : WS) (sid : PA) (i1 : Int32) (i2 : Int32) : Option (String ⊕ (Int32 × WS × PA)) :=
  obX (mX3_checkJourney fu τs n pa β υ ω sid i1) fun _ => ob1 (if i2 < 0 then some true else (if i2 ≤ (3000 : Int32) then some false else some true)) fun t2 => cnd t2 (some (.inl "java/lang/IllegalArgumentException")) (ob1 (gC 1 0 sid n) fun _ => ob1 (mX2_copyFrom fu (ω 0) (ω 1)) fun σ7 => ob1 (some (va_up ω 1 σ7)) fun ω8 => ob1 (some (va_up sid 1 (sid 0))) fun sid9 => ob1 (gW sid9 n 1) fun _ => ob1 (mX2_passTicks fu (τs (sid9 1)) (ω8 1) i2 i1) fun σ11 => ob1 (some (va_up ω8 1 σ11)) fun ω12 => ob1 (gW sid9 n 1) fun _ => ob1 (gW sid9 n 1) fun _ => ob1 (rd (ω12 1 5) 8 i1) fun x15 => some (.inr (x15, ω12, sid9)))

def mX3_help_L12 (fu : Nat) (τs : WS) (n : Nat) (p9 : Int32) (p10 : Int32) (pa4 : PA) (β5 : FS) (υ6 : MS) (v3 : Int32) (ω7 : WS) (sid8 : PA) : Option (((String ⊕ (Int32 × WS × PA)) ⊕ (WS × PA)) ⊕ (Int32 × WS × PA)) :=
  (if (999 : Int32) < v3 then some (.inl (.inr (ω7, sid8))) else ob1 (gC 1 0 sid8 n) fun _ => ob1 (mX2_copyFrom fu (ω7 0) (ω7 1)) fun σ13 => ob1 (some (va_up ω7 1 σ13)) fun ω14 => ob1 (some (va_up sid8 1 (sid8 0))) fun sid15 => ob1 (gW sid15 n 1) fun _ => ob1 (gW sid15 n 1) fun _ => ob1 (rd (ω14 1 3) 6 p10) fun x18 => ob1 (gW sid15 n 1) fun _ => ob1 (wra (ω14 1) 3 6 p10 (x18 + v3)) fun σ20 => ob1 (some (va_up ω14 1 σ20)) fun ω21 => ob1 (gW sid15 n 1) fun _ => ob1 (mX2_passTicks fu (τs (sid15 1)) (ω21 1) (1100 : Int32) p9) fun σ23 => ob1 (some (va_up ω21 1 σ23)) fun ω24 => ob1 (gW sid15 n 1) fun _ => ob1 (gW sid15 n 1) fun _ => ob1 (rd (ω24 1 5) 8 p9) fun x27 => (if x27 = (3 : Int32) then some (.inl (.inl (.inr (v3, ω24, sid15)))) else ob1 (gW sid15 n 1) fun _ => ob1 (gW sid15 n 1) fun _ => ob1 (rd (ω24 1 4) 6 p10) fun x31 => some (.inr ((v3 + (if (1 : Int32) < x31 then x31 else (1 : Int32))), ω24, sid15))))

def mX3_help (fu : Nat) (τs : WS) (n : Nat) (pa : PA) (β : FS) (υ : MS) (ω : WS) (sid : PA) (i1 : Int32) (i2 : Int32) : Option (String ⊕ (Int32 × WS × PA)) :=
  obX (mX3_checkJourney fu τs n pa β υ ω sid i1) fun _ => obX (mX3_checkStock fu τs n pa β υ ω sid i2) fun _ => ob1 (loopM (fun st => mX3_help_L12 fu τs n i1 i2 pa β υ st.1 st.2.1 st.2.2) fu ((0 : Int32), ω, sid)) fun b38 => el2 b38 (fun r => some r) fun ω32 sid33 => some (.inr ((-1 : Int32), ω32, sid33))

def mX3_remember_L18 (fu : Nat) (τs : WS) (n : Nat) (β9 : FS) (υ10 : MS) (ω11 : WS) (sid12 : PA) (v7 : Int32) (pa8 : PA) : Option (PA ⊕ (Int32 × PA)) :=
  (if (8 : Int32) ≤ v7 then some (.inl pa8) else ob1 (hix v7) fun j14 => ob1 (gW sid12 n (pa8 j14)) fun _ => ob1 (hix (v7 - (1 : Int32))) fun j15 => ob1 (some (va_up pa8 j15 (pa8 j14))) fun pa16 => some (.inr ((v7 + (1 : Int32)), pa16)))

def mX3_remember (fu : Nat) (τs : WS) (n : Nat) (pa : PA) (β : FS) (υ : MS) (ω : WS) (sid : PA) : Option (PA × MS × WS × PA) :=
  ob2 (if (υ 6 0) < (8 : Int32) then some (pa, υ) else ob1 (hix (0 : Int32)) fun j6 => ob1 (loopM (fun st => mX3_remember_L18 fu τs n β υ ω sid st.1 st.2) fu ((1 : Int32), pa)) fun pa18 => ob1 (gW sid n (pa j6)) fun _ => ob1 (hix ((8 : Int32) - (1 : Int32))) fun j23 => ob1 (some (va_up pa18 j23 (pa j6))) fun pa24 => ob1 (some (pf υ 6 (7 : Int32))) fun υ26 => some (pa24, υ26)) fun pa1 υ2 => ob1 (hix (υ2 6 0)) fun j36 => ob1 (gC (pa1 j36) 0 sid n) fun _ => ob1 (mX2_copyFrom fu (ω 0) (ω (pa1 j36))) fun σ38 => ob1 (some (va_up ω (pa1 j36) σ38)) fun ω39 => ob1 (some (va_up sid (pa1 j36) (sid 0))) fun sid40 => ob1 (some (pf υ2 6 ((υ2 6 0) + (1 : Int32)))) fun υ41 => some (pa1, υ41, ω39, sid40)

def mX3_pass (fu : Nat) (τs : WS) (n : Nat) (pa : PA) (β : FS) (υ : MS) (ω : WS) (sid : PA) (i1 : Int32) : Option (String ⊕ (Int32 × PA × MS × WS × PA)) :=
  ob1 (if i1 < (1 : Int32) then some true else (if (200 : Int32) < i1 then some true else ob1 (gW sid n 0) fun _ => (if ((ω 0 1 0) + i1) ≤ (9999 : Int32) then some false else some true))) fun t1 => cnd t1 (some (.inl "java/lang/IllegalArgumentException")) (ob4 (mX3_remember fu τs n pa β υ ω sid) fun pa7 υ8 ω9 sid10 => ob1 (gW sid10 n 0) fun _ => ob1 (mX2_endedJourneys fu (τs (sid10 0)) (ω9 0)) fun r12 => ob1 (gW sid10 n 0) fun _ => ob1 (mX2_passTicks fu (τs (sid10 0)) (ω9 0) i1 (-1 : Int32)) fun σ14 => ob1 (some (va_up ω9 0 σ14)) fun ω15 => ob1 (gW sid10 n 0) fun _ => ob1 (mX2_endedJourneys fu (τs (sid10 0)) (ω15 0)) fun r17 => some (.inr ((r17 - r12), pa7, υ8, ω15, sid10)))

def mX3_checkParked (fu : Nat) (τs : WS) (n : Nat) (pa : PA) (β : FS) (υ : MS) (ω : WS) (sid : PA) (i1 : Int32) : Option (String ⊕ Unit) :=
  ob1 (gW sid n 0) fun _ => ob1 (gW sid n 0) fun _ => ob1 (rd (ω 0 5) 8 i1) fun x3 => (if x3 = (5 : Int32) then some (.inr ()) else some (.inl "java/lang/IllegalStateException"))

def mX3_settle (fu : Nat) (τs : WS) (n : Nat) (pa : PA) (β : FS) (υ : MS) (ω : WS) (sid : PA) (i1 : Int32) : Option (String ⊕ (Int32 × PA × MS × WS × PA)) :=
  obX (mX3_checkJourney fu τs n pa β υ ω sid i1) fun _ => obX (mX3_checkParked fu τs n pa β υ ω sid i1) fun _ => ob4 (mX3_remember fu τs n pa β υ ω sid) fun pa3 υ4 ω5 sid6 => ob1 (gW sid6 n 0) fun _ => ob2 (mX2_putLastStepAway fu (τs (sid6 0)) (ω5 0) i1 (5 : Int32)) fun r8 σ9 => ob1 (some (va_up ω5 0 σ9)) fun ω10 => some (.inr (r8, pa3, υ4, ω10, sid6))

def mX3_writeOff (fu : Nat) (τs : WS) (n : Nat) (pa : PA) (β : FS) (υ : MS) (ω : WS) (sid : PA) (i1 : Int32) : Option (String ⊕ (Int32 × PA × MS × WS × PA)) :=
  obX (mX3_checkJourney fu τs n pa β υ ω sid i1) fun _ => obX (mX3_checkParked fu τs n pa β υ ω sid i1) fun _ => ob4 (mX3_remember fu τs n pa β υ ω sid) fun pa3 υ4 ω5 sid6 => ob1 (gW sid6 n 0) fun _ => ob2 (mX2_putLastStepAway fu (τs (sid6 0)) (ω5 0) i1 (6 : Int32)) fun r8 σ9 => ob1 (some (va_up ω5 0 σ9)) fun ω10 => some (.inr (r8, pa3, υ4, ω10, sid6))

def mX3_goForward (fu : Nat) (τs : WS) (n : Nat) (pa : PA) (β : FS) (υ : MS) (ω : WS) (sid : PA) (i1 : Int32) : Option (String ⊕ (Int32 × PA × MS × WS × PA)) :=
  obX (mX3_checkJourney fu τs n pa β υ ω sid i1) fun _ => obX (mX3_checkParked fu τs n pa β υ ω sid i1) fun _ => ob4 (mX3_remember fu τs n pa β υ ω sid) fun pa3 υ4 ω5 sid6 => ob1 (gW sid6 n 0) fun _ => ob2 (mX2_letGoForward fu (τs (sid6 0)) (ω5 0) i1) fun r8 σ9 => ob1 (some (va_up ω5 0 σ9)) fun ω10 => some (.inr (r8, pa3, υ4, ω10, sid6))

def mX3_restock (fu : Nat) (τs : WS) (n : Nat) (pa : PA) (β : FS) (υ : MS) (ω : WS) (sid : PA) (i1 : Int32) (i2 : Int32) : Option (String ⊕ (Int32 × PA × MS × WS × PA)) :=
  obX (mX3_checkStock fu τs n pa β υ ω sid i1) fun _ => ob1 (if i2 < (1 : Int32) then some true else (if i2 ≤ (999 : Int32) then some false else some true)) fun t2 => cnd t2 (some (.inl "java/lang/IllegalArgumentException")) (ob4 (mX3_remember fu τs n pa β υ ω sid) fun pa6 υ7 ω8 sid9 => ob1 (gW sid9 n 0) fun _ => ob1 (gW sid9 n 0) fun _ => ob1 (rd (ω8 0 3) 6 i1) fun x12 => ob1 (gW sid9 n 0) fun _ => ob1 (wra (ω8 0) 3 6 i1 (x12 + i2)) fun σ14 => ob1 (some (va_up ω8 0 σ14)) fun ω15 => ob1 (gW sid9 n 0) fun _ => ob1 (gW sid9 n 0) fun _ => ob1 (rd (ω15 0 3) 6 i1) fun x18 => some (.inr (x18, pa6, υ7, ω15, sid9)))

def mX3_undo (fu : Nat) (τs : WS) (n : Nat) (pa : PA) (β : FS) (υ : MS) (ω : WS) (sid : PA) : Option (Int32 × MS × WS × PA) :=
  (if (1 : Int32) ≤ (υ 6 0) then ob1 (some (pf υ 6 ((υ 6 0) - (1 : Int32)))) fun υ2 => ob1 (hix (υ2 6 0)) fun j3 => ob1 (gC 0 (pa j3) sid n) fun _ => ob1 (mX2_copyFrom fu (ω (pa j3)) (ω 0)) fun σ5 => ob1 (some (va_up ω 0 σ5)) fun ω6 => ob1 (some (va_up sid 0 (sid (pa j3)))) fun sid7 => some ((υ2 6 0), υ2, ω6, sid7) else some ((-1 : Int32), υ, ω, sid))

def mX3_sumWithJourney_L6 (fu : Nat) (τs : WS) (n : Nat) (p8 : Int32) (pa3 : PA) (β4 : FS) (υ5 : MS) (ω6 : WS) (sid7 : PA) (v1 : Int32) (v2 : Int64)  : Option (Int64 ⊕ (Int32 × Int64)) :=
  (if (7 : Int32) ≤ v1 then some (.inl v2) else ob1 (gW sid7 n 0) fun _ => ob1 (mX2_numberOfJourney fu (τs (sid7 0)) (ω6 0) p8 v1) fun r11 => some (.inr ((v1 + (1 : Int32)), (((31 : Int64) * v2) + (r11.toInt64)))))

def mX3_sumWithJourney_L77 (fu : Nat) (τs : WS) (n : Nat) (p41 : Int32) (p42 : Int32) (pa36 : PA) (β37 : FS) (υ38 : MS) (ω39 : WS) (sid40 : PA) (v34 : Int32) (v35 : Int64)  : Option (Int64 ⊕ (Int32 × Int64)) :=
  (if (7 : Int32) ≤ v34 then some (.inl v35) else ob1 (gW sid40 n 0) fun _ => ob1 (mX2_numberOfStep fu (τs (sid40 0)) (ω39 0) p41 v34) fun r45 => some (.inr ((v34 + (1 : Int32)), (((31 : Int64) * v35) + (r45.toInt64)))))

def mX3_sumWithJourney_L67 (fu : Nat) (τs : WS) (n : Nat) (p32 : Int32) (pa27 : PA) (β28 : FS) (υ29 : MS) (ω30 : WS) (sid31 : PA) (v25 : Int32) (v26 : Int64)  : Option (Int64 ⊕ (Int32 × Int64)) :=
  (if p32 ≤ v25 then some (.inl v26) else ob1 (loopM (fun st => mX3_sumWithJourney_L77 fu τs n v25 p32 pa27 β28 υ29 ω30 sid31 st.1 st.2) fu ((4 : Int32), v26)) fun v46 => some (.inr ((v25 + (1 : Int32)), v46)))

def mX3_sumWithJourney (fu : Nat) (τs : WS) (n : Nat) (pa : PA) (β : FS) (υ : MS) (ω : WS) (sid : PA) (i1 : Int64) (i2 : Int32) : Option Int64 :=
  ob1 (loopM (fun st => mX3_sumWithJourney_L6 fu τs n i2 pa β υ ω sid st.1 st.2) fu ((0 : Int32), i1)) fun v12 => ob1 (gW sid n 0) fun _ => ob1 (gW sid n 0) fun _ => ob1 (gW sid n 0) fun _ => ob1 (rd (τs (sid 0) 9) 8 i2) fun x20 => ob1 (gW sid n 0) fun _ => ob1 (gW sid n 0) fun _ => ob1 (gW sid n 0) fun _ => ob1 (rd (τs (sid 0) 8) 8 i2) fun x24 => ob1 (loopM (fun st => mX3_sumWithJourney_L67 fu τs n x20 pa β υ ω sid st.1 st.2) fu (x24, v12)) fun v58 => some v58

def mX3_checksum_L4 (fu : Nat) (τs : WS) (n : Nat) (pa3 : PA) (β4 : FS) (υ5 : MS) (ω6 : WS) (sid7 : PA) (v1 : Int32) (v2 : Int64)  : Option (Int64 ⊕ (Int32 × Int64)) :=
  (if (10 : Int32) ≤ v1 then some (.inl v2) else ob1 (gW sid7 n 0) fun _ => ob1 (mX2_numberOfAll fu (τs (sid7 0)) (ω6 0) v1) fun r10 => some (.inr ((v1 + (1 : Int32)), (((31 : Int64) * v2) + (r10.toInt64)))))

def mX3_checksum_L51 (fu : Nat) (τs : WS) (n : Nat) (p33 : Int32) (pa28 : PA) (β29 : FS) (υ30 : MS) (ω31 : WS) (sid32 : PA) (v26 : Int32) (v27 : Int64)  : Option (Int64 ⊕ (Int32 × Int64)) :=
  (if (6 : Int32) ≤ v26 then some (.inl v27) else ob1 (gW sid32 n 0) fun _ => ob1 (mX2_numberOfStock fu (τs (sid32 0)) (ω31 0) p33 v26) fun r36 => some (.inr ((v26 + (1 : Int32)), (((31 : Int64) * v27) + (r36.toInt64)))))

def mX3_checksum_L34 (fu : Nat) (τs : WS) (n : Nat) (pa18 : PA) (β19 : FS) (υ20 : MS) (ω21 : WS) (sid22 : PA) (v16 : Int32) (v17 : Int64)  : Option (Int64 ⊕ (Int32 × Int64)) :=
  ob1 (gW sid22 n 0) fun _ => ob1 (gW sid22 n 0) fun _ => (if (τs (sid22 0) 2 0) ≤ v16 then some (.inl v17) else ob1 (loopM (fun st => mX3_checksum_L51 fu τs n v16 pa18 β19 υ20 ω21 sid22 st.1 st.2) fu ((0 : Int32), v17)) fun v37 => some (.inr ((v16 + (1 : Int32)), v37)))

def mX3_checksum_L90 (fu : Nat) (τs : WS) (n : Nat) (pa56 : PA) (β57 : FS) (υ58 : MS) (ω59 : WS) (sid60 : PA) (v54 : Int32) (v55 : Int64)  : Option (Int64 ⊕ (Int32 × Int64)) :=
  ob1 (gW sid60 n 0) fun _ => ob1 (gW sid60 n 0) fun _ => (if (τs (sid60 0) 5 0) ≤ v54 then some (.inl v55) else ob1 (mX3_sumWithJourney fu τs n pa56 β57 υ58 ω59 sid60 v55 v54) fun r64 => some (.inr ((v54 + (1 : Int32)), r64)))

def mX3_checksum (fu : Nat) (τs : WS) (n : Nat) (pa : PA) (β : FS) (υ : MS) (ω : WS) (sid : PA) : Option Int64 :=
  ob1 (loopM (fun st => mX3_checksum_L4 fu τs n pa β υ ω sid st.1 st.2) fu ((0 : Int32), (0 : Int64))) fun v11 => ob1 (loopM (fun st => mX3_checksum_L34 fu τs n pa β υ ω sid st.1 st.2) fu ((0 : Int32), v11)) fun v49 => ob1 (loopM (fun st => mX3_checksum_L90 fu τs n pa β υ ω sid st.1 st.2) fu ((0 : Int32), v49)) fun v65 => some v65

def mX4_thrown (fu : Nat) (μ : MS) : Option Int32 :=
  some (μ 0 0)

def mX4_fails (fu : Nat) (μ : MS) (i1 : Int32) (i2 : Int32) : Option (Int32 × MS) :=
  ob1 (ob1 (if i1 = 0 then some false else (if (μ 0 0) = 0 then some true else some false)) fun t4 => cnd t4 (ob1 (some (pf μ 0 i2)) fun μ8 => some μ8) (some μ)) fun μ1 => ob1 (if (μ1 0 0) = 0 then some (0 : Int32) else some (1 : Int32)) fun v9 => some (v9, μ1)

def mX4_in (fu : Nat) (i1 : Int32) (i2 : Int32) (i3 : Int32) : Option Int32 :=
  ob1 (ob1 (if i1 < i2 then some false else (if i3 < i1 then some false else some true)) fun t5 => cnd t5 (some (1 : Int32)) (some (0 : Int32))) fun v1 => some v1

def mX4_min (fu : Nat) (i1 : Int32) (i2 : Int32) : Option Int32 :=
  ob1 (if i2 ≤ i1 then some i2 else some i1) fun v1 => some v1

def mX4_copy_L2 (fu : Nat) (f02 : FS) (v1 : Int32) (f13 : FS) : Option (FS ⊕ (Int32 × FS)) :=
  (if (451 : Int32) ≤ v1 then some (.inl f13) else ob1 (rd f02 451 v1) fun x5 => ob1 (wr f13 451 v1 x5) fun f16 => some (.inr ((v1 + (1 : Int32)), f16)))

def mX4_copy (fu : Nat) (f0 : FS) (f1 : FS) : Option FS :=
  ob1 (loopM (fun st => mX4_copy_L2 fu f0 st.1 st.2) fu ((0 : Int32), f1)) fun f17 => some f17

def mX4_layUsual_L2 (fu : Nat)  (v1 : Int32) (f02 : FS) : Option (FS ⊕ (Int32 × FS)) :=
  (if (451 : Int32) ≤ v1 then some (.inl f02) else ob1 (wr f02 451 v1 (0 : Int32)) fun f04 => some (.inr ((v1 + (1 : Int32)), f04)))

def mX4_layUsual (fu : Nat) (f0 : FS) : Option FS :=
  ob1 (loopM (fun st => mX4_layUsual_L2 fu st.1 st.2) fu ((0 : Int32), f0)) fun f05 => ob1 (wr f05 451 (4 : Int32) (5 : Int32)) fun f010 => ob1 (wr f010 451 (5 : Int32) (3 : Int32)) fun f011 => some f011

def mX4_append_L23 (fu : Nat) (p5 : Int32) (p6 : Int32) (p7 : Int32) (p8 : Int32) (p9 : Int32) (v3 : Int32) (μ4 : MS) : Option (MS ⊕ (Int32 × MS)) :=
  (if (20 : Int32) ≤ v3 then some (.inl μ4) else ob1 (if (4 : Int32) ≤ v3 then (if (8 : Int32) ≤ v3 then (if (12 : Int32) ≤ v3 then (if (16 : Int32) ≤ v3 then some p9 else some p8) else some p7) else some p6) else some p5) fun v11 => ob1 (wra μ4 1 700 (μ4 2 0) ((v11 >>> (((24 : Int32) - ((8 : Int32) * (v3 - v3 / (4 : Int32) * (4 : Int32)))) &&& 31)) &&& (255 : Int32))) fun μ18 => ob1 (some (pf μ18 2 ((μ18 2 0) + (1 : Int32)))) fun μ19 => some (.inr ((v3 + (1 : Int32)), μ19)))

def mX4_append (fu : Nat) (μ : MS) (i1 : Int32) (i2 : Int32) (i3 : Int32) (i4 : Int32) (i5 : Int32) : Option (Int32 × MS) :=
  ob1 (some (pf μ 0 (0 : Int32))) fun μ1 => (if ((μ1 2 0) + (20 : Int32)) ≤ (700 : Int32) then ob1 (loopM (fun st => mX4_append_L23 fu i1 i2 i3 i4 i5 st.1 st.2) fu ((0 : Int32), μ1)) fun μ20 => some ((μ20 2 0), μ20) else some ((-1 : Int32), μ1))

def mX4_byteAt (fu : Nat) (μ : MS) (i1 : Int32) : Option Int32 :=
  ob1 (if (μ 3 0) ≤ i1 then some (-1 : Int32) else ob1 (rd (μ 1) 700 i1) fun x5 => some x5) fun v1 => some v1

def mX4_next_L0 (fu : Nat)   (μ1 : MS) : Option (MS ⊕ MS) :=
  ob1 (mX4_byteAt fu μ1 (μ1 4 0)) fun r2 => (if r2 = (32 : Int32) then ob1 (some (pf μ1 4 ((μ1 4 0) + (1 : Int32)))) fun μ4 => some (.inr μ4) else some (.inl μ1))

def mX4_next (fu : Nat) (μ : MS) : Option (Int32 × MS) :=
  ob1 (loopM (fun st => mX4_next_L0 fu st) fu μ) fun μ5 => ob1 (mX4_byteAt fu μ5 (μ5 4 0)) fun r10 => some (r10, μ5)

def mX4_isGood (fu : Nat) (μ : MS) : Option Int32 :=
  ob1 (if (μ 5 0) = 0 then some (1 : Int32) else some (0 : Int32)) fun v1 => some v1

def mX4_report (fu : Nat) (μ : MS) (i1 : Int32) (i2 : Int32) : Option MS :=
  (if (μ 5 0) = 0 then ob1 (some (pf μ 5 i1)) fun μ2 => ob1 (some (pf μ2 6 i2)) fun μ3 => some μ3 else some μ)

def mX4_isDigit (fu : Nat) (i1 : Int32) : Option Int32 :=
  ob1 (mX4_in fu i1 (48 : Int32) (57 : Int32)) fun r1 => some r1

def mX4_takeWord_L16 (fu : Nat) (p8 : Nat) (μ7 : MS) (v6 : Int32)  : Option (Int32 ⊕ Int32) :=
  ob1 (if (sLen p8) ≤ v6 then some false else ob1 (mX4_byteAt fu μ7 ((μ7 4 0) + v6)) fun r12 => ob1 (sChr p8 v6) fun x13 => (if r12 = x13 then some true else some false)) fun t9 => cnd t9 (some (.inr (v6 + (1 : Int32)))) (some (.inl v6))

def mX4_takeWord (fu : Nat) (μ : MS) (w1 : Nat) : Option (Int32 × MS) :=
  ob1 (mX4_isGood fu μ) fun r1 => (if r1 = 0 then some ((0 : Int32), μ) else ob2 (mX4_next fu μ) fun r4 μ5 => ob1 (loopM (fun st => mX4_takeWord_L16 fu w1 μ5 st) fu (0 : Int32)) fun v15 => ob1 (if v15 < (sLen w1) then some true else ob1 (mX4_byteAt fu μ5 ((μ5 4 0) + v15)) fun r23 => ob1 (mX4_in fu r23 (97 : Int32) (122 : Int32)) fun r24 => (if r24 = 0 then some false else some true)) fun t20 => cnd t20 (some ((0 : Int32), μ5)) (ob1 (some (pf μ5 4 ((μ5 4 0) + v15))) fun μ27 => some ((1 : Int32), μ27)))

def mX4_expect (fu : Nat) (μ : MS) (i1 : Int32) : Option MS :=
  ob1 (mX4_isGood fu μ) fun r1 => (if r1 = 0 then some μ else ob2 (mX4_next fu μ) fun r4 μ5 => ob1 (if r4 = i1 then ob1 (some (pf μ5 4 ((μ5 4 0) + (1 : Int32)))) fun μ11 => some μ11 else ob1 (mX4_report fu μ5 (-2 : Int32) (μ5 4 0)) fun μ10 => some μ10) fun μ6 => some μ6)

def mX4_number_L41 (fu : Nat) (p12 : Int32) (p13 : Int32) (v10 : Int32) (μ11 : MS) : Option ((Int32 × MS) ⊕ (Int32 × MS)) :=
  ob1 (mX4_byteAt fu μ11 (μ11 4 0)) fun r14 => ob1 (mX4_isDigit fu r14) fun r15 => (if r15 = 0 then some (.inl (v10, μ11)) else ob1 (mX4_byteAt fu μ11 (μ11 4 0)) fun r18 => ob1 (mX4_min fu (1000000 : Int32) ((((10 : Int32) * v10) + r18) - (48 : Int32))) fun r19 => ob1 (some (pf μ11 4 ((μ11 4 0) + (1 : Int32)))) fun μ20 => some (.inr (r19, μ20)))

def mX4_number (fu : Nat) (μ : MS) (i1 : Int32) (i2 : Int32) : Option (Int32 × MS) :=
  ob1 (mX4_isGood fu μ) fun r1 => (if r1 = 0 then some ((0 : Int32), μ) else ob2 (mX4_next fu μ) fun r4 μ5 => ob1 (mX4_isDigit fu r4) fun r6 => (if r6 = 0 then ob1 (mX4_report fu μ5 (-2 : Int32) (μ5 4 0)) fun μ45 => some ((0 : Int32), μ45) else ob1 (some (pf μ5 13 (μ5 4 0))) fun μ9 => ob2 (loopM (fun st => mX4_number_L41 fu i1 i2 st.1 st.2) fu ((0 : Int32), μ9)) fun v21 μ22 => ob1 (mX4_in fu v21 i1 i2) fun r27 => ob1 (if r27 = 0 then ob1 (mX4_report fu μ22 (-3 : Int32) (μ22 13 0)) fun μ33 => some μ33 else some μ22) fun μ29 => some (v21, μ29)))

def mX4_once (fu : Nat) (μ : MS) (i1 : Int32) (i2 : Int32) : Option MS :=
  ob1 (if (((μ 14 0) >>> (i1 &&& 31)) &&& (1 : Int32)) = (1 : Int32) then ob1 (mX4_report fu μ (-2 : Int32) i2) fun μ5 => some μ5 else some μ) fun μ1 => ob1 (some (pf μ1 14 ((μ1 14 0) ||| ((1 : Int32) <<< (i1 &&& 31))))) fun μ6 => some μ6

def mX4_readStock (fu : Nat) (μ : MS) (i1 : Int32) : Option MS :=
  ob1 (rd (μ 9) 451 (1 : Int32)) fun x1 => ob1 (if x1 = (6 : Int32) then ob1 (mX4_report fu μ (-4 : Int32) i1) fun μ6 => some μ6 else some μ) fun μ2 => ob2 (mX4_number fu μ2 (0 : Int32) (9999 : Int32)) fun r7 μ8 => ob2 (mX4_number fu μ8 (1 : Int32) (9 : Int32)) fun r9 μ10 => ob1 (mX4_isGood fu μ10) fun r11 => (if r11 = 0 then some μ10 else ob1 (rd (μ10 9) 451 (1 : Int32)) fun x14 => ob1 (wra μ10 9 451 (((7 : Int32) + ((2 : Int32) * x14)) + (0 : Int32)) r7) fun μ15 => ob1 (rd (μ15 9) 451 (1 : Int32)) fun x16 => ob1 (wra μ15 9 451 (((7 : Int32) + ((2 : Int32) * x16)) + (1 : Int32)) r9) fun μ17 => ob1 (rd (μ17 9) 451 (1 : Int32)) fun x18 => ob1 (wra μ17 9 451 (1 : Int32) (x18 + (1 : Int32))) fun μ19 => some μ19)

def mX4_readStep (fu : Nat) (μ : MS) (i1 : Int32) (i2 : Int32) : Option MS :=
  ob1 (rd (μ 9) 451 (1 : Int32)) fun x1 => ob2 (mX4_number fu μ (0 : Int32) (x1 - (1 : Int32))) fun r2 μ3 => ob1 (mX4_isGood fu μ3) fun r4 => ob1 (ob1 (if r4 = 0 then some false else ob1 (rd (μ3 9) 451 (3 : Int32)) fun x12 => (if x12 = (40 : Int32) then some true else some false)) fun t9 => cnd t9 (ob1 (mX4_report fu μ3 (-4 : Int32) (μ3 13 0)) fun μ14 => some μ14) (some μ3)) fun μ6 => ob1 (mX4_expect fu μ6 (42 : Int32)) fun μ15 => ob2 (mX4_number fu μ15 (1 : Int32) (999 : Int32)) fun r16 μ17 => ob1 (mX4_expect fu μ17 (58 : Int32)) fun μ18 => ob2 (mX4_number fu μ18 (1 : Int32) (99 : Int32)) fun r19 μ20 => ob2 (mX4_takeWord fu μ20 16) fun r21 μ22 => ob2 (if r21 = 0 then some ((0 : Int32), μ22) else ob2 (mX4_number fu μ22 (0 : Int32) (9 : Int32)) fun r29 μ30 => some (r29, μ30)) fun v24 μ25 => ob2 (mX4_takeWord fu μ25 17) fun r31 μ32 => ob2 (if r31 = 0 then some ((0 : Int32), μ32) else ob2 (mX4_number fu μ32 (0 : Int32) (9 : Int32)) fun r39 μ40 => some (r39, μ40)) fun v34 μ35 => ob1 (mX4_isGood fu μ35) fun r41 => (if r41 = 0 then some μ35 else ob1 (rd (μ35 9) 451 (3 : Int32)) fun x44 => ob1 (wra μ35 9 451 (((91 : Int32) + ((9 : Int32) * x44)) + (0 : Int32)) i2) fun μ45 => ob1 (wra μ45 9 451 (((91 : Int32) + ((9 : Int32) * x44)) + (1 : Int32)) r2) fun μ46 => ob1 (wra μ46 9 451 (((91 : Int32) + ((9 : Int32) * x44)) + (2 : Int32)) r16) fun μ47 => ob1 (wra μ47 9 451 (((91 : Int32) + ((9 : Int32) * x44)) + (3 : Int32)) r19) fun μ48 => ob1 (wra μ48 9 451 (((91 : Int32) + ((9 : Int32) * x44)) + (4 : Int32)) (0 : Int32)) fun μ49 => ob1 (wra μ49 9 451 (((91 : Int32) + ((9 : Int32) * x44)) + (5 : Int32)) v24) fun μ50 => ob1 (wra μ50 9 451 (((91 : Int32) + ((9 : Int32) * x44)) + (6 : Int32)) v34) fun μ51 => ob1 (wra μ51 9 451 (((91 : Int32) + ((9 : Int32) * x44)) + (7 : Int32)) v34) fun μ52 => ob1 (wra μ52 9 451 (((91 : Int32) + ((9 : Int32) * x44)) + (8 : Int32)) (0 : Int32)) fun μ53 => ob1 (rd (μ53 9) 451 (3 : Int32)) fun x54 => ob1 (wra μ53 9 451 (3 : Int32) (x54 + (1 : Int32))) fun μ55 => ob1 (rd (μ55 9) 451 (((19 : Int32) + ((9 : Int32) * i1)) + (3 : Int32))) fun x56 => ob1 (wra μ55 9 451 (((19 : Int32) + ((9 : Int32) * i1)) + (3 : Int32)) (x56 + (1 : Int32))) fun μ57 => some μ57)

def mX4_readStage_L8 (fu : Nat) (p4 : Int32) (p5 : Int32) (v2 : Int32) (μ3 : MS) : Option ((MS ⊕ MS) ⊕ (Int32 × MS)) :=
  ob1 (mX4_isGood fu μ3) fun r6 => (if r6 = 0 then some (.inl (.inr μ3)) else ob2 (mX4_next fu μ3) fun r9 μ10 => ob2 (mX4_takeWord fu μ10 14) fun r11 μ12 => (if r11 = 0 then some (.inl (.inl μ12)) else ob1 (if v2 = (3 : Int32) then ob1 (mX4_report fu μ12 (-4 : Int32) (μ10 4 0)) fun μ19 => some μ19 else some μ12) fun μ15 => ob1 (mX4_readStep fu μ15 p4 p5) fun μ20 => some (.inr ((v2 + (1 : Int32)), μ20))))

def mX4_readStage (fu : Nat) (μ : MS) (i1 : Int32) (i2 : Int32) : Option MS :=
  ob1 (mX4_readStep fu μ i1 i2) fun μ1 => ob1 (loopM (fun st => mX4_readStage_L8 fu i1 i2 st.1 st.2) fu ((1 : Int32), μ1)) fun b26 => el1 b26 (fun r => some r) fun μ21 => some μ21

def mX4_readJourney_L113 (fu : Nat) (p22 : Int32) (p23 : Int32) (v19 : Int32) (v20 : Int32) (μ21 : MS) : Option (MS ⊕ (Int32 × Int32 × MS)) :=
  ob1 (mX4_isGood fu μ21) fun r24 => ob1 (if r24 = 0 then some false else (if v20 = 0 then some false else some true)) fun t26 => cnd t26 (ob1 (mX4_readStage fu μ21 p23 v19) fun μ30 => ob1 (wra μ30 9 451 (p22 + (2 : Int32)) (v19 + (1 : Int32))) fun μ31 => ob2 (mX4_next fu μ31) fun r32 μ33 => ob2 (mX4_takeWord fu μ33 15) fun r34 μ35 => ob1 (ob1 (if r34 = 0 then some false else (if (v19 + (1 : Int32)) = (5 : Int32) then some true else some false)) fun t40 => cnd t40 (ob1 (mX4_report fu μ35 (-4 : Int32) (μ33 4 0)) fun μ44 => some μ44) (some μ35)) fun μ37 => some (.inr ((v19 + (1 : Int32)), r34, μ37))) (some (.inl μ21))

def mX4_readJourney (fu : Nat) (μ : MS) (i1 : Int32) : Option MS :=
  ob1 (rd (μ 9) 451 (2 : Int32)) fun x1 => ob1 (if x1 = (8 : Int32) then ob1 (mX4_report fu μ (-4 : Int32) i1) fun μ6 => some μ6 else some μ) fun μ2 => ob1 (rd (μ2 9) 451 (2 : Int32)) fun x7 => ob2 (mX4_number fu μ2 (0 : Int32) (999 : Int32)) fun r8 μ9 => ob1 (mX4_isGood fu μ9) fun r10 => (if r10 = 0 then some μ9 else ob1 (wra μ9 9 451 (((19 : Int32) + ((9 : Int32) * x7)) + (0 : Int32)) (0 : Int32)) fun μ13 => ob1 (wra μ13 9 451 (((19 : Int32) + ((9 : Int32) * x7)) + (1 : Int32)) r8) fun μ14 => ob1 (wra μ14 9 451 (((19 : Int32) + ((9 : Int32) * x7)) + (4 : Int32)) (-1 : Int32)) fun μ15 => ob1 (wra μ15 9 451 (((19 : Int32) + ((9 : Int32) * x7)) + (5 : Int32)) (-1 : Int32)) fun μ16 => ob1 (rd (μ16 9) 451 (3 : Int32)) fun x17 => ob1 (wra μ16 9 451 (((19 : Int32) + ((9 : Int32) * x7)) + (6 : Int32)) x17) fun μ18 => ob1 (loopM (fun st => mX4_readJourney_L113 fu ((19 : Int32) + ((9 : Int32) * x7)) x7 st.1 st.2.1 st.2.2) fu ((0 : Int32), (1 : Int32), μ18)) fun μ45 => ob1 (rd (μ45 9) 451 (2 : Int32)) fun x50 => ob1 (wra μ45 9 451 (2 : Int32) (x50 + (1 : Int32))) fun μ51 => some μ51)

def mX4_statement (fu : Nat) (μ : MS) : Option MS :=
  ob2 (mX4_next fu μ) fun r1 μ2 => ob2 (mX4_takeWord fu μ2 10) fun r3 μ4 => ob1 (if r3 = 0 then ob2 (mX4_takeWord fu μ4 11) fun r10 μ11 => (if r10 = 0 then ob2 (mX4_takeWord fu μ11 12) fun r14 μ15 => (if r14 = 0 then ob2 (mX4_takeWord fu μ15 13) fun r18 μ19 => (if r18 = 0 then ob1 (mX4_report fu μ19 (-2 : Int32) (μ2 4 0)) fun μ22 => some μ22 else ob1 (mX4_once fu μ19 (1 : Int32) (μ2 4 0)) fun μ23 => ob2 (mX4_number fu μ23 (1 : Int32) (9 : Int32)) fun r24 μ25 => ob1 (wra μ25 9 451 (5 : Int32) r24) fun μ26 => some μ26) else ob1 (mX4_once fu μ15 (0 : Int32) (μ2 4 0)) fun μ27 => ob2 (mX4_number fu μ27 (1 : Int32) (99 : Int32)) fun r28 μ29 => ob1 (wra μ29 9 451 (4 : Int32) r28) fun μ30 => some μ30) else ob1 (mX4_readJourney fu μ11 (μ2 4 0)) fun μ31 => some μ31) else ob1 (mX4_readStock fu μ4 (μ2 4 0)) fun μ32 => some μ32) fun μ6 => ob1 (mX4_expect fu μ6 (59 : Int32)) fun μ33 => some μ33

def mX4_remember_L11 (fu : Nat)  (v5 : Int32) (μ6 : MS) : Option (MS ⊕ (Int32 × MS)) :=
  (if (8 : Int32) ≤ v5 then some (.inl μ6) else ob1 (hix v5) fun j8 => ob1 (hix (v5 - (1 : Int32))) fun j9 => ob1 (if j8 = j9 then none else mX4_copy fu (μ6 (20 + j8)) (μ6 (20 + j9))) fun f10 => ob1 (some (va_up μ6 (20 + j9) f10)) fun μ11 => some (.inr ((v5 + (1 : Int32)), μ11)))

def mX4_remember (fu : Nat) (μ : MS) : Option MS :=
  ob1 (if (μ 12 0) = (8 : Int32) then ob1 (loopM (fun st => mX4_remember_L11 fu st.1 st.2) fu ((1 : Int32), μ)) fun μ12 => ob1 (some (pf μ12 12 ((μ12 12 0) - (1 : Int32)))) fun μ17 => some μ17 else some μ) fun μ1 => ob1 (hix (μ1 12 0)) fun j27 => ob1 (mX4_copy fu (μ1 8) (μ1 (20 + j27))) fun f28 => ob1 (some (va_up μ1 (20 + j27) f28)) fun μ29 => ob1 (some (pf μ29 12 ((μ29 12 0) + (1 : Int32)))) fun μ30 => some μ30

def mX4_load_L94 (fu : Nat)   (μ30 : MS) : Option (MS ⊕ MS) :=
  ob1 (mX4_isGood fu μ30) fun r31 => ob2 (if r31 = 0 then some (false, μ30) else ob2 (mX4_next fu μ30) fun r37 μ38 => (if r37 = (-1 : Int32) then some (false, μ38) else some (true, μ38))) fun t33 μ34 => cnd t33 (ob1 (mX4_statement fu μ34) fun μ40 => some (.inr μ40)) (some (.inl μ34))

def mX4_load (fu : Nat) (μ : MS) (i1 : Int32) : Option (Int32 × MS) :=
  ob1 (some (pf μ 0 (0 : Int32))) fun μ1 => ob1 (mX4_in fu i1 (0 : Int32) (μ1 2 0)) fun r2 => ob1 (if r2 = 0 then some (1 : Int32) else some (0 : Int32)) fun v4 => ob2 (mX4_fails fu μ1 v4 (1 : Int32)) fun r9 μ10 => (if r9 = 0 then ob1 (some (pf μ10 2 (0 : Int32))) fun μ13 => ob1 (some (pf μ13 3 i1)) fun μ14 => ob1 (some (pf μ14 4 (0 : Int32))) fun μ15 => ob1 (some (pf μ15 5 (0 : Int32))) fun μ16 => ob1 (some (pf μ16 6 (-1 : Int32))) fun μ17 => ob1 (some (pf μ17 14 (0 : Int32))) fun μ18 => ob1 (mX4_layUsual fu (μ18 9)) fun f19 => ob1 (some (va_up μ18 9 f19)) fun μ20 => ob2 (mX4_takeWord fu μ20 9) fun r21 μ22 => ob1 (if r21 = 0 then ob1 (mX4_report fu μ22 (-2 : Int32) (μ22 4 0)) fun μ28 => some μ28 else some μ22) fun μ24 => ob1 (mX4_expect fu μ24 (59 : Int32)) fun μ29 => ob1 (loopM (fun st => mX4_load_L94 fu st) fu μ29) fun μ41 => ob1 (some (pf μ41 7 (μ41 6 0))) fun μ46 => ob1 (mX4_isGood fu μ46) fun r47 => (if r47 = 0 then some ((μ46 5 0), μ46) else ob1 (mX4_remember fu μ46) fun μ50 => ob1 (mX4_copy fu (μ50 9) (μ50 8)) fun f51 => ob1 (some (va_up μ50 8 f51)) fun μ52 => ob1 (rd (μ52 8) 451 (2 : Int32)) fun x53 => some (x53, μ52)) else some ((0 : Int32), μ10))

def mX4_errorOffset (fu : Nat) (μ : MS) : Option (Int32 × MS) :=
  ob1 (some (pf μ 0 (0 : Int32))) fun μ1 => some ((μ1 7 0), μ1)

def mX4_journeyAt (fu : Nat) (i1 : Int32) : Option Int32 :=
  some ((19 : Int32) + ((9 : Int32) * i1))

def mX4_ofJourney (fu : Nat) (μ : MS) (i1 : Int32) (i2 : Int32) : Option Int32 :=
  ob1 (mX4_journeyAt fu i1) fun r1 => ob1 (rd (μ 8) 451 (r1 + i2)) fun x2 => some x2

def mX4_stepAt (fu : Nat) (μ : MS) (i1 : Int32) (i2 : Int32) : Option Int32 :=
  ob1 (mX4_ofJourney fu μ i1 (6 : Int32)) fun r1 => some ((91 : Int32) + ((9 : Int32) * (r1 + i2)))

def mX4_stateOf (fu : Nat) (μ : MS) (i1 : Int32) (i2 : Int32) : Option Int32 :=
  ob1 (mX4_stepAt fu μ i1 i2) fun r1 => ob1 (rd (μ 8) 451 (r1 + (4 : Int32))) fun x2 => some x2

def mX4_hasEnded (fu : Nat) (μ : MS) (i1 : Int32) : Option Int32 :=
  ob1 (mX4_ofJourney fu μ i1 (0 : Int32)) fun r1 => ob1 (ob1 (if r1 = (3 : Int32) then some true else ob1 (mX4_ofJourney fu μ i1 (0 : Int32)) fun r9 => (if r9 = (4 : Int32) then some true else some false)) fun t6 => cnd t6 (some (1 : Int32)) (some (0 : Int32))) fun v2 => some v2

def mX4_isTaken (fu : Nat) (μ : MS) (i1 : Int32) (i2 : Int32) : Option Int32 :=
  ob1 (mX4_stateOf fu μ i1 i2) fun r1 => ob1 (ob1 (if r1 = (2 : Int32) then some true else ob1 (mX4_stateOf fu μ i1 i2) fun r9 => (if r9 = (3 : Int32) then some true else some false)) fun t6 => cnd t6 (some (1 : Int32)) (some (0 : Int32))) fun v2 => some v2

def mX4_holds_L12 (fu : Nat) (p6 : Int32) (p7 : Int32) (μ5 : MS) (v4 : Int32)  : Option ((Int32 ⊕ Unit) ⊕ Int32) :=
  ob1 (mX4_ofJourney fu μ5 p6 (3 : Int32)) fun r8 => (if r8 ≤ v4 then some (.inl (.inr ())) else ob1 (mX4_stepAt fu μ5 p6 v4) fun r10 => ob1 (rd (μ5 8) 451 (r10 + (1 : Int32))) fun x11 => ob1 (if x11 = p7 then ob1 (mX4_isTaken fu μ5 p6 v4) fun r15 => (if r15 = 0 then some false else some true) else some false) fun t12 => cnd t12 (some (.inl (.inl (1 : Int32)))) (some (.inr (v4 + (1 : Int32)))))

def mX4_holds (fu : Nat) (μ : MS) (i1 : Int32) (i2 : Int32) : Option Int32 :=
  ob1 (mX4_hasEnded fu μ i1) fun r1 => (if r1 = 0 then ob1 (loopM (fun st => mX4_holds_L12 fu i1 i2 μ st) fu (0 : Int32)) fun b22 => el1 b22 (fun r => some r) fun _ => some (0 : Int32) else some (0 : Int32))

def mX4_holders_L4 (fu : Nat) (p4 : Int32) (μ3 : MS) (v1 : Int32) (v2 : Int32)  : Option (Int32 ⊕ (Int32 × Int32)) :=
  ob1 (rd (μ3 8) 451 (2 : Int32)) fun x5 => (if x5 ≤ v1 then some (.inl v2) else ob1 (mX4_holds fu μ3 v1 p4) fun r7 => ob1 (if r7 = 0 then some (0 : Int32) else some (1 : Int32)) fun v9 => some (.inr ((v1 + (1 : Int32)), (v2 + v9))))

def mX4_holders (fu : Nat) (μ : MS) (i1 : Int32) : Option Int32 :=
  ob1 (loopM (fun st => mX4_holders_L4 fu i1 μ st.1 st.2) fu ((0 : Int32), (0 : Int32))) fun v14 => some v14

def mX4_levelAt (fu : Nat) (μ : MS) (i1 : Int32) : Option Int32 :=
  ob1 (rd (μ 8) 451 (i1 + (1 : Int32))) fun x1 => some (((7 : Int32) + ((2 : Int32) * x1)) + (0 : Int32))

def mX4_lastDone_L9 (fu : Nat) (p4 : Int32) (μ3 : MS) (v2 : Int32)  : Option (Int32 ⊕ Int32) :=
  ob1 (if v2 < 0 then some false else ob1 (mX4_stateOf fu μ3 p4 v2) fun r8 => (if r8 = (3 : Int32) then some false else some true)) fun t5 => cnd t5 (some (.inr (v2 + (-1 : Int32)))) (some (.inl v2))

def mX4_lastDone (fu : Nat) (μ : MS) (i1 : Int32) : Option Int32 :=
  ob1 (mX4_ofJourney fu μ i1 (3 : Int32)) fun r1 => ob1 (loopM (fun st => mX4_lastDone_L9 fu i1 μ st) fu (r1 - (1 : Int32))) fun v10 => some v10

def mX4_isSettled (fu : Nat) (μ : MS) (i1 : Int32) (i2 : Int32) : Option Int32 :=
  ob1 (mX4_stateOf fu μ i1 i2) fun r1 => ob1 (ob1 (if r1 = (3 : Int32) then some true else ob1 (mX4_stateOf fu μ i1 i2) fun r9 => (if r9 = (6 : Int32) then some true else some false)) fun t6 => cnd t6 (some (1 : Int32)) (some (0 : Int32))) fun v2 => some v2

def mX4_rest (fu : Nat) (μ : MS) (i1 : Int32) (i2 : Int32) : Option MS :=
  ob1 (mX4_journeyAt fu i1) fun r1 => ob1 (wra μ 8 451 (r1 + (0 : Int32)) i2) fun μ2 => ob1 (mX4_journeyAt fu i1) fun r3 => ob1 (rd (μ2 8) 451 (0 : Int32)) fun x4 => ob1 (wra μ2 8 451 (r3 + (5 : Int32)) x4) fun μ5 => ob1 (mX4_journeyAt fu i1) fun r6 => ob1 (wra μ5 8 451 (r6 + (4 : Int32)) (-1 : Int32)) fun μ7 => some μ7

def mX4_beReady (fu : Nat) (μ : MS) (i1 : Int32) : Option MS :=
  ob1 (wra μ 8 451 (i1 + (4 : Int32)) (1 : Int32)) fun μ1 => ob1 (wra μ1 8 451 (i1 + (8 : Int32)) (0 : Int32)) fun μ2 => some μ2

def mX4_present_L14 (fu : Nat) (p5 : Int32) (p6 : Int32) (v3 : Int32) (μ4 : MS) : Option (MS ⊕ (Int32 × MS)) :=
  ob1 (mX4_ofJourney fu μ4 p5 (3 : Int32)) fun r7 => (if r7 ≤ v3 then some (.inl μ4) else ob1 (mX4_stepAt fu μ4 p5 v3) fun r9 => ob1 (rd (μ4 8) 451 (r9 + (0 : Int32))) fun x10 => ob1 (ob1 (if x10 = p6 then ob1 (rd (μ4 8) 451 (r9 + (4 : Int32))) fun x17 => (if x17 = 0 then some true else some false) else some false) fun t14 => cnd t14 (ob1 (mX4_beReady fu μ4 r9) fun μ19 => some μ19) (some μ4)) fun μ11 => some (.inr ((v3 + (1 : Int32)), μ11)))

def mX4_present (fu : Nat) (μ : MS) (i1 : Int32) (i2 : Int32) : Option MS :=
  ob1 (mX4_journeyAt fu i1) fun r1 => ob1 (wra μ 8 451 (r1 + (4 : Int32)) i2) fun μ2 => ob1 (loopM (fun st => mX4_present_L14 fu i1 i2 st.1 st.2) fu ((0 : Int32), μ2)) fun μ20 => some μ20

def mX4_go (fu : Nat) (μ : MS) (i1 : Int32) (i2 : Int32) : Option MS :=
  ob1 (mX4_stepAt fu μ i1 i2) fun r1 => ob1 (rd (μ 8) 451 (r1 + (1 : Int32))) fun x2 => ob1 (rd (μ 8) 451 (r1 + (4 : Int32))) fun x3 => ob1 (ob1 (if x3 = (2 : Int32) then ob1 (rd (μ 8) 451 (0 : Int32)) fun x10 => ob1 (rd (μ 8) 451 (r1 + (8 : Int32))) fun x11 => ob1 (rd (μ 8) 451 (r1 + (3 : Int32))) fun x12 => (if (x10 - x11) < x12 then some false else some true) else some false) fun t7 => cnd t7 (ob1 (wra μ 8 451 (r1 + (4 : Int32)) (3 : Int32)) fun μ14 => some μ14) (ob1 (rd (μ 8) 451 (r1 + (4 : Int32))) fun x15 => (if x15 = (1 : Int32) then ob1 (mX4_holds fu μ i1 x2) fun r17 => ob1 (if r17 = 0 then ob1 (mX4_holders fu μ x2) fun r22 => ob1 (rd (μ 8) 451 (((7 : Int32) + ((2 : Int32) * x2)) + (1 : Int32))) fun x23 => (if r22 < x23 then some false else some true) else some false) fun t19 => cnd t19 (ob1 (rd (μ 8) 451 (r1 + (8 : Int32))) fun x25 => ob1 (rd (μ 8) 451 (4 : Int32)) fun x26 => (if x25 < x26 then ob1 (rd (μ 8) 451 (r1 + (8 : Int32))) fun x28 => ob1 (wra μ 8 451 (r1 + (8 : Int32)) (x28 + (1 : Int32))) fun μ29 => some μ29 else ob1 (wra μ 8 451 (r1 + (4 : Int32)) (4 : Int32)) fun μ30 => some μ30)) (ob1 (mX4_levelAt fu μ r1) fun r31 => ob1 (rd (μ 8) 451 r31) fun x32 => ob1 (rd (μ 8) 451 (r1 + (2 : Int32))) fun x33 => (if x33 ≤ x32 then ob1 (mX4_levelAt fu μ r1) fun r35 => ob1 (rd (μ 8) 451 r35) fun x36 => ob1 (rd (μ 8) 451 (r1 + (2 : Int32))) fun x37 => ob1 (wra μ 8 451 r35 (x36 - x37)) fun μ38 => ob1 (wra μ38 8 451 (r1 + (4 : Int32)) (2 : Int32)) fun μ39 => ob1 (rd (μ39 8) 451 (0 : Int32)) fun x40 => ob1 (wra μ39 8 451 (r1 + (8 : Int32)) x40) fun μ41 => some μ41 else ob1 (rd (μ 8) 451 (r1 + (6 : Int32))) fun x42 => (if x42 ≤ 0 then ob1 (wra μ 8 451 (r1 + (4 : Int32)) (4 : Int32)) fun μ44 => some μ44 else ob1 (rd (μ 8) 451 (r1 + (6 : Int32))) fun x45 => ob1 (wra μ 8 451 (r1 + (6 : Int32)) (x45 - (1 : Int32))) fun μ46 => some μ46))) else some μ))) fun μ4 => some μ4

def mX4_isAt (fu : Nat) (μ : MS) (i1 : Int32) (i2 : Int32) (i3 : Int32) : Option Int32 :=
  ob1 (mX4_stepAt fu μ i1 i2) fun r1 => ob1 (rd (μ 8) 451 (r1 + (0 : Int32))) fun x2 => ob1 (if x2 = i3 then some (1 : Int32) else some (0 : Int32)) fun v3 => some v3

def mX4_countAt_L6 (fu : Nat) (p4 : Int32) (p5 : Int32) (p6 : Int32) (μ3 : MS) (v1 : Int32) (v2 : Int32)  : Option (Int32 ⊕ (Int32 × Int32)) :=
  ob1 (mX4_ofJourney fu μ3 p4 (3 : Int32)) fun r7 => (if r7 ≤ v1 then some (.inl v2) else ob1 (mX4_isAt fu μ3 p4 v1 p5) fun r9 => ob1 (ob1 (if r9 = 0 then some false else ob1 (mX4_stateOf fu μ3 p4 v1) fun r18 => (if r18 = p6 then some true else some false)) fun t15 => cnd t15 (some (1 : Int32)) (some (0 : Int32))) fun v11 => some (.inr ((v1 + (1 : Int32)), (v2 + v11))))

def mX4_countAt (fu : Nat) (μ : MS) (i1 : Int32) (i2 : Int32) (i3 : Int32) : Option Int32 :=
  ob1 (loopM (fun st => mX4_countAt_L6 fu i1 i2 i3 μ st.1 st.2) fu ((0 : Int32), (0 : Int32))) fun v20 => some v20

def mX4_isOver_L2 (fu : Nat) (p3 : Int32) (p4 : Int32) (μ2 : MS) (v1 : Int32)  : Option ((Int32 ⊕ Unit) ⊕ Int32) :=
  ob1 (mX4_ofJourney fu μ2 p3 (3 : Int32)) fun r5 => (if r5 ≤ v1 then some (.inl (.inr ())) else ob1 (mX4_isAt fu μ2 p3 v1 p4) fun r7 => ob1 (if r7 = 0 then some false else ob1 (mX4_isSettled fu μ2 p3 v1) fun r12 => (if r12 = 0 then some true else some false)) fun t9 => cnd t9 (some (.inl (.inl (0 : Int32)))) (some (.inr (v1 + (1 : Int32)))))

def mX4_isOver (fu : Nat) (μ : MS) (i1 : Int32) (i2 : Int32) : Option Int32 :=
  ob1 (loopM (fun st => mX4_isOver_L2 fu i1 i2 μ st) fu (0 : Int32)) fun b19 => el1 b19 (fun r => some r) fun _ => some (1 : Int32)

def mX4_beUndoing (fu : Nat) (μ : MS) (i1 : Int32) : Option MS :=
  ob1 (mX4_journeyAt fu i1) fun r1 => ob1 (wra μ 8 451 (r1 + (0 : Int32)) (2 : Int32)) fun μ2 => ob1 (wra μ2 8 451 (r1 + (4 : Int32)) (-1 : Int32)) fun μ3 => ob1 (wra μ3 8 451 (r1 + (5 : Int32)) (-1 : Int32)) fun μ4 => ob1 (wra μ4 8 451 (r1 + (7 : Int32)) (0 : Int32)) fun μ5 => some μ5

def mX4_goOn_L9 (fu : Nat) (p4 : Int32) (p5 : Int32) (v2 : Int32) (μ3 : MS) : Option (MS ⊕ (Int32 × MS)) :=
  ob1 (mX4_ofJourney fu μ3 p5 (3 : Int32)) fun r6 => (if r6 ≤ v2 then some (.inl μ3) else ob1 (mX4_isAt fu μ3 p5 v2 p4) fun r8 => ob1 (if r8 = 0 then some μ3 else ob1 (mX4_go fu μ3 p5 v2) fun μ14 => some μ14) fun μ10 => some (.inr ((v2 + (1 : Int32)), μ10)))

def mX4_goOn_L93 (fu : Nat) (p27 : Int32) (p28 : Int32) (v25 : Int32) (μ26 : MS) : Option (MS ⊕ (Int32 × MS)) :=
  ob1 (mX4_ofJourney fu μ26 p28 (3 : Int32)) fun r29 => (if r29 ≤ v25 then some (.inl μ26) else ob1 (mX4_isAt fu μ26 p28 v25 p27) fun r31 => ob1 (ob1 (if r31 = 0 then some false else ob1 (mX4_stateOf fu μ26 p28 v25) fun r39 => (if r39 = (1 : Int32) then some true else some false)) fun t36 => cnd t36 (ob1 (mX4_stepAt fu μ26 p28 v25) fun r41 => ob1 (wra μ26 8 451 (r41 + (4 : Int32)) (0 : Int32)) fun μ42 => some μ42) (some μ26)) fun μ33 => some (.inr ((v25 + (1 : Int32)), μ33)))

def mX4_goOn (fu : Nat) (μ : MS) (i1 : Int32) : Option MS :=
  ob1 (mX4_ofJourney fu μ i1 (4 : Int32)) fun r1 => ob1 (loopM (fun st => mX4_goOn_L9 fu r1 i1 st.1 st.2) fu ((0 : Int32), μ)) fun μ15 => ob1 (mX4_isOver fu μ15 i1 r1) fun r20 => (if r20 = 0 then ob1 (mX4_countAt fu μ15 i1 r1 (4 : Int32)) fun r23 => (if r23 = 0 then some μ15 else ob1 (loopM (fun st => mX4_goOn_L93 fu r1 i1 st.1 st.2) fu ((0 : Int32), μ15)) fun μ43 => ob1 (mX4_countAt fu μ43 i1 r1 (2 : Int32)) fun r48 => ob1 (if r48 = 0 then ob1 (mX4_beUndoing fu μ43 i1) fun μ53 => some μ53 else some μ43) fun μ49 => some μ49) else ob1 (mX4_ofJourney fu μ15 i1 (2 : Int32)) fun r72 => ob1 (if (r1 + (1 : Int32)) = r72 then ob1 (mX4_rest fu μ15 i1 (3 : Int32)) fun μ78 => some μ78 else ob1 (mX4_present fu μ15 i1 (r1 + (1 : Int32))) fun μ77 => some μ77) fun μ73 => some μ73)

def mX4_putBack (fu : Nat) (μ : MS) (i1 : Int32) : Option MS :=
  ob1 (mX4_levelAt fu μ i1) fun r1 => ob1 (rd (μ 8) 451 r1) fun x2 => ob1 (rd (μ 8) 451 (i1 + (2 : Int32))) fun x3 => ob1 (wra μ 8 451 r1 (x2 + x3)) fun μ4 => ob1 (wra μ4 8 451 (i1 + (4 : Int32)) (5 : Int32)) fun μ5 => some μ5

def mX4_undoOne (fu : Nat) (μ : MS) (i1 : Int32) : Option MS :=
  ob1 (mX4_lastDone fu μ i1) fun r1 => ob1 (mX4_journeyAt fu i1) fun r2 => (if 0 ≤ r1 then ob1 (mX4_stepAt fu μ i1 r1) fun r4 => ob1 (rd (μ 8) 451 (r4 + (5 : Int32))) fun x5 => (if x5 = 0 then ob1 (mX4_putBack fu μ r4) fun μ20 => ob1 (wra μ20 8 451 (r2 + (7 : Int32)) (0 : Int32)) fun μ21 => some μ21 else ob1 (rd (μ 8) 451 (r4 + (5 : Int32))) fun x7 => ob1 (wra μ 8 451 (r4 + (5 : Int32)) (x7 - (1 : Int32))) fun μ8 => ob1 (rd (μ8 8) 451 (6 : Int32)) fun x9 => ob1 (wra μ8 8 451 (6 : Int32) (x9 + (1 : Int32))) fun μ10 => ob1 (rd (μ10 8) 451 (r2 + (7 : Int32))) fun x11 => ob1 (wra μ10 8 451 (r2 + (7 : Int32)) (x11 + (1 : Int32))) fun μ12 => ob1 (rd (μ12 8) 451 (r2 + (7 : Int32))) fun x13 => ob1 (rd (μ12 8) 451 (5 : Int32)) fun x14 => ob1 (if x13 = x14 then ob1 (mX4_rest fu μ12 i1 (5 : Int32)) fun μ19 => some μ19 else some μ12) fun μ15 => some μ15) else ob1 (mX4_rest fu μ i1 (4 : Int32)) fun μ22 => some μ22)

def mX4_tick_L2 (fu : Nat)  (v1 : Int32) (μ2 : MS) : Option (MS ⊕ (Int32 × MS)) :=
  ob1 (rd (μ2 8) 451 (2 : Int32)) fun x3 => (if x3 ≤ v1 then some (.inl μ2) else ob1 (mX4_journeyAt fu v1) fun r5 => ob1 (mX4_ofJourney fu μ2 v1 (0 : Int32)) fun r6 => ob1 (wra μ2 8 451 (r5 + (8 : Int32)) r6) fun μ7 => ob1 (mX4_ofJourney fu μ7 v1 (0 : Int32)) fun r8 => ob1 (if r8 = 0 then ob1 (mX4_ofJourney fu μ7 v1 (1 : Int32)) fun r13 => ob1 (rd (μ7 8) 451 (0 : Int32)) fun x14 => (if r13 = x14 then ob1 (mX4_journeyAt fu v1) fun r16 => ob1 (wra μ7 8 451 (r16 + (0 : Int32)) (1 : Int32)) fun μ17 => ob1 (mX4_present fu μ17 v1 (0 : Int32)) fun μ18 => some μ18 else some μ7) else some μ7) fun μ9 => some (.inr ((v1 + (1 : Int32)), μ9)))

def mX4_tick_L83 (fu : Nat)  (v24 : Int32) (μ25 : MS) : Option (MS ⊕ (Int32 × MS)) :=
  ob1 (rd (μ25 8) 451 (2 : Int32)) fun x26 => (if x26 ≤ v24 then some (.inl μ25) else ob1 (mX4_ofJourney fu μ25 v24 (0 : Int32)) fun r28 => ob1 (if r28 = (1 : Int32) then ob1 (mX4_goOn fu μ25 v24) fun μ33 => some μ33 else some μ25) fun μ29 => some (.inr ((v24 + (1 : Int32)), μ29)))

def mX4_tick_L116 (fu : Nat)  (v39 : Int32) (μ40 : MS) : Option (MS ⊕ (Int32 × MS)) :=
  ob1 (rd (μ40 8) 451 (2 : Int32)) fun x41 => (if x41 ≤ v39 then some (.inl μ40) else ob1 (mX4_ofJourney fu μ40 v39 (8 : Int32)) fun r43 => ob1 (if r43 = (2 : Int32) then ob1 (mX4_undoOne fu μ40 v39) fun μ48 => some μ48 else some μ40) fun μ44 => some (.inr ((v39 + (1 : Int32)), μ44)))

def mX4_tick (fu : Nat) (μ : MS) : Option MS :=
  ob1 (loopM (fun st => mX4_tick_L2 fu st.1 st.2) fu ((0 : Int32), μ)) fun μ19 => ob1 (loopM (fun st => mX4_tick_L83 fu st.1 st.2) fu ((0 : Int32), μ19)) fun μ34 => ob1 (loopM (fun st => mX4_tick_L116 fu st.1 st.2) fu ((0 : Int32), μ34)) fun μ49 => ob1 (rd (μ49 8) 451 (0 : Int32)) fun x54 => ob1 (wra μ49 8 451 (0 : Int32) (x54 + (1 : Int32))) fun μ55 => some μ55

def mX4_rests (fu : Nat) (μ : MS) (i1 : Int32) : Option Int32 :=
  ob1 (mX4_ofJourney fu μ i1 (0 : Int32)) fun r1 => ob1 (if r1 < (3 : Int32) then some (0 : Int32) else some (1 : Int32)) fun v2 => some v2

def mX4_noStock (fu : Nat) (μ : MS) (i1 : Int32) : Option (Int32 × MS) :=
  ob1 (rd (μ 8) 451 (1 : Int32)) fun x1 => ob1 (mX4_in fu i1 (0 : Int32) (x1 - (1 : Int32))) fun r2 => ob1 (if r2 = 0 then some (1 : Int32) else some (0 : Int32)) fun v4 => ob2 (mX4_fails fu μ v4 (1 : Int32)) fun r9 μ10 => some (r9, μ10)

def mX4_noJourney (fu : Nat) (μ : MS) (i1 : Int32) : Option (Int32 × MS) :=
  ob1 (rd (μ 8) 451 (2 : Int32)) fun x1 => ob1 (mX4_in fu i1 (0 : Int32) (x1 - (1 : Int32))) fun r2 => ob1 (if r2 = 0 then some (1 : Int32) else some (0 : Int32)) fun v4 => ob2 (mX4_fails fu μ v4 (1 : Int32)) fun r9 μ10 => some (r9, μ10)

def mX4_countOf_L4 (fu : Nat) (p4 : Int32) (μ3 : MS) (v1 : Int32) (v2 : Int32)  : Option (Int32 ⊕ (Int32 × Int32)) :=
  ob1 (rd (μ3 8) 451 (2 : Int32)) fun x5 => (if x5 ≤ v1 then some (.inl v2) else ob1 (mX4_ofJourney fu μ3 v1 (0 : Int32)) fun r7 => ob1 (if r7 = p4 then some (1 : Int32) else some (0 : Int32)) fun v8 => some (.inr ((v1 + (1 : Int32)), (v2 + v8))))

def mX4_countOf (fu : Nat) (μ : MS) (i1 : Int32) : Option Int32 :=
  ob1 (loopM (fun st => mX4_countOf_L4 fu i1 μ st.1 st.2) fu ((0 : Int32), (0 : Int32))) fun v13 => some v13

def mX4_told (fu : Nat) (μ : MS) (i1 : Int32) : Option Int32 :=
  ob1 (if (6 : Int32) ≤ i1 then (if (9 : Int32) ≤ i1 then ob1 (rd (μ 8) 451 (6 : Int32)) fun x6 => some x6 else ob1 (mX4_countOf fu μ (i1 - (3 : Int32))) fun r7 => some r7) else ob1 (rd (μ 8) 451 i1) fun x8 => some x8) fun v1 => some v1

def mX4_state (fu : Nat) (μ : MS) (i1 : Int32) : Option (Int32 × MS) :=
  ob1 (some (pf μ 0 (0 : Int32))) fun μ1 => ob1 (mX4_in fu i1 (0 : Int32) (9 : Int32)) fun r2 => ob1 (if r2 = 0 then some (1 : Int32) else some (0 : Int32)) fun v4 => ob2 (mX4_fails fu μ1 v4 (1 : Int32)) fun r9 μ10 => ob1 (if r9 = 0 then ob1 (mX4_told fu μ10 i1) fun r16 => some r16 else some (0 : Int32)) fun v12 => some (v12, μ10)

def mX4_sumOf_L19 (fu : Nat) (p11 : Int32) (p12 : Int32) (p13 : Int32) (μ10 : MS) (v8 : Int32) (v9 : Int32)  : Option (Int32 ⊕ (Int32 × Int32)) :=
  ob1 (mX4_ofJourney fu μ10 p11 (3 : Int32)) fun r14 => (if r14 ≤ v8 then some (.inl v9) else ob1 (mX4_stepAt fu μ10 p11 v8) fun r16 => ob1 (rd (μ10 8) 451 (r16 + (1 : Int32))) fun x17 => ob1 (if x17 = p12 then ob1 (if p13 = (5 : Int32) then ob1 (mX4_stateOf fu μ10 p11 v8) fun r36 => (if r36 = (6 : Int32) then some (1 : Int32) else some (0 : Int32)) else ob1 (mX4_isTaken fu μ10 p11 v8) fun r27 => (if r27 = 0 then some (0 : Int32) else (if p13 = (3 : Int32) then ob1 (mX4_hasEnded fu μ10 p11) fun r33 => (if r33 = 0 then some (1 : Int32) else some (0 : Int32)) else ob1 (mX4_ofJourney fu μ10 p11 (0 : Int32)) fun r31 => (if r31 = (3 : Int32) then some (1 : Int32) else some (0 : Int32))))) fun v22 => ob1 (if v22 = 0 then some (0 : Int32) else ob1 (mX4_stepAt fu μ10 p11 v8) fun r42 => ob1 (rd (μ10 8) 451 (r42 + (2 : Int32))) fun x43 => some x43) fun v38 => some (v9 + v38) else some v9) fun v18 => some (.inr ((v8 + (1 : Int32)), v18)))

def mX4_sumOf_L5 (fu : Nat) (p4 : Int32) (p5 : Int32) (μ3 : MS) (v1 : Int32) (v2 : Int32)  : Option (Int32 ⊕ (Int32 × Int32)) :=
  ob1 (rd (μ3 8) 451 (2 : Int32)) fun x6 => (if x6 ≤ v1 then some (.inl v2) else ob1 (loopM (fun st => mX4_sumOf_L19 fu v1 p4 p5 μ3 st.1 st.2) fu ((0 : Int32), v2)) fun v44 => some (.inr ((v1 + (1 : Int32)), v44)))

def mX4_sumOf (fu : Nat) (μ : MS) (i1 : Int32) (i2 : Int32) : Option Int32 :=
  ob1 (loopM (fun st => mX4_sumOf_L5 fu i1 i2 μ st.1 st.2) fu ((0 : Int32), (0 : Int32))) fun v83 => some v83

def mX4_toldStock (fu : Nat) (μ : MS) (i1 : Int32) (i2 : Int32) : Option Int32 :=
  ob1 (if (2 : Int32) ≤ i2 then (if i2 = (2 : Int32) then ob1 (mX4_holders fu μ i1) fun r7 => some r7 else ob1 (mX4_sumOf fu μ i1 i2) fun r6 => some r6) else ob1 (rd (μ 8) 451 (((7 : Int32) + ((2 : Int32) * i1)) + i2)) fun x8 => some x8) fun v1 => some v1

def mX4_stock (fu : Nat) (μ : MS) (i1 : Int32) (i2 : Int32) : Option (Int32 × MS) :=
  ob1 (some (pf μ 0 (0 : Int32))) fun μ1 => ob2 (mX4_noStock fu μ1 i1) fun r2 μ3 => ob2 (if r2 = 0 then ob1 (mX4_in fu i2 (0 : Int32) (5 : Int32)) fun r10 => ob1 (if r10 = 0 then some (1 : Int32) else some (0 : Int32)) fun v12 => ob2 (mX4_fails fu μ3 v12 (2 : Int32)) fun r17 μ18 => (if r17 = 0 then ob1 (mX4_toldStock fu μ18 i1 i2) fun r21 => some (r21, μ18) else some ((0 : Int32), μ18)) else some ((0 : Int32), μ3)) fun v5 μ6 => some (v5, μ6)

def mX4_toldJourney_L26 (fu : Nat) (p6 : Int32) (p7 : Int32) (μ5 : MS) (v3 : Int32) (v4 : Int32)  : Option (Int32 ⊕ (Int32 × Int32)) :=
  ob1 (mX4_ofJourney fu μ5 p7 (3 : Int32)) fun r8 => ob1 (if r8 ≤ v3 then some false else (if p6 = (2 : Int32) then some true else (if p6 = (5 : Int32) then some true else some false))) fun t9 => cnd t9 (ob1 (mX4_stateOf fu μ5 p7 v3) fun r14 => ob1 (if r14 = (3 : Int32) then ob1 (mX4_stepAt fu μ5 p7 v3) fun r19 => ob1 (rd (μ5 8) 451 (r19 + (2 : Int32))) fun x20 => some x20 else some (0 : Int32)) fun v15 => some (.inr ((v3 + (1 : Int32)), (v4 + v15)))) (some (.inl v4))

def mX4_toldJourney (fu : Nat) (μ : MS) (i1 : Int32) (i2 : Int32) : Option Int32 :=
  (if (6 : Int32) ≤ i2 then ob1 (mX4_ofJourney fu μ i1 (0 : Int32)) fun r2 => ob1 (loopM (fun st => mX4_toldJourney_L26 fu r2 i1 μ st.1 st.2) fu ((0 : Int32), (0 : Int32))) fun v21 => some v21 else ob1 (mX4_ofJourney fu μ i1 i2) fun r43 => some r43)

def mX4_journey (fu : Nat) (μ : MS) (i1 : Int32) (i2 : Int32) : Option (Int32 × MS) :=
  ob1 (some (pf μ 0 (0 : Int32))) fun μ1 => ob2 (mX4_noJourney fu μ1 i1) fun r2 μ3 => ob2 (if r2 = 0 then ob1 (mX4_in fu i2 (0 : Int32) (6 : Int32)) fun r10 => ob1 (if r10 = 0 then some (1 : Int32) else some (0 : Int32)) fun v12 => ob2 (mX4_fails fu μ3 v12 (2 : Int32)) fun r17 μ18 => (if r17 = 0 then ob1 (mX4_toldJourney fu μ18 i1 i2) fun r21 => some (r21, μ18) else some ((0 : Int32), μ18)) else some ((0 : Int32), μ3)) fun v5 μ6 => some (v5, μ6)

def mX4_step (fu : Nat) (μ : MS) (i1 : Int32) (i2 : Int32) (i3 : Int32) : Option (Int32 × MS) :=
  ob1 (some (pf μ 0 (0 : Int32))) fun μ1 => ob2 (mX4_noJourney fu μ1 i1) fun r2 μ3 => (if r2 = 0 then ob1 (mX4_ofJourney fu μ3 i1 (3 : Int32)) fun r6 => ob1 (mX4_in fu i2 (0 : Int32) (r6 - (1 : Int32))) fun r7 => ob1 (if r7 = 0 then some (1 : Int32) else some (0 : Int32)) fun v9 => ob2 (mX4_fails fu μ3 v9 (2 : Int32)) fun r14 μ15 => (if r14 = 0 then ob1 (mX4_in fu i3 (0 : Int32) (6 : Int32)) fun r18 => ob1 (if r18 = 0 then some (1 : Int32) else some (0 : Int32)) fun v20 => ob2 (mX4_fails fu μ15 v20 (3 : Int32)) fun r25 μ26 => (if r25 = 0 then ob1 (mX4_stepAt fu μ26 i1 i2) fun r29 => ob1 (rd (μ26 8) 451 (r29 + i3)) fun x30 => some (x30, μ26) else some ((0 : Int32), μ26)) else some ((0 : Int32), μ15)) else some ((0 : Int32), μ3))

def mX4_owed_L27 (fu : Nat) (p10 : Int32) (p11 : Int32) (μ9 : MS) (v7 : Int32) (v8 : Int32)  : Option (((Int32 × MS) ⊕ Unit) ⊕ (Int32 × Int32)) :=
  ob1 (if v7 < 0 then some false else (if p11 < 0 then some false else some true)) fun t12 => cnd t12 (ob1 (mX4_stateOf fu μ9 p10 v7) fun r16 => (if r16 = (3 : Int32) then (if v8 = 0 then some (.inl (.inl (v7, μ9))) else some (.inr ((v7 + (-1 : Int32)), (v8 + (-1 : Int32))))) else some (.inr ((v7 + (-1 : Int32)), v8)))) (some (.inl (.inr ())))

def mX4_owed (fu : Nat) (μ : MS) (i1 : Int32) (i2 : Int32) : Option (Int32 × MS) :=
  ob1 (some (pf μ 0 (0 : Int32))) fun μ1 => ob2 (mX4_noJourney fu μ1 i1) fun r2 μ3 => (if r2 = 0 then ob1 (mX4_ofJourney fu μ3 i1 (3 : Int32)) fun r6 => ob1 (loopM (fun st => mX4_owed_L27 fu i1 i2 μ3 st.1 st.2) fu ((r6 - (1 : Int32)), i2)) fun b24 => el1 b24 (fun r => some r) fun _ => ob1 (some (pf μ3 0 (2 : Int32))) fun μ23 => some ((0 : Int32), μ23) else some ((0 : Int32), μ3))

def mX4_restsIn_L28 (fu : Nat) (p10 : Int32) (v8 : Int32) (μ9 : MS) : Option ((Int32 × MS) ⊕ (Int32 × MS)) :=
  ob1 (if (3000 : Int32) ≤ v8 then some false else ob1 (mX4_rests fu μ9 p10) fun r14 => (if r14 = 0 then some true else some false)) fun t11 => cnd t11 (ob1 (mX4_tick fu μ9) fun μ17 => some (.inr ((v8 + (1 : Int32)), μ17))) (some (.inl (v8, μ9)))

def mX4_restsIn (fu : Nat) (μ : MS) (i1 : Int32) : Option (Int32 × MS) :=
  ob1 (some (pf μ 0 (0 : Int32))) fun μ1 => ob2 (mX4_noJourney fu μ1 i1) fun r2 μ3 => (if r2 = 0 then ob1 (mX4_copy fu (μ3 8) (μ3 10)) fun f6 => ob1 (some (va_up μ3 10 f6)) fun μ7 => ob2 (loopM (fun st => mX4_restsIn_L28 fu i1 st.1 st.2) fu ((0 : Int32), μ7)) fun v18 μ19 => ob1 (mX4_rests fu μ19 i1) fun r24 => ob1 (mX4_copy fu (μ19 10) (μ19 8)) fun f26 => ob1 (some (va_up μ19 8 f26)) fun μ27 => ob1 (if r24 = 0 then some (-1 : Int32) else some v18) fun v28 => some (v28, μ27) else some ((0 : Int32), μ3))

def mX4_stateAfter_L52 (fu : Nat) (p21 : Int32) (p22 : Int32) (v19 : Int32) (μ20 : MS) : Option (MS ⊕ (Int32 × MS)) :=
  ob1 (if p22 ≤ v19 then some false else ob1 (mX4_rests fu μ20 p21) fun r26 => (if r26 = 0 then some true else some false)) fun t23 => cnd t23 (ob1 (mX4_tick fu μ20) fun μ29 => some (.inr ((v19 + (1 : Int32)), μ29))) (some (.inl μ20))

def mX4_stateAfter (fu : Nat) (μ : MS) (i1 : Int32) (i2 : Int32) : Option (Int32 × MS) :=
  ob1 (some (pf μ 0 (0 : Int32))) fun μ1 => ob2 (mX4_noJourney fu μ1 i1) fun r2 μ3 => (if r2 = 0 then ob1 (mX4_in fu i2 (0 : Int32) (3000 : Int32)) fun r6 => ob1 (if r6 = 0 then some (1 : Int32) else some (0 : Int32)) fun v8 => ob2 (mX4_fails fu μ3 v8 (2 : Int32)) fun r13 μ14 => (if r13 = 0 then ob1 (mX4_copy fu (μ14 8) (μ14 10)) fun f17 => ob1 (some (va_up μ14 10 f17)) fun μ18 => ob1 (loopM (fun st => mX4_stateAfter_L52 fu i1 i2 st.1 st.2) fu ((0 : Int32), μ18)) fun μ30 => ob1 (mX4_ofJourney fu μ30 i1 (0 : Int32)) fun r35 => ob1 (mX4_copy fu (μ30 10) (μ30 8)) fun f36 => ob1 (some (va_up μ30 8 f36)) fun μ37 => some (r35, μ37) else some ((0 : Int32), μ14)) else some ((0 : Int32), μ3))

def mX4_help_L73 (fu : Nat) (p28 : Int32) (p29 : Int32) (p30 : Int32) (p31 : Int32) (v26 : Int32) (μ27 : MS) : Option (MS ⊕ (Int32 × MS)) :=
  ob1 (if (1100 : Int32) ≤ v26 then some false else ob1 (mX4_rests fu μ27 p30) fun r35 => (if r35 = 0 then some true else some false)) fun t32 => cnd t32 (ob1 (mX4_tick fu μ27) fun μ38 => some (.inr ((v26 + (1 : Int32)), μ38))) (some (.inl μ27))

def mX4_help_L39 (fu : Nat) (p18 : Int32) (p19 : Int32) (v15 : Int32) (v16 : Int32) (μ17 : MS) : Option ((Int32 × MS) ⊕ (Int32 × Int32 × MS)) :=
  ob1 (if (999 : Int32) < v15 then some false else (if v16 = (-1 : Int32) then some true else some false)) fun t20 => cnd t20 (ob1 (rd (μ17 8) 451 (((7 : Int32) + ((2 : Int32) * p19)) + (0 : Int32))) fun x24 => ob1 (wra μ17 8 451 (((7 : Int32) + ((2 : Int32) * p19)) + (0 : Int32)) (x24 + v15)) fun μ25 => ob1 (loopM (fun st => mX4_help_L73 fu v15 v16 p18 p19 st.1 st.2) fu ((0 : Int32), μ25)) fun μ39 => ob1 (mX4_ofJourney fu μ39 p18 (0 : Int32)) fun r44 => ob1 (if r44 = (3 : Int32) then some v15 else some v16) fun v45 => ob1 (mX4_copy fu (μ39 10) (μ39 8)) fun f49 => ob1 (some (va_up μ39 8 f49)) fun μ50 => some (.inr ((v15 + (1 : Int32)), v45, μ50))) (some (.inl (v16, μ17)))

def mX4_help (fu : Nat) (μ : MS) (i1 : Int32) (i2 : Int32) : Option (Int32 × MS) :=
  ob1 (some (pf μ 0 (0 : Int32))) fun μ1 => ob2 (mX4_noJourney fu μ1 i1) fun r2 μ3 => ob2 (if r2 = 0 then ob2 (mX4_noStock fu μ3 i2) fun r9 μ10 => (if r9 = 0 then some (false, μ10) else some (true, μ10)) else some (true, μ3)) fun t5 μ6 => cnd t5 (some ((0 : Int32), μ6)) (ob1 (mX4_copy fu (μ6 8) (μ6 10)) fun f13 => ob1 (some (va_up μ6 10 f13)) fun μ14 => ob2 (loopM (fun st => mX4_help_L39 fu i1 i2 st.1 st.2.1 st.2.2) fu ((0 : Int32), (-1 : Int32), μ14)) fun v62 μ63 => some (v62, μ63))

def mX4_pass_L63 (fu : Nat) (p22 : Int32) (p23 : Int32) (v20 : Int32) (μ21 : MS) : Option (MS ⊕ (Int32 × MS)) :=
  (if p23 ≤ v20 then some (.inl μ21) else ob1 (mX4_tick fu μ21) fun μ25 => some (.inr ((v20 + (1 : Int32)), μ25)))

def mX4_pass (fu : Nat) (μ : MS) (i1 : Int32) : Option (Int32 × MS) :=
  ob1 (some (pf μ 0 (0 : Int32))) fun μ1 => ob1 (mX4_in fu i1 (1 : Int32) (200 : Int32)) fun r2 => ob1 (ob1 (if r2 = 0 then some true else ob1 (rd (μ1 8) 451 (0 : Int32)) fun x11 => (if (x11 + i1) ≤ (9999 : Int32) then some false else some true)) fun t8 => cnd t8 (some (1 : Int32)) (some (0 : Int32))) fun v4 => ob2 (mX4_fails fu μ1 v4 (1 : Int32)) fun r13 μ14 => (if r13 = 0 then ob1 (mX4_remember fu μ14) fun μ17 => ob1 (mX4_countOf fu μ17 (3 : Int32)) fun r18 => ob1 (mX4_countOf fu μ17 (4 : Int32)) fun r19 => ob1 (loopM (fun st => mX4_pass_L63 fu (r18 + r19) i1 st.1 st.2) fu ((0 : Int32), μ17)) fun μ26 => ob1 (mX4_countOf fu μ26 (3 : Int32)) fun r31 => ob1 (mX4_countOf fu μ26 (4 : Int32)) fun r32 => some (((r31 + r32) - (r18 + r19)), μ26) else some ((0 : Int32), μ14))

def mX4_notParked (fu : Nat) (μ : MS) (i1 : Int32) : Option (Int32 × MS) :=
  ob2 (mX4_noJourney fu μ i1) fun r1 μ2 => ob2 (if r1 = 0 then ob1 (mX4_ofJourney fu μ2 i1 (0 : Int32)) fun r10 => ob1 (if r10 = (5 : Int32) then some (0 : Int32) else some (1 : Int32)) fun v11 => ob2 (mX4_fails fu μ2 v11 (2 : Int32)) fun r16 μ17 => (if r16 = 0 then some ((0 : Int32), μ17) else some ((1 : Int32), μ17)) else some ((1 : Int32), μ2)) fun v4 μ6 => some (v4, μ6)

def mX4_settle (fu : Nat) (μ : MS) (i1 : Int32) : Option (Int32 × MS) :=
  ob1 (some (pf μ 0 (0 : Int32))) fun μ1 => ob2 (mX4_notParked fu μ1 i1) fun r2 μ3 => (if r2 = 0 then ob1 (mX4_remember fu μ3) fun μ6 => ob1 (mX4_lastDone fu μ6 i1) fun r7 => ob1 (mX4_stepAt fu μ6 i1 r7) fun r8 => ob1 (mX4_putBack fu μ6 r8) fun μ9 => ob1 (mX4_beUndoing fu μ9 i1) fun μ10 => some (r7, μ10) else some ((0 : Int32), μ3))

def mX4_writeOff (fu : Nat) (μ : MS) (i1 : Int32) : Option (Int32 × MS) :=
  ob1 (some (pf μ 0 (0 : Int32))) fun μ1 => ob2 (mX4_notParked fu μ1 i1) fun r2 μ3 => (if r2 = 0 then ob1 (mX4_remember fu μ3) fun μ6 => ob1 (mX4_lastDone fu μ6 i1) fun r7 => ob1 (mX4_stepAt fu μ6 i1 r7) fun r8 => ob1 (wra μ6 8 451 (r8 + (4 : Int32)) (6 : Int32)) fun μ9 => ob1 (mX4_beUndoing fu μ9 i1) fun μ10 => some (r7, μ10) else some ((0 : Int32), μ3))

def mX4_goForward_L21 (fu : Nat) (p9 : Int32) (μ8 : MS) (v7 : Int32)  : Option (Int32 ⊕ Int32) :=
  ob1 (mX4_ofJourney fu μ8 p9 (2 : Int32)) fun r10 => ob1 (if r10 ≤ v7 then some false else ob1 (mX4_isOver fu μ8 p9 v7) fun r14 => (if r14 = 0 then some false else some true)) fun t11 => cnd t11 (some (.inr (v7 + (1 : Int32)))) (some (.inl v7))

def mX4_goForward_L60 (fu : Nat) (p26 : Int32) (p27 : Int32) (v24 : Int32) (μ25 : MS) : Option (MS ⊕ (Int32 × MS)) :=
  ob1 (mX4_ofJourney fu μ25 p27 (3 : Int32)) fun r28 => (if r28 ≤ v24 then some (.inl μ25) else ob1 (mX4_stepAt fu μ25 p27 v24) fun r30 => ob1 (mX4_isSettled fu μ25 p27 v24) fun r31 => ob1 (if r31 = 0 then ob1 (rd (μ25 8) 451 (r30 + (0 : Int32))) fun x37 => (if p26 ≤ x37 then ob1 (wra μ25 8 451 (r30 + (4 : Int32)) (0 : Int32)) fun μ39 => ob1 (rd (μ39 8) 451 (r30 + (7 : Int32))) fun x40 => ob1 (wra μ39 8 451 (r30 + (6 : Int32)) x40) fun μ41 => some μ41 else some μ25) else some μ25) fun μ33 => some (.inr ((v24 + (1 : Int32)), μ33)))

def mX4_goForward (fu : Nat) (μ : MS) (i1 : Int32) : Option (Int32 × MS) :=
  ob1 (some (pf μ 0 (0 : Int32))) fun μ1 => ob2 (mX4_notParked fu μ1 i1) fun r2 μ3 => (if r2 = 0 then ob1 (mX4_remember fu μ3) fun μ6 => ob1 (loopM (fun st => mX4_goForward_L21 fu i1 μ6 st) fu (0 : Int32)) fun v17 => ob1 (mX4_ofJourney fu μ6 i1 (2 : Int32)) fun r22 => (if v17 = r22 then some ((-1 : Int32), μ6) else ob1 (loopM (fun st => mX4_goForward_L60 fu v17 i1 st.1 st.2) fu ((0 : Int32), μ6)) fun μ42 => ob1 (mX4_journeyAt fu i1) fun r47 => ob1 (wra μ42 8 451 (r47 + (0 : Int32)) (1 : Int32)) fun μ48 => ob1 (mX4_journeyAt fu i1) fun r49 => ob1 (wra μ48 8 451 (r49 + (5 : Int32)) (-1 : Int32)) fun μ50 => ob1 (mX4_present fu μ50 i1 v17) fun μ51 => some (v17, μ51)) else some ((0 : Int32), μ3))

def mX4_restock (fu : Nat) (μ : MS) (i1 : Int32) (i2 : Int32) : Option (Int32 × MS) :=
  ob1 (some (pf μ 0 (0 : Int32))) fun μ1 => ob2 (mX4_noStock fu μ1 i1) fun r2 μ3 => (if r2 = 0 then ob1 (mX4_in fu i2 (1 : Int32) (999 : Int32)) fun r6 => ob1 (if r6 = 0 then some (1 : Int32) else some (0 : Int32)) fun v8 => ob2 (mX4_fails fu μ3 v8 (2 : Int32)) fun r13 μ14 => (if r13 = 0 then ob1 (mX4_remember fu μ14) fun μ17 => ob1 (rd (μ17 8) 451 (((7 : Int32) + ((2 : Int32) * i1)) + (0 : Int32))) fun x18 => ob1 (wra μ17 8 451 (((7 : Int32) + ((2 : Int32) * i1)) + (0 : Int32)) (x18 + i2)) fun μ19 => ob1 (rd (μ19 8) 451 (((7 : Int32) + ((2 : Int32) * i1)) + (0 : Int32))) fun x20 => some (x20, μ19) else some ((0 : Int32), μ14)) else some ((0 : Int32), μ3))

def mX4_undo (fu : Nat) (μ : MS) : Option (Int32 × MS) :=
  ob1 (some (pf μ 0 (0 : Int32))) fun μ1 => (if (μ1 12 0) = 0 then some ((-1 : Int32), μ1) else ob1 (some (pf μ1 12 ((μ1 12 0) - (1 : Int32)))) fun μ3 => ob1 (hix (μ3 12 0)) fun j4 => ob1 (mX4_copy fu (μ3 (20 + j4)) (μ3 8)) fun f5 => ob1 (some (va_up μ3 8 f5)) fun μ6 => some ((μ6 12 0), μ6))

def mX4_checksum_L9 (fu : Nat) (μ4 : MS) (v2 : Int32) (v3 : Int64)  : Option (Int64 ⊕ (Int32 × Int64)) :=
  (if (10 : Int32) ≤ v2 then some (.inl v3) else ob1 (mX4_told fu μ4 v2) fun r6 => some (.inr ((v2 + (1 : Int32)), (((31 : Int64) * v3) + (r6.toInt64)))))

def mX4_checksum_L49 (fu : Nat) (p20 : Int32) (μ19 : MS) (v17 : Int32) (v18 : Int64)  : Option (Int64 ⊕ (Int32 × Int64)) :=
  (if (6 : Int32) ≤ v17 then some (.inl v18) else ob1 (mX4_toldStock fu μ19 p20 v17) fun r22 => some (.inr ((v17 + (1 : Int32)), (((31 : Int64) * v18) + (r22.toInt64)))))

def mX4_checksum_L36 (fu : Nat) (μ14 : MS) (v12 : Int32) (v13 : Int64)  : Option (Int64 ⊕ (Int32 × Int64)) :=
  ob1 (rd (μ14 8) 451 (1 : Int32)) fun x15 => (if x15 ≤ v12 then some (.inl v13) else ob1 (loopM (fun st => mX4_checksum_L49 fu v12 μ14 st.1 st.2) fu ((0 : Int32), v13)) fun v23 => some (.inr ((v12 + (1 : Int32)), v23)))

def mX4_checksum_L98 (fu : Nat) (p47 : Int32) (μ46 : MS) (v44 : Int32) (v45 : Int64)  : Option (Int64 ⊕ (Int32 × Int64)) :=
  (if (7 : Int32) ≤ v44 then some (.inl v45) else ob1 (mX4_toldJourney fu μ46 p47 v44) fun r49 => some (.inr ((v44 + (1 : Int32)), (((31 : Int64) * v45) + (r49.toInt64)))))

def mX4_checksum_L143 (fu : Nat) (p64 : Int32) (p65 : Int32) (μ63 : MS) (v61 : Int32) (v62 : Int64)  : Option (Int64 ⊕ (Int32 × Int64)) :=
  (if (6 : Int32) < v61 then some (.inl v62) else ob1 (mX4_stepAt fu μ63 p65 p64) fun r67 => ob1 (rd (μ63 8) 451 (r67 + v61)) fun x68 => some (.inr ((v61 + (1 : Int32)), (((31 : Int64) * v62) + (x68.toInt64)))))

def mX4_checksum_L129 (fu : Nat) (p58 : Int32) (μ57 : MS) (v55 : Int32) (v56 : Int64)  : Option (Int64 ⊕ (Int32 × Int64)) :=
  ob1 (mX4_ofJourney fu μ57 p58 (3 : Int32)) fun r59 => (if r59 ≤ v55 then some (.inl v56) else ob1 (loopM (fun st => mX4_checksum_L143 fu v55 p58 μ57 st.1 st.2) fu ((4 : Int32), v56)) fun v69 => some (.inr ((v55 + (1 : Int32)), v69)))

def mX4_checksum_L85 (fu : Nat) (μ41 : MS) (v39 : Int32) (v40 : Int64)  : Option (Int64 ⊕ (Int32 × Int64)) :=
  ob1 (rd (μ41 8) 451 (2 : Int32)) fun x42 => (if x42 ≤ v39 then some (.inl v40) else ob1 (loopM (fun st => mX4_checksum_L98 fu v39 μ41 st.1 st.2) fu ((0 : Int32), v40)) fun v50 => ob1 (loopM (fun st => mX4_checksum_L129 fu v39 μ41 st.1 st.2) fu ((0 : Int32), v50)) fun v81 => some (.inr ((v39 + (1 : Int32)), v81)))

def mX4_checksum (fu : Nat) (μ : MS) : Option (Int64 × MS) :=
  ob1 (some (pf μ 0 (0 : Int32))) fun μ1 => ob1 (loopM (fun st => mX4_checksum_L9 fu μ1 st.1 st.2) fu ((0 : Int32), (0 : Int64))) fun v7 => ob1 (loopM (fun st => mX4_checksum_L36 fu μ1 st.1 st.2) fu ((0 : Int32), v7)) fun v34 => ob1 (loopM (fun st => mX4_checksum_L85 fu μ1 st.1 st.2) fu ((0 : Int32), v34)) fun v115 => some (v115, μ1)

