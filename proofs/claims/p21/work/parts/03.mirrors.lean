/-! the cells of each family -/
def cS (cyI : ClassId) (bd : Nat → Nat) (τ : MS) : va_W := [(bd 0, .inr (0, [.int (τ 0 0), .int (τ 1 0), .int (τ 2 0), .ref (bd 3), .ref (bd 4), .int (τ 5 0), .ref (bd 6), .ref (bd 7), .ref (bd 8), .ref (bd 9), .int (τ 10 0), .ref (bd 11), .ref (bd 12), .ref (bd 13), .ref (bd 14), .ref (bd 15), .ref (bd 16)])), (bd 3, .inl (cyI, 6, .inl (τ 3))), (bd 4, .inl (cyI, 6, .inl (τ 4))), (bd 6, .inl (cyI, 8, .inl (τ 6))), (bd 7, .inl (cyI, 8, .inl (τ 7))), (bd 8, .inl (cyI, 8, .inl (τ 8))), (bd 9, .inl (cyI, 8, .inl (τ 9))), (bd 11, .inl (cyI, 40, .inl (τ 11))), (bd 12, .inl (cyI, 40, .inl (τ 12))), (bd 13, .inl (cyI, 40, .inl (τ 13))), (bd 14, .inl (cyI, 40, .inl (τ 14))), (bd 15, .inl (cyI, 40, .inl (τ 15))), (bd 16, .inl (cyI, 40, .inl (τ 16)))]
def cW (cyI : ClassId) (ad bd : Nat → Nat) (τ : MS) (σ : MS) : va_W := [(ad 0, .inr (2, [.ref (bd 0), .int (σ 1 0), .int (σ 2 0), .ref (ad 3), .ref (ad 4), .ref (ad 5), .ref (ad 6), .ref (ad 7), .ref (ad 8), .ref (ad 9), .ref (ad 10), .ref (ad 11), .ref (ad 12), .ref (ad 13)])), (ad 3, .inl (cyI, 6, .inl (σ 3))), (ad 4, .inl (cyI, 6, .inl (σ 4))), (ad 5, .inl (cyI, 8, .inl (σ 5))), (ad 6, .inl (cyI, 8, .inl (σ 6))), (ad 7, .inl (cyI, 8, .inl (σ 7))), (ad 8, .inl (cyI, 8, .inl (σ 8))), (ad 9, .inl (cyI, 40, .inl (σ 9))), (ad 10, .inl (cyI, 40, .inl (σ 10))), (ad 11, .inl (cyI, 40, .inl (σ 11))), (ad 12, .inl (cyI, 40, .inl (σ 12))), (ad 13, .inl (cyI, 40, .inl (σ 13))), (bd 0, .inr (0, [.int (τ 0 0), .int (τ 1 0), .int (τ 2 0), .ref (bd 3), .ref (bd 4), .int (τ 5 0), .ref (bd 6), .ref (bd 7), .ref (bd 8), .ref (bd 9), .int (τ 10 0), .ref (bd 11), .ref (bd 12), .ref (bd 13), .ref (bd 14), .ref (bd 15), .ref (bd 16)])), (bd 3, .inl (cyI, 6, .inl (τ 3))), (bd 4, .inl (cyI, 6, .inl (τ 4))), (bd 6, .inl (cyI, 8, .inl (τ 6))), (bd 7, .inl (cyI, 8, .inl (τ 7))), (bd 8, .inl (cyI, 8, .inl (τ 8))), (bd 9, .inl (cyI, 8, .inl (τ 9))), (bd 11, .inl (cyI, 40, .inl (τ 11))), (bd 12, .inl (cyI, 40, .inl (τ 12))), (bd 13, .inl (cyI, 40, .inl (τ 13))), (bd 14, .inl (cyI, 40, .inl (τ 14))), (bd 15, .inl (cyI, 40, .inl (τ 15))), (bd 16, .inl (cyI, 40, .inl (τ 16)))]
def cB (cyI : ClassId) (ad bd : Nat → Nat) (bs : Nat) (τ σ : MS) : va_W := [(ad 0, .inr (2, [.ref bs, .int (σ 1 0), .int (σ 2 0), .ref (ad 3), .ref (ad 4), .ref (ad 5), .ref (ad 6), .ref (ad 7), .ref (ad 8), .ref (ad 9), .ref (ad 10), .ref (ad 11), .ref (ad 12), .ref (ad 13)])), (ad 3, .inl (cyI, 6, .inl (σ 3))), (ad 4, .inl (cyI, 6, .inl (σ 4))), (ad 5, .inl (cyI, 8, .inl (σ 5))), (ad 6, .inl (cyI, 8, .inl (σ 6))), (ad 7, .inl (cyI, 8, .inl (σ 7))), (ad 8, .inl (cyI, 8, .inl (σ 8))), (ad 9, .inl (cyI, 40, .inl (σ 9))), (ad 10, .inl (cyI, 40, .inl (σ 10))), (ad 11, .inl (cyI, 40, .inl (σ 11))), (ad 12, .inl (cyI, 40, .inl (σ 12))), (ad 13, .inl (cyI, 40, .inl (σ 13))), (bd 0, .inr (0, [.int (τ 0 0), .int (τ 1 0), .int (τ 2 0), .ref (bd 3), .ref (bd 4), .int (τ 5 0), .ref (bd 6), .ref (bd 7), .ref (bd 8), .ref (bd 9), .int (τ 10 0), .ref (bd 11), .ref (bd 12), .ref (bd 13), .ref (bd 14), .ref (bd 15), .ref (bd 16)])), (bd 3, .inl (cyI, 6, .inl (τ 3))), (bd 4, .inl (cyI, 6, .inl (τ 4))), (bd 6, .inl (cyI, 8, .inl (τ 6))), (bd 7, .inl (cyI, 8, .inl (τ 7))), (bd 8, .inl (cyI, 8, .inl (τ 8))), (bd 9, .inl (cyI, 8, .inl (τ 9))), (bd 11, .inl (cyI, 40, .inl (τ 11))), (bd 12, .inl (cyI, 40, .inl (τ 12))), (bd 13, .inl (cyI, 40, .inl (τ 13))), (bd 14, .inl (cyI, 40, .inl (τ 14))), (bd 15, .inl (cyI, 40, .inl (τ 15))), (bd 16, .inl (cyI, 40, .inl (τ 16)))]
def cC (cyI : ClassId) (ad ae : Nat → Nat) (bo bs : Nat) (σo σ : MS) : va_W := [(ad 0, .inr (2, [.ref bs, .int (σ 1 0), .int (σ 2 0), .ref (ad 3), .ref (ad 4), .ref (ad 5), .ref (ad 6), .ref (ad 7), .ref (ad 8), .ref (ad 9), .ref (ad 10), .ref (ad 11), .ref (ad 12), .ref (ad 13)])), (ad 3, .inl (cyI, 6, .inl (σ 3))), (ad 4, .inl (cyI, 6, .inl (σ 4))), (ad 5, .inl (cyI, 8, .inl (σ 5))), (ad 6, .inl (cyI, 8, .inl (σ 6))), (ad 7, .inl (cyI, 8, .inl (σ 7))), (ad 8, .inl (cyI, 8, .inl (σ 8))), (ad 9, .inl (cyI, 40, .inl (σ 9))), (ad 10, .inl (cyI, 40, .inl (σ 10))), (ad 11, .inl (cyI, 40, .inl (σ 11))), (ad 12, .inl (cyI, 40, .inl (σ 12))), (ad 13, .inl (cyI, 40, .inl (σ 13))), (ae 0, .inr (2, [.ref bo, .int (σo 1 0), .int (σo 2 0), .ref (ae 3), .ref (ae 4), .ref (ae 5), .ref (ae 6), .ref (ae 7), .ref (ae 8), .ref (ae 9), .ref (ae 10), .ref (ae 11), .ref (ae 12), .ref (ae 13)])), (ae 3, .inl (cyI, 6, .inl (σo 3))), (ae 4, .inl (cyI, 6, .inl (σo 4))), (ae 5, .inl (cyI, 8, .inl (σo 5))), (ae 6, .inl (cyI, 8, .inl (σo 6))), (ae 7, .inl (cyI, 8, .inl (σo 7))), (ae 8, .inl (cyI, 8, .inl (σo 8))), (ae 9, .inl (cyI, 40, .inl (σo 9))), (ae 10, .inl (cyI, 40, .inl (σo 10))), (ae 11, .inl (cyI, 40, .inl (σo 11))), (ae 12, .inl (cyI, 40, .inl (σo 12))), (ae 13, .inl (cyI, 40, .inl (σo 13)))]
def cW1 (cyI : ClassId) (ad : Nat → Nat) (bs : Nat) (σ : MS) : va_W := [(ad 0, .inr (2, [.ref bs, .int (σ 1 0), .int (σ 2 0), .ref (ad 3), .ref (ad 4), .ref (ad 5), .ref (ad 6), .ref (ad 7), .ref (ad 8), .ref (ad 9), .ref (ad 10), .ref (ad 11), .ref (ad 12), .ref (ad 13)])), (ad 3, .inl (cyI, 6, .inl (σ 3))), (ad 4, .inl (cyI, 6, .inl (σ 4))), (ad 5, .inl (cyI, 8, .inl (σ 5))), (ad 6, .inl (cyI, 8, .inl (σ 6))), (ad 7, .inl (cyI, 8, .inl (σ 7))), (ad 8, .inl (cyI, 8, .inl (σ 8))), (ad 9, .inl (cyI, 40, .inl (σ 9))), (ad 10, .inl (cyI, 40, .inl (σ 10))), (ad 11, .inl (cyI, 40, .inl (σ 11))), (ad 12, .inl (cyI, 40, .inl (σ 12))), (ad 13, .inl (cyI, 40, .inl (σ 13)))]
theorem cW_perm (cyI : ClassId) (ad bd : Nat → Nat) (τ σ : MS) : (cW cyI ad bd τ σ).Perm (cS cyI bd τ ++ cW1 cyI ad (bd 0) σ) := (show cW cyI ad bd τ σ = cW1 cyI ad (bd 0) σ ++ cS cyI bd τ from rfl) ▸ List.perm_append_comm
def cR (cyI cyB : ClassId) (rd0 tx : Nat) (bd : Nat → Nat) (β : FS) (τ : MS) (ρ : MS) : va_W := [(rd0, .inr (1, [.ref (bd 0), .int (ρ 1 0), .int (ρ 2 0), .ref tx, .int (ρ 4 0), .int (ρ 5 0), .int (ρ 6 0), .int (ρ 7 0), .int (ρ 8 0), .int (ρ 9 0), .int (ρ 10 0)])), (tx, .inl (cyB, 700, .inl β)), (bd 0, .inr (0, [.int (τ 0 0), .int (τ 1 0), .int (τ 2 0), .ref (bd 3), .ref (bd 4), .int (τ 5 0), .ref (bd 6), .ref (bd 7), .ref (bd 8), .ref (bd 9), .int (τ 10 0), .ref (bd 11), .ref (bd 12), .ref (bd 13), .ref (bd 14), .ref (bd 15), .ref (bd 16)])), (bd 3, .inl (cyI, 6, .inl (τ 3))), (bd 4, .inl (cyI, 6, .inl (τ 4))), (bd 6, .inl (cyI, 8, .inl (τ 6))), (bd 7, .inl (cyI, 8, .inl (τ 7))), (bd 8, .inl (cyI, 8, .inl (τ 8))), (bd 9, .inl (cyI, 8, .inl (τ 9))), (bd 11, .inl (cyI, 40, .inl (τ 11))), (bd 12, .inl (cyI, 40, .inl (τ 12))), (bd 13, .inl (cyI, 40, .inl (τ 13))), (bd 14, .inl (cyI, 40, .inl (τ 14))), (bd 15, .inl (cyI, 40, .inl (τ 15))), (bd 16, .inl (cyI, 40, .inl (τ 16)))]
def cR1 (cyB : ClassId) (rd0 tx : Nat) (bs : Nat) (β : FS) (ρ : MS) : va_W := [(rd0, .inr (1, [.ref bs, .int (ρ 1 0), .int (ρ 2 0), .ref tx, .int (ρ 4 0), .int (ρ 5 0), .int (ρ 6 0), .int (ρ 7 0), .int (ρ 8 0), .int (ρ 9 0), .int (ρ 10 0)])), (tx, .inl (cyB, 700, .inl β))]
theorem cR_perm (cyI cyB : ClassId) (rd0 tx : Nat) (bd : Nat → Nat) (β : FS) (τ ρ : MS) : (cR cyI cyB rd0 tx bd β τ ρ).Perm (cS cyI bd τ ++ cR1 cyB rd0 tx (bd 0) β ρ) := (show cR cyI cyB rd0 tx bd β τ ρ = cR1 cyB rd0 tx (bd 0) β ρ ++ cS cyI bd τ from rfl) ▸ List.perm_append_comm
def mX0_stepsOf (fu : Nat) (τ : MS) (i1 : Int32) : Option Int32 :=
  ob1 (rd (τ 9) 8 i1) fun x1 => ob1 (rd (τ 8) 8 i1) fun x2 => some (x1 - x2)

def mX0_hasRoomForStock (fu : Nat) (τ : MS) : Option Int32 :=
  ob1 (if (6 : Int32) ≤ (τ 2 0) then some (0 : Int32) else some (1 : Int32)) fun v1 => some v1

def mX0_hasRoomForJourney (fu : Nat) (τ : MS) : Option Int32 :=
  ob1 (if (8 : Int32) ≤ (τ 5 0) then some (0 : Int32) else some (1 : Int32)) fun v1 => some v1

def mX0_hasRoomForStep (fu : Nat) (τ : MS) : Option Int32 :=
  ob1 (if (40 : Int32) ≤ (τ 10 0) then some (0 : Int32) else some (1 : Int32)) fun v1 => some v1

def mX0_addStock (fu : Nat) (τ : MS) (i1 : Int32) (i2 : Int32) : Option MS :=
  ob1 (mX0_hasRoomForStock fu τ) fun r1 => ob1 (if r1 = 0 then some τ else ob1 (wra τ 3 6 (τ 2 0) i1) fun τ7 => ob1 (wra τ7 4 6 (τ7 2 0) i2) fun τ8 => ob1 (some (pf τ8 2 ((τ8 2 0) + (1 : Int32)))) fun τ9 => some τ9) fun τ3 => some τ3

def mX0_addJourney (fu : Nat) (τ : MS) (i1 : Int32) : Option MS :=
  ob1 (mX0_hasRoomForJourney fu τ) fun r1 => ob1 (if r1 = 0 then some τ else ob1 (wra τ 6 8 (τ 5 0) i1) fun τ7 => ob1 (wra τ7 8 8 (τ7 5 0) (τ7 10 0)) fun τ8 => ob1 (wra τ8 9 8 (τ8 5 0) (τ8 10 0)) fun τ9 => ob1 (some (pf τ9 5 ((τ9 5 0) + (1 : Int32)))) fun τ10 => some τ10) fun τ3 => some τ3

def mX0_addStep (fu : Nat) (τ : MS) (i1 : Int32) (i2 : Int32) (i3 : Int32) (i4 : Int32) (i5 : Int32) (i6 : Int32) : Option MS :=
  ob1 (mX0_hasRoomForStep fu τ) fun r1 => ob1 (ob1 (if r1 = 0 then some false else (if (τ 5 0) ≤ 0 then some false else some true)) fun t6 => cnd t6 (ob1 (wra τ 11 40 (τ 10 0) i1) fun τ10 => ob1 (wra τ10 12 40 (τ10 10 0) i2) fun τ11 => ob1 (wra τ11 13 40 (τ11 10 0) i3) fun τ12 => ob1 (wra τ12 14 40 (τ12 10 0) i4) fun τ13 => ob1 (wra τ13 15 40 (τ13 10 0) i5) fun τ14 => ob1 (wra τ14 16 40 (τ14 10 0) i6) fun τ15 => ob1 (some (pf τ15 10 ((τ15 10 0) + (1 : Int32)))) fun τ16 => ob1 (wra τ16 9 8 ((τ16 5 0) - (1 : Int32)) (τ16 10 0)) fun τ17 => ob1 (wra τ17 7 8 ((τ17 5 0) - (1 : Int32)) (i1 + (1 : Int32))) fun τ18 => some τ18) (some τ)) fun τ3 => some τ3

def mX1_kindAt (fu : Nat) (β : FS) (τ : MS) (ρ : MS) (i1 : Int32) : Option Int32 :=
  ob1 (if i1 < 0 then some true else (if i1 < (ρ 4 0) then some false else some true)) fun t1 => cnd t1 (some (0 : Int32)) (ob1 (rd β 700 i1) fun x5 => ob1 (if x5 < (48 : Int32) then some false else (if (57 : Int32) < x5 then some false else some true)) fun t6 => cnd t6 (some (1 : Int32)) (ob1 (if x5 < (97 : Int32) then some false else (if (122 : Int32) < x5 then some false else some true)) fun t10 => cnd t10 (some (2 : Int32)) (ob1 (if x5 = (59 : Int32) then some true else (if x5 = (42 : Int32) then some true else (if x5 = (58 : Int32) then some true else some false))) fun t14 => cnd t14 (some (3 : Int32)) (ob1 (if x5 = (32 : Int32) then some (4 : Int32) else some (5 : Int32)) fun v19 => some v19))))

def mX1_nextToken_L8 (fu : Nat) (β2 : FS) (τ3 : MS)  (ρ4 : MS) : Option (MS ⊕ MS) :=
  ob1 (if (ρ4 4 0) ≤ (ρ4 8 0) then some false else ob1 (mX1_kindAt fu β2 τ3 ρ4 (ρ4 8 0)) fun r8 => (if r8 = (4 : Int32) then some true else some false)) fun t5 => cnd t5 (ob1 (some (pf ρ4 8 ((ρ4 8 0) + (1 : Int32)))) fun ρ10 => some (.inr ρ10)) (some (.inl ρ4))

def mX1_nextToken_L96 (fu : Nat) (β25 : FS) (τ26 : MS)  (ρ27 : MS) : Option (MS ⊕ MS) :=
  ob1 (if (ρ27 4 0) ≤ (ρ27 9 0) then some false else ob1 (mX1_kindAt fu β25 τ26 ρ27 (ρ27 9 0)) fun r31 => (if r31 = (ρ27 7 0) then some true else some false)) fun t28 => cnd t28 (ob1 (if (ρ27 7 0) = (1 : Int32) then ob1 (rd β25 700 (ρ27 9 0)) fun x37 => ob1 (some (pf ρ27 10 (if ((((10 : Int32) * (ρ27 10 0)) + x37) - (48 : Int32)) < (1000000 : Int32) then ((((10 : Int32) * (ρ27 10 0)) + x37) - (48 : Int32)) else (1000000 : Int32)))) fun ρ38 => some ρ38 else some ρ27) fun ρ33 => ob1 (some (pf ρ33 9 ((ρ33 9 0) + (1 : Int32)))) fun ρ39 => some (.inr ρ39)) (some (.inl ρ27))

def mX1_nextToken (fu : Nat) (β : FS) (τ : MS) (ρ : MS) : Option MS :=
  ob1 (some (pf ρ 8 (ρ 9 0))) fun ρ1 => ob1 (loopM (fun st => mX1_nextToken_L8 fu β τ st) fu ρ1) fun ρ11 => ob1 (mX1_kindAt fu β τ ρ11 (ρ11 8 0)) fun r16 => ob1 (some (pf ρ11 7 r16)) fun ρ17 => ob1 (some (pf ρ17 10 (0 : Int32))) fun ρ18 => ob1 (some (pf ρ18 9 (ρ18 8 0))) fun ρ19 => ob1 (if (ρ19 7 0) = (3 : Int32) then some true else (if (ρ19 7 0) = (5 : Int32) then some true else some false)) fun t20 => cnd t20 (ob1 (some (pf ρ19 9 ((ρ19 9 0) + (1 : Int32)))) fun ρ24 => some ρ24) (ob1 (loopM (fun st => mX1_nextToken_L96 fu β τ st) fu ρ19) fun ρ40 => some ρ40)

def mX1_wordIs_L28 (fu : Nat) (p9 : Nat) (β6 : FS) (τ7 : MS) (ρ8 : MS) (v5 : Int32)  : Option ((Int32 ⊕ Unit) ⊕ Int32) :=
  (if (sLen p9) ≤ v5 then some (.inl (.inr ())) else ob1 (rd β6 700 ((ρ8 8 0) + v5)) fun x11 => ob1 (sChr p9 v5) fun x12 => (if x11 = x12 then some (.inr (v5 + (1 : Int32))) else some (.inl (.inl (0 : Int32)))))

def mX1_wordIs (fu : Nat) (β : FS) (τ : MS) (ρ : MS) (w1 : Nat) : Option Int32 :=
  ob1 (if (ρ 7 0) = (2 : Int32) then (if ((ρ 9 0) - (ρ 8 0)) = (sLen w1) then some false else some true) else some true) fun t1 => cnd t1 (some (0 : Int32)) (ob1 (loopM (fun st => mX1_wordIs_L28 fu w1 β τ ρ st) fu (0 : Int32)) fun b18 => el1 b18 (fun r => some r) fun _ => some (1 : Int32))

def mX1_skipsWord (fu : Nat) (β : FS) (τ : MS) (ρ : MS) (w1 : Nat) : Option (Int32 × MS) :=
  ob1 (mX1_wordIs fu β τ ρ w1) fun r1 => (if r1 = 0 then some ((0 : Int32), ρ) else ob1 (mX1_nextToken fu β τ ρ) fun ρ4 => some ((1 : Int32), ρ4))

def mX1_fail (fu : Nat) (β : FS) (τ : MS) (ρ : MS) (i1 : Int32) (i2 : Int32) : Option MS :=
  ob1 (if (ρ 1 0) = 0 then ob1 (some (pf ρ 1 i1)) fun ρ5 => ob1 (some (pf ρ5 2 i2)) fun ρ6 => some ρ6 else some ρ) fun ρ1 => some ρ1

def mX1_takeWord (fu : Nat) (β : FS) (τ : MS) (ρ : MS) (w1 : Nat) : Option MS :=
  ob2 (mX1_skipsWord fu β τ ρ w1) fun r1 ρ2 => ob1 (if r1 = 0 then ob1 (mX1_fail fu β τ ρ2 (-2 : Int32) (ρ2 8 0)) fun ρ8 => some ρ8 else some ρ2) fun ρ4 => some ρ4

def mX1_takeSign (fu : Nat) (β : FS) (τ : MS) (ρ : MS) (i1 : Int32) : Option MS :=
  ob1 (if (ρ 7 0) = (3 : Int32) then ob1 (rd β 700 (ρ 8 0)) fun x4 => (if x4 = i1 then some false else some true) else some true) fun t1 => cnd t1 (ob1 (mX1_fail fu β τ ρ (-2 : Int32) (ρ 8 0)) fun ρ6 => some ρ6) (ob1 (mX1_nextToken fu β τ ρ) fun ρ7 => some ρ7)

def mX1_readNumber (fu : Nat) (β : FS) (τ : MS) (ρ : MS) (i1 : Int32) (i2 : Int32) : Option (Int32 × MS) :=
  (if (ρ 7 0) = (1 : Int32) then ob1 (if (ρ 10 0) < i1 then some true else (if (ρ 10 0) ≤ i2 then some false else some true)) fun t2 => cnd t2 (ob1 (mX1_fail fu β τ ρ (-3 : Int32) (ρ 8 0)) fun ρ6 => some ((0 : Int32), ρ6)) (ob1 (mX1_nextToken fu β τ ρ) fun ρ7 => some ((ρ 10 0), ρ7)) else ob1 (mX1_fail fu β τ ρ (-2 : Int32) (ρ 8 0)) fun ρ8 => some ((0 : Int32), ρ8))

def mX1_readStock (fu : Nat) (β : FS) (τ : MS) (ρ : MS) : Option (MS × MS) :=
  ob1 (mX0_hasRoomForStock fu τ) fun r1 => (if r1 = 0 then ob1 (mX1_fail fu β τ ρ (-4 : Int32) (ρ 8 0)) fun ρ10 => some (τ, ρ10) else ob1 (mX1_nextToken fu β τ ρ) fun ρ4 => ob2 (mX1_readNumber fu β τ ρ4 (0 : Int32) (9999 : Int32)) fun r5 ρ6 => ob2 (mX1_readNumber fu β τ ρ6 (1 : Int32) (9 : Int32)) fun r7 ρ8 => ob1 (mX0_addStock fu τ r5 r7) fun τ9 => some (τ9, ρ8))

def mX1_readStep (fu : Nat) (β : FS) (τ : MS) (ρ : MS) (i1 : Int32) : Option (MS × MS) :=
  ob2 (mX1_readNumber fu β τ ρ (0 : Int32) ((τ 2 0) - (1 : Int32))) fun r1 ρ2 => ob1 (mX0_hasRoomForStep fu τ) fun r3 => (if r3 = 0 then ob1 (mX1_fail fu β τ ρ2 (-4 : Int32) (ρ 8 0)) fun ρ33 => some (τ, ρ33) else ob1 (mX1_takeSign fu β τ ρ2 (42 : Int32)) fun ρ6 => ob2 (mX1_readNumber fu β τ ρ6 (1 : Int32) (999 : Int32)) fun r7 ρ8 => ob1 (mX1_takeSign fu β τ ρ8 (58 : Int32)) fun ρ9 => ob2 (mX1_readNumber fu β τ ρ9 (1 : Int32) (99 : Int32)) fun r10 ρ11 => ob2 (mX1_skipsWord fu β τ ρ11 7) fun r12 ρ13 => ob2 (if r12 = 0 then some ((0 : Int32), ρ13) else ob2 (mX1_readNumber fu β τ ρ13 (0 : Int32) (9 : Int32)) fun r20 ρ21 => some (r20, ρ21)) fun v15 ρ16 => ob2 (mX1_skipsWord fu β τ ρ16 8) fun r22 ρ23 => ob2 (if r22 = 0 then some ((0 : Int32), ρ23) else ob2 (mX1_readNumber fu β τ ρ23 (0 : Int32) (9 : Int32)) fun r30 ρ31 => some (r30, ρ31)) fun v25 ρ26 => ob1 (mX0_addStep fu τ i1 r1 r7 r10 v15 v25) fun τ32 => some (τ32, ρ26))

def mX1_readJourney_L54 (fu : Nat) (β13 : FS) (v10 : Int32) (v11 : Int32) (v12 : Int32) (τ14 : MS) (ρ15 : MS) : Option (((MS × MS) ⊕ (MS × MS)) ⊕ (Int32 × Int32 × Int32 × MS × MS)) :=
  ob1 (if (40 : Int32) ≤ v10 then some false else (if (ρ15 1 0) = 0 then ob1 (mX1_wordIs fu β13 τ14 ρ15 5) fun r20 => (if r20 = 0 then ob1 (mX1_wordIs fu β13 τ14 ρ15 6) fun r23 => (if r23 = 0 then some false else some true) else some true) else some false)) fun t16 => cnd t16 (ob1 (mX1_wordIs fu β13 τ14 ρ15 5) fun r26 => ob1 (if r26 = 0 then some (1 : Int32) else some (v11 + (1 : Int32))) fun v28 => ob1 (if r26 = 0 then some (v12 + (1 : Int32)) else some v12) fun v32 => ob1 (if (3 : Int32) < v28 then some true else (if v32 < (5 : Int32) then some false else some true)) fun t36 => cnd t36 (ob1 (mX1_fail fu β13 τ14 ρ15 (-4 : Int32) (ρ15 8 0)) fun ρ40 => some (.inl (.inl (τ14, ρ40)))) (ob1 (mX1_nextToken fu β13 τ14 ρ15) fun ρ41 => ob2 (mX1_readStep fu β13 τ14 ρ41 v32) fun τ42 ρ43 => some (.inr ((v10 + (1 : Int32)), v28, v32, τ42, ρ43)))) (some (.inl (.inr (τ14, ρ15))))

def mX1_readJourney (fu : Nat) (β : FS) (τ : MS) (ρ : MS) : Option (MS × MS) :=
  ob1 (mX0_hasRoomForJourney fu τ) fun r1 => (if r1 = 0 then ob1 (mX1_fail fu β τ ρ (-4 : Int32) (ρ 8 0)) fun ρ85 => some (τ, ρ85) else ob1 (mX1_nextToken fu β τ ρ) fun ρ4 => ob2 (mX1_readNumber fu β τ ρ4 (0 : Int32) (999 : Int32)) fun r5 ρ6 => ob1 (mX0_addJourney fu τ r5) fun τ7 => ob2 (mX1_readStep fu β τ7 ρ6 (0 : Int32)) fun τ8 ρ9 => ob1 (loopM (fun st => mX1_readJourney_L54 fu β st.1 st.2.1 st.2.2.1 st.2.2.2.1 st.2.2.2.2) fu ((0 : Int32), (1 : Int32), (0 : Int32), τ8, ρ9)) fun b50 => el2 b50 (fun r => some r) fun τ44 ρ45 => some (τ44, ρ45))

def mX1_readSetup_L18 (fu : Nat) (β5 : FS) (v4 : Int32) (τ6 : MS) (ρ7 : MS) : Option ((MS × MS) ⊕ (Int32 × MS × MS)) :=
  ob1 (if (ρ7 4 0) ≤ v4 then some false else (if (ρ7 1 0) = 0 then (if (ρ7 7 0) = 0 then some false else some true) else some false)) fun t8 => cnd t8 (ob1 (mX1_wordIs fu β5 τ6 ρ7 1) fun r13 => ob2 (if r13 = 0 then ob1 (mX1_wordIs fu β5 τ6 ρ7 2) fun r20 => (if r20 = 0 then ob1 (mX1_wordIs fu β5 τ6 ρ7 3) fun r23 => ob1 (if r23 = 0 then some false else (if (ρ7 5 0) = 0 then some true else some false)) fun t25 => cnd t25 (ob1 (some (pf ρ7 5 (1 : Int32))) fun ρ29 => ob1 (mX1_nextToken fu β5 τ6 ρ29) fun ρ30 => ob2 (mX1_readNumber fu β5 τ6 ρ30 (1 : Int32) (99 : Int32)) fun r31 ρ32 => ob1 (some (pf τ6 0 r31)) fun τ33 => some (τ33, ρ32)) (ob1 (mX1_wordIs fu β5 τ6 ρ7 4) fun r34 => ob1 (if r34 = 0 then some false else (if (ρ7 6 0) = 0 then some true else some false)) fun t36 => cnd t36 (ob1 (some (pf ρ7 6 (1 : Int32))) fun ρ40 => ob1 (mX1_nextToken fu β5 τ6 ρ40) fun ρ41 => ob2 (mX1_readNumber fu β5 τ6 ρ41 (1 : Int32) (9 : Int32)) fun r42 ρ43 => ob1 (some (pf τ6 1 r42)) fun τ44 => some (τ44, ρ43)) (ob1 (mX1_fail fu β5 τ6 ρ7 (-2 : Int32) (ρ7 8 0)) fun ρ45 => some (τ6, ρ45))) else ob2 (mX1_readJourney fu β5 τ6 ρ7) fun τ46 ρ47 => some (τ46, ρ47)) else ob2 (mX1_readStock fu β5 τ6 ρ7) fun τ48 ρ49 => some (τ48, ρ49)) fun τ15 ρ16 => ob1 (mX1_takeSign fu β5 τ15 ρ16 (59 : Int32)) fun ρ50 => some (.inr ((v4 + (1 : Int32)), τ15, ρ50))) (some (.inl (τ6, ρ7)))

def mX1_readSetup (fu : Nat) (β : FS) (τ : MS) (ρ : MS) : Option (MS × MS) :=
  ob1 (mX1_nextToken fu β τ ρ) fun ρ1 => ob1 (mX1_takeWord fu β τ ρ1 0) fun ρ2 => ob1 (mX1_takeSign fu β τ ρ2 (59 : Int32)) fun ρ3 => ob2 (loopM (fun st => mX1_readSetup_L18 fu β st.1 st.2.1 st.2.2) fu ((0 : Int32), τ, ρ3)) fun τ51 ρ52 => some (τ51, ρ52)

def mJ7_fill_53178_L5 (fu : Nat) (n : Nat) (p3 : Int32) (p4 : Int32) (v1 : Int32) (f02 : FS) : Option (FS ⊕ (Int32 × FS)) :=
  (if p3 ≤ v1 then some (.inl f02) else ob1 (wr f02 n v1 p4) fun f06 => some (.inr ((v1 + (1 : Int32)), f06)))

def mJ7_fill_53178 (fu : Nat) (n : Nat) (f0 : FS) (i2 : Int32) : Option FS :=
  ob1 (loopM (fun st => mJ7_fill_53178_L5 fu n (Int32.ofNat n) i2 st.1 st.2) fu ((0 : Int32), f0)) fun f07 => some f07

def mX2_begin (fu : Nat) (τ : MS) (σ : MS) : Option MS :=
  ob1 (some (pf σ 1 (0 : Int32))) fun σ1 => ob1 (some (pf σ1 2 (0 : Int32))) fun σ2 => ob1 (some (va_up σ2 3 (τ 3))) fun σ3 => ob1 (some (pf σ3 5 (0 : Int32))) fun σ4 => ob1 (some (pf σ4 6 (0 : Int32))) fun σ5 => ob1 (some (pf σ5 7 (0 : Int32))) fun σ6 => ob1 (some (pf σ6 8 (0 : Int32))) fun σ7 => ob1 (some (pf σ7 9 (0 : Int32))) fun σ8 => ob1 (some (va_up σ8 10 (τ 15))) fun σ9 => ob1 (some (va_up σ9 11 (τ 16))) fun σ10 => ob1 (some (pf σ10 12 (0 : Int32))) fun σ11 => ob1 (some (pf σ11 13 (0 : Int32))) fun σ12 => some σ12

def mX2_copyFrom (fu : Nat) (σo : MS) (σ : MS) : Option MS :=
  ob1 (some (pf σ 1 (σo 1 0))) fun σ1 => ob1 (some (pf σ1 2 (σo 2 0))) fun σ2 => ob1 (some (va_up σ2 3 (σo 3))) fun σ3 => ob1 (some (pf σ3 4 (1000000 : Int32))) fun σ4 => ob1 (some (va_up σ4 5 (σo 5))) fun σ5 => ob1 (some (va_up σ5 6 (σo 6))) fun σ6 => ob1 (some (va_up σ6 7 (σo 7))) fun σ7 => ob1 (some (va_up σ7 8 (σo 8))) fun σ8 => ob1 (some (va_up σ8 9 (σo 9))) fun σ9 => ob1 (some (va_up σ9 10 (σo 10))) fun σ10 => ob1 (some (va_up σ10 11 (σo 11))) fun σ11 => ob1 (some (va_up σ11 12 (σo 12))) fun σ12 => ob1 (some (va_up σ12 13 (σo 13))) fun σ13 => some σ13

def mX2_journeysIn_L4 (fu : Nat) (p5 : Int32) (τ3 : MS) (σ4 : MS) (v1 : Int32) (v2 : Int32)  : Option (Int32 ⊕ (Int32 × Int32)) :=
  (if (τ3 5 0) ≤ v1 then some (.inl v2) else ob1 (rd (σ4 5) 8 v1) fun x7 => ob1 (if x7 = p5 then some (v2 + (1 : Int32)) else some v2) fun v8 => some (.inr ((v1 + (1 : Int32)), v8)))

def mX2_journeysIn (fu : Nat) (τ : MS) (σ : MS) (i1 : Int32) : Option Int32 :=
  ob1 (loopM (fun st => mX2_journeysIn_L4 fu i1 τ σ st.1 st.2) fu ((0 : Int32), (0 : Int32))) fun v12 => some v12

def mX2_numberOfAll (fu : Nat) (τ : MS) (σ : MS) (i1 : Int32) : Option Int32 :=
  (if i1 = 0 then some (σ 1 0) else (if i1 = 1 then some (τ 2 0) else (if i1 = 2 then some (τ 5 0) else (if i1 = 3 then some (τ 10 0) else (if i1 = 4 then some (τ 0 0) else (if i1 = 5 then some (τ 1 0) else (if i1 = 6 then ob1 (mX2_journeysIn fu τ σ (3 : Int32)) fun r8 => some r8 else (if i1 = 7 then ob1 (mX2_journeysIn fu τ σ (4 : Int32)) fun r10 => some r10 else (if i1 = 8 then ob1 (mX2_journeysIn fu τ σ (5 : Int32)) fun r12 => some r12 else some (σ 2 0))))))))))

def mX2_hasEnded (fu : Nat) (τ : MS) (σ : MS) (i1 : Int32) : Option Int32 :=
  ob1 (rd (σ 5) 8 i1) fun x1 => ob1 (ob1 (if x1 = (3 : Int32) then some true else ob1 (rd (σ 5) 8 i1) fun x9 => (if x9 = (4 : Int32) then some true else some false)) fun t6 => cnd t6 (some (1 : Int32)) (some (0 : Int32))) fun v2 => some v2

def mX2_amountTakenBy_L24 (fu : Nat) (p7 : Int32) (p8 : Int32) (τ5 : MS) (σ6 : MS) (v3 : Int32) (v4 : Int32)  : Option (Int32 ⊕ (Int32 × Int32)) :=
  (if p7 ≤ v3 then some (.inl v4) else ob1 (rd (σ6 9) 40 v3) fun x10 => ob1 (ob1 (if x10 = (2 : Int32) then some true else ob1 (rd (σ6 9) 40 v3) fun x18 => (if x18 = (3 : Int32) then some true else some false)) fun t15 => cnd t15 (some (1 : Int32)) (some (0 : Int32))) fun v11 => ob1 (ob1 (if v11 = 0 then some false else ob1 (rd (τ5 12) 40 v3) fun x26 => (if x26 = p8 then some true else some false)) fun t23 => cnd t23 (ob1 (rd (τ5 13) 40 v3) fun x28 => some (v4 + x28)) (some v4)) fun v20 => some (.inr ((v3 + (1 : Int32)), v20)))

def mX2_amountTakenBy (fu : Nat) (τ : MS) (σ : MS) (i1 : Int32) (i2 : Int32) : Option Int32 :=
  ob1 (rd (τ 9) 8 i1) fun x1 => ob1 (rd (τ 8) 8 i1) fun x2 => ob1 (loopM (fun st => mX2_amountTakenBy_L24 fu x1 i2 τ σ st.1 st.2) fu (x2, (0 : Int32))) fun v29 => some v29

def mX2_holdersOf_L4 (fu : Nat) (p5 : Int32) (τ3 : MS) (σ4 : MS) (v1 : Int32) (v2 : Int32)  : Option (Int32 ⊕ (Int32 × Int32)) :=
  (if (τ3 5 0) ≤ v1 then some (.inl v2) else ob1 (mX2_hasEnded fu τ3 σ4 v1) fun r7 => ob1 (ob1 (if r7 = 0 then ob1 (mX2_amountTakenBy fu τ3 σ4 v1 p5) fun r15 => (if r15 ≤ 0 then some false else some true) else some false) fun t12 => cnd t12 (some (v2 + (1 : Int32))) (some v2)) fun v9 => some (.inr ((v1 + (1 : Int32)), v9)))

def mX2_holdersOf (fu : Nat) (τ : MS) (σ : MS) (i1 : Int32) : Option Int32 :=
  ob1 (loopM (fun st => mX2_holdersOf_L4 fu i1 τ σ st.1 st.2) fu ((0 : Int32), (0 : Int32))) fun v17 => some v17

def mX2_amountInOpenJourneys_L4 (fu : Nat) (p5 : Int32) (τ3 : MS) (σ4 : MS) (v1 : Int32) (v2 : Int32)  : Option (Int32 ⊕ (Int32 × Int32)) :=
  (if (τ3 5 0) ≤ v1 then some (.inl v2) else ob1 (mX2_hasEnded fu τ3 σ4 v1) fun r7 => ob1 (if r7 = 0 then ob1 (mX2_amountTakenBy fu τ3 σ4 v1 p5) fun r13 => some r13 else some (0 : Int32)) fun v9 => some (.inr ((v1 + (1 : Int32)), (v2 + v9))))

def mX2_amountInOpenJourneys (fu : Nat) (τ : MS) (σ : MS) (i1 : Int32) : Option Int32 :=
  ob1 (loopM (fun st => mX2_amountInOpenJourneys_L4 fu i1 τ σ st.1 st.2) fu ((0 : Int32), (0 : Int32))) fun v14 => some v14

def mX2_amountInDoneJourneys_L4 (fu : Nat) (p5 : Int32) (τ3 : MS) (σ4 : MS) (v1 : Int32) (v2 : Int32)  : Option (Int32 ⊕ (Int32 × Int32)) :=
  (if (τ3 5 0) ≤ v1 then some (.inl v2) else ob1 (rd (σ4 5) 8 v1) fun x7 => ob1 (if x7 = (3 : Int32) then ob1 (mX2_amountTakenBy fu τ3 σ4 v1 p5) fun r12 => some r12 else some (0 : Int32)) fun v8 => some (.inr ((v1 + (1 : Int32)), (v2 + v8))))

def mX2_amountInDoneJourneys (fu : Nat) (τ : MS) (σ : MS) (i1 : Int32) : Option Int32 :=
  ob1 (loopM (fun st => mX2_amountInDoneJourneys_L4 fu i1 τ σ st.1 st.2) fu ((0 : Int32), (0 : Int32))) fun v13 => some v13

def mX2_amountWrittenOff_L4 (fu : Nat) (p5 : Int32) (τ3 : MS) (σ4 : MS) (v1 : Int32) (v2 : Int32)  : Option (Int32 ⊕ (Int32 × Int32)) :=
  (if (τ3 10 0) ≤ v1 then some (.inl v2) else ob1 (rd (τ3 12) 40 v1) fun x7 => ob1 (ob1 (if x7 = p5 then ob1 (rd (σ4 9) 40 v1) fun x14 => (if x14 = (6 : Int32) then some true else some false) else some false) fun t11 => cnd t11 (ob1 (rd (τ3 13) 40 v1) fun x16 => some (v2 + x16)) (some v2)) fun v8 => some (.inr ((v1 + (1 : Int32)), v8)))

def mX2_amountWrittenOff (fu : Nat) (τ : MS) (σ : MS) (i1 : Int32) : Option Int32 :=
  ob1 (loopM (fun st => mX2_amountWrittenOff_L4 fu i1 τ σ st.1 st.2) fu ((0 : Int32), (0 : Int32))) fun v17 => some v17

def mX2_numberOfStock (fu : Nat) (τ : MS) (σ : MS) (i1 : Int32) (i2 : Int32) : Option Int32 :=
  (if i2 = 0 then ob1 (rd (σ 3) 6 i1) fun x2 => some x2 else (if i2 = 1 then ob1 (rd (τ 4) 6 i1) fun x4 => some x4 else (if i2 = 2 then ob1 (mX2_holdersOf fu τ σ i1) fun r6 => some r6 else (if i2 = 3 then ob1 (mX2_amountInOpenJourneys fu τ σ i1) fun r8 => some r8 else (if i2 = 4 then ob1 (mX2_amountInDoneJourneys fu τ σ i1) fun r10 => some r10 else ob1 (mX2_amountWrittenOff fu τ σ i1) fun r11 => some r11)))))

def mX2_rests (fu : Nat) (τ : MS) (σ : MS) (i1 : Int32) : Option Int32 :=
  ob1 (mX2_hasEnded fu τ σ i1) fun r1 => ob1 (ob1 (if r1 = 0 then ob1 (rd (σ 5) 8 i1) fun x10 => (if x10 = (5 : Int32) then some true else some false) else some true) fun t7 => cnd t7 (some (1 : Int32)) (some (0 : Int32))) fun v3 => some v3

def mX2_amountOwed_L45 (fu : Nat) (p13 : Int32) (τ11 : MS) (σ12 : MS) (v9 : Int32) (v10 : Int32)  : Option (Int32 ⊕ (Int32 × Int32)) :=
  (if p13 ≤ v9 then some (.inl v10) else ob1 (rd (σ12 9) 40 v9) fun x15 => ob1 (if x15 = (3 : Int32) then ob1 (rd (τ11 13) 40 v9) fun x20 => some (v10 + x20) else some v10) fun v16 => some (.inr ((v9 + (1 : Int32)), v16)))

def mX2_amountOwed (fu : Nat) (τ : MS) (σ : MS) (i1 : Int32) : Option Int32 :=
  ob1 (rd (σ 5) 8 i1) fun x1 => ob1 (if x1 = (2 : Int32) then some false else ob1 (rd (σ 5) 8 i1) fun x5 => (if x5 = (5 : Int32) then some false else some true)) fun t2 => cnd t2 (some (0 : Int32)) (ob1 (rd (τ 9) 8 i1) fun x7 => ob1 (rd (τ 8) 8 i1) fun x8 => ob1 (loopM (fun st => mX2_amountOwed_L45 fu x7 τ σ st.1 st.2) fu (x8, (0 : Int32))) fun v21 => some v21)

def mX2_numberOfJourney (fu : Nat) (τ : MS) (σ : MS) (i1 : Int32) (i2 : Int32) : Option Int32 :=
  (if i2 = 0 then ob1 (rd (σ 5) 8 i1) fun x2 => some x2 else (if i2 = 1 then ob1 (rd (τ 6) 8 i1) fun x4 => some x4 else (if i2 = 2 then ob1 (rd (τ 7) 8 i1) fun x6 => some x6 else (if i2 = 3 then ob1 (mX0_stepsOf fu τ i1) fun r8 => some r8 else (if i2 = 4 then ob1 (rd (σ 5) 8 i1) fun x10 => ob1 (if x10 = (1 : Int32) then ob1 (rd (σ 6) 8 i1) fun x15 => some x15 else some (-1 : Int32)) fun v11 => some v11 else (if i2 = 5 then ob1 (mX2_rests fu τ σ i1) fun r17 => ob1 (if r17 = 0 then some (-1 : Int32) else ob1 (rd (σ 7) 8 i1) fun x23 => some x23) fun v19 => some v19 else ob1 (mX2_amountOwed fu τ σ i1) fun r24 => some r24))))))

def mX2_numberOfStep (fu : Nat) (τ : MS) (σ : MS) (i1 : Int32) (i2 : Int32) : Option Int32 :=
  (if i2 = 0 then ob1 (rd (τ 11) 40 i1) fun x2 => some x2 else (if i2 = 1 then ob1 (rd (τ 12) 40 i1) fun x4 => some x4 else (if i2 = 2 then ob1 (rd (τ 13) 40 i1) fun x6 => some x6 else (if i2 = 3 then ob1 (rd (τ 14) 40 i1) fun x8 => some x8 else (if i2 = 4 then ob1 (rd (σ 9) 40 i1) fun x10 => some x10 else (if i2 = 5 then ob1 (rd (σ 10) 40 i1) fun x12 => some x12 else ob1 (rd (σ 11) 40 i1) fun x13 => some x13))))))

def mX2_endedJourneys (fu : Nat) (τ : MS) (σ : MS) : Option Int32 :=
  ob1 (mX2_journeysIn fu τ σ (3 : Int32)) fun r1 => ob1 (mX2_journeysIn fu τ σ (4 : Int32)) fun r2 => some (r1 + r2)

def mX2_doneStepFromBehind_L15 (fu : Nat) (p6 : Int32) (τ4 : MS) (σ5 : MS) (v2 : Int32) (v3 : Int32)  : Option ((Int32 ⊕ Unit) ⊕ (Int32 × Int32)) :=
  ob1 (rd (τ4 8) 8 p6) fun x7 => (if v2 < x7 then some (.inl (.inr ())) else ob1 (rd (σ5 9) 40 v2) fun x9 => (if x9 = (3 : Int32) then (if v3 = 0 then some (.inl (.inl v2)) else some (.inr ((v2 + (-1 : Int32)), (v3 + (-1 : Int32))))) else some (.inr ((v2 + (-1 : Int32)), v3))))

def mX2_doneStepFromBehind (fu : Nat) (τ : MS) (σ : MS) (i1 : Int32) (i2 : Int32) : Option Int32 :=
  ob1 (rd (τ 9) 8 i1) fun x1 => ob1 (loopM (fun st => mX2_doneStepFromBehind_L15 fu i1 τ σ st.1 st.2) fu ((x1 - (1 : Int32)), i2)) fun b16 => el1 b16 (fun r => some r) fun _ => some (-1 : Int32)

def mX2_isPresent (fu : Nat) (τ : MS) (σ : MS) (i1 : Int32) (i2 : Int32) : Option Int32 :=
  ob1 (rd (τ 11) 40 i2) fun x1 => ob1 (rd (σ 6) 8 i1) fun x2 => ob1 (if x1 = x2 then some (1 : Int32) else some (0 : Int32)) fun v3 => some v3

def mX2_nextEventTimeForward_L24 (fu : Nat) (p7 : Int32) (p8 : Int32) (τ5 : MS) (σ6 : MS) (v3 : Int32) (v4 : Int32)  : Option ((Int32 ⊕ Int32) ⊕ (Int32 × Int32)) :=
  (if p7 ≤ v3 then some (.inl (.inr v4)) else ob1 (mX2_isPresent fu τ5 σ6 p8 v3) fun r10 => ob1 (if r10 = 0 then some false else ob1 (rd (σ6 9) 40 v3) fun x15 => (if x15 = (1 : Int32) then some true else some false)) fun t12 => cnd t12 (some (.inl (.inl (σ6 1 0)))) (ob1 (mX2_isPresent fu τ5 σ6 p8 v3) fun r17 => ob1 (ob1 (if r17 = 0 then some false else ob1 (rd (σ6 9) 40 v3) fun x25 => (if x25 = (2 : Int32) then some true else some false)) fun t22 => cnd t22 (ob1 (rd (σ6 12) 40 v3) fun x27 => ob1 (rd (τ5 14) 40 v3) fun x28 => some (if (x27 + x28) < v4 then (x27 + x28) else v4)) (some v4)) fun v19 => some (.inr ((v3 + (1 : Int32)), v19))))

def mX2_nextEventTimeForward (fu : Nat) (τ : MS) (σ : MS) (i1 : Int32) : Option Int32 :=
  ob1 (rd (τ 9) 8 i1) fun x1 => ob1 (rd (τ 8) 8 i1) fun x2 => ob1 (loopM (fun st => mX2_nextEventTimeForward_L24 fu x1 i1 τ σ st.1 st.2) fu (x2, (1000000 : Int32))) fun b38 => el1 b38 (fun r => some r) fun v29 => ob1 (if v29 = (1000000 : Int32) then some (σ 1 0) else some v29) fun v34 => some v34

def mX2_nextEventTimeOf (fu : Nat) (τ : MS) (σ : MS) (i1 : Int32) : Option Int32 :=
  ob1 (rd (σ 5) 8 i1) fun x1 => (if x1 = 0 then ob1 (rd (τ 6) 8 i1) fun x3 => some x3 else (if x1 = 1 then ob1 (mX2_nextEventTimeForward fu τ σ i1) fun r5 => some r5 else (if x1 = 2 then some (σ 1 0) else some (1000000 : Int32))))

def mX2_nextEventTime_L5 (fu : Nat) (τ3 : MS) (σ4 : MS) (v1 : Int32) (v2 : Int32)  : Option (Int32 ⊕ (Int32 × Int32)) :=
  (if (τ3 5 0) ≤ v1 then some (.inl v2) else ob1 (mX2_nextEventTimeOf fu τ3 σ4 v1) fun r6 => some (.inr ((v1 + (1 : Int32)), (if r6 < v2 then r6 else v2))))

def mX2_nextEventTime (fu : Nat) (τ : MS) (σ : MS) : Option Int32 :=
  ob1 (loopM (fun st => mX2_nextEventTime_L5 fu τ σ st.1 st.2) fu ((0 : Int32), (1000000 : Int32))) fun v7 => some (if (σ 1 0) < v7 then v7 else (σ 1 0))

def mX2_comeToRest (fu : Nat) (τ : MS) (σ : MS) (i1 : Int32) (i2 : Int32) : Option MS :=
  ob1 (wra σ 5 8 i1 i2) fun σ1 => ob1 (wra σ1 7 8 i1 (σ1 1 0)) fun σ2 => some σ2

def mX2_enterStage_L48 (fu : Nat) (p9 : Int32) (p10 : Int32) (τ7 : MS) (v6 : Int32) (σ8 : MS) : Option (MS ⊕ (Int32 × MS)) :=
  (if p9 ≤ v6 then some (.inl σ8) else ob1 (mX2_isPresent fu τ7 σ8 p10 v6) fun r12 => ob1 (ob1 (if r12 = 0 then some false else ob1 (rd (σ8 9) 40 v6) fun x20 => (if x20 = 0 then some true else some false)) fun t17 => cnd t17 (ob1 (wra σ8 9 40 v6 (1 : Int32)) fun σ22 => ob1 (wra σ22 13 40 v6 (0 : Int32)) fun σ23 => some σ23) (some σ8)) fun σ14 => some (.inr ((v6 + (1 : Int32)), σ14)))

def mX2_enterStage (fu : Nat) (τ : MS) (σ : MS) (i1 : Int32) (i2 : Int32) : Option MS :=
  ob1 (rd (τ 7) 8 i1) fun x1 => (if i2 < x1 then ob1 (wra σ 6 8 i1 i2) fun σ3 => ob1 (rd (τ 9) 8 i1) fun x4 => ob1 (rd (τ 8) 8 i1) fun x5 => ob1 (loopM (fun st => mX2_enterStage_L48 fu x4 i1 τ st.1 st.2) fu (x5, σ3)) fun σ24 => some σ24 else ob1 (mX2_comeToRest fu τ σ i1 (3 : Int32)) fun σ46 => some σ46)

def mX2_waitForGuard (fu : Nat) (τ : MS) (σ : MS) (i1 : Int32) : Option MS :=
  ob1 (rd (σ 13) 40 i1) fun x1 => ob1 (if x1 < (τ 0 0) then ob1 (rd (σ 13) 40 i1) fun x6 => ob1 (wra σ 13 40 i1 (x6 + (1 : Int32))) fun σ7 => some σ7 else ob1 (wra σ 9 40 i1 (4 : Int32)) fun σ8 => some σ8) fun σ2 => some σ2

def mX2_takeAmount (fu : Nat) (τ : MS) (σ : MS) (i1 : Int32) (i2 : Int32) : Option MS :=
  ob1 (rd (τ 13) 40 i1) fun x1 => ob1 (rd (σ 3) 6 i2) fun x2 => (if 0 < (x1 - x2) then ob1 (rd (σ 4) 6 i2) fun x4 => ob1 (wra σ 4 6 i2 (if (x1 - x2) < x4 then (x1 - x2) else x4)) fun σ5 => ob1 (rd (σ5 11) 40 i1) fun x6 => ob1 (if x6 ≤ 0 then ob1 (wra σ5 9 40 i1 (4 : Int32)) fun σ11 => some σ11 else ob1 (rd (σ5 11) 40 i1) fun x12 => ob1 (wra σ5 11 40 i1 (x12 - (1 : Int32))) fun σ13 => some σ13) fun σ7 => some σ7 else ob1 (rd (σ 3) 6 i2) fun x14 => ob1 (rd (τ 13) 40 i1) fun x15 => ob1 (wra σ 3 6 i2 (x14 - x15)) fun σ16 => ob1 (wra σ16 9 40 i1 (2 : Int32)) fun σ17 => ob1 (wra σ17 12 40 i1 (σ17 1 0)) fun σ18 => some σ18)

def mX2_moveStep (fu : Nat) (τ : MS) (σ : MS) (i1 : Int32) (i2 : Int32) : Option MS :=
  ob1 (rd (σ 9) 40 i2) fun x1 => ob1 (if x1 = (2 : Int32) then ob1 (rd (σ 12) 40 i2) fun x23 => ob1 (rd (τ 14) 40 i2) fun x24 => (if ((σ 1 0) - x23) < x24 then some σ else ob1 (wra σ 9 40 i2 (3 : Int32)) fun σ26 => some σ26) else ob1 (rd (σ 9) 40 i2) fun x6 => (if x6 = (1 : Int32) then ob1 (rd (τ 12) 40 i2) fun x8 => ob1 (mX2_amountTakenBy fu τ σ i1 x8) fun r9 => ob1 (if r9 ≤ 0 then some (0 : Int32) else some (1 : Int32)) fun v10 => ob1 (if v10 = 0 then ob1 (mX2_holdersOf fu τ σ x8) fun r18 => ob1 (rd (τ 4) 6 x8) fun x19 => (if r18 < x19 then some false else some true) else some false) fun t15 => cnd t15 (ob1 (mX2_waitForGuard fu τ σ i2) fun σ21 => some σ21) (ob1 (mX2_takeAmount fu τ σ i2 x8) fun σ22 => some σ22) else some σ)) fun σ2 => some σ2

def mX2_stageHas_L21 (fu : Nat) (p6 : Int32) (p7 : Int32) (p8 : Int32) (τ4 : MS) (σ5 : MS) (v3 : Int32)  : Option ((Int32 ⊕ Unit) ⊕ Int32) :=
  (if p6 ≤ v3 then some (.inl (.inr ())) else ob1 (mX2_isPresent fu τ4 σ5 p7 v3) fun r10 => ob1 (if r10 = 0 then some false else ob1 (rd (σ5 9) 40 v3) fun x15 => (if x15 = p8 then some true else some false)) fun t12 => cnd t12 (some (.inl (.inl (1 : Int32)))) (some (.inr (v3 + (1 : Int32)))))

def mX2_stageHas (fu : Nat) (τ : MS) (σ : MS) (i1 : Int32) (i2 : Int32) : Option Int32 :=
  ob1 (rd (τ 9) 8 i1) fun x1 => ob1 (rd (τ 8) 8 i1) fun x2 => ob1 (loopM (fun st => mX2_stageHas_L21 fu x1 i1 i2 τ σ st) fu x2) fun b21 => el1 b21 (fun r => some r) fun _ => some (0 : Int32)

def mX2_withdrawReadySteps_L20 (fu : Nat) (p6 : Int32) (p7 : Int32) (τ4 : MS) (v3 : Int32) (σ5 : MS) : Option (MS ⊕ (Int32 × MS)) :=
  (if p6 ≤ v3 then some (.inl σ5) else ob1 (mX2_isPresent fu τ4 σ5 p7 v3) fun r9 => ob1 (ob1 (if r9 = 0 then some false else ob1 (rd (σ5 9) 40 v3) fun x17 => (if x17 = (1 : Int32) then some true else some false)) fun t14 => cnd t14 (ob1 (wra σ5 9 40 v3 (0 : Int32)) fun σ19 => some σ19) (some σ5)) fun σ11 => some (.inr ((v3 + (1 : Int32)), σ11)))

def mX2_withdrawReadySteps (fu : Nat) (τ : MS) (σ : MS) (i1 : Int32) : Option MS :=
  ob1 (rd (τ 9) 8 i1) fun x1 => ob1 (rd (τ 8) 8 i1) fun x2 => ob1 (loopM (fun st => mX2_withdrawReadySteps_L20 fu x1 i1 τ st.1 st.2) fu (x2, σ)) fun σ20 => some σ20

def mX2_isOpen (fu : Nat) (τ : MS) (σ : MS) (i1 : Int32) : Option Int32 :=
  ob1 (rd (σ 9) 40 i1) fun x1 => ob1 (ob1 (if x1 = (3 : Int32) then some false else ob1 (rd (σ 9) 40 i1) fun x9 => (if x9 = (6 : Int32) then some false else some true)) fun t6 => cnd t6 (some (1 : Int32)) (some (0 : Int32))) fun v2 => some v2

def mX2_stageIsOver_L20 (fu : Nat) (p6 : Int32) (p7 : Int32) (τ4 : MS) (σ5 : MS) (v3 : Int32)  : Option ((Int32 ⊕ Unit) ⊕ Int32) :=
  (if p6 ≤ v3 then some (.inl (.inr ())) else ob1 (mX2_isPresent fu τ4 σ5 p7 v3) fun r9 => ob1 (if r9 = 0 then some false else ob1 (mX2_isOpen fu τ4 σ5 v3) fun r14 => (if r14 = 0 then some false else some true)) fun t11 => cnd t11 (some (.inl (.inl (0 : Int32)))) (some (.inr (v3 + (1 : Int32)))))

def mX2_stageIsOver (fu : Nat) (τ : MS) (σ : MS) (i1 : Int32) : Option Int32 :=
  ob1 (rd (τ 9) 8 i1) fun x1 => ob1 (rd (τ 8) 8 i1) fun x2 => ob1 (loopM (fun st => mX2_stageIsOver_L20 fu x1 i1 τ σ st) fu x2) fun b21 => el1 b21 (fun r => some r) fun _ => some (1 : Int32)

def mX2_moveForward_L20 (fu : Nat) (p6 : Int32) (p7 : Int32) (τ4 : MS) (v3 : Int32) (σ5 : MS) : Option (MS ⊕ (Int32 × MS)) :=
  (if p6 ≤ v3 then some (.inl σ5) else ob1 (mX2_isPresent fu τ4 σ5 p7 v3) fun r9 => ob1 (if r9 = 0 then some σ5 else ob1 (mX2_moveStep fu τ4 σ5 p7 v3) fun σ15 => some σ15) fun σ11 => some (.inr ((v3 + (1 : Int32)), σ11)))

def mX2_moveForward (fu : Nat) (τ : MS) (σ : MS) (i1 : Int32) : Option MS :=
  ob1 (rd (τ 9) 8 i1) fun x1 => ob1 (rd (τ 8) 8 i1) fun x2 => ob1 (loopM (fun st => mX2_moveForward_L20 fu x1 i1 τ st.1 st.2) fu (x2, σ)) fun σ16 => ob1 (mX2_stageHas fu τ σ16 i1 (4 : Int32)) fun r21 => ob1 (if r21 = 0 then some σ16 else ob1 (mX2_withdrawReadySteps fu τ σ16 i1) fun σ27 => some σ27) fun σ23 => ob1 (mX2_stageIsOver fu τ σ23 i1) fun r28 => ob1 (if r28 = 0 then ob1 (if r21 = 0 then some false else ob1 (mX2_stageHas fu τ σ23 i1 (2 : Int32)) fun r37 => (if r37 = 0 then some true else some false)) fun t34 => cnd t34 (ob1 (wra σ23 5 8 i1 (2 : Int32)) fun σ40 => ob1 (wra σ40 8 8 i1 (0 : Int32)) fun σ41 => some σ41) (some σ23) else ob1 (rd (σ23 6) 8 i1) fun x42 => ob1 (mX2_enterStage fu τ σ23 i1 (x42 + (1 : Int32))) fun σ43 => some σ43) fun σ30 => some σ30

def mX2_putStepAway (fu : Nat) (τ : MS) (σ : MS) (i1 : Int32) (i2 : Int32) (i3 : Int32) : Option MS :=
  ob1 (if i3 = (5 : Int32) then ob1 (rd (τ 12) 40 i2) fun x5 => ob1 (rd (σ 3) 6 x5) fun x6 => ob1 (rd (τ 13) 40 i2) fun x7 => ob1 (wra σ 3 6 x5 (x6 + x7)) fun σ8 => some σ8 else some σ) fun σ1 => ob1 (wra σ1 9 40 i2 i3) fun σ9 => ob1 (wra σ9 8 8 i1 (0 : Int32)) fun σ10 => some σ10

def mX2_undoLastStep (fu : Nat) (τ : MS) (σ : MS) (i1 : Int32) : Option MS :=
  ob1 (mX2_doneStepFromBehind fu τ σ i1 (0 : Int32)) fun r1 => ob1 (if 0 ≤ r1 then ob1 (rd (σ 10) 40 r1) fun x6 => (if x6 ≤ 0 then ob1 (mX2_putStepAway fu τ σ i1 r1 (5 : Int32)) fun σ8 => some σ8 else ob1 (rd (σ 10) 40 r1) fun x9 => ob1 (wra σ 10 40 r1 (x9 - (1 : Int32))) fun σ10 => ob1 (some (pf σ10 2 ((σ10 2 0) + (1 : Int32)))) fun σ11 => ob1 (rd (σ11 8) 8 i1) fun x12 => ob1 (wra σ11 8 8 i1 (x12 + (1 : Int32))) fun σ13 => ob1 (rd (σ13 8) 8 i1) fun x14 => (if x14 < (τ 1 0) then some σ13 else ob1 (mX2_comeToRest fu τ σ13 i1 (5 : Int32)) fun σ16 => some σ16)) else ob1 (mX2_comeToRest fu τ σ i1 (4 : Int32)) fun σ17 => some σ17) fun σ2 => some σ2

def mX2_passTick_L4 (fu : Nat) (τ3 : MS) (v1 : Int32) (v2 : Int32) (σ4 : MS) : Option ((Int32 × MS) ⊕ (Int32 × Int32 × MS)) :=
  (if (τ3 5 0) ≤ v1 then some (.inl (v2, σ4)) else ob1 (rd (σ4 5) 8 v1) fun x6 => ob2 (if x6 = (2 : Int32) then some ((v2 ||| ((1 : Int32) <<< (v1 &&& 31))), σ4) else ob1 (rd (σ4 5) 8 v1) fun x12 => ob1 (if x12 = 0 then ob1 (rd (τ3 6) 8 v1) fun x16 => (if x16 = (σ4 1 0) then some true else some false) else some false) fun t13 => cnd t13 (ob1 (wra σ4 5 8 v1 (1 : Int32)) fun σ18 => ob1 (mX2_enterStage fu τ3 σ18 v1 (0 : Int32)) fun σ19 => some (v2, σ19)) (some (v2, σ4))) fun v7 σ8 => some (.inr ((v1 + (1 : Int32)), v7, σ8)))

def mX2_passTick_L80 (fu : Nat) (p29 : Int32) (τ27 : MS) (v26 : Int32) (σ28 : MS) : Option (MS ⊕ (Int32 × MS)) :=
  (if (τ27 5 0) ≤ v26 then some (.inl σ28) else ob1 (rd (σ28 5) 8 v26) fun x31 => ob1 (if x31 = (1 : Int32) then ob1 (mX2_moveForward fu τ27 σ28 v26) fun σ36 => some σ36 else some σ28) fun σ32 => some (.inr ((v26 + (1 : Int32)), σ32)))

def mX2_passTick_L114 (fu : Nat) (p45 : Int32) (τ43 : MS) (v42 : Int32) (σ44 : MS) : Option (MS ⊕ (Int32 × MS)) :=
  (if (τ43 5 0) ≤ v42 then some (.inl σ44) else ob1 (if ((p45 >>> (v42 &&& 31)) &&& (1 : Int32)) = (1 : Int32) then ob1 (mX2_undoLastStep fu τ43 σ44 v42) fun σ51 => some σ51 else some σ44) fun σ47 => some (.inr ((v42 + (1 : Int32)), σ47)))

def mX2_passTick (fu : Nat) (τ : MS) (σ : MS) : Option MS :=
  ob2 (loopM (fun st => mX2_passTick_L4 fu τ st.1 st.2.1 st.2.2) fu ((0 : Int32), (0 : Int32), σ)) fun v20 σ21 => ob1 (loopM (fun st => mX2_passTick_L80 fu v20 τ st.1 st.2) fu ((0 : Int32), σ21)) fun σ37 => ob1 (loopM (fun st => mX2_passTick_L114 fu v20 τ st.1 st.2) fu ((0 : Int32), σ37)) fun σ52 => ob1 (some (pf σ52 1 ((σ52 1 0) + (1 : Int32)))) fun σ57 => some σ57

def mX2_passTicks_L10 (fu : Nat) (p4 : Int32) (p5 : Int32) (p6 : Int32) (τ2 : MS) (v1 : Int32) (σ3 : MS) : Option ((MS ⊕ MS) ⊕ (Int32 × MS)) :=
  ob1 (if p5 ≤ v1 then some false else (if p4 ≤ (σ3 1 0) then some false else some true)) fun t7 => cnd t7 (ob1 (if p6 < 0 then some false else ob1 (mX2_rests fu τ2 σ3 p6) fun r14 => (if r14 = 0 then some false else some true)) fun t11 => cnd t11 (some (.inl (.inl σ3))) (ob1 (mX2_nextEventTime fu τ2 σ3) fun r17 => ob1 (some (pf σ3 1 (if r17 < p4 then r17 else p4))) fun σ18 => ob1 (if p4 ≤ (σ18 1 0) then some σ18 else ob1 (mX2_passTick fu τ2 σ18) fun σ23 => some σ23) fun σ19 => some (.inr ((v1 + (1 : Int32)), σ19)))) (some (.inl (.inr σ3)))

def mX2_passTicks (fu : Nat) (τ : MS) (σ : MS) (i1 : Int32) (i2 : Int32) : Option MS :=
  ob1 (loopM (fun st => mX2_passTicks_L10 fu ((σ 1 0) + i1) i1 i2 τ st.1 st.2) fu ((0 : Int32), σ)) fun b29 => el1 b29 (fun r => some r) fun σ24 => some σ24

def mX2_putLastStepAway (fu : Nat) (τ : MS) (σ : MS) (i1 : Int32) (i2 : Int32) : Option (Int32 × MS) :=
  ob1 (mX2_doneStepFromBehind fu τ σ i1 (0 : Int32)) fun r1 => (if 0 ≤ r1 then ob1 (mX2_putStepAway fu τ σ i1 r1 i2) fun σ3 => ob1 (wra σ3 5 8 i1 (2 : Int32)) fun σ4 => ob1 (rd (τ 8) 8 i1) fun x5 => some ((r1 - x5), σ4) else some ((-1 : Int32), σ))

def mX2_firstOpenStage_L20 (fu : Nat) (p6 : Int32) (τ4 : MS) (σ5 : MS) (v3 : Int32)  : Option ((Int32 ⊕ Unit) ⊕ Int32) :=
  (if p6 ≤ v3 then some (.inl (.inr ())) else ob1 (mX2_isOpen fu τ4 σ5 v3) fun r8 => (if r8 = 0 then some (.inr (v3 + (1 : Int32))) else ob1 (rd (τ4 11) 40 v3) fun x11 => some (.inl (.inl x11))))

def mX2_firstOpenStage (fu : Nat) (τ : MS) (σ : MS) (i1 : Int32) : Option Int32 :=
  ob1 (rd (τ 9) 8 i1) fun x1 => ob1 (rd (τ 8) 8 i1) fun x2 => ob1 (loopM (fun st => mX2_firstOpenStage_L20 fu x1 τ σ st) fu x2) fun b16 => el1 b16 (fun r => some r) fun _ => some (-1 : Int32)

def mX2_letGoForward_L33 (fu : Nat) (p8 : Int32) (p9 : Int32) (p10 : Int32) (τ6 : MS) (v5 : Int32) (σ7 : MS) : Option (MS ⊕ (Int32 × MS)) :=
  (if p8 ≤ v5 then some (.inl σ7) else ob1 (mX2_isOpen fu τ6 σ7 v5) fun r12 => ob1 (if r12 = 0 then some σ7 else ob1 (wra σ7 9 40 v5 (0 : Int32)) fun σ18 => ob1 (rd (τ6 16) 40 v5) fun x19 => ob1 (wra σ18 11 40 v5 x19) fun σ20 => some σ20) fun σ14 => some (.inr ((v5 + (1 : Int32)), σ14)))

def mX2_letGoForward (fu : Nat) (τ : MS) (σ : MS) (i1 : Int32) : Option (Int32 × MS) :=
  ob1 (mX2_firstOpenStage fu τ σ i1) fun r1 => (if 0 ≤ r1 then ob1 (rd (τ 9) 8 i1) fun x3 => ob1 (rd (τ 8) 8 i1) fun x4 => ob1 (loopM (fun st => mX2_letGoForward_L33 fu x3 r1 i1 τ st.1 st.2) fu (x4, σ)) fun σ21 => ob1 (wra σ21 5 8 i1 (1 : Int32)) fun σ26 => ob1 (mX2_enterStage fu τ σ26 i1 r1) fun σ27 => some (r1, σ27) else some ((-1 : Int32), σ))

def mX3_putWord_L3 (fu : Nat) (τs : WS) (n : Nat) (p7 : Int32) (pa2 : PA) (ω5 : WS) (sid6 : PA) (v1 : Int32) (β3 : FS) (υ4 : MS) : Option ((FS × MS) ⊕ (Int32 × FS × MS)) :=
  (if v1 < 0 then some (.inl (β3, υ4)) else ob1 (wr β3 700 (υ4 1 0) (vp_nar .byte (((p7.toUInt32 >>> (v1.toUInt32 &&& Int32.toUInt32 31)).toInt32).toInt8.toInt32))) fun β9 => ob1 (some (pf υ4 1 ((υ4 1 0) + (1 : Int32)))) fun υ10 => some (.inr ((v1 + (-8 : Int32)), β9, υ10)))

def mX3_putWord (fu : Nat) (τs : WS) (n : Nat) (pa : PA) (β : FS) (υ : MS) (ω : WS) (sid : PA) (i1 : Int32) : Option (FS × MS) :=
  ob2 (loopM (fun st => mX3_putWord_L3 fu τs n i1 pa ω sid st.1 st.2.1 st.2.2) fu ((24 : Int32), β, υ)) fun β11 υ12 => some (β11, υ12)

def mX3_append (fu : Nat) (τs : WS) (n : Nat) (pa : PA) (β : FS) (υ : MS) (ω : WS) (sid : PA) (i1 : Int32) (i2 : Int32) (i3 : Int32) (i4 : Int32) (i5 : Int32) : Option (Int32 × FS × MS) :=
  (if ((υ 1 0) + (20 : Int32)) ≤ (700 : Int32) then ob2 (mX3_putWord fu τs n pa β υ ω sid i1) fun β2 υ3 => ob2 (mX3_putWord fu τs n pa β2 υ3 ω sid i2) fun β4 υ5 => ob2 (mX3_putWord fu τs n pa β4 υ5 ω sid i3) fun β6 υ7 => ob2 (mX3_putWord fu τs n pa β6 υ7 ω sid i4) fun β8 υ9 => ob2 (mX3_putWord fu τs n pa β8 υ9 ω sid i5) fun β10 υ11 => some ((υ11 1 0), β10, υ11) else some ((-1 : Int32), β, υ))

def mX3_errorOffset (fu : Nat) (τs : WS) (n : Nat) (pa : PA) (β : FS) (υ : MS) (ω : WS) (sid : PA) : Option Int32 :=
  some (υ 2 0)

def mX3_checkWhat (fu : Nat) (τs : WS) (n : Nat) (pa : PA) (β : FS) (υ : MS) (ω : WS) (sid : PA) (i1 : Int32) (i2 : Int32) : Option (String ⊕ Unit) :=
  ob1 (if i1 < 0 then some true else (if i1 < i2 then some false else some true)) fun t1 => cnd t1 (some (.inl "java/lang/IllegalArgumentException")) (some (.inr ()))

def mX3_state (fu : Nat) (τs : WS) (n : Nat) (pa : PA) (β : FS) (υ : MS) (ω : WS) (sid : PA) (i1 : Int32) : Option (String ⊕ Int32) :=
  obX (mX3_checkWhat fu τs n pa β υ ω sid i1 (10 : Int32)) fun _ => ob1 (gW sid n 0) fun _ => ob1 (mX2_numberOfAll fu (τs (sid 0)) (ω 0) i1) fun r3 => some (.inr r3)

def mX3_checkStock (fu : Nat) (τs : WS) (n : Nat) (pa : PA) (β : FS) (υ : MS) (ω : WS) (sid : PA) (i1 : Int32) : Option (String ⊕ Unit) :=
  ob1 (if i1 < 0 then some true else ob1 (gW sid n 0) fun _ => ob1 (gW sid n 0) fun _ => (if i1 < (τs (sid 0) 2 0) then some false else some true)) fun t1 => cnd t1 (some (.inl "java/lang/IndexOutOfBoundsException")) (some (.inr ()))

def mX3_stock (fu : Nat) (τs : WS) (n : Nat) (pa : PA) (β : FS) (υ : MS) (ω : WS) (sid : PA) (i1 : Int32) (i2 : Int32) : Option (String ⊕ Int32) :=
  obX (mX3_checkStock fu τs n pa β υ ω sid i1) fun _ => obX (mX3_checkWhat fu τs n pa β υ ω sid i2 (6 : Int32)) fun _ => ob1 (gW sid n 0) fun _ => ob1 (mX2_numberOfStock fu (τs (sid 0)) (ω 0) i1 i2) fun r4 => some (.inr r4)

def mX3_checkJourney (fu : Nat) (τs : WS) (n : Nat) (pa : PA) (β : FS) (υ : MS) (ω : WS) (sid : PA) (i1 : Int32) : Option (String ⊕ Unit) :=
  ob1 (if i1 < 0 then some true else ob1 (gW sid n 0) fun _ => ob1 (gW sid n 0) fun _ => (if i1 < (τs (sid 0) 5 0) then some false else some true)) fun t1 => cnd t1 (some (.inl "java/lang/IndexOutOfBoundsException")) (some (.inr ()))

def mX3_journey (fu : Nat) (τs : WS) (n : Nat) (pa : PA) (β : FS) (υ : MS) (ω : WS) (sid : PA) (i1 : Int32) (i2 : Int32) : Option (String ⊕ Int32) :=
  obX (mX3_checkJourney fu τs n pa β υ ω sid i1) fun _ => obX (mX3_checkWhat fu τs n pa β υ ω sid i2 (7 : Int32)) fun _ => ob1 (gW sid n 0) fun _ => ob1 (mX2_numberOfJourney fu (τs (sid 0)) (ω 0) i1 i2) fun r4 => some (.inr r4)

def mX3_step (fu : Nat) (τs : WS) (n : Nat) (pa : PA) (β : FS) (υ : MS) (ω : WS) (sid : PA) (i1 : Int32) (i2 : Int32) (i3 : Int32) : Option (String ⊕ Int32) :=
  obX (mX3_checkJourney fu τs n pa β υ ω sid i1) fun _ => ob1 (if i2 < 0 then some true else ob1 (gW sid n 0) fun _ => ob1 (gW sid n 0) fun _ => ob1 (mX0_stepsOf fu (τs (sid 0)) i1) fun r7 => (if i2 < r7 then some false else some true)) fun t2 => cnd t2 (some (.inl "java/util/NoSuchElementException")) (obX (mX3_checkWhat fu τs n pa β υ ω sid i3 (7 : Int32)) fun _ => ob1 (gW sid n 0) fun _ => ob1 (gW sid n 0) fun _ => ob1 (gW sid n 0) fun _ => ob1 (rd (τs (sid 0) 8) 8 i1) fun x13 => ob1 (gW sid n 0) fun _ => ob1 (mX2_numberOfStep fu (τs (sid 0)) (ω 0) (x13 + i2) i3) fun r15 => some (.inr r15))

def mX3_owed (fu : Nat) (τs : WS) (n : Nat) (pa : PA) (β : FS) (υ : MS) (ω : WS) (sid : PA) (i1 : Int32) (i2 : Int32) : Option (String ⊕ Int32) :=
  obX (mX3_checkJourney fu τs n pa β υ ω sid i1) fun _ => ob1 (if 0 ≤ i2 then ob1 (gW sid n 0) fun _ => ob1 (mX2_doneStepFromBehind fu (τs (sid 0)) (ω 0) i1 i2) fun r7 => some r7 else some (-1 : Int32)) fun v2 => (if 0 ≤ v2 then ob1 (gW sid n 0) fun _ => ob1 (gW sid n 0) fun _ => ob1 (gW sid n 0) fun _ => ob1 (rd (τs (sid 0) 8) 8 i1) fun x12 => some (.inr (v2 - x12)) else some (.inl "java/util/NoSuchElementException"))

def mX3_restsIn (fu : Nat) (τs : WS) (n : Nat) (pa : PA) (β : FS) (υ : MS) (ω : WS) (sid : PA) (i1 : Int32) : Option (String ⊕ (Int32 × WS × PA)) :=
  obX (mX3_checkJourney fu τs n pa β υ ω sid i1) fun _ => ob1 (gC 1 0 sid n) fun _ => ob1 (mX2_copyFrom fu (ω 0) (ω 1)) fun σ3 => ob1 (some (va_up ω 1 σ3)) fun ω4 => ob1 (some (va_up sid 1 (sid 0))) fun sid5 => ob1 (gW sid5 n 1) fun _ => ob1 (mX2_passTicks fu (τs (sid5 1)) (ω4 1) (3000 : Int32) i1) fun σ7 => ob1 (some (va_up ω4 1 σ7)) fun ω8 => ob1 (gW sid5 n 1) fun _ => ob1 (mX2_rests fu (τs (sid5 1)) (ω8 1) i1) fun r10 => ob1 (if r10 = 0 then some (-1 : Int32) else ob1 (gW sid5 n 1) fun _ => ob1 (gW sid5 n 0) fun _ => some ((ω8 1 1 0) - (ω8 0 1 0))) fun v12 => some (.inr (v12, ω8, sid5))

def mX3_stateAfter (fu : Nat) (τs : WS) (n : Nat) (pa : PA) (β : FS) (υ : MS) (ω : WS) (sid : PA) (i1 : Int32) (i2 : Int32) : Option (String ⊕ (Int32 × WS × PA)) :=
  obX (mX3_checkJourney fu τs n pa β υ ω sid i1) fun _ => ob1 (if i2 < 0 then some true else (if i2 ≤ (3000 : Int32) then some false else some true)) fun t2 => cnd t2 (some (.inl "java/lang/IllegalArgumentException")) (ob1 (gC 1 0 sid n) fun _ => ob1 (mX2_copyFrom fu (ω 0) (ω 1)) fun σ7 => ob1 (some (va_up ω 1 σ7)) fun ω8 => ob1 (some (va_up sid 1 (sid 0))) fun sid9 => ob1 (gW sid9 n 1) fun _ => ob1 (mX2_passTicks fu (τs (sid9 1)) (ω8 1) i2 i1) fun σ11 => ob1 (some (va_up ω8 1 σ11)) fun ω12 => ob1 (gW sid9 n 1) fun _ => ob1 (gW sid9 n 1) fun _ => ob1 (rd (ω12 1 5) 8 i1) fun x15 => some (.inr (x15, ω12, sid9)))

def mX3_help_L12 (fu : Nat) (τs : WS) (n : Nat) (p9 : Int32) (p10 : Int32) (pa4 : PA) (β5 : FS) (υ6 : MS) (v3 : Int32) (ω7 : WS) (sid8 : PA) : Option (((String ⊕ (Int32 × WS × PA)) ⊕ (WS × PA)) ⊕ (Int32 × WS × PA)) :=
  (if (999 : Int32) < v3 then some (.inl (.inr (ω7, sid8))) else ob1 (gC 1 0 sid8 n) fun _ => ob1 (mX2_copyFrom fu (ω7 0) (ω7 1)) fun σ13 => ob1 (some (va_up ω7 1 σ13)) fun ω14 => ob1 (some (va_up sid8 1 (sid8 0))) fun sid15 => ob1 (gW sid15 n 1) fun _ => ob1 (gW sid15 n 1) fun _ => ob1 (rd (ω14 1 3) 6 p10) fun x18 => ob1 (gW sid15 n 1) fun _ => ob1 (wra (ω14 1) 3 6 p10 (x18 + v3)) fun σ20 => ob1 (some (va_up ω14 1 σ20)) fun ω21 => ob1 (gW sid15 n 1) fun _ => ob1 (mX2_passTicks fu (τs (sid15 1)) (ω21 1) (1100 : Int32) p9) fun σ23 => ob1 (some (va_up ω21 1 σ23)) fun ω24 => ob1 (gW sid15 n 1) fun _ => ob1 (gW sid15 n 1) fun _ => ob1 (rd (ω24 1 5) 8 p9) fun x27 => (if x27 = (3 : Int32) then some (.inl (.inl (.inr (v3, ω24, sid15)))) else ob1 (gW sid15 n 1) fun _ => ob1 (gW sid15 n 1) fun _ => ob1 (rd (ω24 1 4) 6 p10) fun x31 => some (.inr ((v3 + (if (1 : Int32) < x31 then x31 else (1 : Int32))), ω24, sid15))))

def mX3_help (fu : Nat) (τs : WS) (n : Nat) (pa : PA) (β : FS) (υ : MS) (ω : WS) (sid : PA) (i1 : Int32) (i2 : Int32) : Option (String ⊕ (Int32 × WS × PA)) :=
  obX (mX3_checkJourney fu τs n pa β υ ω sid i1) fun _ => obX (mX3_checkStock fu τs n pa β υ ω sid i2) fun _ => ob1 (loopM (fun st => mX3_help_L12 fu τs n i1 i2 pa β υ st.1 st.2.1 st.2.2) fu ((0 : Int32), ω, sid)) fun b38 => el2 b38 (fun r => some r) fun ω32 sid33 => some (.inr ((-1 : Int32), ω32, sid33))

def mX3_remember_L18 (fu : Nat) (τs : WS) (n : Nat) (β9 : FS) (υ10 : MS) (ω11 : WS) (sid12 : PA) (v7 : Int32) (pa8 : PA) : Option (PA ⊕ (Int32 × PA)) :=
  (if (8 : Int32) ≤ v7 then some (.inl pa8) else ob1 (hix v7) fun j14 => ob1 (gW sid12 n (pa8 j14)) fun _ => ob1 (hix (v7 - (1 : Int32))) fun j15 => ob1 (some (va_up pa8 j15 (pa8 j14))) fun pa16 => some (.inr ((v7 + (1 : Int32)), pa16)))

def mX3_remember (fu : Nat) (τs : WS) (n : Nat) (pa : PA) (β : FS) (υ : MS) (ω : WS) (sid : PA) : Option (PA × MS × WS × PA) :=
  ob2 (if (υ 6 0) < (8 : Int32) then some (pa, υ) else ob1 (hix (0 : Int32)) fun j6 => ob1 (loopM (fun st => mX3_remember_L18 fu τs n β υ ω sid st.1 st.2) fu ((1 : Int32), pa)) fun pa18 => ob1 (gW sid n (pa j6)) fun _ => ob1 (hix ((8 : Int32) - (1 : Int32))) fun j23 => ob1 (some (va_up pa18 j23 (pa j6))) fun pa24 => ob1 (some (pf υ 6 (7 : Int32))) fun υ26 => some (pa24, υ26)) fun pa1 υ2 => ob1 (hix (υ2 6 0)) fun j36 => ob1 (gC (pa1 j36) 0 sid n) fun _ => ob1 (mX2_copyFrom fu (ω 0) (ω (pa1 j36))) fun σ38 => ob1 (some (va_up ω (pa1 j36) σ38)) fun ω39 => ob1 (some (va_up sid (pa1 j36) (sid 0))) fun sid40 => ob1 (some (pf υ2 6 ((υ2 6 0) + (1 : Int32)))) fun υ41 => some (pa1, υ41, ω39, sid40)

def mX3_pass (fu : Nat) (τs : WS) (n : Nat) (pa : PA) (β : FS) (υ : MS) (ω : WS) (sid : PA) (i1 : Int32) : Option (String ⊕ (Int32 × PA × MS × WS × PA)) :=
  ob1 (if i1 < (1 : Int32) then some true else (if (200 : Int32) < i1 then some true else ob1 (gW sid n 0) fun _ => (if ((ω 0 1 0) + i1) ≤ (9999 : Int32) then some false else some true))) fun t1 => cnd t1 (some (.inl "java/lang/IllegalArgumentException")) (ob4 (mX3_remember fu τs n pa β υ ω sid) fun pa7 υ8 ω9 sid10 => ob1 (gW sid10 n 0) fun _ => ob1 (mX2_endedJourneys fu (τs (sid10 0)) (ω9 0)) fun r12 => ob1 (gW sid10 n 0) fun _ => ob1 (mX2_passTicks fu (τs (sid10 0)) (ω9 0) i1 (-1 : Int32)) fun σ14 => ob1 (some (va_up ω9 0 σ14)) fun ω15 => ob1 (gW sid10 n 0) fun _ => ob1 (mX2_endedJourneys fu (τs (sid10 0)) (ω15 0)) fun r17 => some (.inr ((r17 - r12), pa7, υ8, ω15, sid10)))

def mX3_checkParked (fu : Nat) (τs : WS) (n : Nat) (pa : PA) (β : FS) (υ : MS) (ω : WS) (sid : PA) (i1 : Int32) : Option (String ⊕ Unit) :=
  ob1 (gW sid n 0) fun _ => ob1 (gW sid n 0) fun _ => ob1 (rd (ω 0 5) 8 i1) fun x3 => (if x3 = (5 : Int32) then some (.inr ()) else some (.inl "java/lang/IllegalStateException"))

def mX3_settle (fu : Nat) (τs : WS) (n : Nat) (pa : PA) (β : FS) (υ : MS) (ω : WS) (sid : PA) (i1 : Int32) : Option (String ⊕ (Int32 × PA × MS × WS × PA)) :=
  obX (mX3_checkJourney fu τs n pa β υ ω sid i1) fun _ => obX (mX3_checkParked fu τs n pa β υ ω sid i1) fun _ => ob4 (mX3_remember fu τs n pa β υ ω sid) fun pa3 υ4 ω5 sid6 => ob1 (gW sid6 n 0) fun _ => ob2 (mX2_putLastStepAway fu (τs (sid6 0)) (ω5 0) i1 (5 : Int32)) fun r8 σ9 => ob1 (some (va_up ω5 0 σ9)) fun ω10 => some (.inr (r8, pa3, υ4, ω10, sid6))

def mX3_writeOff (fu : Nat) (τs : WS) (n : Nat) (pa : PA) (β : FS) (υ : MS) (ω : WS) (sid : PA) (i1 : Int32) : Option (String ⊕ (Int32 × PA × MS × WS × PA)) :=
  obX (mX3_checkJourney fu τs n pa β υ ω sid i1) fun _ => obX (mX3_checkParked fu τs n pa β υ ω sid i1) fun _ => ob4 (mX3_remember fu τs n pa β υ ω sid) fun pa3 υ4 ω5 sid6 => ob1 (gW sid6 n 0) fun _ => ob2 (mX2_putLastStepAway fu (τs (sid6 0)) (ω5 0) i1 (6 : Int32)) fun r8 σ9 => ob1 (some (va_up ω5 0 σ9)) fun ω10 => some (.inr (r8, pa3, υ4, ω10, sid6))

def mX3_goForward (fu : Nat) (τs : WS) (n : Nat) (pa : PA) (β : FS) (υ : MS) (ω : WS) (sid : PA) (i1 : Int32) : Option (String ⊕ (Int32 × PA × MS × WS × PA)) :=
  obX (mX3_checkJourney fu τs n pa β υ ω sid i1) fun _ => obX (mX3_checkParked fu τs n pa β υ ω sid i1) fun _ => ob4 (mX3_remember fu τs n pa β υ ω sid) fun pa3 υ4 ω5 sid6 => ob1 (gW sid6 n 0) fun _ => ob2 (mX2_letGoForward fu (τs (sid6 0)) (ω5 0) i1) fun r8 σ9 => ob1 (some (va_up ω5 0 σ9)) fun ω10 => some (.inr (r8, pa3, υ4, ω10, sid6))

def mX3_restock (fu : Nat) (τs : WS) (n : Nat) (pa : PA) (β : FS) (υ : MS) (ω : WS) (sid : PA) (i1 : Int32) (i2 : Int32) : Option (String ⊕ (Int32 × PA × MS × WS × PA)) :=
  obX (mX3_checkStock fu τs n pa β υ ω sid i1) fun _ => ob1 (if i2 < (1 : Int32) then some true else (if i2 ≤ (999 : Int32) then some false else some true)) fun t2 => cnd t2 (some (.inl "java/lang/IllegalArgumentException")) (ob4 (mX3_remember fu τs n pa β υ ω sid) fun pa6 υ7 ω8 sid9 => ob1 (gW sid9 n 0) fun _ => ob1 (gW sid9 n 0) fun _ => ob1 (rd (ω8 0 3) 6 i1) fun x12 => ob1 (gW sid9 n 0) fun _ => ob1 (wra (ω8 0) 3 6 i1 (x12 + i2)) fun σ14 => ob1 (some (va_up ω8 0 σ14)) fun ω15 => ob1 (gW sid9 n 0) fun _ => ob1 (gW sid9 n 0) fun _ => ob1 (rd (ω15 0 3) 6 i1) fun x18 => some (.inr (x18, pa6, υ7, ω15, sid9)))

def mX3_undo (fu : Nat) (τs : WS) (n : Nat) (pa : PA) (β : FS) (υ : MS) (ω : WS) (sid : PA) : Option (Int32 × MS × WS × PA) :=
  (if (1 : Int32) ≤ (υ 6 0) then ob1 (some (pf υ 6 ((υ 6 0) - (1 : Int32)))) fun υ2 => ob1 (hix (υ2 6 0)) fun j3 => ob1 (gC 0 (pa j3) sid n) fun _ => ob1 (mX2_copyFrom fu (ω (pa j3)) (ω 0)) fun σ5 => ob1 (some (va_up ω 0 σ5)) fun ω6 => ob1 (some (va_up sid 0 (sid (pa j3)))) fun sid7 => some ((υ2 6 0), υ2, ω6, sid7) else some ((-1 : Int32), υ, ω, sid))

def mX3_sumWithJourney_L6 (fu : Nat) (τs : WS) (n : Nat) (p8 : Int32) (pa3 : PA) (β4 : FS) (υ5 : MS) (ω6 : WS) (sid7 : PA) (v1 : Int32) (v2 : Int64)  : Option (Int64 ⊕ (Int32 × Int64)) :=
  (if (7 : Int32) ≤ v1 then some (.inl v2) else ob1 (gW sid7 n 0) fun _ => ob1 (mX2_numberOfJourney fu (τs (sid7 0)) (ω6 0) p8 v1) fun r11 => some (.inr ((v1 + (1 : Int32)), (((31 : Int64) * v2) + (r11.toInt64)))))

def mX3_sumWithJourney_L77 (fu : Nat) (τs : WS) (n : Nat) (p41 : Int32) (p42 : Int32) (pa36 : PA) (β37 : FS) (υ38 : MS) (ω39 : WS) (sid40 : PA) (v34 : Int32) (v35 : Int64)  : Option (Int64 ⊕ (Int32 × Int64)) :=
  (if (7 : Int32) ≤ v34 then some (.inl v35) else ob1 (gW sid40 n 0) fun _ => ob1 (mX2_numberOfStep fu (τs (sid40 0)) (ω39 0) p41 v34) fun r45 => some (.inr ((v34 + (1 : Int32)), (((31 : Int64) * v35) + (r45.toInt64)))))

def mX3_sumWithJourney_L67 (fu : Nat) (τs : WS) (n : Nat) (p32 : Int32) (pa27 : PA) (β28 : FS) (υ29 : MS) (ω30 : WS) (sid31 : PA) (v25 : Int32) (v26 : Int64)  : Option (Int64 ⊕ (Int32 × Int64)) :=
  (if p32 ≤ v25 then some (.inl v26) else ob1 (loopM (fun st => mX3_sumWithJourney_L77 fu τs n v25 p32 pa27 β28 υ29 ω30 sid31 st.1 st.2) fu ((4 : Int32), v26)) fun v46 => some (.inr ((v25 + (1 : Int32)), v46)))

def mX3_sumWithJourney (fu : Nat) (τs : WS) (n : Nat) (pa : PA) (β : FS) (υ : MS) (ω : WS) (sid : PA) (i1 : Int64) (i2 : Int32) : Option Int64 :=
  ob1 (loopM (fun st => mX3_sumWithJourney_L6 fu τs n i2 pa β υ ω sid st.1 st.2) fu ((0 : Int32), i1)) fun v12 => ob1 (gW sid n 0) fun _ => ob1 (gW sid n 0) fun _ => ob1 (gW sid n 0) fun _ => ob1 (rd (τs (sid 0) 9) 8 i2) fun x20 => ob1 (gW sid n 0) fun _ => ob1 (gW sid n 0) fun _ => ob1 (gW sid n 0) fun _ => ob1 (rd (τs (sid 0) 8) 8 i2) fun x24 => ob1 (loopM (fun st => mX3_sumWithJourney_L67 fu τs n x20 pa β υ ω sid st.1 st.2) fu (x24, v12)) fun v58 => some v58

def mX3_checksum_L4 (fu : Nat) (τs : WS) (n : Nat) (pa3 : PA) (β4 : FS) (υ5 : MS) (ω6 : WS) (sid7 : PA) (v1 : Int32) (v2 : Int64)  : Option (Int64 ⊕ (Int32 × Int64)) :=
  (if (10 : Int32) ≤ v1 then some (.inl v2) else ob1 (gW sid7 n 0) fun _ => ob1 (mX2_numberOfAll fu (τs (sid7 0)) (ω6 0) v1) fun r10 => some (.inr ((v1 + (1 : Int32)), (((31 : Int64) * v2) + (r10.toInt64)))))

def mX3_checksum_L51 (fu : Nat) (τs : WS) (n : Nat) (p33 : Int32) (pa28 : PA) (β29 : FS) (υ30 : MS) (ω31 : WS) (sid32 : PA) (v26 : Int32) (v27 : Int64)  : Option (Int64 ⊕ (Int32 × Int64)) :=
  (if (6 : Int32) ≤ v26 then some (.inl v27) else ob1 (gW sid32 n 0) fun _ => ob1 (mX2_numberOfStock fu (τs (sid32 0)) (ω31 0) p33 v26) fun r36 => some (.inr ((v26 + (1 : Int32)), (((31 : Int64) * v27) + (r36.toInt64)))))

def mX3_checksum_L34 (fu : Nat) (τs : WS) (n : Nat) (pa18 : PA) (β19 : FS) (υ20 : MS) (ω21 : WS) (sid22 : PA) (v16 : Int32) (v17 : Int64)  : Option (Int64 ⊕ (Int32 × Int64)) :=
  ob1 (gW sid22 n 0) fun _ => ob1 (gW sid22 n 0) fun _ => (if (τs (sid22 0) 2 0) ≤ v16 then some (.inl v17) else ob1 (loopM (fun st => mX3_checksum_L51 fu τs n v16 pa18 β19 υ20 ω21 sid22 st.1 st.2) fu ((0 : Int32), v17)) fun v37 => some (.inr ((v16 + (1 : Int32)), v37)))

def mX3_checksum_L90 (fu : Nat) (τs : WS) (n : Nat) (pa56 : PA) (β57 : FS) (υ58 : MS) (ω59 : WS) (sid60 : PA) (v54 : Int32) (v55 : Int64)  : Option (Int64 ⊕ (Int32 × Int64)) :=
  ob1 (gW sid60 n 0) fun _ => ob1 (gW sid60 n 0) fun _ => (if (τs (sid60 0) 5 0) ≤ v54 then some (.inl v55) else ob1 (mX3_sumWithJourney fu τs n pa56 β57 υ58 ω59 sid60 v55 v54) fun r64 => some (.inr ((v54 + (1 : Int32)), r64)))

def mX3_checksum (fu : Nat) (τs : WS) (n : Nat) (pa : PA) (β : FS) (υ : MS) (ω : WS) (sid : PA) : Option Int64 :=
  ob1 (loopM (fun st => mX3_checksum_L4 fu τs n pa β υ ω sid st.1 st.2) fu ((0 : Int32), (0 : Int64))) fun v11 => ob1 (loopM (fun st => mX3_checksum_L34 fu τs n pa β υ ω sid st.1 st.2) fu ((0 : Int32), v11)) fun v49 => ob1 (loopM (fun st => mX3_checksum_L90 fu τs n pa β υ ω sid st.1 st.2) fu ((0 : Int32), v49)) fun v65 => some v65

