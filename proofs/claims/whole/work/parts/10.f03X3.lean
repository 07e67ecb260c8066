def f_X3_begin (p_ad : Pic) (z_ad : Pic) (x1 : Int32) (x2 : Int32) (x3 : Int32) : Option (Pic × Pic) := (some (pS p_ad 0 x1)).bind fun p_ad1 => (some (pS p_ad1 1 x2)).bind fun p_ad2 => (some (pS p_ad2 2 x3)).bind fun p_ad3 => (f_X7_clear z_ad).bind fun u4 => (some (flA p_ad3 4 30 0)).bind fun p_ad5 => (some (flA p_ad5 8 30 0)).bind fun p_ad6 => (some (pS p_ad6 11 0)).bind fun p_ad7 => (some (flA p_ad7 12 4 0)).bind fun p_ad8 => (some (pS p_ad8 14 0)).bind fun p_ad9 => some (p_ad9, u4)
def f_X3_copyFrom (p_aa : Pic) (p_ad : Pic) (z_aa : Pic) (z_ad : Pic) : Option (Pic × Pic) := (some (pS p_ad 0 (gS p_aa 0))).bind fun p_ad1 => (some (pS p_ad1 1 (gS p_aa 1))).bind fun p_ad2 => (some (pS p_ad2 2 (gS p_aa 2))).bind fun p_ad3 => (f_X7_copyFrom z_aa z_ad).bind fun u4 => (cpA p_ad3 4 30 p_aa 4 30 0 0 30).bind fun p_ad5 => (cpA p_ad5 5 30 p_aa 5 30 0 0 30).bind fun p_ad6 => (cpA p_ad6 6 30 p_aa 6 30 0 0 30).bind fun p_ad7 => (cpA p_ad7 7 30 p_aa 7 30 0 0 30).bind fun p_ad8 => (cpA p_ad8 8 30 p_aa 8 30 0 0 30).bind fun p_ad9 => (cpA p_ad9 9 480 p_aa 9 480 0 0 480).bind fun p_ad10 => (cpA p_ad10 10 30 p_aa 10 30 0 0 30).bind fun p_ad11 => (some (pS p_ad11 11 (gS p_aa 11))).bind fun p_ad12 => (cpA p_ad12 12 4 p_aa 12 4 0 0 4).bind fun p_ad13 => (some (pS p_ad13 14 0)).bind fun p_ad14 => some (p_ad14, u4)
def b_X3_countAt_4 (p_ad : Pic) (x1 : Int32) (k4 : Int32 → Int32 → Option (Int32)) (v2 : Int32) (v3 : Int32) : Option (Int32) := if 30 ≤ v3 then some (v2) else (rA p_ad 4 30 v3).bind fun v1_ => if v1_ = x1 then k4 (v2 + 1) (v3 + 1) else k4 (v2 + 0) (v3 + 1)
def L_X3_countAt_4 (p_ad : Pic) (x1 : Int32)  : Nat → Int32 → Int32 → Option (Int32)
  | 0 => fun _ _ => none
  | n + 1 => b_X3_countAt_4 p_ad x1 (L_X3_countAt_4 p_ad x1  n)
def f_X3_countAt (p_ad : Pic) (x1 : Int32) : Option (Int32) := L_X3_countAt_4 p_ad x1 FU 0 0
def b_X3_unitsTaken_4 (p_ad : Pic) (k4 : Int32 → Int32 → Option (Int32)) (v1 : Int32) (v2 : Int32) : Option (Int32) := if 30 ≤ v2 then some (v1) else (rA p_ad 4 30 v2).bind fun v1_ => if v1_ = 2 then (rA p_ad 5 30 v2).bind fun v2_ => k4 (v1 + v2_) (v2 + 1) else k4 (v1 + 0) (v2 + 1)
def L_X3_unitsTaken_4 (p_ad : Pic)  : Nat → Int32 → Int32 → Option (Int32)
  | 0 => fun _ _ => none
  | n + 1 => b_X3_unitsTaken_4 p_ad (L_X3_unitsTaken_4 p_ad  n)
def f_X3_unitsTaken (p_ad : Pic) : Option (Int32) := L_X3_unitsTaken_4 p_ad FU 0 0
def b_X3_ageOf_2 (p_ad : Pic) (x1 : Int32) (k2 : Int32 → Option (Int32)) (v2 : Int32) : Option (Int32) := if (gS p_ad 11) ≤ v2 then some ((-1)) else if 30 ≤ v2 then some ((-1)) else (rA p_ad 10 30 v2).bind fun v1_ => if v1_ = x1 then some (v2) else k2 (v2 + 1)
def L_X3_ageOf_2 (p_ad : Pic) (x1 : Int32)  : Nat → Int32 → Option (Int32)
  | 0 => fun _ => none
  | n + 1 => b_X3_ageOf_2 p_ad x1 (L_X3_ageOf_2 p_ad x1  n)
def f_X3_ageOf (p_ad : Pic) (x1 : Int32) : Option (Int32) := L_X3_ageOf_2 p_ad x1 FU 0
def f_X3_zoneFor (p_ad : Pic) (z_ad : Pic) (x1 : Int32) : Option (Int32) := (f_X7_fullest z_ad x1 (-1)).bind fun u1 => if u1 < 0 then (f_X7_freeNumber z_ad).bind fun u2 => if u2 < 0 then some ((-2)) else (f_X0_framesOf x1).bind fun u3 => if (gS p_ad 0) < ((gS z_ad 0) + u3) then some ((-2)) else some (u2) else some (u1)
def f_X3_notePushed (p_ad : Pic) (x1 : Int32) : Option (Pic) := (rA p_ad 12 4 1).bind fun v1_ => (wA p_ad 12 4 1 (v1_ + 1)).bind fun p_ad2 => if 30 ≤ (gS p_ad2 14) then some (p_ad2) else (wA p_ad2 13 30 (gS p_ad2 14) x1).bind fun p_ad3 => (some (pS p_ad3 14 ((gS p_ad3 14) + 1))).bind fun p_ad4 => some (p_ad4)
def b_X3_leaveAges_49 (x1 : Int32)  (p_ad : Pic) (v2 : Int32) : Option (Pic) := (some (pS p_ad 11 v2)).bind fun p_ad1 => some (p_ad1)
def b_X3_leaveAges_4 (x1 : Int32) (k4 : Pic → Int32 → Int32 → Option (Pic)) (p_ad : Pic) (v2 : Int32) (v3 : Int32) : Option (Pic) := if (gS p_ad 11) ≤ v3 then b_X3_leaveAges_49 x1 p_ad v2 else if 30 ≤ v3 then b_X3_leaveAges_49 x1 p_ad v2 else (rA p_ad 10 30 v3).bind fun v2_ => if v2_ = x1 then k4 p_ad v2 (v3 + 1) else (rA p_ad 10 30 v3).bind fun v3_ => (wA p_ad 10 30 v2 v3_).bind fun p_ad4 => k4 p_ad4 (v2 + 1) (v3 + 1)
def L_X3_leaveAges_4 (x1 : Int32)  : Nat → Pic → Int32 → Int32 → Option (Pic)
  | 0 => fun _ _ _ => none
  | n + 1 => b_X3_leaveAges_4 x1 (L_X3_leaveAges_4 x1  n)
def f_X3_leaveAges (p_ad : Pic) (x1 : Int32) : Option (Pic) := L_X3_leaveAges_4 x1 FU p_ad 0 0
def f_X3_addYoungest (p_ad : Pic) (x1 : Int32) : Option (Pic) := if 30 ≤ (gS p_ad 11) then some (p_ad) else (wA p_ad 10 30 (gS p_ad 11) x1).bind fun p_ad1 => (some (pS p_ad1 11 ((gS p_ad1 11) + 1))).bind fun p_ad2 => some (p_ad2)
def b_X3_pagesAtHome_5 (p_ad : Pic) (x1 : Int32) (x2 : Int32) (k5 : Int32 → Int32 → Option (Int32)) (v3 : Int32) (v4 : Int32) : Option (Int32) := if 30 ≤ v4 then some (v3) else (rA p_ad 4 30 v4).bind fun v1_ => if v1_ = 2 then (rA p_ad 5 30 v4).bind fun v2_ => (f_X0_homeOf v2_ x2).bind fun u3 => if u3 = x1 then k5 (v3 + 1) (v4 + 1) else k5 v3 (v4 + 1) else k5 v3 (v4 + 1)
def L_X3_pagesAtHome_5 (p_ad : Pic) (x1 : Int32) (x2 : Int32)  : Nat → Int32 → Int32 → Option (Int32)
  | 0 => fun _ _ => none
  | n + 1 => b_X3_pagesAtHome_5 p_ad x1 x2 (L_X3_pagesAtHome_5 p_ad x1 x2  n)
def f_X3_pagesAtHome (p_ad : Pic) (x1 : Int32) (x2 : Int32) : Option (Int32) := L_X3_pagesAtHome_5 p_ad x1 x2 FU 0 0
def f_X3_isPage (x0 : Int32) : Option (Int32) := if x0 < 0 then some (0) else if 30 ≤ x0 then some (0) else some (1)
def b_X3_likeCells_18 (p_ad : Pic) (x1 : Int32) (x2 : Int32) (k18 : Int32 → Option (Int32)) (v3 : Int32) : Option (Int32) := if 16 ≤ v3 then some (1) else (rA p_ad 9 480 ((x1 * 16) + v3)).bind fun v3_ => (rA p_ad 9 480 ((x2 * 16) + v3)).bind fun v4_ => if v3_ = v4_ then k18 (v3 + 1) else some (0)
def L_X3_likeCells_18 (p_ad : Pic) (x1 : Int32) (x2 : Int32)  : Nat → Int32 → Option (Int32)
  | 0 => fun _ => none
  | n + 1 => b_X3_likeCells_18 p_ad x1 x2 (L_X3_likeCells_18 p_ad x1 x2  n)
def f_X3_likeCells (p_ad : Pic) (x1 : Int32) (x2 : Int32) : Option (Int32) := (f_X3_isPage x1).bind fun u1 => if u1 = 0 then some (0) else (f_X3_isPage x2).bind fun u2 => if u2 = 0 then some (0) else L_X3_likeCells_18 p_ad x1 x2 FU 0
def b_X3_coldestLoose_2 (p_ad : Pic) (k2 : Int32 → Option (Int32)) (v1 : Int32) : Option (Int32) := if (gS p_ad 11) ≤ v1 then some ((-1)) else if 30 ≤ v1 then some ((-1)) else (rA p_ad 10 30 v1).bind fun v1_ => (f_X3_isPage v1_).bind fun u2 => if u2 = 0 then k2 (v1 + 1) else (rA p_ad 8 30 v1_).bind fun v3_ => if v3_ = 0 then some (v1_) else k2 (v1 + 1)
def L_X3_coldestLoose_2 (p_ad : Pic)  : Nat → Int32 → Option (Int32)
  | 0 => fun _ => none
  | n + 1 => b_X3_coldestLoose_2 p_ad (L_X3_coldestLoose_2 p_ad  n)
def f_X3_coldestLoose (p_ad : Pic) : Option (Int32) := L_X3_coldestLoose_2 p_ad FU 0
def b_X3_framesBy_4 (p_ad : Pic) (x1 : Int32) (k4 : Int32 → Int32 → Option (Int32)) (v2 : Int32) (v3 : Int32) : Option (Int32) := if 16 < v3 then some (v2) else (f_X0_slotsOf v3).bind fun u1 => if u1 ≤ 0 then k4 v2 (v3 + 1) else (f_X3_pagesAtHome p_ad v3 x1).bind fun u2 => (dvI ((u2 + u1) - 1) u1).bind fun v3_ => (f_X0_framesOf v3).bind fun u4 => k4 (v2 + (v3_ * u4)) (v3 + 1)
def L_X3_framesBy_4 (p_ad : Pic) (x1 : Int32)  : Nat → Int32 → Int32 → Option (Int32)
  | 0 => fun _ _ => none
  | n + 1 => b_X3_framesBy_4 p_ad x1 (L_X3_framesBy_4 p_ad x1  n)
def f_X3_framesBy (p_ad : Pic) (x1 : Int32) : Option (Int32) := L_X3_framesBy_4 p_ad x1 FU 0 1
def f_X3_loadPage (p_ad : Pic) (x1 : Int32) : Option (Pic) := (f_X3_isPage x1).bind fun u1 => if u1 = 0 then some (p_ad) else (rA p_ad 4 30 x1).bind fun v2_ => if v2_ = 2 then (f_X3_leaveAges p_ad x1).bind fun u6 => (f_X3_addYoungest u6 x1).bind fun u7 => some (u7) else (rA p_ad 4 30 x1).bind fun v3_ => if v3_ = 3 then (rA p_ad 12 4 2).bind fun v4_ => (wA p_ad 12 4 2 (v4_ + 1)).bind fun p_ad5 => some (p_ad5) else some (p_ad)
def b_X3_compactClass_50 (x1 : Int32) (k2 : Pic → Pic → Int32 → Option (Pic × Pic)) (p_ad : Pic) (z_ad : Pic) (v2 : Int32) (v4 : Int32) (t0 : Int32) : Option (Pic × Pic) := (f_X3_isPage t0).bind fun u3 => if u3 = 0 then some (p_ad, z_ad) else (rA p_ad 6 30 t0).bind fun v4_ => (rA p_ad 7 30 t0).bind fun v5_ => (f_X7_takeOut z_ad v4_ v5_).bind fun u6 => (wA p_ad 6 30 t0 v4).bind fun p_ad7 => (f_X7_putIn u6 v4 x1 t0).bind fun u8 => (wA p_ad7 7 30 t0 u8.1).bind fun p_ad9 => (rA p_ad9 12 4 3).bind fun v10_ => (wA p_ad9 12 4 3 (v10_ + 1)).bind fun p_ad11 => k2 p_ad11 u8.2 (v2 + 1)
def b_X3_compactClass_49 (x1 : Int32) (k2 : Pic → Pic → Int32 → Option (Pic × Pic)) (p_ad : Pic) (z_ad : Pic) (v2 : Int32) (v4 : Int32) : Option (Pic × Pic) := b_X3_compactClass_50 x1 k2 p_ad z_ad v2 v4 (-1)
def b_X3_compactClass_2 (x1 : Int32) (k2 : Pic → Pic → Int32 → Option (Pic × Pic)) (p_ad : Pic) (z_ad : Pic) (v2 : Int32) : Option (Pic × Pic) := if 384 ≤ v2 then some (p_ad, z_ad) else (f_X7_emptiest z_ad x1).bind fun u1 => (f_X7_fullest z_ad x1 u1).bind fun u2 => if u1 < 0 then b_X3_compactClass_49 x1 k2 p_ad z_ad v2 u2 else if u2 < 0 then b_X3_compactClass_49 x1 k2 p_ad z_ad v2 u2 else (f_X7_lastPage z_ad u1).bind fun u12 => b_X3_compactClass_50 x1 k2 p_ad z_ad v2 u2 u12
def L_X3_compactClass_2 (x1 : Int32)  : Nat → Pic → Pic → Int32 → Option (Pic × Pic)
  | 0 => fun _ _ _ => none
  | n + 1 => b_X3_compactClass_2 x1 (L_X3_compactClass_2 x1  n)
def f_X3_compactClass (p_ad : Pic) (z_ad : Pic) (x1 : Int32) : Option (Pic × Pic) := L_X3_compactClass_2 x1 FU p_ad z_ad 0
def f_X3_leavePool (p_ad : Pic) (z_ad : Pic) (x1 : Int32) : Option (Pic × Pic) := (f_X3_leaveAges p_ad x1).bind fun u1 => (rA u1 6 30 x1).bind fun v2_ => (rA u1 7 30 x1).bind fun v3_ => (f_X7_takeOut z_ad v2_ v3_).bind fun u4 => (wA u1 8 30 x1 0).bind fun p_ad5 => some (p_ad5, u4)
def f_X3_sizeOf (p_ad : Pic) (x1 : Int32) : Option (Int32) := (f_X3_isPage x1).bind fun u1 => if u1 = 0 then some (0) else (rA p_ad 5 30 x1).bind fun v2_ => some (v2_)
def b_X3_coldestOf_2 (p_ad : Pic) (x1 : Int32) (k2 : Int32 → Option (Int32)) (v2 : Int32) : Option (Int32) := if (gS p_ad 11) ≤ v2 then some ((-2)) else if 30 ≤ v2 then some ((-2)) else (rA p_ad 10 30 v2).bind fun v1_ => (f_X3_sizeOf p_ad v1_).bind fun u2 => (f_X0_homeOf u2 (gS p_ad 1)).bind fun u3 => if u3 = x1 then (rA p_ad 10 30 v2).bind fun v4_ => some (v4_) else k2 (v2 + 1)
def L_X3_coldestOf_2 (p_ad : Pic) (x1 : Int32)  : Nat → Int32 → Option (Int32)
  | 0 => fun _ => none
  | n + 1 => b_X3_coldestOf_2 p_ad x1 (L_X3_coldestOf_2 p_ad x1  n)
def f_X3_coldestOf (p_ad : Pic) (x1 : Int32) : Option (Int32) := L_X3_coldestOf_2 p_ad x1 FU 0
def b_X3_dropPage_23 (x1 : Int32)  (p_ad : Pic) (z_ad : Pic) : Option (Pic × Pic) := (wA p_ad 4 30 x1 0).bind fun p_ad3 => some (p_ad3, z_ad)
def f_X3_dropPage (p_ad : Pic) (z_ad : Pic) (x1 : Int32) : Option (Pic × Pic) := (f_X3_isPage x1).bind fun u1 => if u1 = 0 then some (p_ad, z_ad) else (rA p_ad 4 30 x1).bind fun v2_ => if v2_ = 2 then (f_X3_leavePool p_ad z_ad x1).bind fun u4 => b_X3_dropPage_23 x1 u4.1 u4.2 else b_X3_dropPage_23 x1 p_ad z_ad
def b_X3_compactAll_10  (k10 : Pic → Pic → Int32 → Int32 → Option (Int32 × Pic × Pic)) (p_ad : Pic) (z_ad : Pic) (v1 : Int32) (v2 : Int32) : Option (Int32 × Pic × Pic) := if 16 < v2 then some ((v1 - (gS z_ad 0)), p_ad, z_ad) else (f_X3_compactClass p_ad z_ad v2).bind fun u1 => k10 u1.1 u1.2 v1 (v2 + 1)
def L_X3_compactAll_10   : Nat → Pic → Pic → Int32 → Int32 → Option (Int32 × Pic × Pic)
  | 0 => fun _ _ _ _ => none
  | n + 1 => b_X3_compactAll_10  (L_X3_compactAll_10   n)
def f_X3_compactAll (p_ad : Pic) (z_ad : Pic) : Option (Int32 × Pic × Pic) := L_X3_compactAll_10 FU p_ad z_ad (gS z_ad 0) 1
def b_X3_writeOut_15 (x1 : Int32)  (p_ad : Pic) (z_ad : Pic) : Option (Pic × Pic) := (wA p_ad 4 30 x1 3).bind fun p_ad2 => (rA p_ad2 12 4 0).bind fun v3_ => (wA p_ad2 12 4 0 (v3_ + 1)).bind fun p_ad4 => some (p_ad4, z_ad)
def f_X3_writeOut (p_ad : Pic) (z_ad : Pic) (x1 : Int32) : Option (Pic × Pic) := (rA p_ad 4 30 x1).bind fun v1_ => if v1_ = 2 then (f_X3_leavePool p_ad z_ad x1).bind fun u5 => b_X3_writeOut_15 x1 u5.1 u5.2 else b_X3_writeOut_15 x1 p_ad z_ad
def b_X3_writeColdest_2 (x1 : Int32) (k2 : Pic → Pic → Int32 → Option (Int32 × Pic × Pic)) (p_ad : Pic) (z_ad : Pic) (v2 : Int32) : Option (Int32 × Pic × Pic) := if x1 ≤ v2 then some (x1, p_ad, z_ad) else (f_X3_coldestLoose p_ad).bind fun u1 => if 0 ≤ u1 then (f_X3_writeOut p_ad z_ad u1).bind fun u2 => k2 u2.1 u2.2 (v2 + 1) else some (v2, p_ad, z_ad)
def L_X3_writeColdest_2 (x1 : Int32)  : Nat → Pic → Pic → Int32 → Option (Int32 × Pic × Pic)
  | 0 => fun _ _ _ => none
  | n + 1 => b_X3_writeColdest_2 x1 (L_X3_writeColdest_2 x1  n)
def f_X3_writeColdest (p_ad : Pic) (z_ad : Pic) (x1 : Int32) : Option (Int32 × Pic × Pic) := L_X3_writeColdest_2 x1 FU p_ad z_ad 0
def b_X3_changeLimit_12 (x1 : Int32) (k12 : Pic → Pic → Int32 → Option (Int32 × Pic × Pic)) (p_ad : Pic) (z_ad : Pic) (v2 : Int32) : Option (Int32 × Pic × Pic) := if 30 ≤ v2 then some ((gS p_ad 14), p_ad, z_ad) else if (gS z_ad 0) ≤ (gS p_ad 0) then some ((gS p_ad 14), p_ad, z_ad) else (f_X3_coldestLoose p_ad).bind fun u3 => if 0 ≤ u3 then (f_X3_writeOut p_ad z_ad u3).bind fun u4 => (f_X3_notePushed u4.1 u3).bind fun u5 => k12 u5 u4.2 (v2 + 1) else some ((gS p_ad 14), p_ad, z_ad)
def L_X3_changeLimit_12 (x1 : Int32)  : Nat → Pic → Pic → Int32 → Option (Int32 × Pic × Pic)
  | 0 => fun _ _ _ => none
  | n + 1 => b_X3_changeLimit_12 x1 (L_X3_changeLimit_12 x1  n)
def f_X3_changeLimit (p_ad : Pic) (z_ad : Pic) (x1 : Int32) : Option (Int32 × Pic × Pic) := (some (pS p_ad 0 x1)).bind fun p_ad1 => (some (pS p_ad1 14 0)).bind fun p_ad2 => L_X3_changeLimit_12 x1 FU p_ad2 z_ad 0
def b_X3_settle_104 (x1 : Int32)  (p_ad : Pic) (z_ad : Pic) : Option (Pic × Pic) := (f_X3_writeOut p_ad z_ad x1).bind fun u3 => (f_X3_notePushed u3.1 x1).bind fun u4 => some (u4, u3.2)
def b_X3_settle_16 (x1 : Int32) (k16 : Pic → Pic → Int32 → Int32 → Option (Pic × Pic)) (p_ad : Pic) (z_ad : Pic) (v2 : Int32) (v3 : Int32) : Option (Pic × Pic) := if 30 < v3 then b_X3_settle_104 x1 p_ad z_ad else (f_X3_zoneFor p_ad z_ad v2).bind fun u5 => if u5 < 0 then (f_X3_coldestLoose p_ad).bind fun u6 => if 0 ≤ u6 then (f_X3_writeOut p_ad z_ad u6).bind fun u7 => (f_X3_notePushed u7.1 u6).bind fun u8 => k16 u8 u7.2 v2 (v3 + 1) else b_X3_settle_104 x1 p_ad z_ad else (wA p_ad 6 30 x1 u5).bind fun p_ad9 => (f_X7_putIn z_ad u5 v2 x1).bind fun u10 => (wA p_ad9 7 30 x1 u10.1).bind fun p_ad11 => (wA p_ad11 4 30 x1 2).bind fun p_ad12 => (f_X3_addYoungest p_ad12 x1).bind fun u13 => some (u13, u10.2)
def L_X3_settle_16 (x1 : Int32)  : Nat → Pic → Pic → Int32 → Int32 → Option (Pic × Pic)
  | 0 => fun _ _ _ _ => none
  | n + 1 => b_X3_settle_16 x1 (L_X3_settle_16 x1  n)
def f_X3_settle (p_ad : Pic) (z_ad : Pic) (x1 : Int32) : Option (Pic × Pic) := (rA p_ad 5 30 x1).bind fun v1_ => (f_X0_homeOf v1_ (gS p_ad 1)).bind fun u2 => L_X3_settle_16 x1 FU p_ad z_ad u2 0
def f_X3_storePage (p_ad : Pic) (z_ad : Pic) (e_ae : Pic) (x1 : Int32) (x3 : Int32) (x4 : Int32) : Option (Pic × Pic) := (f_X3_isPage x1).bind fun u1 => if u1 = 0 then some (p_ad, z_ad) else if x3 < 0 then some (p_ad, z_ad) else if x3 ≤ (160 - 16) then (some (pS p_ad 14 0)).bind fun p_ad2 => (f_X3_dropPage p_ad2 z_ad x1).bind fun u3 => (cpA u3.1 9 480 e_ae 0 160 x3 (x1 * 16) 16).bind fun p_ad4 => (wA p_ad4 5 30 x1 x4).bind fun p_ad5 => (f_X1_isWordSize x4).bind fun u6 => if u6 = 0 then if x4 ≤ (gS p_ad5 2) then (f_X3_settle p_ad5 u3.2 x1).bind fun u7 => some (u7.1, u7.2) else (f_X3_writeOut p_ad5 u3.2 x1).bind fun u8 => some (u8.1, u8.2) else (wA p_ad5 4 30 x1 1).bind fun p_ad9 => some (p_ad9, u3.2) else some (p_ad, z_ad)
