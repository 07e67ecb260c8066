def f_X7_clear (z_ad : Pic) : Option (Pic) := (some (pS z_ad 0 0)).bind fun z_ad1 => (some (flA z_ad1 1 24 0)).bind fun z_ad2 => (some (flA z_ad2 2 24 0)).bind fun z_ad3 => (some (flA z_ad3 3 24 0)).bind fun z_ad4 => (some (flA z_ad4 4 24 0)).bind fun z_ad5 => (some (flA z_ad5 5 384 (-2))).bind fun z_ad6 => some (z_ad6)
def f_X7_copyFrom (z_aa : Pic) (z_ad : Pic) : Option (Pic) := (some (pS z_ad 0 (gS z_aa 0))).bind fun z_ad1 => (cpA z_ad1 1 24 z_aa 1 24 0 0 24).bind fun z_ad2 => (cpA z_ad2 2 24 z_aa 2 24 0 0 24).bind fun z_ad3 => (cpA z_ad3 3 24 z_aa 3 24 0 0 24).bind fun z_ad4 => (cpA z_ad4 4 24 z_aa 4 24 0 0 24).bind fun z_ad5 => (cpA z_ad5 5 384 z_aa 5 384 0 0 384).bind fun z_ad6 => some (z_ad6)
def f_X7_has (z_ad : Pic) (x1 : Int32) : Option (Int32) := if x1 < 0 then some (0) else if 24 ≤ x1 then some (0) else (rA z_ad 1 24 x1).bind fun v1_ => if v1_ ≤ 0 then some (0) else some (1)
def b_X7_countAll_4 (z_ad : Pic) (k4 : Int32 → Int32 → Option (Int32)) (v1 : Int32) (v2 : Int32) : Option (Int32) := if 24 ≤ v2 then some (v1) else (rA z_ad 1 24 v2).bind fun v1_ => if v1_ ≤ 0 then k4 (v1 + 0) (v2 + 1) else k4 (v1 + 1) (v2 + 1)
def L_X7_countAll_4 (z_ad : Pic)  : Nat → Int32 → Int32 → Option (Int32)
  | 0 => fun _ _ => none
  | n + 1 => b_X7_countAll_4 z_ad (L_X7_countAll_4 z_ad  n)
def f_X7_countAll (z_ad : Pic) : Option (Int32) := L_X7_countAll_4 z_ad FU 0 0
def b_X7_countOf_4 (z_ad : Pic) (x1 : Int32) (k4 : Int32 → Int32 → Option (Int32)) (v2 : Int32) (v3 : Int32) : Option (Int32) := if 24 ≤ v3 then some (v2) else (rA z_ad 1 24 v3).bind fun v1_ => if v1_ = x1 then k4 (v2 + 1) (v3 + 1) else k4 (v2 + 0) (v3 + 1)
def L_X7_countOf_4 (z_ad : Pic) (x1 : Int32)  : Nat → Int32 → Int32 → Option (Int32)
  | 0 => fun _ _ => none
  | n + 1 => b_X7_countOf_4 z_ad x1 (L_X7_countOf_4 z_ad x1  n)
def f_X7_countOf (z_ad : Pic) (x1 : Int32) : Option (Int32) := L_X7_countOf_4 z_ad x1 FU 0 0
def b_X7_pagesOf_4 (z_ad : Pic) (x1 : Int32) (k4 : Int32 → Int32 → Option (Int32)) (v2 : Int32) (v3 : Int32) : Option (Int32) := if 24 ≤ v3 then some (v2) else (rA z_ad 1 24 v3).bind fun v1_ => if v1_ = x1 then (rA z_ad 4 24 v3).bind fun v2_ => k4 (v2 + v2_) (v3 + 1) else k4 (v2 + 0) (v3 + 1)
def L_X7_pagesOf_4 (z_ad : Pic) (x1 : Int32)  : Nat → Int32 → Int32 → Option (Int32)
  | 0 => fun _ _ => none
  | n + 1 => b_X7_pagesOf_4 z_ad x1 (L_X7_pagesOf_4 z_ad x1  n)
def f_X7_pagesOf (z_ad : Pic) (x1 : Int32) : Option (Int32) := L_X7_pagesOf_4 z_ad x1 FU 0 0
def b_X7_freeNumber_2 (z_ad : Pic) (k2 : Int32 → Option (Int32)) (v1 : Int32) : Option (Int32) := if 24 ≤ v1 then some ((-1)) else (rA z_ad 1 24 v1).bind fun v1_ => if v1_ = 0 then some (v1) else k2 (v1 + 1)
def L_X7_freeNumber_2 (z_ad : Pic)  : Nat → Int32 → Option (Int32)
  | 0 => fun _ => none
  | n + 1 => b_X7_freeNumber_2 z_ad (L_X7_freeNumber_2 z_ad  n)
def f_X7_freeNumber (z_ad : Pic) : Option (Int32) := L_X7_freeNumber_2 z_ad FU 0
def b_X7_lastPage_3 (z_ad : Pic) (x1 : Int32) (k3 : Int32 → Option (Int32)) (v2 : Int32) : Option (Int32) := if v2 < 0 then some ((-1)) else (f_X7_has z_ad x1).bind fun u1 => if u1 = 0 then some ((-1)) else (rA z_ad 5 384 ((x1 * 16) + v2)).bind fun v2_ => if v2_ < 0 then k3 (v2 + (-1)) else (rA z_ad 5 384 ((x1 * 16) + v2)).bind fun v3_ => some (v3_)
def L_X7_lastPage_3 (z_ad : Pic) (x1 : Int32)  : Nat → Int32 → Option (Int32)
  | 0 => fun _ => none
  | n + 1 => b_X7_lastPage_3 z_ad x1 (L_X7_lastPage_3 z_ad x1  n)
def f_X7_lastPage (z_ad : Pic) (x1 : Int32) : Option (Int32) := L_X7_lastPage_3 z_ad x1 FU 15
def b_X7_putIn_66 (x1 : Int32) (x2 : Int32) (x3 : Int32) (k66 : Pic → Int32 → Option (Int32 × Pic)) (z_ad : Pic) (v4 : Int32) : Option (Int32 × Pic) := (rA z_ad 3 24 x1).bind fun v2_ => if v2_ ≤ v4 then some ((-1), z_ad) else if 16 ≤ v4 then some ((-1), z_ad) else (rA z_ad 5 384 ((x1 * 16) + v4)).bind fun v3_ => if 0 ≤ v3_ then k66 z_ad (v4 + 1) else (wA z_ad 5 384 ((x1 * 16) + v4) x3).bind fun z_ad4 => (rA z_ad4 4 24 x1).bind fun v5_ => (wA z_ad4 4 24 x1 (v5_ + 1)).bind fun z_ad6 => some (v4, z_ad6)
def L_X7_putIn_66 (x1 : Int32) (x2 : Int32) (x3 : Int32)  : Nat → Pic → Int32 → Option (Int32 × Pic)
  | 0 => fun _ _ => none
  | n + 1 => b_X7_putIn_66 x1 x2 x3 (L_X7_putIn_66 x1 x2 x3  n)
def f_X7_putIn (z_ad : Pic) (x1 : Int32) (x2 : Int32) (x3 : Int32) : Option (Int32 × Pic) := if x1 < 0 then some ((-1), z_ad) else if x1 < 24 then (rA z_ad 1 24 x1).bind fun v1_ => if v1_ = 0 then (wA z_ad 1 24 x1 x2).bind fun z_ad7 => (f_X0_framesOf x2).bind fun u8 => (wA z_ad7 2 24 x1 u8).bind fun z_ad9 => (f_X0_slotsOf x2).bind fun u10 => (wA z_ad9 3 24 x1 u10).bind fun z_ad11 => (rA z_ad11 2 24 x1).bind fun v12_ => (some (pS z_ad11 0 ((gS z_ad11 0) + v12_))).bind fun z_ad13 => L_X7_putIn_66 x1 x2 x3 FU z_ad13 0 else L_X7_putIn_66 x1 x2 x3 FU z_ad 0 else some ((-1), z_ad)
def f_X7_takeOut (z_ad : Pic) (x1 : Int32) (x2 : Int32) : Option (Pic) := if x1 < 0 then some (z_ad) else if 24 ≤ x1 then some (z_ad) else if x2 < 0 then some (z_ad) else (rA z_ad 3 24 x1).bind fun v1_ => if v1_ ≤ x2 then some (z_ad) else if x2 < 16 then (wA z_ad 5 384 ((x1 * 16) + x2) (-2)).bind fun z_ad2 => (rA z_ad2 4 24 x1).bind fun v3_ => (wA z_ad2 4 24 x1 (v3_ - 1)).bind fun z_ad4 => (rA z_ad4 4 24 x1).bind fun v5_ => if v5_ = 0 then (rA z_ad4 2 24 x1).bind fun v6_ => (some (pS z_ad4 0 ((gS z_ad4 0) - v6_))).bind fun z_ad7 => (wA z_ad7 1 24 x1 0).bind fun z_ad8 => (wA z_ad8 2 24 x1 0).bind fun z_ad9 => (wA z_ad9 3 24 x1 0).bind fun z_ad10 => some (z_ad10) else some (z_ad4) else some (z_ad)
def f_X7_hasRoom (z_ad : Pic) (x1 : Int32) (x2 : Int32) : Option (Int32) := (rA z_ad 1 24 x1).bind fun v1_ => if v1_ = x2 then (rA z_ad 4 24 x1).bind fun v2_ => (rA z_ad 3 24 x1).bind fun v3_ => if v3_ ≤ v2_ then some (0) else some (1) else some (0)
def b_X7_fullest_5 (z_ad : Pic) (x1 : Int32) (x2 : Int32) (k5 : Int32 → Int32 → Option (Int32)) (v3 : Int32) (v4 : Int32) : Option (Int32) := if 24 ≤ v4 then some (v3) else if v4 = x2 then k5 v3 (v4 + 1) else (f_X7_hasRoom z_ad v4 x1).bind fun u1 => if u1 = 0 then k5 v3 (v4 + 1) else if v3 < 0 then k5 v4 (v4 + 1) else (rA z_ad 4 24 v4).bind fun v2_ => (rA z_ad 4 24 v3).bind fun v3_ => if v2_ ≤ v3_ then k5 v3 (v4 + 1) else k5 v4 (v4 + 1)
def L_X7_fullest_5 (z_ad : Pic) (x1 : Int32) (x2 : Int32)  : Nat → Int32 → Int32 → Option (Int32)
  | 0 => fun _ _ => none
  | n + 1 => b_X7_fullest_5 z_ad x1 x2 (L_X7_fullest_5 z_ad x1 x2  n)
def f_X7_fullest (z_ad : Pic) (x1 : Int32) (x2 : Int32) : Option (Int32) := L_X7_fullest_5 z_ad x1 x2 FU (-1) 0
def b_X7_emptiest_4 (z_ad : Pic) (x1 : Int32) (k4 : Int32 → Int32 → Option (Int32)) (v2 : Int32) (v3 : Int32) : Option (Int32) := if 24 ≤ v3 then some (v2) else (f_X7_hasRoom z_ad v3 x1).bind fun u1 => if u1 = 0 then k4 v2 (v3 + 1) else if v2 < 0 then k4 v3 (v3 + 1) else (rA z_ad 4 24 v3).bind fun v2_ => (rA z_ad 4 24 v2).bind fun v3_ => if v3_ < v2_ then k4 v2 (v3 + 1) else k4 v3 (v3 + 1)
def L_X7_emptiest_4 (z_ad : Pic) (x1 : Int32)  : Nat → Int32 → Int32 → Option (Int32)
  | 0 => fun _ _ => none
  | n + 1 => b_X7_emptiest_4 z_ad x1 (L_X7_emptiest_4 z_ad x1  n)
def f_X7_emptiest (z_ad : Pic) (x1 : Int32) : Option (Int32) := L_X7_emptiest_4 z_ad x1 FU (-1) 0
