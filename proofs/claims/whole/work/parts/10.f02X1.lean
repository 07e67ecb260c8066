def f_X1_isWordSize (x0 : Int32) : Option (Int32) := if x0 = 2 then some (1) else some (0)
def b_X1_leastCost_24 (x0 : Int32) (x1 : Int32) (x2 : Int32)   : Option (Int32) := if 8 < x0 then some (99) else some ((x0 + 1))
def b_X1_leastCost_12 (x0 : Int32) (x1 : Int32) (x2 : Int32)   : Option (Int32) := if x0 < 2 then b_X1_leastCost_24 x0 x1 x2 else if x2 < x0 then b_X1_leastCost_24 x0 x1 x2 else some (3)
def f_X1_leastCost (x0 : Int32) (x1 : Int32) (x2 : Int32) : Option (Int32) := if x0 < 2 then b_X1_leastCost_12 x0 x1 x2 else if x1 < x0 then b_X1_leastCost_12 x0 x1 x2 else some (2)
def f_X1_addPiece (c_ad : Pic) (x1 : Int32) (x2 : Int32) (x3 : Int32) (x4 : Int32) : Option (Pic) := if 16 ≤ (gS c_ad 7) then some (c_ad) else (wA c_ad 3 16 (gS c_ad 7) x1).bind fun c_ad1 => (wA c_ad1 4 16 (gS c_ad1 7) x2).bind fun c_ad2 => (wA c_ad2 5 16 (gS c_ad2 7) x3).bind fun c_ad3 => (wA c_ad3 6 16 (gS c_ad3 7) x4).bind fun c_ad4 => (some (pS c_ad4 7 ((gS c_ad4 7) + 1))).bind fun c_ad5 => some (c_ad5)
def b_X1_longestFit_10 (c_ad : Pic) (x1 : Int32) (x2 : Int32) (x3 : Int32) (k10 : Int32 → Option (Int32)) (v4 : Int32) : Option (Int32) := if v4 < 2 then some (0) else (rA c_ad 1 17 (x1 + v4)).bind fun v2_ => (rA c_ad 1 17 x1).bind fun v3_ => if (x3 + v2_) = v3_ then some (v4) else k10 (v4 + (-1))
def L_X1_longestFit_10 (c_ad : Pic) (x1 : Int32) (x2 : Int32) (x3 : Int32)  : Nat → Int32 → Option (Int32)
  | 0 => fun _ => none
  | n + 1 => b_X1_longestFit_10 c_ad x1 x2 x3 (L_X1_longestFit_10 c_ad x1 x2 x3  n)
def f_X1_longestFit (c_ad : Pic) (x1 : Int32) (x2 : Int32) (x3 : Int32) : Option (Int32) := L_X1_longestFit_10 c_ad x1 x2 x3 FU (if (16 - x1) < x2 then (16 - x1) else x2)
def b_X1_longestPlain_10 (c_ad : Pic) (x1 : Int32) (k10 : Int32 → Option (Int32)) (v2 : Int32) : Option (Int32) := if v2 < 2 then some (1) else (rA c_ad 1 17 (x1 + v2)).bind fun v2_ => (rA c_ad 1 17 x1).bind fun v3_ => if ((v2 + 1) + v2_) = v3_ then some (v2) else k10 (v2 + (-1))
def L_X1_longestPlain_10 (c_ad : Pic) (x1 : Int32)  : Nat → Int32 → Option (Int32)
  | 0 => fun _ => none
  | n + 1 => b_X1_longestPlain_10 c_ad x1 (L_X1_longestPlain_10 c_ad x1  n)
def f_X1_longestPlain (c_ad : Pic) (x1 : Int32) : Option (Int32) := L_X1_longestPlain_10 c_ad x1 FU (if (16 - x1) < 8 then (16 - x1) else 8)
def b_X1_alikeFrom_4 (c_ad : Pic) (x1 : Int32) (k4 : Int32 → Option (Int32)) (v2 : Int32) : Option (Int32) := if 16 ≤ v2 then some ((v2 - x1)) else (rA c_ad 0 16 v2).bind fun v1_ => (rA c_ad 0 16 x1).bind fun v2_ => if v1_ = v2_ then k4 (v2 + 1) else some ((v2 - x1))
def L_X1_alikeFrom_4 (c_ad : Pic) (x1 : Int32)  : Nat → Int32 → Option (Int32)
  | 0 => fun _ => none
  | n + 1 => b_X1_alikeFrom_4 c_ad x1 (L_X1_alikeFrom_4 c_ad x1  n)
def f_X1_alikeFrom (c_ad : Pic) (x1 : Int32) : Option (Int32) := L_X1_alikeFrom_4 c_ad x1 FU (x1 + 1)
def b_X1_copiedFrom_2 (c_ad : Pic) (x1 : Int32) (x2 : Int32) (k2 : Int32 → Option (Int32)) (v3 : Int32) : Option (Int32) := if 8 ≤ v3 then some (v3) else if 16 ≤ (x1 + v3) then some (v3) else (rA c_ad 0 16 (x1 + v3)).bind fun v1_ => (rA c_ad 0 16 ((x1 + v3) - x2)).bind fun v2_ => if v1_ = v2_ then k2 (v3 + 1) else some (v3)
def L_X1_copiedFrom_2 (c_ad : Pic) (x1 : Int32) (x2 : Int32)  : Nat → Int32 → Option (Int32)
  | 0 => fun _ => none
  | n + 1 => b_X1_copiedFrom_2 c_ad x1 x2 (L_X1_copiedFrom_2 c_ad x1 x2  n)
def f_X1_copiedFrom (c_ad : Pic) (x1 : Int32) (x2 : Int32) : Option (Int32) := L_X1_copiedFrom_2 c_ad x1 x2 FU 0
def b_X1_longestCopy_4 (c_ad : Pic) (x1 : Int32) (k4 : Int32 → Int32 → Option (Int32)) (v2 : Int32) (v3 : Int32) : Option (Int32) := if x1 < v3 then some (v2) else (f_X1_copiedFrom c_ad x1 v3).bind fun u1 => k4 (if v2 < u1 then u1 else v2) (v3 + 1)
def L_X1_longestCopy_4 (c_ad : Pic) (x1 : Int32)  : Nat → Int32 → Int32 → Option (Int32)
  | 0 => fun _ _ => none
  | n + 1 => b_X1_longestCopy_4 c_ad x1 (L_X1_longestCopy_4 c_ad x1  n)
def f_X1_longestCopy (c_ad : Pic) (x1 : Int32) : Option (Int32) := L_X1_longestCopy_4 c_ad x1 FU 0 2
def b_X1_leastDistance_2 (c_ad : Pic) (x1 : Int32) (x2 : Int32) (k2 : Int32 → Option (Int32)) (v3 : Int32) : Option (Int32) := if x1 < v3 then some (0) else (f_X1_copiedFrom c_ad x1 v3).bind fun u1 => if u1 < x2 then k2 (v3 + 1) else some (v3)
def L_X1_leastDistance_2 (c_ad : Pic) (x1 : Int32) (x2 : Int32)  : Nat → Int32 → Option (Int32)
  | 0 => fun _ => none
  | n + 1 => b_X1_leastDistance_2 c_ad x1 x2 (L_X1_leastDistance_2 c_ad x1 x2  n)
def f_X1_leastDistance (c_ad : Pic) (x1 : Int32) (x2 : Int32) : Option (Int32) := L_X1_leastDistance_2 c_ad x1 x2 FU 2
def b_X1_measureFrom_105 (x1 : Int32) (k31 : Pic → Int32 → Int32 → Int32 → Option (Pic)) (c_ad : Pic) (v2 : Int32) (v3 : Int32) (v4 : Int32) (v5 : Int32) (v6 : Int32) : Option (Pic) := (wA c_ad 1 17 x1 v5).bind fun c_ad9 => (wA c_ad9 2 17 x1 v6).bind fun c_ad10 => k31 c_ad10 v2 v3 (v4 + 1)
def b_X1_measureFrom_31 (x1 : Int32) (k31 : Pic → Int32 → Int32 → Int32 → Option (Pic)) (c_ad : Pic) (v2 : Int32) (v3 : Int32) (v4 : Int32) : Option (Pic) := if 16 < (x1 + v4) then some (c_ad) else (f_X1_leastCost v4 v2 v3).bind fun u5 => (rA c_ad 1 17 (x1 + v4)).bind fun v6_ => (rA c_ad 2 17 (x1 + v4)).bind fun v7_ => (rA c_ad 1 17 x1).bind fun v8_ => if (u5 + v6_) < v8_ then b_X1_measureFrom_105 x1 k31 c_ad v2 v3 v4 (u5 + v6_) (1 + v7_) else (rA c_ad 1 17 x1).bind fun v11_ => if (u5 + v6_) = v11_ then (rA c_ad 2 17 x1).bind fun v12_ => if v12_ ≤ (1 + v7_) then k31 c_ad v2 v3 (v4 + 1) else b_X1_measureFrom_105 x1 k31 c_ad v2 v3 v4 (u5 + v6_) (1 + v7_) else k31 c_ad v2 v3 (v4 + 1)
def L_X1_measureFrom_31 (x1 : Int32)  : Nat → Pic → Int32 → Int32 → Int32 → Option (Pic)
  | 0 => fun _ _ _ _ => none
  | n + 1 => b_X1_measureFrom_31 x1 (L_X1_measureFrom_31 x1  n)
def f_X1_measureFrom (c_ad : Pic) (x1 : Int32) : Option (Pic) := (f_X1_alikeFrom c_ad x1).bind fun u1 => (f_X1_longestCopy c_ad x1).bind fun u2 => (wA c_ad 1 17 x1 99).bind fun c_ad3 => (wA c_ad3 2 17 x1 16).bind fun c_ad4 => L_X1_measureFrom_31 x1 FU c_ad4 u1 u2 1
def f_X1_choosePiece (c_ad : Pic) (x1 : Int32) : Option (Pic) := (f_X1_alikeFrom c_ad x1).bind fun u1 => (f_X1_longestFit c_ad x1 u1 2).bind fun u2 => if u2 ≤ 0 then (f_X1_longestCopy c_ad x1).bind fun u3 => (f_X1_longestFit c_ad x1 u3 3).bind fun u4 => if u4 ≤ 0 then (f_X1_longestPlain c_ad x1).bind fun u5 => (f_X1_addPiece c_ad 2 x1 u5 0).bind fun u6 => some (u6) else (f_X1_leastDistance c_ad x1 u4).bind fun u7 => (f_X1_addPiece c_ad 1 x1 u4 u7).bind fun u8 => some (u8) else (f_X1_addPiece c_ad 0 x1 u2 0).bind fun u9 => some (u9)
def b_X1_measure_29 (e_ae : Pic) (x2 : Int32) (k29 : Pic → Int32 → Option (Pic)) (c_ad : Pic) (v3 : Int32) : Option (Pic) := if v3 < 0 then some (c_ad) else (f_X1_measureFrom c_ad v3).bind fun u2 => k29 u2 (v3 + (-1))
def L_X1_measure_29 (e_ae : Pic) (x2 : Int32)  : Nat → Pic → Int32 → Option (Pic)
  | 0 => fun _ _ => none
  | n + 1 => b_X1_measure_29 e_ae x2 (L_X1_measure_29 e_ae x2  n)
def f_X1_measure (c_ad : Pic) (e_ae : Pic) (x2 : Int32) : Option (Pic) := if x2 < 0 then some (c_ad) else if x2 ≤ (160 - 16) then (cpA c_ad 0 16 e_ae 0 160 x2 0 16).bind fun c_ad1 => L_X1_measure_29 e_ae x2 FU c_ad1 15 else some (c_ad)
def b_X1_choosePieces_9  (k9 : Pic → Int32 → Int32 → Option (Pic)) (c_ad : Pic) (v1 : Int32) (v2 : Int32) : Option (Pic) := if 16 ≤ v1 then some (c_ad) else if 16 ≤ v2 then some (c_ad) else (f_X1_choosePiece c_ad v1).bind fun u2 => (rA u2 5 16 v2).bind fun v3_ => k9 u2 (v1 + v3_) (v2 + 1)
def L_X1_choosePieces_9   : Nat → Pic → Int32 → Int32 → Option (Pic)
  | 0 => fun _ _ _ => none
  | n + 1 => b_X1_choosePieces_9  (L_X1_choosePieces_9   n)
def f_X1_choosePieces (c_ad : Pic) : Option (Pic) := (some (pS c_ad 7 0)).bind fun c_ad1 => L_X1_choosePieces_9 FU c_ad1 0 0
