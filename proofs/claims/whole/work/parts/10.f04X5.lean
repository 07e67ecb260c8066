def f_X5_clear (s_ad : Pic) : Option (Pic) := (some (pS s_ad 3 0)).bind fun s_ad1 => (some (pS s_ad1 4 0)).bind fun s_ad2 => some (s_ad2)
def f_X5_addOp (s_ad : Pic) (x1 : Int32) (x2 : Int32) (x3 : Int32) : Option (Pic) := if 24 ≤ (gS s_ad 4) then some (s_ad) else (wA s_ad 6 24 (gS s_ad 4) x1).bind fun s_ad1 => (wA s_ad1 7 24 (gS s_ad1 4) x2).bind fun s_ad2 => (wA s_ad2 8 24 (gS s_ad2 4) x3).bind fun s_ad3 => (some (pS s_ad3 4 ((gS s_ad3 4) + 1))).bind fun s_ad4 => some (s_ad4)
def b_X5_addCells_13 (x1 : Int32) (x2 : Int32) (x3 : Int32) (k13 : Pic → Int32 → Int32 → Option (Pic)) (s_ad : Pic) (v4 : Int32) (v5 : Int32) : Option (Pic) := if v4 ≤ v5 then some (s_ad) else if 10 ≤ (gS s_ad 3) then some (s_ad) else (wA s_ad 5 160 (((gS s_ad 3) * 16) + v5) x1).bind fun s_ad2 => k13 s_ad2 v4 (v5 + 1)
def L_X5_addCells_13 (x1 : Int32) (x2 : Int32) (x3 : Int32)  : Nat → Pic → Int32 → Int32 → Option (Pic)
  | 0 => fun _ _ _ => none
  | n + 1 => b_X5_addCells_13 x1 x2 x3 (L_X5_addCells_13 x1 x2 x3  n)
def f_X5_addCells (s_ad : Pic) (x1 : Int32) (x2 : Int32) (x3 : Int32) : Option (Pic) := L_X5_addCells_13 x1 x2 x3 FU s_ad (if (x2 + x3) < 16 then (x2 + x3) else 16) x2
