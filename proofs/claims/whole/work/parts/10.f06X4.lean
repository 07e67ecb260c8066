def f_X4_place (r_ar : Pic) : Option (Int32) := some ((gS r_ar 7))
def f_X4_tooMany (r_ar : Pic) (x1 : Int32) : Option (Int32 × Pic) := (some (pS r_ar 6 6)).bind fun r_ar1 => (some (pS r_ar1 7 x1)).bind fun r_ar2 => some (0, r_ar2)
def f_X4_fail (r_ar : Pic) (x1 : Int32) : Option (Int32 × Pic) := (some (pS r_ar 6 x1)).bind fun r_ar1 => (some (pS r_ar1 7 (gS r_ar1 3))).bind fun r_ar2 => some (0, r_ar2)
def f_X4_isLineEnd (r_ar : Pic) : Option (Int32) := if (gS r_ar 4) = 3 then some (1) else if (gS r_ar 4) = 0 then some (1) else some (0)
def b_X4_kindAt_58 (r_ar : Pic) (b_ab : Pic) (x1 : Int32)  (v2 : Int32) : Option (Int32) := if v2 = 32 then some (5) else if v2 = 44 then some (4) else if v2 = 59 then some (3) else some (6)
def b_X4_kindAt_44 (r_ar : Pic) (b_ab : Pic) (x1 : Int32)  (v2 : Int32) : Option (Int32) := if v2 < 48 then b_X4_kindAt_58 r_ar b_ab x1 v2 else if 57 < v2 then b_X4_kindAt_58 r_ar b_ab x1 v2 else some (2)
def f_X4_kindAt (r_ar : Pic) (b_ab : Pic) (x1 : Int32) : Option (Int32) := if x1 < 0 then some (0) else if (gS r_ar 1) ≤ x1 then some (0) else if x1 < 900 then (rA b_ab 0 900 x1).bind fun v1_ => if v1_ < 97 then b_X4_kindAt_44 r_ar b_ab x1 v1_ else if 122 < v1_ then b_X4_kindAt_44 r_ar b_ab x1 v1_ else some (1) else some (0)
def f_X4_byteAt (r_ar : Pic) (b_ab : Pic) (x1 : Int32) : Option (Int32) := if x1 < 0 then some ((-1)) else if 900 ≤ x1 then some ((-1)) else (rA b_ab 0 900 x1).bind fun v1_ => some (v1_)
def f_X4_mayCome (r_ar : Pic) (x1 : Int32) (x2 : Int32) : Option (Int32 × Pic) := if x1 < x2 then if (gS r_ar 5) = 0 then (f_X4_fail r_ar 5).bind fun u1 => if u1.1 = 0 then some (0, u1.2) else some (1, u1.2) else some (1, r_ar) else (f_X4_fail r_ar 4).bind fun u2 => (okZ u2.1).bind fun z3_ => some (z3_, u2.2)
def b_X4_advance_159 (b_ab : Pic)  (r_ar : Pic) (t0 : Int32) (t1 : Int32) : Option (Pic) := if t1 ≤ t0 then some (r_ar) else (some (pS r_ar 4 6)).bind fun r_ar4 => some (r_ar4)
def b_X4_advance_132 (b_ab : Pic)  (r_ar : Pic) (v1 : Int32) : Option (Pic) := if v1 = 0 then some (r_ar) else if (gS r_ar 4) = 1 then b_X4_advance_159 b_ab r_ar 6 ((gS r_ar 2) - (gS r_ar 3)) else b_X4_advance_159 b_ab r_ar 3 ((gS r_ar 2) - (gS r_ar 3))
def b_X4_advance_119 (b_ab : Pic) (k78 : Pic → Int32 → Option (Pic)) (r_ar : Pic) (v1 : Int32) : Option (Pic) := (some (pS r_ar 2 ((gS r_ar 2) + 1))).bind fun r_ar5 => k78 r_ar5 v1
def b_X4_advance_78 (b_ab : Pic) (k78 : Pic → Int32 → Option (Pic)) (r_ar : Pic) (v1 : Int32) : Option (Pic) := if (gS r_ar 1) ≤ (gS r_ar 2) then b_X4_advance_132 b_ab r_ar v1 else if (gS r_ar 2) = (gS r_ar 3) then b_X4_advance_119 b_ab k78 r_ar v1 else if v1 = 0 then b_X4_advance_132 b_ab r_ar v1 else (f_X4_kindAt r_ar b_ab (gS r_ar 2)).bind fun u6 => if u6 = (gS r_ar 4) then b_X4_advance_119 b_ab k78 r_ar v1 else b_X4_advance_132 b_ab r_ar v1
def L_X4_advance_78 (b_ab : Pic)  : Nat → Pic → Int32 → Option (Pic)
  | 0 => fun _ _ => none
  | n + 1 => b_X4_advance_78 b_ab (L_X4_advance_78 b_ab  n)
def b_X4_advance_36 (b_ab : Pic)  (r_ar : Pic) : Option (Pic) := (some (pS r_ar 3 (gS r_ar 2))).bind fun r_ar1 => (f_X4_kindAt r_ar1 b_ab (gS r_ar1 2)).bind fun u2 => (some (pS r_ar1 4 u2)).bind fun r_ar3 => if (gS r_ar3 4) = 1 then L_X4_advance_78 b_ab FU r_ar3 1 else if (gS r_ar3 4) = 2 then L_X4_advance_78 b_ab FU r_ar3 1 else L_X4_advance_78 b_ab FU r_ar3 0
def b_X4_advance_0 (b_ab : Pic) (k0 : Pic → Option (Pic)) (r_ar : Pic) : Option (Pic) := if (gS r_ar 1) ≤ (gS r_ar 2) then b_X4_advance_36 b_ab r_ar else (f_X4_kindAt r_ar b_ab (gS r_ar 2)).bind fun u9 => if u9 = 5 then (some (pS r_ar 2 ((gS r_ar 2) + 1))).bind fun r_ar10 => k0 r_ar10 else b_X4_advance_36 b_ab r_ar
def L_X4_advance_0 (b_ab : Pic)  : Nat → Pic → Option (Pic)
  | 0 => fun _ => none
  | n + 1 => b_X4_advance_0 b_ab (L_X4_advance_0 b_ab  n)
def f_X4_advance (r_ar : Pic) (b_ab : Pic) : Option (Pic) := if (gS r_ar 1) ≤ (gS r_ar 2) then b_X4_advance_36 b_ab r_ar else (f_X4_kindAt r_ar b_ab (gS r_ar 2)).bind fun u7 => if u7 = 5 then (some (pS r_ar 2 ((gS r_ar 2) + 1))).bind fun r_ar8 => L_X4_advance_0 b_ab FU r_ar8 else b_X4_advance_36 b_ab r_ar
def b_X4_takeWhole_64 (b_ab : Pic) (x1 : Int32) (x2 : Int32)  (r_ar : Pic) : Option (Int32 × Pic) := (f_X4_fail r_ar 2).bind fun u1 => some ((-1), u1.2)
def b_X4_takeWhole_24 (b_ab : Pic) (x1 : Int32) (x2 : Int32) (k24 : Pic → Int32 → Int32 → Option (Int32 × Pic)) (r_ar : Pic) (v3 : Int32) (v4 : Int32) : Option (Int32 × Pic) := if (gS r_ar 2) ≤ v4 then if v3 < x1 then b_X4_takeWhole_64 b_ab x1 x2 r_ar else if v3 ≤ x2 then (f_X4_advance r_ar b_ab).bind fun u2 => some (v3, u2) else b_X4_takeWhole_64 b_ab x1 x2 r_ar else (f_X4_byteAt r_ar b_ab v4).bind fun u3 => k24 r_ar (((v3 * 10) + u3) - 48) (v4 + 1)
def L_X4_takeWhole_24 (b_ab : Pic) (x1 : Int32) (x2 : Int32)  : Nat → Pic → Int32 → Int32 → Option (Int32 × Pic)
  | 0 => fun _ _ _ => none
  | n + 1 => b_X4_takeWhole_24 b_ab x1 x2 (L_X4_takeWhole_24 b_ab x1 x2  n)
def f_X4_takeWhole (r_ar : Pic) (b_ab : Pic) (x1 : Int32) (x2 : Int32) : Option (Int32 × Pic) := if (gS r_ar 4) = 2 then L_X4_takeWhole_24 b_ab x1 x2 FU r_ar 0 (gS r_ar 3) else (f_X4_fail r_ar 1).bind fun u4 => some ((-1), u4.2)
def b_X4_readOp_46 (b_ab : Pic) (x1 : Int32)  (r_ar : Pic) (s_at_ : Pic) (v2 : Int32) (v3 : Int32) : Option (Int32 × Pic × Pic) := (f_X4_isLineEnd r_ar).bind fun u3 => if u3 = 0 then (f_X4_fail r_ar 1).bind fun u5 => (okZ u5.1).bind fun z6_ => some (z6_, u5.2, s_at_) else (f_X5_addOp s_at_ x1 v2 v3).bind fun u4 => some (1, r_ar, u4)
def f_X4_readOp (r_ar : Pic) (b_ab : Pic) (s_at_ : Pic) (x1 : Int32) : Option (Int32 × Pic × Pic) := (f_X4_advance r_ar b_ab).bind fun u1 => (f_X4_takeWhole u1 b_ab 0 29).bind fun u2 => if 0 ≤ u2.1 then if x1 = 0 then (f_X4_takeWhole u2.2 b_ab 0 ((gS s_at_ 3) - 1)).bind fun u7 => if 0 ≤ u7.1 then b_X4_readOp_46 b_ab x1 u7.2 s_at_ u2.1 u7.1 else some (0, u7.2, s_at_) else b_X4_readOp_46 b_ab x1 u2.2 s_at_ u2.1 (-2) else some (0, u2.2, s_at_)
