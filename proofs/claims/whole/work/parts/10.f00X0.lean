def f_X0_isClass (x0 : Int32) (x1 : Int32) : Option (Int32) := if x0 < 1 then some (0) else if 16 < x0 then some (0) else if x1 < 1 then some (0) else (rmI x0 x1).bind fun v1_ => if v1_ = 0 then some (1) else some (0)
def f_X0_homeOf (x0 : Int32) (x1 : Int32) : Option (Int32) := if x1 < 1 then some (x0) else (dvI ((x0 + x1) - 1) x1).bind fun v1_ => some ((v1_ * x1))
def b_X0_framesOf_11 (x0 : Int32) (k11 : Int32 → Int32 → Option (Int32)) (v1 : Int32) (v2 : Int32) : Option (Int32) := if 4 < v2 then some (v1) else (rmI (16 * v2) x0).bind fun v1_ => (rmI (16 * v1) x0).bind fun v2_ => if (v2_ * v2) ≤ (v1_ * v1) then k11 v1 (v2 + 1) else k11 v2 (v2 + 1)
def L_X0_framesOf_11 (x0 : Int32)  : Nat → Int32 → Int32 → Option (Int32)
  | 0 => fun _ _ => none
  | n + 1 => b_X0_framesOf_11 x0 (L_X0_framesOf_11 x0  n)
def f_X0_framesOf (x0 : Int32) : Option (Int32) := if 1 ≤ x0 then L_X0_framesOf_11 x0 FU 1 2 else some (0)
def f_X0_slotsOf (x0 : Int32) : Option (Int32) := if 1 ≤ x0 then (f_X0_framesOf x0).bind fun u1 => (dvI (16 * u1) x0).bind fun v2_ => some (v2_) else some (0)
def f_X0_spareOf (x0 : Int32) : Option (Int32) := if 1 ≤ x0 then (f_X0_framesOf x0).bind fun u1 => (rmI (16 * u1) x0).bind fun v2_ => some (v2_) else some (0)
