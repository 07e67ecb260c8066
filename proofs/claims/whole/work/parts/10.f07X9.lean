def f_X9_thrown (d_ad : Pic) : Option (Int32) := some ((gS d_ad 0))
def f_X9_refused (d_ad : Pic) (x1 : Int32) : Option (Int32 × Pic) := (some (pS d_ad 1 x1)).bind fun d_ad1 => (some (pS d_ad1 2 (-1))).bind fun d_ad2 => some ((-1), d_ad2)
def f_X9_good (d_ad : Pic) (x1 : Int32) : Option (Int32 × Pic) := (some (pS d_ad 1 0)).bind fun d_ad1 => (some (pS d_ad1 2 (-1))).bind fun d_ad2 => some (x1, d_ad2)
def f_X9_in (x0 : Int32) (x1 : Int32) (x2 : Int32) : Option (Int32) := if x0 < x1 then some (0) else if x2 < x0 then some (0) else some (1)
def f_X9_byteAt (d_ad : Pic) (x1 : Int32) : Option (Int32) := if (gS d_ad 26) ≤ x1 then some ((-1)) else (rA d_ad 24 900 x1).bind fun v1_ => some ((v1_ &&& 255))
def b_X9_nextWord_91   (d_ad : Pic) (dw : Int64) (t0 : Int32) : Option (Pic × Int64) := (some (pS d_ad 28 t0)).bind fun d_ad4 => some (d_ad4, dw)
def b_X9_nextWord_58  (k5 : Pic → Int64 → Option (Pic × Int64)) (d_ad : Pic) (dw : Int64) : Option (Pic × Int64) := (some (pS d_ad 27 ((gS d_ad 27) + 1))).bind fun d_ad5 => k5 d_ad5 dw
def b_X9_nextWord_5  (k5 : Pic → Int64 → Option (Pic × Int64)) (d_ad : Pic) (dw : Int64) : Option (Pic × Int64) := (f_X9_byteAt d_ad (gS d_ad 27)).bind fun u2 => (f_X9_in u2 97 122).bind fun u3 => if u3 = 0 then if ((gS d_ad 27) - (gS d_ad 29)) ≤ 6 then b_X9_nextWord_91 d_ad dw 2 else b_X9_nextWord_91 d_ad dw 0 else if 6 ≤ ((gS d_ad 27) - (gS d_ad 29)) then b_X9_nextWord_58 k5 d_ad dw else (f_X9_byteAt d_ad (gS d_ad 27)).bind fun u6 => (some ((dw <<< (Int32.toInt64 8 &&& 63)) ||| (Int32.toInt64 u6))).bind fun dw7 => b_X9_nextWord_58 k5 d_ad dw7
def L_X9_nextWord_5   : Nat → Pic → Int64 → Option (Pic × Int64)
  | 0 => fun _ _ => none
  | n + 1 => b_X9_nextWord_5  (L_X9_nextWord_5   n)
def f_X9_nextWord (d_ad : Pic) (dw : Int64) : Option (Pic × Int64) := (some 0).bind fun dw1 => L_X9_nextWord_5 FU d_ad dw1
def b_X9_nextWhole_91   (d_ad : Pic) (t0 : Int32) : Option (Pic) := (some (pS d_ad 28 t0)).bind fun d_ad4 => some (d_ad4)
def b_X9_nextWhole_59  (k5 : Pic → Option (Pic)) (d_ad : Pic) : Option (Pic) := (some (pS d_ad 27 ((gS d_ad 27) + 1))).bind fun d_ad5 => k5 d_ad5
def b_X9_nextWhole_5  (k5 : Pic → Option (Pic)) (d_ad : Pic) : Option (Pic) := (f_X9_byteAt d_ad (gS d_ad 27)).bind fun u2 => (f_X9_in u2 48 57).bind fun u3 => if u3 = 0 then if ((gS d_ad 27) - (gS d_ad 29)) ≤ 3 then b_X9_nextWhole_91 d_ad 3 else b_X9_nextWhole_91 d_ad 0 else if 3 ≤ ((gS d_ad 27) - (gS d_ad 29)) then b_X9_nextWhole_59 k5 d_ad else (f_X9_byteAt d_ad (gS d_ad 27)).bind fun u6 => (some (pS d_ad 30 (((10 * (gS d_ad 30)) + u6) - 48))).bind fun d_ad7 => b_X9_nextWhole_59 k5 d_ad7
def L_X9_nextWhole_5   : Nat → Pic → Option (Pic)
  | 0 => fun _ => none
  | n + 1 => b_X9_nextWhole_5  (L_X9_nextWhole_5   n)
def f_X9_nextWhole (d_ad : Pic) : Option (Pic) := (some (pS d_ad 30 0)).bind fun d_ad1 => L_X9_nextWhole_5 FU d_ad1
def b_X9_nextSign_28 (x1 : Int32)  (d_ad : Pic) (v2 : Int32) (t0 : Int32) : Option (Pic) := (some (pS d_ad 28 t0)).bind fun d_ad1 => (some (pS d_ad1 30 x1)).bind fun d_ad2 => if v2 = 0 then some (d_ad2) else (some (pS d_ad2 27 ((gS d_ad2 27) + 1))).bind fun d_ad3 => some (d_ad3)
def b_X9_nextSign_17 (x1 : Int32)  (d_ad : Pic) (t0 : Int32) : Option (Pic) := if t0 = 0 then b_X9_nextSign_28 x1 d_ad t0 0 else b_X9_nextSign_28 x1 d_ad t0 4
def b_X9_nextSign_12 (x1 : Int32)  (d_ad : Pic) : Option (Pic) := b_X9_nextSign_17 x1 d_ad 1
def f_X9_nextSign (d_ad : Pic) (x1 : Int32) : Option (Pic) := if x1 = 59 then b_X9_nextSign_12 x1 d_ad else if x1 = 44 then b_X9_nextSign_12 x1 d_ad else b_X9_nextSign_17 x1 d_ad 0
def b_X9_flaw_12 (x1 : Int32)  (d_ad : Pic) : Option (Pic) := (some (pS d_ad 28 0)).bind fun d_ad1 => some (d_ad1)
def f_X9_flaw (d_ad : Pic) (x1 : Int32) : Option (Pic) := if (gS d_ad 31) = 0 then (some (pS d_ad 31 x1)).bind fun d_ad2 => b_X9_flaw_12 x1 d_ad2 else b_X9_flaw_12 x1 d_ad
def f_X9_isSign (d_ad : Pic) (x1 : Int32) : Option (Int32) := if (gS d_ad 28) = 4 then if (gS d_ad 30) = x1 then some (1) else some (0) else some (0)
def b_X9_isWord_5 (d_ad : Pic) (dw : Int64) (w1 : Nat) (k5 : Int64 → Int32 → Option (Int32)) (v2 : Int64) (v4 : Int32) : Option (Int32) := if (lnS w1) ≤ v4 then if (gS d_ad 28) = 2 then if (lg_cmp dw v2) = 0 then some (1) else some (0) else some (0) else (chS w1 v4).bind fun v2_ => k5 ((v2 <<< (Int32.toInt64 8 &&& 63)) ||| (Int32.toInt64 v2_)) (v4 + 1)
def L_X9_isWord_5 (d_ad : Pic) (dw : Int64) (w1 : Nat)  : Nat → Int64 → Int32 → Option (Int32)
  | 0 => fun _ _ => none
  | n + 1 => b_X9_isWord_5 d_ad dw w1 (L_X9_isWord_5 d_ad dw w1  n)
def f_X9_isWord (d_ad : Pic) (dw : Int64) (w1 : Nat) : Option (Int32) := L_X9_isWord_5 d_ad dw w1 FU 0 0
def b_X9_wholeAt_33 (x1 : Int32) (x2 : Int32)  (d_ad : Pic) : Option (Int32 × Pic) := if (gS d_ad 31) ≤ 0 then some ((gS d_ad 30), d_ad) else some (x1, d_ad)
def f_X9_wholeAt (d_ad : Pic) (x1 : Int32) (x2 : Int32) : Option (Int32 × Pic) := if (gS d_ad 28) = 3 then (f_X9_in (gS d_ad 30) x1 x2).bind fun u1 => if u1 = 0 then (f_X9_flaw d_ad 2).bind fun u2 => b_X9_wholeAt_33 x1 x2 u2 else b_X9_wholeAt_33 x1 x2 d_ad else (f_X9_flaw d_ad 1).bind fun u3 => b_X9_wholeAt_33 x1 x2 u3
def b_X9_feed_76 (x1 : Int32) (x2 : Int32) (x3 : Int32) (x4 : Int32) (x5 : Int32) (k23 : Pic → Int32 → Option (Int32 × Pic)) (d_ad : Pic) (v6 : Int32) (t0 : Int32) : Option (Int32 × Pic) := (rmI v6 4).bind fun v2_ => (wA d_ad 24 900 (gS d_ad 25) (vp_nar .byte ((Int32.toInt8 (t0 >>> ((24 - (8 * v2_)) &&& 31))).toInt32))).bind fun d_ad3 => (some (pS d_ad3 25 ((gS d_ad3 25) + 1))).bind fun d_ad4 => k23 d_ad4 (v6 + 1)
def b_X9_feed_23 (x1 : Int32) (x2 : Int32) (x3 : Int32) (x4 : Int32) (x5 : Int32) (k23 : Pic → Int32 → Option (Int32 × Pic)) (d_ad : Pic) (v6 : Int32) : Option (Int32 × Pic) := if 20 ≤ v6 then some ((gS d_ad 25), d_ad) else if 4 ≤ v6 then if 8 ≤ v6 then if 12 ≤ v6 then if 16 ≤ v6 then b_X9_feed_76 x1 x2 x3 x4 x5 k23 d_ad v6 x5 else b_X9_feed_76 x1 x2 x3 x4 x5 k23 d_ad v6 x4 else b_X9_feed_76 x1 x2 x3 x4 x5 k23 d_ad v6 x3 else b_X9_feed_76 x1 x2 x3 x4 x5 k23 d_ad v6 x2 else b_X9_feed_76 x1 x2 x3 x4 x5 k23 d_ad v6 x1
def L_X9_feed_23 (x1 : Int32) (x2 : Int32) (x3 : Int32) (x4 : Int32) (x5 : Int32)  : Nat → Pic → Int32 → Option (Int32 × Pic)
  | 0 => fun _ _ => none
  | n + 1 => b_X9_feed_23 x1 x2 x3 x4 x5 (L_X9_feed_23 x1 x2 x3 x4 x5  n)
def f_X9_feed (d_ad : Pic) (x1 : Int32) (x2 : Int32) (x3 : Int32) (x4 : Int32) (x5 : Int32) : Option (Int32 × Pic) := (some (pS d_ad 0 0)).bind fun d_ad1 => if ((gS d_ad1 25) + 20) ≤ 900 then L_X9_feed_23 x1 x2 x3 x4 x5 FU d_ad1 0 else some ((-1), d_ad1)
def b_X9_clears_2  (k2 : Pic → Int32 → Option (Pic)) (d_ad : Pic) (v1 : Int32) : Option (Pic) := if 1234 ≤ v1 then some (d_ad) else if v1 = 0 then k2 d_ad (v1 + 1) else (f_X9_in v1 5 164).bind fun u1 => if u1 = 0 then (wA d_ad 20 1234 v1 0).bind fun d_ad2 => k2 d_ad2 (v1 + 1) else k2 d_ad (v1 + 1)
def L_X9_clears_2   : Nat → Pic → Int32 → Option (Pic)
  | 0 => fun _ _ => none
  | n + 1 => b_X9_clears_2  (L_X9_clears_2   n)
def f_X9_clears (d_ad : Pic) : Option (Pic) := L_X9_clears_2 FU d_ad 0
def f_X9_fault (d_ad : Pic) : Option (Int32 × Pic) := (some (pS d_ad 0 0)).bind fun d_ad1 => some ((gS d_ad1 31), d_ad1)
def f_X9_where (d_ad : Pic) : Option (Int32 × Pic) := (some (pS d_ad 0 0)).bind fun d_ad1 => some ((gS d_ad1 2), d_ad1)
def f_X9_isData (d_ad : Pic) (x1 : Int32) : Option (Int32) := if (gS d_ad 19) = 0 then some (0) else if x1 < 0 then some (0) else if (gS d_ad 5) ≤ x1 then some (0) else some (1)
def b_X9_takes_2 (x1 : Int32) (k2 : Pic → Int32 → Option (Pic)) (d_ad : Pic) (v2 : Int32) : Option (Pic) := if 16 ≤ v2 then some (d_ad) else (rA d_ad 20 1234 (x1 + v2)).bind fun v1_ => (wA d_ad 33 16 v2 v1_).bind fun d_ad2 => k2 d_ad2 (v2 + 1)
def L_X9_takes_2 (x1 : Int32)  : Nat → Pic → Int32 → Option (Pic)
  | 0 => fun _ _ => none
  | n + 1 => b_X9_takes_2 x1 (L_X9_takes_2 x1  n)
def f_X9_takes (d_ad : Pic) (x1 : Int32) : Option (Pic) := L_X9_takes_2 x1 FU d_ad 0
def b_X9_runAt_2 (d_ad : Pic) (x1 : Int32) (k2 : Int32 → Option (Int32)) (v2 : Int32) : Option (Int32) := if 16 ≤ (x1 + v2) then some (v2) else (rA d_ad 33 16 (x1 + v2)).bind fun v1_ => (rA d_ad 33 16 x1).bind fun v2_ => if v1_ = v2_ then k2 (v2 + 1) else some (v2)
def L_X9_runAt_2 (d_ad : Pic) (x1 : Int32)  : Nat → Int32 → Option (Int32)
  | 0 => fun _ => none
  | n + 1 => b_X9_runAt_2 d_ad x1 (L_X9_runAt_2 d_ad x1  n)
def f_X9_runAt (d_ad : Pic) (x1 : Int32) : Option (Int32) := L_X9_runAt_2 d_ad x1 FU 1
def b_X9_copyAt_2 (d_ad : Pic) (x1 : Int32) (x2 : Int32) (k2 : Int32 → Option (Int32)) (v3 : Int32) : Option (Int32) := if 8 ≤ v3 then some (v3) else if x1 < x2 then some (v3) else if 16 ≤ (x1 + v3) then some (v3) else (rA d_ad 33 16 (x1 + v3)).bind fun v1_ => (rA d_ad 33 16 ((x1 + v3) - x2)).bind fun v2_ => if v1_ = v2_ then k2 (v3 + 1) else some (v3)
def L_X9_copyAt_2 (d_ad : Pic) (x1 : Int32) (x2 : Int32)  : Nat → Int32 → Option (Int32)
  | 0 => fun _ => none
  | n + 1 => b_X9_copyAt_2 d_ad x1 x2 (L_X9_copyAt_2 d_ad x1 x2  n)
def f_X9_copyAt (d_ad : Pic) (x1 : Int32) (x2 : Int32) : Option (Int32) := L_X9_copyAt_2 d_ad x1 x2 FU 0
def b_X9_tries_58 (x1 : Int32) (x2 : Int32) (x3 : Int32)  (d_ad : Pic) (v4 : Int32) (v5 : Int32) : Option (Pic) := (wA d_ad 34 17 x1 v4).bind fun d_ad5 => (wA d_ad5 35 17 x1 v5).bind fun d_ad6 => some (d_ad6)
def f_X9_tries (d_ad : Pic) (x1 : Int32) (x2 : Int32) (x3 : Int32) : Option (Pic) := (rA d_ad 34 17 (x1 + x2)).bind fun v1_ => (rA d_ad 35 17 (x1 + x2)).bind fun v2_ => (rA d_ad 34 17 x1).bind fun v3_ => if v3_ < (x3 + v1_) then some (d_ad) else (rA d_ad 34 17 x1).bind fun v4_ => if (x3 + v1_) = v4_ then (rA d_ad 35 17 x1).bind fun v7_ => if (1 + v2_) < v7_ then b_X9_tries_58 x1 x2 x3 d_ad (x3 + v1_) (1 + v2_) else some (d_ad) else b_X9_tries_58 x1 x2 x3 d_ad (x3 + v1_) (1 + v2_)
def b_X9_laysLeast_106  (k19 : Pic → Int32 → Option (Pic)) (k106 : Pic → Int32 → Int32 → Option (Pic)) (d_ad : Pic) (v1 : Int32) (v2 : Int32) : Option (Pic) := if 8 < v2 then k19 d_ad (v1 + (-1)) else if 16 < (v1 + v2) then k19 d_ad (v1 + (-1)) else (f_X9_tries d_ad v1 v2 (1 + v2)).bind fun u6 => k106 u6 v1 (v2 + 1)
def L_X9_laysLeast_106  (k19 : Pic → Int32 → Option (Pic)) : Nat → Pic → Int32 → Int32 → Option (Pic)
  | 0 => fun _ _ _ => none
  | n + 1 => b_X9_laysLeast_106  k19 (L_X9_laysLeast_106  k19 n)
def b_X9_laysLeast_80  (k19 : Pic → Int32 → Option (Pic)) (k67 : Pic → Int32 → Int32 → Option (Pic)) (k80 : Pic → Int32 → Int32 → Int32 → Option (Pic)) (d_ad : Pic) (v1 : Int32) (v2 : Int32) (v3 : Int32) : Option (Pic) := if v3 ≤ 1 then k67 d_ad v1 (v2 + 1) else (f_X9_tries d_ad v1 v3 3).bind fun u8 => k80 u8 v1 v2 (v3 + (-1))
def L_X9_laysLeast_80  (k19 : Pic → Int32 → Option (Pic)) (k67 : Pic → Int32 → Int32 → Option (Pic)) : Nat → Pic → Int32 → Int32 → Int32 → Option (Pic)
  | 0 => fun _ _ _ _ => none
  | n + 1 => b_X9_laysLeast_80  k19 k67 (L_X9_laysLeast_80  k19 k67 n)
def b_X9_laysLeast_67  (k19 : Pic → Int32 → Option (Pic)) (k67 : Pic → Int32 → Int32 → Option (Pic)) (d_ad : Pic) (v1 : Int32) (v2 : Int32) : Option (Pic) := if 15 < v2 then L_X9_laysLeast_106 k19 FU d_ad v1 1 else (f_X9_copyAt d_ad v1 v2).bind fun u7 => L_X9_laysLeast_80 k19 k67 FU d_ad v1 v2 u7
def L_X9_laysLeast_67  (k19 : Pic → Int32 → Option (Pic)) : Nat → Pic → Int32 → Int32 → Option (Pic)
  | 0 => fun _ _ _ => none
  | n + 1 => b_X9_laysLeast_67  k19 (L_X9_laysLeast_67  k19 n)
def b_X9_laysLeast_47  (k19 : Pic → Int32 → Option (Pic)) (k47 : Pic → Int32 → Int32 → Option (Pic)) (d_ad : Pic) (v1 : Int32) (v2 : Int32) : Option (Pic) := if v2 ≤ 1 then L_X9_laysLeast_67 k19 FU d_ad v1 2 else (f_X9_tries d_ad v1 v2 2).bind fun u9 => k47 u9 v1 (v2 + (-1))
def L_X9_laysLeast_47  (k19 : Pic → Int32 → Option (Pic)) : Nat → Pic → Int32 → Int32 → Option (Pic)
  | 0 => fun _ _ _ => none
  | n + 1 => b_X9_laysLeast_47  k19 (L_X9_laysLeast_47  k19 n)
def b_X9_laysLeast_19  (k19 : Pic → Int32 → Option (Pic)) (d_ad : Pic) (v1 : Int32) : Option (Pic) := if v1 < 0 then some (d_ad) else (wA d_ad 34 17 v1 1000).bind fun d_ad3 => (wA d_ad3 35 17 v1 1000).bind fun d_ad4 => (f_X9_runAt d_ad4 v1).bind fun u5 => L_X9_laysLeast_47 k19 FU d_ad4 v1 u5
def L_X9_laysLeast_19   : Nat → Pic → Int32 → Option (Pic)
  | 0 => fun _ _ => none
  | n + 1 => b_X9_laysLeast_19  (L_X9_laysLeast_19   n)
def f_X9_laysLeast (d_ad : Pic) : Option (Pic) := (wA d_ad 34 17 16 0).bind fun d_ad1 => (wA d_ad1 35 17 16 0).bind fun d_ad2 => L_X9_laysLeast_19 FU d_ad2 15
def f_X9_isCheapest (d_ad : Pic) (x1 : Int32) (x2 : Int32) (x3 : Int32) : Option (Int32) := (rA d_ad 34 17 (x1 + x2)).bind fun v1_ => (rA d_ad 34 17 x1).bind fun v2_ => if (x3 + v1_) = v2_ then some (1) else some (0)
def f_X9_cutHere (d_ad : Pic) (x1 : Int32) (x2 : Int32) (x3 : Int32) (x4 : Int32) : Option (Pic) := (wA d_ad 36 16 (gS d_ad 40) x1).bind fun d_ad1 => (wA d_ad1 37 16 (gS d_ad1 40) x2).bind fun d_ad2 => (wA d_ad2 38 16 (gS d_ad2 40) x3).bind fun d_ad3 => (wA d_ad3 39 16 (gS d_ad3 40) x4).bind fun d_ad4 => (some (pS d_ad4 40 ((gS d_ad4 40) + 1))).bind fun d_ad5 => some (d_ad5)
def b_X9_cutsOne_120 (x1 : Int32) (k120 : Pic → Int32 → Option (Int32 × Pic)) (d_ad : Pic) (v2 : Int32) : Option (Int32 × Pic) := (f_X9_isCheapest d_ad x1 v2 (1 + v2)).bind fun u2 => if u2 = 0 then k120 d_ad (v2 + (-1)) else (f_X9_cutHere d_ad 2 x1 v2 0).bind fun u3 => some (v2, u3)
def L_X9_cutsOne_120 (x1 : Int32)  : Nat → Pic → Int32 → Option (Int32 × Pic)
  | 0 => fun _ _ => none
  | n + 1 => b_X9_cutsOne_120 x1 (L_X9_cutsOne_120 x1  n)
def b_X9_cutsOne_50 (x1 : Int32) (k43 : Pic → Int32 → Option (Int32 × Pic)) (k50 : Pic → Int32 → Int32 → Option (Int32 × Pic)) (d_ad : Pic) (v2 : Int32) (v3 : Int32) : Option (Int32 × Pic) := if 15 < v3 then k43 d_ad (v2 + (-1)) else (f_X9_copyAt d_ad x1 v3).bind fun u4 => if u4 < v2 then k50 d_ad v2 (v3 + 1) else (f_X9_isCheapest d_ad x1 v2 3).bind fun u5 => if u5 = 0 then k50 d_ad v2 (v3 + 1) else (f_X9_cutHere d_ad 1 x1 v2 v3).bind fun u6 => some (v2, u6)
def L_X9_cutsOne_50 (x1 : Int32) (k43 : Pic → Int32 → Option (Int32 × Pic)) : Nat → Pic → Int32 → Int32 → Option (Int32 × Pic)
  | 0 => fun _ _ _ => none
  | n + 1 => b_X9_cutsOne_50 x1 k43 (L_X9_cutsOne_50 x1 k43 n)
def b_X9_cutsOne_43 (x1 : Int32) (k43 : Pic → Int32 → Option (Int32 × Pic)) (d_ad : Pic) (v2 : Int32) : Option (Int32 × Pic) := if v2 ≤ 1 then if 8 ≤ (16 - x1) then L_X9_cutsOne_120 x1 FU d_ad 8 else L_X9_cutsOne_120 x1 FU d_ad (16 - x1) else L_X9_cutsOne_50 x1 k43 FU d_ad v2 2
def L_X9_cutsOne_43 (x1 : Int32)  : Nat → Pic → Int32 → Option (Int32 × Pic)
  | 0 => fun _ _ => none
  | n + 1 => b_X9_cutsOne_43 x1 (L_X9_cutsOne_43 x1  n)
def b_X9_cutsOne_6 (x1 : Int32) (k6 : Pic → Int32 → Option (Int32 × Pic)) (d_ad : Pic) (v2 : Int32) : Option (Int32 × Pic) := if v2 ≤ 1 then L_X9_cutsOne_43 x1 FU d_ad 8 else (f_X9_isCheapest d_ad x1 v2 2).bind fun u7 => if u7 = 0 then k6 d_ad (v2 + (-1)) else (f_X9_cutHere d_ad 0 x1 v2 0).bind fun u8 => some (v2, u8)
def L_X9_cutsOne_6 (x1 : Int32)  : Nat → Pic → Int32 → Option (Int32 × Pic)
  | 0 => fun _ _ => none
  | n + 1 => b_X9_cutsOne_6 x1 (L_X9_cutsOne_6 x1  n)
def f_X9_cutsOne (d_ad : Pic) (x1 : Int32) : Option (Int32 × Pic) := (f_X9_runAt d_ad x1).bind fun u1 => L_X9_cutsOne_6 x1 FU d_ad u1
def b_X9_cutAll_16 (x1 : Int32) (k16 : Pic → Int32 → Option (Int32 × Pic)) (d_ad : Pic) (v2 : Int32) : Option (Int32 × Pic) := if 16 ≤ v2 then (rA d_ad 34 17 0).bind fun v4_ => some (v4_, d_ad) else (f_X9_cutsOne d_ad v2).bind fun u5 => k16 u5.2 (v2 + u5.1)
def L_X9_cutAll_16 (x1 : Int32)  : Nat → Pic → Int32 → Option (Int32 × Pic)
  | 0 => fun _ _ => none
  | n + 1 => b_X9_cutAll_16 x1 (L_X9_cutAll_16 x1  n)
def f_X9_cutAll (d_ad : Pic) (x1 : Int32) : Option (Int32 × Pic) := (f_X9_takes d_ad x1).bind fun u1 => (f_X9_laysLeast u1).bind fun u2 => (some (pS u2 40 0)).bind fun d_ad3 => L_X9_cutAll_16 x1 FU d_ad3 0
def f_X9_areAlike (d_ad : Pic) (x1 : Int32) : Option (Int32 × Pic) := (f_X9_takes d_ad x1).bind fun u1 => (f_X9_runAt u1 0).bind fun u2 => if u2 = 16 then some (1, u1) else some (0, u1)
def f_X9_dataAt (x0 : Int32) : Option (Int32) := some ((5 + (16 * x0)))
def b_X9_cell_23 (x1 : Int32) (x2 : Int32)  (d_ad : Pic) : Option (Int32 × Pic) := (f_X9_refused d_ad 1).bind fun u3 => some (u3.1, u3.2)
def f_X9_cell (d_ad : Pic) (x1 : Int32) (x2 : Int32) : Option (Int32 × Pic) := (some (pS d_ad 0 0)).bind fun d_ad1 => (f_X9_isData d_ad1 x1).bind fun u2 => if u2 = 0 then b_X9_cell_23 x1 x2 d_ad1 else (f_X9_in x2 0 15).bind fun u4 => if u4 = 0 then b_X9_cell_23 x1 x2 d_ad1 else (f_X9_dataAt x1).bind fun u5 => (rA d_ad1 20 1234 (u5 + x2)).bind fun v6_ => (f_X9_good d_ad1 v6_).bind fun u7 => some (u7.1, u7.2)
def f_X9_squeezed (d_ad : Pic) (x1 : Int32) : Option (Int32 × Pic) := (some (pS d_ad 0 0)).bind fun d_ad1 => (f_X9_isData d_ad1 x1).bind fun u2 => if u2 = 0 then (f_X9_refused d_ad1 1).bind fun u3 => some (u3.1, u3.2) else (f_X9_dataAt x1).bind fun u4 => (f_X9_cutAll d_ad1 u4).bind fun u5 => (f_X9_good u5.2 u5.1).bind fun u6 => some (u6.1, u6.2)
def f_X9_pieces (d_ad : Pic) (x1 : Int32) : Option (Int32 × Pic) := (some (pS d_ad 0 0)).bind fun d_ad1 => (f_X9_isData d_ad1 x1).bind fun u2 => if u2 = 0 then (f_X9_refused d_ad1 1).bind fun u6 => some (u6.1, u6.2) else (f_X9_dataAt x1).bind fun u3 => (f_X9_cutAll d_ad1 u3).bind fun u4 => (f_X9_good u4.2 (gS u4.2 40)).bind fun u5 => some (u5.1, u5.2)
def b_X9_piece_26 (x1 : Int32) (x2 : Int32) (x3 : Int32)  (d_ad : Pic) : Option (Int32 × Pic) := (f_X9_refused d_ad 1).bind fun u3 => some (u3.1, u3.2)
def f_X9_piece (d_ad : Pic) (x1 : Int32) (x2 : Int32) (x3 : Int32) : Option (Int32 × Pic) := (some (pS d_ad 0 0)).bind fun d_ad1 => (f_X9_isData d_ad1 x1).bind fun u2 => if u2 = 0 then b_X9_piece_26 x1 x2 x3 d_ad1 else if x2 < 0 then b_X9_piece_26 x1 x2 x3 d_ad1 else (f_X9_in x3 0 3).bind fun u4 => if u4 = 0 then b_X9_piece_26 x1 x2 x3 d_ad1 else (f_X9_dataAt x1).bind fun u5 => (f_X9_cutAll d_ad1 u5).bind fun u6 => if x2 < (gS u6.2 40) then if x3 = 0 then (rA u6.2 36 16 x2).bind fun v13_ => (f_X9_good u6.2 v13_).bind fun u14 => some (u14.1, u14.2) else if x3 = 1 then (rA u6.2 37 16 x2).bind fun v11_ => (f_X9_good u6.2 v11_).bind fun u12 => some (u12.1, u12.2) else if x3 = 2 then (rA u6.2 38 16 x2).bind fun v9_ => (f_X9_good u6.2 v9_).bind fun u10 => some (u10.1, u10.2) else (rA u6.2 39 16 x2).bind fun v7_ => (f_X9_good u6.2 v7_).bind fun u8 => some (u8.1, u8.2) else (f_X9_refused u6.2 1).bind fun u15 => some (u15.1, u15.2)
def f_X9_fewest (d_ad : Pic) (x1 : Int32) : Option (Int32 × Pic) := (some (pS d_ad 0 0)).bind fun d_ad1 => (f_X9_isData d_ad1 x1).bind fun u2 => if u2 = 0 then (f_X9_refused d_ad1 1).bind fun u7 => some (u7.1, u7.2) else (f_X9_dataAt x1).bind fun u3 => (f_X9_cutAll d_ad1 u3).bind fun u4 => (rA u4.2 35 17 0).bind fun v5_ => (f_X9_good u4.2 v5_).bind fun u6 => some (u6.1, u6.2)
def b_X9_rest_23 (x1 : Int32) (x2 : Int32)  (d_ad : Pic) : Option (Int32 × Pic) := (f_X9_refused d_ad 1).bind fun u3 => some (u3.1, u3.2)
def f_X9_rest (d_ad : Pic) (x1 : Int32) (x2 : Int32) : Option (Int32 × Pic) := (some (pS d_ad 0 0)).bind fun d_ad1 => (f_X9_isData d_ad1 x1).bind fun u2 => if u2 = 0 then b_X9_rest_23 x1 x2 d_ad1 else (f_X9_in x2 0 15).bind fun u4 => if u4 = 0 then b_X9_rest_23 x1 x2 d_ad1 else (f_X9_dataAt x1).bind fun u5 => (f_X9_cutAll d_ad1 u5).bind fun u6 => (rA u6.2 34 17 x2).bind fun v7_ => (f_X9_good u6.2 v7_).bind fun u8 => some (u8.1, u8.2)
def b_X9_rankOf_48 (d_ad : Pic) (x1 : Int32) (k4 : Int32 → Int32 → Option (Int32)) (v3 : Int32) (t0 : Int32) : Option (Int32) := k4 (t0 + 1) (v3 + 1)
def b_X9_rankOf_52 (d_ad : Pic) (x1 : Int32) (k4 : Int32 → Int32 → Option (Int32)) (v3 : Int32) (t0 : Int32) : Option (Int32) := k4 (t0 + 0) (v3 + 1)
def b_X9_rankOf_4 (d_ad : Pic) (x1 : Int32) (k4 : Int32 → Int32 → Option (Int32)) (v2 : Int32) (v3 : Int32) : Option (Int32) := if (gS d_ad 5) ≤ v3 then some (v2) else (rA d_ad 41 10 v3).bind fun v1_ => (rA d_ad 41 10 x1).bind fun v2_ => if v1_ < v2_ then b_X9_rankOf_48 d_ad x1 k4 v3 v2 else (rA d_ad 41 10 v3).bind fun v3_ => (rA d_ad 41 10 x1).bind fun v4_ => if v3_ = v4_ then if x1 ≤ v3 then b_X9_rankOf_52 d_ad x1 k4 v3 v2 else b_X9_rankOf_48 d_ad x1 k4 v3 v2 else b_X9_rankOf_52 d_ad x1 k4 v3 v2
def L_X9_rankOf_4 (d_ad : Pic) (x1 : Int32)  : Nat → Int32 → Int32 → Option (Int32)
  | 0 => fun _ _ => none
  | n + 1 => b_X9_rankOf_4 d_ad x1 (L_X9_rankOf_4 d_ad x1  n)
def f_X9_rankOf (d_ad : Pic) (x1 : Int32) : Option (Int32) := L_X9_rankOf_4 d_ad x1 FU 0 0
def b_X9_ranked_24 (x1 : Int32)  (d_ad : Pic) : Option (Int32 × Pic) := (f_X9_refused d_ad 1).bind fun u2 => some (u2.1, u2.2)
def b_X9_ranked_62 (x1 : Int32) (k62 : Pic → Int32 → Option (Int32 × Pic)) (d_ad : Pic) (v2 : Int32) : Option (Int32 × Pic) := (f_X9_rankOf d_ad v2).bind fun u3 => if u3 = x1 then (f_X9_good d_ad v2).bind fun u4 => some (u4.1, u4.2) else k62 d_ad (v2 + 1)
def L_X9_ranked_62 (x1 : Int32)  : Nat → Pic → Int32 → Option (Int32 × Pic)
  | 0 => fun _ _ => none
  | n + 1 => b_X9_ranked_62 x1 (L_X9_ranked_62 x1  n)
def b_X9_ranked_32 (x1 : Int32) (k32 : Pic → Int32 → Option (Int32 × Pic)) (d_ad : Pic) (v2 : Int32) : Option (Int32 × Pic) := if (gS d_ad 5) ≤ v2 then L_X9_ranked_62 x1 FU d_ad 0 else (f_X9_dataAt v2).bind fun u5 => (f_X9_cutAll d_ad u5).bind fun u6 => (wA u6.2 41 10 v2 u6.1).bind fun d_ad7 => k32 d_ad7 (v2 + 1)
def L_X9_ranked_32 (x1 : Int32)  : Nat → Pic → Int32 → Option (Int32 × Pic)
  | 0 => fun _ _ => none
  | n + 1 => b_X9_ranked_32 x1 (L_X9_ranked_32 x1  n)
def f_X9_ranked (d_ad : Pic) (x1 : Int32) : Option (Int32 × Pic) := (some (pS d_ad 0 0)).bind fun d_ad1 => if (gS d_ad1 19) = 0 then b_X9_ranked_24 x1 d_ad1 else if x1 < 0 then b_X9_ranked_24 x1 d_ad1 else if x1 < (gS d_ad1 5) then L_X9_ranked_32 x1 FU d_ad1 0 else b_X9_ranked_24 x1 d_ad1
def b_X9_sort_55 (x1 : Int32)  (d_ad : Pic) (t0 : Int32) : Option (Int32 × Pic) := (f_X9_good d_ad t0).bind fun u7 => some (u7.1, u7.2)
def f_X9_sort (d_ad : Pic) (x1 : Int32) : Option (Int32 × Pic) := (some (pS d_ad 0 0)).bind fun d_ad1 => (f_X9_isData d_ad1 x1).bind fun u2 => if u2 = 0 then (f_X9_refused d_ad1 1).bind fun u8 => some (u8.1, u8.2) else (f_X9_dataAt x1).bind fun u3 => (f_X9_areAlike d_ad1 u3).bind fun u4 => if u4.1 = 0 then (f_X9_dataAt x1).bind fun u5 => (f_X9_cutAll u4.2 u5).bind fun u6 => if u6.1 ≤ (gS u6.2 4) then b_X9_sort_55 x1 u6.2 0 else b_X9_sort_55 x1 u6.2 2 else b_X9_sort_55 x1 u4.2 1
def f_X9_homeOf (x0 : Int32) (x1 : Int32) : Option (Int32) := (dvI ((x0 + x1) - 1) x1).bind fun v1_ => some ((v1_ * x1))
def b_X9_framesOf_4 (x0 : Int32) (k4 : Int32 → Int32 → Option (Int32)) (v1 : Int32) (v2 : Int32) : Option (Int32) := if 4 < v2 then some (v1) else (rmI (16 * v2) x0).bind fun v1_ => (rmI (16 * v1) x0).bind fun v2_ => if (v2_ * v2) ≤ (v1_ * v1) then k4 v1 (v2 + 1) else k4 v2 (v2 + 1)
def L_X9_framesOf_4 (x0 : Int32)  : Nat → Int32 → Int32 → Option (Int32)
  | 0 => fun _ _ => none
  | n + 1 => b_X9_framesOf_4 x0 (L_X9_framesOf_4 x0  n)
def f_X9_framesOf (x0 : Int32) : Option (Int32) := L_X9_framesOf_4 x0 FU 1 2
def f_X9_slotsOf (x0 : Int32) : Option (Int32) := (f_X9_framesOf x0).bind fun u1 => (dvI (16 * u1) x0).bind fun v2_ => some (v2_)
def f_X9_home (d_ad : Pic) (x1 : Int32) : Option (Int32 × Pic) := (some (pS d_ad 0 0)).bind fun d_ad1 => if (gS d_ad1 19) = 0 then (f_X9_refused d_ad1 1).bind fun u6 => some (u6.1, u6.2) else (f_X9_in x1 2 15).bind fun u2 => if u2 = 0 then (f_X9_refused d_ad1 2).bind fun u3 => some (u3.1, u3.2) else (f_X9_homeOf x1 (gS d_ad1 3)).bind fun u4 => (f_X9_good d_ad1 u4).bind fun u5 => some (u5.1, u5.2)
def f_X9_isClass (d_ad : Pic) (x1 : Int32) : Option (Int32) := if (gS d_ad 19) = 0 then some (0) else (f_X9_in x1 1 16).bind fun u1 => if u1 = 0 then some (0) else (rmI x1 (gS d_ad 3)).bind fun v2_ => if v2_ = 0 then some (1) else some (0)
def f_X9_isZone (d_ad : Pic) (x1 : Int32) : Option (Int32) := if (gS d_ad 19) = 0 then some (0) else (f_X9_in x1 0 23).bind fun u1 => if u1 = 0 then some (0) else (rA d_ad 20 1234 (796 + x1)).bind fun v2_ => if v2_ ≤ 0 then some (0) else some (1)
def f_X9_classOf (d_ad : Pic) (x1 : Int32) : Option (Int32) := (rA d_ad 20 1234 (796 + x1)).bind fun v1_ => some (v1_)
def f_X9_slotAt (x0 : Int32) (x1 : Int32) : Option (Int32) := some (((820 + (16 * x0)) + x1))
def b_X9_fillOf_4 (d_ad : Pic) (x1 : Int32) (k4 : Int32 → Int32 → Option (Int32)) (v2 : Int32) (v3 : Int32) : Option (Int32) := if 16 ≤ v3 then some (v2) else (f_X9_slotAt x1 v3).bind fun u1 => (rA d_ad 20 1234 u1).bind fun v2_ => if v2_ ≤ 0 then k4 (v2 + 0) (v3 + 1) else k4 (v2 + 1) (v3 + 1)
def L_X9_fillOf_4 (d_ad : Pic) (x1 : Int32)  : Nat → Int32 → Int32 → Option (Int32)
  | 0 => fun _ _ => none
  | n + 1 => b_X9_fillOf_4 d_ad x1 (L_X9_fillOf_4 d_ad x1  n)
def f_X9_fillOf (d_ad : Pic) (x1 : Int32) : Option (Int32) := L_X9_fillOf_4 d_ad x1 FU 0 0
def f_X9_isFull (d_ad : Pic) (x1 : Int32) : Option (Int32) := (f_X9_fillOf d_ad x1).bind fun u1 => (f_X9_classOf d_ad x1).bind fun u2 => (f_X9_slotsOf u2).bind fun u3 => if u1 = u3 then some (1) else some (0)
def b_X9_zonesOf_4 (d_ad : Pic) (x1 : Int32) (k4 : Int32 → Int32 → Option (Int32)) (v2 : Int32) (v3 : Int32) : Option (Int32) := if 24 ≤ v3 then some (v2) else (f_X9_classOf d_ad v3).bind fun u1 => if u1 = x1 then k4 (v2 + 1) (v3 + 1) else k4 (v2 + 0) (v3 + 1)
def L_X9_zonesOf_4 (d_ad : Pic) (x1 : Int32)  : Nat → Int32 → Int32 → Option (Int32)
  | 0 => fun _ _ => none
  | n + 1 => b_X9_zonesOf_4 d_ad x1 (L_X9_zonesOf_4 d_ad x1  n)
def f_X9_zonesOf (d_ad : Pic) (x1 : Int32) : Option (Int32) := L_X9_zonesOf_4 d_ad x1 FU 0 0
def b_X9_pagesOf_4 (d_ad : Pic) (x1 : Int32) (k4 : Int32 → Int32 → Option (Int32)) (v2 : Int32) (v3 : Int32) : Option (Int32) := if 24 ≤ v3 then some (v2) else (f_X9_classOf d_ad v3).bind fun u1 => if u1 = x1 then (f_X9_fillOf d_ad v3).bind fun u2 => k4 (v2 + u2) (v3 + 1) else k4 (v2 + 0) (v3 + 1)
def L_X9_pagesOf_4 (d_ad : Pic) (x1 : Int32)  : Nat → Int32 → Int32 → Option (Int32)
  | 0 => fun _ _ => none
  | n + 1 => b_X9_pagesOf_4 d_ad x1 (L_X9_pagesOf_4 d_ad x1  n)
def f_X9_pagesOf (d_ad : Pic) (x1 : Int32) : Option (Int32) := L_X9_pagesOf_4 d_ad x1 FU 0 0
def b_X9_zonesNow_4 (d_ad : Pic) (k4 : Int32 → Int32 → Option (Int32)) (v1 : Int32) (v2 : Int32) : Option (Int32) := if 24 ≤ v2 then some (v1) else (f_X9_classOf d_ad v2).bind fun u1 => if u1 ≤ 0 then k4 (v1 + 0) (v2 + 1) else k4 (v1 + 1) (v2 + 1)
def L_X9_zonesNow_4 (d_ad : Pic)  : Nat → Int32 → Int32 → Option (Int32)
  | 0 => fun _ _ => none
  | n + 1 => b_X9_zonesNow_4 d_ad (L_X9_zonesNow_4 d_ad  n)
def f_X9_zonesNow (d_ad : Pic) : Option (Int32) := L_X9_zonesNow_4 d_ad FU 0 0
def b_X9_framesNow_4 (d_ad : Pic) (k4 : Int32 → Int32 → Option (Int32)) (v1 : Int32) (v2 : Int32) : Option (Int32) := if 24 ≤ v2 then some (v1) else (f_X9_classOf d_ad v2).bind fun u1 => if u1 ≤ 0 then k4 (v1 + 0) (v2 + 1) else (f_X9_classOf d_ad v2).bind fun u2 => (f_X9_framesOf u2).bind fun u3 => k4 (v1 + u3) (v2 + 1)
def L_X9_framesNow_4 (d_ad : Pic)  : Nat → Int32 → Int32 → Option (Int32)
  | 0 => fun _ _ => none
  | n + 1 => b_X9_framesNow_4 d_ad (L_X9_framesNow_4 d_ad  n)
def f_X9_framesNow (d_ad : Pic) : Option (Int32) := L_X9_framesNow_4 d_ad FU 0 0
def b_X9_freeSlot_2 (d_ad : Pic) (x1 : Int32) (k2 : Int32 → Option (Int32)) (v2 : Int32) : Option (Int32) := (f_X9_classOf d_ad x1).bind fun u1 => (f_X9_slotsOf u1).bind fun u2 => if u2 ≤ v2 then some ((-1)) else (f_X9_slotAt x1 v2).bind fun u3 => (rA d_ad 20 1234 u3).bind fun v4_ => if v4_ = 0 then some (v2) else k2 (v2 + 1)
def L_X9_freeSlot_2 (d_ad : Pic) (x1 : Int32)  : Nat → Int32 → Option (Int32)
  | 0 => fun _ => none
  | n + 1 => b_X9_freeSlot_2 d_ad x1 (L_X9_freeSlot_2 d_ad x1  n)
def f_X9_freeSlot (d_ad : Pic) (x1 : Int32) : Option (Int32) := L_X9_freeSlot_2 d_ad x1 FU 0
def b_X9_fullestOf_5 (d_ad : Pic) (x1 : Int32) (x2 : Int32) (k5 : Int32 → Int32 → Option (Int32)) (v3 : Int32) (v4 : Int32) : Option (Int32) := if 24 ≤ v4 then some (v3) else if v4 = x2 then k5 v3 (v4 + 1) else (f_X9_classOf d_ad v4).bind fun u1 => if u1 = x1 then (f_X9_isFull d_ad v4).bind fun u2 => if u2 = 0 then if v3 = (-1) then k5 v4 (v4 + 1) else (f_X9_fillOf d_ad v4).bind fun u3 => (f_X9_fillOf d_ad v3).bind fun u4 => if u3 ≤ u4 then k5 v3 (v4 + 1) else k5 v4 (v4 + 1) else k5 v3 (v4 + 1) else k5 v3 (v4 + 1)
def L_X9_fullestOf_5 (d_ad : Pic) (x1 : Int32) (x2 : Int32)  : Nat → Int32 → Int32 → Option (Int32)
  | 0 => fun _ _ => none
  | n + 1 => b_X9_fullestOf_5 d_ad x1 x2 (L_X9_fullestOf_5 d_ad x1 x2  n)
def f_X9_fullestOf (d_ad : Pic) (x1 : Int32) (x2 : Int32) : Option (Int32) := L_X9_fullestOf_5 d_ad x1 x2 FU (-1) 0
def b_X9_emptiestOf_4 (d_ad : Pic) (x1 : Int32) (k4 : Int32 → Int32 → Option (Int32)) (v2 : Int32) (v3 : Int32) : Option (Int32) := if 24 ≤ v3 then some (v2) else (f_X9_classOf d_ad v3).bind fun u1 => if u1 = x1 then (f_X9_isFull d_ad v3).bind fun u2 => if u2 = 0 then if v2 = (-1) then k4 v3 (v3 + 1) else (f_X9_fillOf d_ad v3).bind fun u3 => (f_X9_fillOf d_ad v2).bind fun u4 => if u4 < u3 then k4 v2 (v3 + 1) else k4 v3 (v3 + 1) else k4 v2 (v3 + 1) else k4 v2 (v3 + 1)
def L_X9_emptiestOf_4 (d_ad : Pic) (x1 : Int32)  : Nat → Int32 → Int32 → Option (Int32)
  | 0 => fun _ _ => none
  | n + 1 => b_X9_emptiestOf_4 d_ad x1 (L_X9_emptiestOf_4 d_ad x1  n)
def f_X9_emptiestOf (d_ad : Pic) (x1 : Int32) : Option (Int32) := L_X9_emptiestOf_4 d_ad x1 FU (-1) 0
def b_X9_zone_22 (x1 : Int32) (x2 : Int32)  (d_ad : Pic) : Option (Int32 × Pic) := (f_X9_refused d_ad 1).bind fun u3 => some (u3.1, u3.2)
def b_X9_zone_62 (x1 : Int32) (x2 : Int32)  (d_ad : Pic) (t0 : Int32) : Option (Int32 × Pic) := (f_X9_good d_ad t0).bind fun u6 => some (u6.1, u6.2)
def f_X9_zone (d_ad : Pic) (x1 : Int32) (x2 : Int32) : Option (Int32 × Pic) := (some (pS d_ad 0 0)).bind fun d_ad1 => (f_X9_isZone d_ad1 x1).bind fun u2 => if u2 = 0 then b_X9_zone_22 x1 x2 d_ad1 else (f_X9_in x2 0 2).bind fun u4 => if u4 = 0 then b_X9_zone_22 x1 x2 d_ad1 else if x2 = 0 then (f_X9_classOf d_ad1 x1).bind fun u9 => b_X9_zone_62 x1 x2 d_ad1 u9 else if x2 = 1 then (f_X9_classOf d_ad1 x1).bind fun u7 => (f_X9_framesOf u7).bind fun u8 => b_X9_zone_62 x1 x2 d_ad1 u8 else (f_X9_fillOf d_ad1 x1).bind fun u5 => b_X9_zone_62 x1 x2 d_ad1 u5
def b_X9_slot_29 (x1 : Int32) (x2 : Int32)  (d_ad : Pic) : Option (Int32 × Pic) := (f_X9_refused d_ad 1).bind fun u3 => some (u3.1, u3.2)
def b_X9_slot_66 (x1 : Int32) (x2 : Int32)  (d_ad : Pic) (t0 : Int32) : Option (Int32 × Pic) := (f_X9_good d_ad t0).bind fun u10 => some (u10.1, u10.2)
def f_X9_slot (d_ad : Pic) (x1 : Int32) (x2 : Int32) : Option (Int32 × Pic) := (some (pS d_ad 0 0)).bind fun d_ad1 => (f_X9_isZone d_ad1 x1).bind fun u2 => if u2 = 0 then b_X9_slot_29 x1 x2 d_ad1 else if x2 < 0 then b_X9_slot_29 x1 x2 d_ad1 else (f_X9_classOf d_ad1 x1).bind fun u4 => (f_X9_slotsOf u4).bind fun u5 => if x2 < u5 then (f_X9_slotAt x1 x2).bind fun u6 => (rA d_ad1 20 1234 u6).bind fun v7_ => if v7_ = 0 then b_X9_slot_66 x1 x2 d_ad1 (-2) else (f_X9_slotAt x1 x2).bind fun u8 => (rA d_ad1 20 1234 u8).bind fun v9_ => b_X9_slot_66 x1 x2 d_ad1 (v9_ - 1) else b_X9_slot_29 x1 x2 d_ad1
def f_X9_isPage (d_ad : Pic) (x1 : Int32) : Option (Int32) := if (gS d_ad 19) = 0 then some (0) else (f_X9_in x1 0 29).bind fun u1 => if u1 = 0 then some (0) else some (1)
def f_X9_placeOf (d_ad : Pic) (x1 : Int32) : Option (Int32) := (rA d_ad 20 1234 (165 + x1)).bind fun v1_ => some (v1_)
def b_X9_ageOf_2 (d_ad : Pic) (x1 : Int32) (k2 : Int32 → Option (Int32)) (v2 : Int32) : Option (Int32) := (rA d_ad 20 1234 315).bind fun v1_ => if v1_ ≤ v2 then some ((-1)) else (rA d_ad 20 1234 (285 + v2)).bind fun v2_ => if v2_ = x1 then some (v2) else k2 (v2 + 1)
def L_X9_ageOf_2 (d_ad : Pic) (x1 : Int32)  : Nat → Int32 → Option (Int32)
  | 0 => fun _ => none
  | n + 1 => b_X9_ageOf_2 d_ad x1 (L_X9_ageOf_2 d_ad x1  n)
def f_X9_ageOf (d_ad : Pic) (x1 : Int32) : Option (Int32) := L_X9_ageOf_2 d_ad x1 FU 0
def f_X9_growsOld (d_ad : Pic) (x1 : Int32) : Option (Pic) := (rA d_ad 20 1234 315).bind fun v1_ => (wA d_ad 20 1234 (285 + v1_) x1).bind fun d_ad2 => (rA d_ad2 20 1234 315).bind fun v3_ => (wA d_ad2 20 1234 315 (v3_ + 1)).bind fun d_ad4 => some (d_ad4)
def b_X9_forgets_8 (x1 : Int32) (k8 : Pic → Int32 → Option (Pic)) (d_ad : Pic) (v3 : Int32) : Option (Pic) := (rA d_ad 20 1234 315).bind fun v2_ => if v2_ ≤ (v3 + 1) then (rA d_ad 20 1234 315).bind fun v3_ => (wA d_ad 20 1234 315 (v3_ - 1)).bind fun d_ad4 => some (d_ad4) else (rA d_ad 20 1234 ((285 + v3) + 1)).bind fun v5_ => (wA d_ad 20 1234 (285 + v3) v5_).bind fun d_ad6 => k8 d_ad6 (v3 + 1)
def L_X9_forgets_8 (x1 : Int32)  : Nat → Pic → Int32 → Option (Pic)
  | 0 => fun _ _ => none
  | n + 1 => b_X9_forgets_8 x1 (L_X9_forgets_8 x1  n)
def f_X9_forgets (d_ad : Pic) (x1 : Int32) : Option (Pic) := (f_X9_ageOf d_ad x1).bind fun u1 => L_X9_forgets_8 x1 FU d_ad u1
def f_X9_comesInto (d_ad : Pic) (x1 : Int32) (x2 : Int32) : Option (Pic) := (f_X9_freeSlot d_ad x2).bind fun u1 => (f_X9_slotAt x2 u1).bind fun u2 => (wA d_ad 20 1234 u2 (x1 + 1)).bind fun d_ad3 => (wA d_ad3 20 1234 (225 + x1) x2).bind fun d_ad4 => (wA d_ad4 20 1234 (255 + x1) u1).bind fun d_ad5 => (wA d_ad5 20 1234 (165 + x1) 2).bind fun d_ad6 => some (d_ad6)
def f_X9_leaves (d_ad : Pic) (x1 : Int32) : Option (Pic) := (rA d_ad 20 1234 (225 + x1)).bind fun v1_ => (rA d_ad 20 1234 (255 + x1)).bind fun v2_ => (f_X9_slotAt v1_ v2_).bind fun u3 => (wA d_ad 20 1234 u3 0).bind fun d_ad4 => (f_X9_fillOf d_ad4 v1_).bind fun u5 => if u5 = 0 then (wA d_ad4 20 1234 (796 + v1_) 0).bind fun d_ad6 => some (d_ad6) else some (d_ad4)
def b_X9_dropsOne_19 (x1 : Int32)  (d_ad : Pic) : Option (Pic) := (wA d_ad 20 1234 (165 + x1) 0).bind fun d_ad2 => (wA d_ad2 20 1234 (1204 + x1) 0).bind fun d_ad3 => some (d_ad3)
def f_X9_dropsOne (d_ad : Pic) (x1 : Int32) : Option (Pic) := (f_X9_placeOf d_ad x1).bind fun u1 => if u1 = 2 then (f_X9_leaves d_ad x1).bind fun u4 => (f_X9_forgets u4 x1).bind fun u5 => b_X9_dropsOne_19 x1 u5 else b_X9_dropsOne_19 x1 d_ad
def f_X9_writes (d_ad : Pic) (x1 : Int32) : Option (Pic) := (wA d_ad 20 1234 (165 + x1) 3).bind fun d_ad1 => (rA d_ad1 20 1234 1).bind fun v2_ => (wA d_ad1 20 1234 1 (v2_ + 1)).bind fun d_ad3 => some (d_ad3)
def f_X9_isHeld (d_ad : Pic) (x1 : Int32) : Option (Int32) := (rA d_ad 20 1234 (1204 + x1)).bind fun v1_ => if v1_ = 1 then some (1) else some (0)
def b_X9_coldestFree_2 (d_ad : Pic) (k2 : Int32 → Option (Int32)) (v1 : Int32) : Option (Int32) := (rA d_ad 20 1234 315).bind fun v1_ => if v1_ ≤ v1 then some ((-1)) else (rA d_ad 20 1234 (285 + v1)).bind fun v2_ => (f_X9_isHeld d_ad v2_).bind fun u3 => if u3 = 0 then (rA d_ad 20 1234 (285 + v1)).bind fun v4_ => some (v4_) else k2 (v1 + 1)
def L_X9_coldestFree_2 (d_ad : Pic)  : Nat → Int32 → Option (Int32)
  | 0 => fun _ => none
  | n + 1 => b_X9_coldestFree_2 d_ad (L_X9_coldestFree_2 d_ad  n)
def f_X9_coldestFree (d_ad : Pic) : Option (Int32) := L_X9_coldestFree_2 d_ad FU 0
def f_X9_writesColdest (d_ad : Pic) : Option (Int32 × Pic) := (f_X9_coldestFree d_ad).bind fun u1 => (f_X9_leaves d_ad u1).bind fun u2 => (f_X9_forgets u2 u1).bind fun u3 => (f_X9_writes u3 u1).bind fun u4 => some (u1, u4)
def f_X9_countsPushed (d_ad : Pic) (x1 : Int32) : Option (Pic) := (wA d_ad 42 31 (gS d_ad 43) x1).bind fun d_ad1 => (some (pS d_ad1 43 ((gS d_ad1 43) + 1))).bind fun d_ad2 => (rA d_ad2 20 1234 2).bind fun v3_ => (wA d_ad2 20 1234 2 (v3_ + 1)).bind fun d_ad4 => some (d_ad4)
def b_X9_freeZone_2 (d_ad : Pic) (k2 : Int32 → Option (Int32)) (v1 : Int32) : Option (Int32) := (f_X9_classOf d_ad v1).bind fun u1 => if u1 ≤ 0 then some (v1) else k2 (v1 + 1)
def L_X9_freeZone_2 (d_ad : Pic)  : Nat → Int32 → Option (Int32)
  | 0 => fun _ => none
  | n + 1 => b_X9_freeZone_2 d_ad (L_X9_freeZone_2 d_ad  n)
def f_X9_freeZone (d_ad : Pic) : Option (Int32) := L_X9_freeZone_2 d_ad FU 0
def b_X9_findsRoom_18 (x1 : Int32) (k18 : Pic → Int32 → Option (Pic)) (d_ad : Pic) (v2 : Int32) : Option (Pic) := (f_X9_fullestOf d_ad v2 (-1)).bind fun u3 => if u3 = (-1) then (f_X9_framesNow d_ad).bind fun u4 => (f_X9_framesOf v2).bind fun u5 => (rA d_ad 20 1234 0).bind fun v6_ => if v6_ < (u4 + u5) then (f_X9_coldestFree d_ad).bind fun u7 => if u7 = (-1) then (f_X9_writes d_ad x1).bind fun u8 => (f_X9_countsPushed u8 x1).bind fun u9 => some (u9) else (f_X9_writesColdest d_ad).bind fun u10 => (f_X9_countsPushed u10.2 u10.1).bind fun u11 => k18 u11 v2 else (f_X9_freeZone d_ad).bind fun u12 => (wA d_ad 20 1234 (796 + u12) v2).bind fun d_ad13 => k18 d_ad13 v2 else (f_X9_comesInto d_ad x1 u3).bind fun u14 => (f_X9_growsOld u14 x1).bind fun u15 => some (u15)
def L_X9_findsRoom_18 (x1 : Int32)  : Nat → Pic → Int32 → Option (Pic)
  | 0 => fun _ _ => none
  | n + 1 => b_X9_findsRoom_18 x1 (L_X9_findsRoom_18 x1  n)
def f_X9_findsRoom (d_ad : Pic) (x1 : Int32) : Option (Pic) := (rA d_ad 20 1234 (195 + x1)).bind fun v1_ => (f_X9_homeOf v1_ (gS d_ad 3)).bind fun u2 => L_X9_findsRoom_18 x1 FU d_ad u2
def b_X9_stores_122 (x1 : Int32) (x2 : Int32)  (d_ad : Pic) : Option (Int32 × Pic) := (f_X9_placeOf d_ad x1).bind fun u10 => some (u10, d_ad)
def b_X9_stores_12 (x1 : Int32) (x2 : Int32) (k12 : Pic → Int32 → Option (Int32 × Pic)) (d_ad : Pic) (v3 : Int32) : Option (Int32 × Pic) := if 16 ≤ v3 then (f_X9_dataAt x2).bind fun u3 => (f_X9_areAlike d_ad u3).bind fun u4 => if u4.1 = 0 then (f_X9_dataAt x2).bind fun u5 => (f_X9_cutAll u4.2 u5).bind fun u6 => (wA u6.2 20 1234 (195 + x1) u6.1).bind fun d_ad7 => (rA d_ad7 20 1234 (195 + x1)).bind fun v8_ => if v8_ ≤ (gS d_ad7 4) then (f_X9_findsRoom d_ad7 x1).bind fun u9 => b_X9_stores_122 x1 x2 u9 else (f_X9_writes d_ad7 x1).bind fun u11 => b_X9_stores_122 x1 x2 u11 else (wA u4.2 20 1234 (165 + x1) 1).bind fun d_ad12 => some (1, d_ad12) else (f_X9_dataAt x2).bind fun u13 => (rA d_ad 20 1234 (u13 + v3)).bind fun v14_ => (wA d_ad 20 1234 ((316 + (16 * x1)) + v3) v14_).bind fun d_ad15 => k12 d_ad15 (v3 + 1)
def L_X9_stores_12 (x1 : Int32) (x2 : Int32)  : Nat → Pic → Int32 → Option (Int32 × Pic)
  | 0 => fun _ _ => none
  | n + 1 => b_X9_stores_12 x1 x2 (L_X9_stores_12 x1 x2  n)
def f_X9_stores (d_ad : Pic) (x1 : Int32) (x2 : Int32) : Option (Int32 × Pic) := (some (pS d_ad 43 0)).bind fun d_ad1 => (f_X9_dropsOne d_ad1 x1).bind fun u2 => L_X9_stores_12 x1 x2 FU u2 0
def b_X9_loads_19 (x1 : Int32)  (d_ad : Pic) : Option (Pic) := (f_X9_placeOf d_ad x1).bind fun u2 => if u2 = 2 then (f_X9_forgets d_ad x1).bind fun u3 => (f_X9_growsOld u3 x1).bind fun u4 => some (u4) else some (d_ad)
def f_X9_loads (d_ad : Pic) (x1 : Int32) : Option (Pic) := (f_X9_placeOf d_ad x1).bind fun u1 => if u1 = 3 then (rA d_ad 20 1234 3).bind fun v5_ => (wA d_ad 20 1234 3 (v5_ + 1)).bind fun d_ad6 => b_X9_loads_19 x1 d_ad6 else b_X9_loads_19 x1 d_ad
def f_X9_page (d_ad : Pic) (x1 : Int32) : Option (Int32 × Pic) := (some (pS d_ad 0 0)).bind fun d_ad1 => (f_X9_isPage d_ad1 x1).bind fun u2 => if u2 = 0 then (f_X9_refused d_ad1 1).bind fun u3 => some (u3.1, u3.2) else (f_X9_placeOf d_ad1 x1).bind fun u4 => (f_X9_good d_ad1 u4).bind fun u5 => some (u5.1, u5.2)
def b_X9_pooled_22 (x1 : Int32) (x2 : Int32)  (d_ad : Pic) : Option (Int32 × Pic) := (f_X9_refused d_ad 1).bind fun u3 => some (u3.1, u3.2)
def f_X9_pooled (d_ad : Pic) (x1 : Int32) (x2 : Int32) : Option (Int32 × Pic) := (some (pS d_ad 0 0)).bind fun d_ad1 => (f_X9_isPage d_ad1 x1).bind fun u2 => if u2 = 0 then b_X9_pooled_22 x1 x2 d_ad1 else (f_X9_in x2 0 4).bind fun u4 => if u4 = 0 then b_X9_pooled_22 x1 x2 d_ad1 else (f_X9_placeOf d_ad1 x1).bind fun u5 => if u5 = 2 then if x2 = 0 then (rA d_ad1 20 1234 (195 + x1)).bind fun v14_ => (f_X9_good d_ad1 v14_).bind fun u15 => some (u15.1, u15.2) else if x2 = 1 then (rA d_ad1 20 1234 (225 + x1)).bind fun v12_ => (f_X9_good d_ad1 v12_).bind fun u13 => some (u13.1, u13.2) else if x2 = 2 then (rA d_ad1 20 1234 (255 + x1)).bind fun v10_ => (f_X9_good d_ad1 v10_).bind fun u11 => some (u11.1, u11.2) else if x2 = 3 then (f_X9_ageOf d_ad1 x1).bind fun u8 => (f_X9_good d_ad1 u8).bind fun u9 => some (u9.1, u9.2) else (rA d_ad1 20 1234 (1204 + x1)).bind fun v6_ => (f_X9_good d_ad1 v6_).bind fun u7 => some (u7.1, u7.2) else (f_X9_refused d_ad1 5).bind fun u16 => some (u16.1, u16.2)
def b_X9_read_23 (x1 : Int32) (x2 : Int32)  (d_ad : Pic) : Option (Int32 × Pic) := (f_X9_refused d_ad 1).bind fun u3 => some (u3.1, u3.2)
def f_X9_read (d_ad : Pic) (x1 : Int32) (x2 : Int32) : Option (Int32 × Pic) := (some (pS d_ad 0 0)).bind fun d_ad1 => (f_X9_isPage d_ad1 x1).bind fun u2 => if u2 = 0 then b_X9_read_23 x1 x2 d_ad1 else (f_X9_in x2 0 15).bind fun u4 => if u4 = 0 then b_X9_read_23 x1 x2 d_ad1 else (f_X9_placeOf d_ad1 x1).bind fun u5 => if u5 = 0 then (f_X9_refused d_ad1 5).bind fun u8 => some (u8.1, u8.2) else (rA d_ad1 20 1234 ((316 + (16 * x1)) + x2)).bind fun v6_ => (f_X9_good d_ad1 v6_).bind fun u7 => some (u7.1, u7.2)
def b_X9_same_21 (x1 : Int32) (x2 : Int32)  (d_ad : Pic) : Option (Int32 × Pic) := (f_X9_refused d_ad 1).bind fun u3 => some (u3.1, u3.2)
def b_X9_same_43 (x1 : Int32) (x2 : Int32)  (d_ad : Pic) : Option (Int32 × Pic) := (f_X9_refused d_ad 5).bind fun u6 => some (u6.1, u6.2)
def b_X9_same_51 (x1 : Int32) (x2 : Int32) (k51 : Pic → Int32 → Option (Int32 × Pic)) (d_ad : Pic) (v3 : Int32) : Option (Int32 × Pic) := if 16 ≤ v3 then (f_X9_good d_ad 1).bind fun u8 => some (u8.1, u8.2) else (rA d_ad 20 1234 ((316 + (16 * x1)) + v3)).bind fun v9_ => (rA d_ad 20 1234 ((316 + (16 * x2)) + v3)).bind fun v10_ => if v9_ = v10_ then k51 d_ad (v3 + 1) else (f_X9_good d_ad 0).bind fun u11 => some (u11.1, u11.2)
def L_X9_same_51 (x1 : Int32) (x2 : Int32)  : Nat → Pic → Int32 → Option (Int32 × Pic)
  | 0 => fun _ _ => none
  | n + 1 => b_X9_same_51 x1 x2 (L_X9_same_51 x1 x2  n)
def f_X9_same (d_ad : Pic) (x1 : Int32) (x2 : Int32) : Option (Int32 × Pic) := (some (pS d_ad 0 0)).bind fun d_ad1 => (f_X9_isPage d_ad1 x1).bind fun u2 => if u2 = 0 then b_X9_same_21 x1 x2 d_ad1 else (f_X9_isPage d_ad1 x2).bind fun u4 => if u4 = 0 then b_X9_same_21 x1 x2 d_ad1 else (f_X9_placeOf d_ad1 x1).bind fun u5 => if u5 = 0 then b_X9_same_43 x1 x2 d_ad1 else (f_X9_placeOf d_ad1 x2).bind fun u7 => if u7 = 0 then b_X9_same_43 x1 x2 d_ad1 else L_X9_same_51 x1 x2 FU d_ad1 0
def b_X9_coldest_21 (x1 : Int32) (k21 : Pic → Int32 → Option (Int32 × Pic)) (d_ad : Pic) (v2 : Int32) : Option (Int32 × Pic) := (rA d_ad 20 1234 315).bind fun v3_ => if v3_ ≤ v2 then (f_X9_good d_ad (-2)).bind fun u4 => some (u4.1, u4.2) else (rA d_ad 20 1234 (285 + v2)).bind fun v5_ => (rA d_ad 20 1234 (225 + v5_)).bind fun v6_ => (f_X9_classOf d_ad v6_).bind fun u7 => if u7 = x1 then (f_X9_good d_ad v5_).bind fun u8 => some (u8.1, u8.2) else k21 d_ad (v2 + 1)
def L_X9_coldest_21 (x1 : Int32)  : Nat → Pic → Int32 → Option (Int32 × Pic)
  | 0 => fun _ _ => none
  | n + 1 => b_X9_coldest_21 x1 (L_X9_coldest_21 x1  n)
def f_X9_coldest (d_ad : Pic) (x1 : Int32) : Option (Int32 × Pic) := (some (pS d_ad 0 0)).bind fun d_ad1 => (f_X9_isClass d_ad1 x1).bind fun u2 => if u2 = 0 then (f_X9_refused d_ad1 1).bind fun u9 => some (u9.1, u9.2) else L_X9_coldest_21 x1 FU d_ad1 0
def b_X9_next_89 (x1 : Int32)  (d_ad : Pic) (t0 : Int32) : Option (Int32 × Pic) := (f_X9_good d_ad t0).bind fun u8 => some (u8.1, u8.2)
def f_X9_next (d_ad : Pic) (x1 : Int32) : Option (Int32 × Pic) := (some (pS d_ad 0 0)).bind fun d_ad1 => if (gS d_ad1 19) = 0 then (f_X9_refused d_ad1 1).bind fun u12 => some (u12.1, u12.2) else (f_X9_in x1 2 15).bind fun u2 => if u2 = 0 then (f_X9_refused d_ad1 2).bind fun u11 => some (u11.1, u11.2) else (f_X9_homeOf x1 (gS d_ad1 3)).bind fun u3 => (f_X9_fullestOf d_ad1 u3 (-1)).bind fun u4 => if u4 = (-1) then (f_X9_framesNow d_ad1).bind fun u5 => (f_X9_framesOf u3).bind fun u6 => (rA d_ad1 20 1234 0).bind fun v7_ => if v7_ < (u5 + u6) then b_X9_next_89 x1 d_ad1 (-2) else (f_X9_freeZone d_ad1).bind fun u9 => b_X9_next_89 x1 d_ad1 u9 else (f_X9_good d_ad1 u4).bind fun u10 => some (u10.1, u10.2)
def b_X9_aged_28 (x1 : Int32)  (d_ad : Pic) : Option (Int32 × Pic) := (f_X9_refused d_ad 1).bind fun u2 => some (u2.1, u2.2)
def f_X9_aged (d_ad : Pic) (x1 : Int32) : Option (Int32 × Pic) := (some (pS d_ad 0 0)).bind fun d_ad1 => if (gS d_ad1 19) = 0 then b_X9_aged_28 x1 d_ad1 else if x1 < 0 then b_X9_aged_28 x1 d_ad1 else (rA d_ad1 20 1234 315).bind fun v3_ => if x1 < v3_ then (rA d_ad1 20 1234 (285 + x1)).bind fun v4_ => (f_X9_good d_ad1 v4_).bind fun u5 => some (u5.1, u5.2) else b_X9_aged_28 x1 d_ad1
def b_X9_total_21 (x1 : Int32)  (d_ad : Pic) : Option (Int32 × Pic) := (f_X9_refused d_ad 1).bind fun u2 => some (u2.1, u2.2)
def f_X9_total (d_ad : Pic) (x1 : Int32) : Option (Int32 × Pic) := (some (pS d_ad 0 0)).bind fun d_ad1 => if (gS d_ad1 19) = 0 then b_X9_total_21 x1 d_ad1 else (f_X9_in x1 0 3).bind fun u3 => if u3 = 0 then b_X9_total_21 x1 d_ad1 else (rA d_ad1 20 1234 (1 + x1)).bind fun v4_ => (f_X9_good d_ad1 v4_).bind fun u5 => some (u5.1, u5.2)
def b_X9_placed_4 (d_ad : Pic) (x1 : Int32) (k4 : Int32 → Int32 → Option (Int32)) (v2 : Int32) (v3 : Int32) : Option (Int32) := if 30 ≤ v3 then some (v2) else (f_X9_placeOf d_ad v3).bind fun u1 => if u1 = x1 then k4 (v2 + 1) (v3 + 1) else k4 (v2 + 0) (v3 + 1)
def L_X9_placed_4 (d_ad : Pic) (x1 : Int32)  : Nat → Int32 → Int32 → Option (Int32)
  | 0 => fun _ _ => none
  | n + 1 => b_X9_placed_4 d_ad x1 (L_X9_placed_4 d_ad x1  n)
def f_X9_placed (d_ad : Pic) (x1 : Int32) : Option (Int32) := L_X9_placed_4 d_ad x1 FU 0 0
def b_X9_sizesTogether_4 (d_ad : Pic) (k4 : Int32 → Int32 → Option (Int32)) (v1 : Int32) (v2 : Int32) : Option (Int32) := if 30 ≤ v2 then some (v1) else (f_X9_placeOf d_ad v2).bind fun u1 => if u1 = 2 then (rA d_ad 20 1234 (195 + v2)).bind fun v2_ => k4 (v1 + v2_) (v2 + 1) else k4 (v1 + 0) (v2 + 1)
def L_X9_sizesTogether_4 (d_ad : Pic)  : Nat → Int32 → Int32 → Option (Int32)
  | 0 => fun _ _ => none
  | n + 1 => b_X9_sizesTogether_4 d_ad (L_X9_sizesTogether_4 d_ad  n)
def f_X9_sizesTogether (d_ad : Pic) : Option (Int32) := L_X9_sizesTogether_4 d_ad FU 0 0
def f_X9_waste (d_ad : Pic) : Option (Int32 × Pic) := (some (pS d_ad 0 0)).bind fun d_ad1 => if (gS d_ad1 19) = 0 then (f_X9_refused d_ad1 1).bind fun u5 => some (u5.1, u5.2) else (f_X9_framesNow d_ad1).bind fun u2 => (f_X9_sizesTogether d_ad1).bind fun u3 => (f_X9_good d_ad1 ((16 * u2) - u3)).bind fun u4 => some (u4.1, u4.2)
def f_X9_about (d_ad : Pic) (x1 : Int32) : Option (Int32 × Pic) := (some (pS d_ad 0 0)).bind fun d_ad1 => if (gS d_ad1 19) = 0 then (f_X9_refused d_ad1 1).bind fun u21 => some (u21.1, u21.2) else if x1 = 0 then (rA d_ad1 20 1234 0).bind fun v19_ => (f_X9_good d_ad1 v19_).bind fun u20 => some (u20.1, u20.2) else if x1 = 1 then (f_X9_good d_ad1 (gS d_ad1 3)).bind fun u18 => some (u18.1, u18.2) else if x1 = 2 then (f_X9_good d_ad1 (gS d_ad1 4)).bind fun u17 => some (u17.1, u17.2) else if x1 = 3 then (f_X9_good d_ad1 (gS d_ad1 5)).bind fun u16 => some (u16.1, u16.2) else if x1 = 4 then (f_X9_good d_ad1 (gS d_ad1 6)).bind fun u15 => some (u15.1, u15.2) else if x1 = 5 then (f_X9_framesNow d_ad1).bind fun u13 => (f_X9_good d_ad1 u13).bind fun u14 => some (u14.1, u14.2) else if x1 = 6 then (f_X9_zonesNow d_ad1).bind fun u11 => (f_X9_good d_ad1 u11).bind fun u12 => some (u12.1, u12.2) else if x1 = 7 then (rA d_ad1 20 1234 315).bind fun v9_ => (f_X9_good d_ad1 v9_).bind fun u10 => some (u10.1, u10.2) else if x1 = 8 then (f_X9_placed d_ad1 1).bind fun u7 => (f_X9_good d_ad1 u7).bind fun u8 => some (u8.1, u8.2) else if x1 = 9 then (f_X9_placed d_ad1 3).bind fun u5 => (f_X9_good d_ad1 u5).bind fun u6 => some (u6.1, u6.2) else if x1 = 10 then (f_X9_sizesTogether d_ad1).bind fun u3 => (f_X9_good d_ad1 u3).bind fun u4 => some (u4.1, u4.2) else (f_X9_refused d_ad1 1).bind fun u2 => some (u2.1, u2.2)
def b_X9_moves_17 (x1 : Int32) (k17 : Pic → Int32 → Int32 → Int32 → Option (Pic)) (d_ad : Pic) (v2 : Int32) (v3 : Int32) (v4 : Int32) : Option (Pic) := (f_X9_slotAt v2 v4).bind fun u3 => (rA d_ad 20 1234 u3).bind fun v4_ => if v4_ = 0 then k17 d_ad v2 v3 (v4 + (-1)) else (f_X9_slotAt v2 v4).bind fun u5 => (rA d_ad 20 1234 u5).bind fun v6_ => (f_X9_leaves d_ad (v6_ - 1)).bind fun u7 => (f_X9_comesInto u7 (v6_ - 1) v3).bind fun u8 => (rA u8 20 1234 4).bind fun v9_ => (wA u8 20 1234 4 (v9_ + 1)).bind fun d_ad10 => some (d_ad10)
def L_X9_moves_17 (x1 : Int32)  : Nat → Pic → Int32 → Int32 → Int32 → Option (Pic)
  | 0 => fun _ _ _ _ => none
  | n + 1 => b_X9_moves_17 x1 (L_X9_moves_17 x1  n)
def f_X9_moves (d_ad : Pic) (x1 : Int32) : Option (Pic) := (f_X9_emptiestOf d_ad x1).bind fun u1 => (f_X9_fullestOf d_ad x1 u1).bind fun u2 => L_X9_moves_17 x1 FU d_ad u1 u2 15
def b_X9_looseOf_32 (d_ad : Pic) (x1 : Int32) (k4 : Int32 → Int32 → Option (Int32)) (v3 : Int32) (t0 : Int32) : Option (Int32) := k4 (t0 + 0) (v3 + 1)
def b_X9_looseOf_4 (d_ad : Pic) (x1 : Int32) (k4 : Int32 → Int32 → Option (Int32)) (v2 : Int32) (v3 : Int32) : Option (Int32) := if 24 ≤ v3 then some (v2) else (f_X9_classOf d_ad v3).bind fun u1 => if u1 = x1 then (f_X9_isFull d_ad v3).bind fun u2 => if u2 = 0 then k4 (v2 + 1) (v3 + 1) else b_X9_looseOf_32 d_ad x1 k4 v3 v2 else b_X9_looseOf_32 d_ad x1 k4 v3 v2
def L_X9_looseOf_4 (d_ad : Pic) (x1 : Int32)  : Nat → Int32 → Int32 → Option (Int32)
  | 0 => fun _ _ => none
  | n + 1 => b_X9_looseOf_4 d_ad x1 (L_X9_looseOf_4 d_ad x1  n)
def f_X9_looseOf (d_ad : Pic) (x1 : Int32) : Option (Int32) := L_X9_looseOf_4 d_ad x1 FU 0 0
def b_X9_compacts_16  (k10 : Pic → Int32 → Int32 → Option (Int32 × Pic)) (k16 : Pic → Int32 → Int32 → Option (Int32 × Pic)) (d_ad : Pic) (v1 : Int32) (v2 : Int32) : Option (Int32 × Pic) := (f_X9_looseOf d_ad v2).bind fun u3 => if u3 ≤ 1 then k10 d_ad v1 (v2 + (gS d_ad 3)) else (f_X9_moves d_ad v2).bind fun u4 => k16 u4 v1 v2
def L_X9_compacts_16  (k10 : Pic → Int32 → Int32 → Option (Int32 × Pic)) : Nat → Pic → Int32 → Int32 → Option (Int32 × Pic)
  | 0 => fun _ _ _ => none
  | n + 1 => b_X9_compacts_16  k10 (L_X9_compacts_16  k10 n)
def b_X9_compacts_10  (k10 : Pic → Int32 → Int32 → Option (Int32 × Pic)) (d_ad : Pic) (v1 : Int32) (v2 : Int32) : Option (Int32 × Pic) := if 16 < v2 then (f_X9_framesNow d_ad).bind fun u2 => some ((v1 - u2), d_ad) else L_X9_compacts_16 k10 FU d_ad v1 v2
def L_X9_compacts_10   : Nat → Pic → Int32 → Int32 → Option (Int32 × Pic)
  | 0 => fun _ _ _ => none
  | n + 1 => b_X9_compacts_10  (L_X9_compacts_10   n)
def f_X9_compacts (d_ad : Pic) : Option (Int32 × Pic) := (f_X9_framesNow d_ad).bind fun u1 => L_X9_compacts_10 FU d_ad u1 (gS d_ad 3)
def b_X9_keepsAside_2  (k2 : Pic → Int32 → Option (Pic)) (d_ad : Pic) (v1 : Int32) : Option (Pic) := if 1234 ≤ v1 then some (d_ad) else (rA d_ad 20 1234 v1).bind fun v1_ => (wA d_ad 21 1234 v1 v1_).bind fun d_ad2 => k2 d_ad2 (v1 + 1)
def L_X9_keepsAside_2   : Nat → Pic → Int32 → Option (Pic)
  | 0 => fun _ _ => none
  | n + 1 => b_X9_keepsAside_2  (L_X9_keepsAside_2   n)
def f_X9_keepsAside (d_ad : Pic) : Option (Pic) := L_X9_keepsAside_2 FU d_ad 0
def b_X9_bringsBack_2  (k2 : Pic → Int32 → Option (Pic)) (d_ad : Pic) (v1 : Int32) : Option (Pic) := if 1234 ≤ v1 then some (d_ad) else (rA d_ad 21 1234 v1).bind fun v1_ => (wA d_ad 20 1234 v1 v1_).bind fun d_ad2 => k2 d_ad2 (v1 + 1)
def L_X9_bringsBack_2   : Nat → Pic → Int32 → Option (Pic)
  | 0 => fun _ _ => none
  | n + 1 => b_X9_bringsBack_2  (L_X9_bringsBack_2   n)
def f_X9_bringsBack (d_ad : Pic) : Option (Pic) := L_X9_bringsBack_2 FU d_ad 0
def f_X9_gain (d_ad : Pic) : Option (Int32 × Pic) := (some (pS d_ad 0 0)).bind fun d_ad1 => if (gS d_ad1 19) = 0 then (f_X9_refused d_ad1 1).bind fun u6 => some (u6.1, u6.2) else (f_X9_keepsAside d_ad1).bind fun u2 => (f_X9_compacts u2).bind fun u3 => (f_X9_bringsBack u3.2).bind fun u4 => (f_X9_good u4 u3.1).bind fun u5 => some (u5.1, u5.2)
def b_X9_goes_2 (x1 : Int32) (k2 : Pic → Int32 → Option (Int32 × Pic)) (d_ad : Pic) (v2 : Int32) : Option (Int32 × Pic) := (f_X9_framesNow d_ad).bind fun u1 => if u1 ≤ x1 then some (v2, d_ad) else (f_X9_coldestFree d_ad).bind fun u2 => if u2 = (-1) then some (v2, d_ad) else (f_X9_writesColdest d_ad).bind fun u3 => k2 u3.2 (v2 + 1)
def L_X9_goes_2 (x1 : Int32)  : Nat → Pic → Int32 → Option (Int32 × Pic)
  | 0 => fun _ _ => none
  | n + 1 => b_X9_goes_2 x1 (L_X9_goes_2 x1  n)
def f_X9_goes (d_ad : Pic) (x1 : Int32) : Option (Int32 × Pic) := L_X9_goes_2 x1 FU d_ad 0
def b_X9_would_47 (x1 : Int32) (x2 : Int32)  (d_ad : Pic) : Option (Int32 × Pic) := (f_X9_goes d_ad x1).bind fun u4 => (f_X9_bringsBack u4.2).bind fun u5 => (f_X9_good u5 u4.1).bind fun u6 => some (u6.1, u6.2)
def f_X9_would (d_ad : Pic) (x1 : Int32) (x2 : Int32) : Option (Int32 × Pic) := (some (pS d_ad 0 0)).bind fun d_ad1 => if (gS d_ad1 19) = 0 then (f_X9_refused d_ad1 1).bind fun u9 => some (u9.1, u9.2) else (f_X9_in x1 1 24).bind fun u2 => if u2 = 0 then (f_X9_refused d_ad1 2).bind fun u8 => some (u8.1, u8.2) else (f_X9_keepsAside d_ad1).bind fun u3 => if x2 = 0 then b_X9_would_47 x1 x2 u3 else (f_X9_compacts u3).bind fun u7 => b_X9_would_47 x1 x2 u7.2
def b_X9_holds_68 (x1 : Int32)  (d_ad : Pic) (t0 : Int32) : Option (Int32 × Pic) := (f_X9_good d_ad t0).bind fun u6 => some (u6.1, u6.2)
def b_X9_holds_63 (x1 : Int32)  (d_ad : Pic) : Option (Int32 × Pic) := b_X9_holds_68 x1 d_ad 1
def b_X9_holds_49 (x1 : Int32)  (d_ad : Pic) (v2 : Int32) (t0 : Int32) : Option (Int32 × Pic) := (f_X9_bringsBack d_ad).bind fun u5 => if v2 = 0 then b_X9_holds_63 x1 u5 else if t0 = 0 then b_X9_holds_68 x1 u5 v2 else b_X9_holds_63 x1 u5
def b_X9_holds_31 (x1 : Int32)  (d_ad : Pic) : Option (Int32 × Pic) := (f_X9_framesNow d_ad).bind fun u3 => (f_X9_coldestFree d_ad).bind fun u4 => if u4 = (-1) then b_X9_holds_49 x1 d_ad u3 1 else b_X9_holds_49 x1 d_ad u3 0
def f_X9_holds (d_ad : Pic) (x1 : Int32) : Option (Int32 × Pic) := (some (pS d_ad 0 0)).bind fun d_ad1 => if (gS d_ad1 19) = 0 then (f_X9_refused d_ad1 1).bind fun u8 => some (u8.1, u8.2) else (f_X9_keepsAside d_ad1).bind fun u2 => if x1 = 0 then b_X9_holds_31 x1 u2 else (f_X9_compacts u2).bind fun u7 => b_X9_holds_31 x1 u7.2
def b_X9_freeing_85   (d_ad : Pic) (t0 : Int32) : Option (Int32 × Pic) := (f_X9_good d_ad t0).bind fun u7 => some (u7.1, u7.2)
def b_X9_freeing_69   (d_ad : Pic) (v2 : Int32) (t0 : Int32) : Option (Int32 × Pic) := (f_X9_bringsBack d_ad).bind fun u6 => if t0 = 0 then b_X9_freeing_85 u6 (-2) else b_X9_freeing_85 u6 v2
def b_X9_freeing_56   (d_ad : Pic) (v1 : Int32) (v2 : Int32) : Option (Int32 × Pic) := (f_X9_framesNow d_ad).bind fun u5 => if v1 ≤ u5 then b_X9_freeing_69 d_ad v2 0 else b_X9_freeing_69 d_ad v2 1
def b_X9_freeing_29  (k29 : Pic → Int32 → Int32 → Option (Int32 × Pic)) (d_ad : Pic) (v1 : Int32) (v2 : Int32) : Option (Int32 × Pic) := (f_X9_framesNow d_ad).bind fun u4 => if u4 = v1 then (f_X9_coldestFree d_ad).bind fun u8 => if u8 = (-1) then b_X9_freeing_56 d_ad v1 v2 else (f_X9_writesColdest d_ad).bind fun u9 => k29 u9.2 v1 (v2 + 1) else b_X9_freeing_56 d_ad v1 v2
def L_X9_freeing_29   : Nat → Pic → Int32 → Int32 → Option (Int32 × Pic)
  | 0 => fun _ _ _ => none
  | n + 1 => b_X9_freeing_29  (L_X9_freeing_29   n)
def f_X9_freeing (d_ad : Pic) : Option (Int32 × Pic) := (some (pS d_ad 0 0)).bind fun d_ad1 => if (gS d_ad1 19) = 0 then (f_X9_refused d_ad1 1).bind fun u10 => some (u10.1, u10.2) else (f_X9_keepsAside d_ad1).bind fun u2 => (f_X9_framesNow u2).bind fun u3 => L_X9_freeing_29 FU u2 u3 0
def b_X9_framesBy_58 (d_ad : Pic) (x1 : Int32) (k4 : Int32 → Int32 → Option (Int32)) (k16 : Int32 → Int32 → Int32 → Int32 → Option (Int32)) (v2 : Int32) (v3 : Int32) (v5 : Int32) (t0 : Int32) : Option (Int32) := k16 v2 v3 (t0 + 0) (v5 + 1)
def b_X9_framesBy_16 (d_ad : Pic) (x1 : Int32) (k4 : Int32 → Int32 → Option (Int32)) (k16 : Int32 → Int32 → Int32 → Int32 → Option (Int32)) (v2 : Int32) (v3 : Int32) (v4 : Int32) (v5 : Int32) : Option (Int32) := if 30 ≤ v5 then (f_X9_slotsOf v3).bind fun u1 => (f_X9_slotsOf v3).bind fun u2 => (dvI ((v4 + u1) - 1) u2).bind fun v3_ => (f_X9_framesOf v3).bind fun u4 => k4 (v2 + (v3_ * u4)) (v3 + x1) else (f_X9_placeOf d_ad v5).bind fun u5 => if u5 = 2 then (rA d_ad 20 1234 (195 + v5)).bind fun v6_ => (f_X9_homeOf v6_ x1).bind fun u7 => if u7 = v3 then k16 v2 v3 (v4 + 1) (v5 + 1) else b_X9_framesBy_58 d_ad x1 k4 k16 v2 v3 v5 v4 else b_X9_framesBy_58 d_ad x1 k4 k16 v2 v3 v5 v4
def L_X9_framesBy_16 (d_ad : Pic) (x1 : Int32) (k4 : Int32 → Int32 → Option (Int32)) : Nat → Int32 → Int32 → Int32 → Int32 → Option (Int32)
  | 0 => fun _ _ _ _ => none
  | n + 1 => b_X9_framesBy_16 d_ad x1 k4 (L_X9_framesBy_16 d_ad x1 k4 n)
def b_X9_framesBy_4 (d_ad : Pic) (x1 : Int32) (k4 : Int32 → Int32 → Option (Int32)) (v2 : Int32) (v3 : Int32) : Option (Int32) := if 16 < v3 then some (v2) else L_X9_framesBy_16 d_ad x1 k4 FU v2 v3 0 0
def L_X9_framesBy_4 (d_ad : Pic) (x1 : Int32)  : Nat → Int32 → Int32 → Option (Int32)
  | 0 => fun _ _ => none
  | n + 1 => b_X9_framesBy_4 d_ad x1 (L_X9_framesBy_4 d_ad x1  n)
def f_X9_framesBy (d_ad : Pic) (x1 : Int32) : Option (Int32) := L_X9_framesBy_4 d_ad x1 FU 0 x1
def b_X9_fittest_22  (k22 : Pic → Int32 → Int32 → Option (Int32 × Pic)) (d_ad : Pic) (v1 : Int32) (v2 : Int32) : Option (Int32 × Pic) := if 4 < v2 then (f_X9_good d_ad v1).bind fun u2 => some (u2.1, u2.2) else (f_X9_framesBy d_ad v2).bind fun u3 => (f_X9_framesBy d_ad v1).bind fun u4 => if u4 ≤ u3 then k22 d_ad v1 (v2 + 1) else k22 d_ad v2 (v2 + 1)
def L_X9_fittest_22   : Nat → Pic → Int32 → Int32 → Option (Int32 × Pic)
  | 0 => fun _ _ _ => none
  | n + 1 => b_X9_fittest_22  (L_X9_fittest_22   n)
def f_X9_fittest (d_ad : Pic) : Option (Int32 × Pic) := (some (pS d_ad 0 0)).bind fun d_ad1 => if (gS d_ad1 19) = 0 then (f_X9_refused d_ad1 1).bind fun u5 => some (u5.1, u5.2) else L_X9_fittest_22 FU d_ad1 1 2
def f_X9_layPushes (d_ad : Pic) (x1 : Int32) (x2 : Int32) : Option (Int32 × Pic) := (f_X9_isPage d_ad x1).bind fun u1 => if u1 = 0 then some (0, d_ad) else (f_X9_isData d_ad x2).bind fun u2 => if u2 = 0 then some (0, d_ad) else (f_X9_keepsAside d_ad).bind fun u3 => (f_X9_stores u3 x1 x2).bind fun u4 => (f_X9_bringsBack u4.2).bind fun u5 => some (1, u5)
def f_X9_pushes (d_ad : Pic) (x1 : Int32) (x2 : Int32) : Option (Int32 × Pic) := (some (pS d_ad 0 0)).bind fun d_ad1 => (f_X9_layPushes d_ad1 x1 x2).bind fun u2 => if u2.1 = 0 then (f_X9_refused u2.2 1).bind fun u3 => some (u3.1, u3.2) else (f_X9_good u2.2 (gS u2.2 43)).bind fun u4 => some (u4.1, u4.2)
def b_X9_pushed_26 (x1 : Int32) (x2 : Int32) (x3 : Int32)  (d_ad : Pic) : Option (Int32 × Pic) := (f_X9_refused d_ad 1).bind fun u3 => some (u3.1, u3.2)
def f_X9_pushed (d_ad : Pic) (x1 : Int32) (x2 : Int32) (x3 : Int32) : Option (Int32 × Pic) := (some (pS d_ad 0 0)).bind fun d_ad1 => (f_X9_layPushes d_ad1 x1 x2).bind fun u2 => if u2.1 = 0 then b_X9_pushed_26 x1 x2 x3 u2.2 else if x3 < 0 then b_X9_pushed_26 x1 x2 x3 u2.2 else if x3 < (gS u2.2 43) then (rA u2.2 42 31 x3).bind fun v4_ => (f_X9_good u2.2 v4_).bind fun u5 => some (u5.1, u5.2) else b_X9_pushed_26 x1 x2 x3 u2.2
def f_X9_does (d_ad : Pic) (x1 : Int32) : Option (Pic) := (rA d_ad 13 24 x1).bind fun v1_ => (rA d_ad 12 24 x1).bind fun v2_ => if v2_ = 0 then (rA d_ad 14 24 x1).bind fun v6_ => (f_X9_stores d_ad v1_ v6_).bind fun u7 => some (u7.2) else (rA d_ad 12 24 x1).bind fun v3_ => if v3_ = 1 then (f_X9_loads d_ad v1_).bind fun u5 => some (u5) else (f_X9_dropsOne d_ad v1_).bind fun u4 => some (u4)
def b_X9_foretells_29 (x1 : Int32) (x2 : Int32) (x3 : Int32) (k29 : Pic → Int32 → Int32 → Option (Int32 × Pic)) (d_ad : Pic) (v4 : Int32) (v5 : Int32) : Option (Int32 × Pic) := if (gS d_ad 6) ≤ v5 then (rA d_ad 20 1234 (1 + x3)).bind fun v5_ => (some (pS d_ad 3 v4)).bind fun d_ad6 => (f_X9_bringsBack d_ad6).bind fun u7 => some (v5_, u7) else (f_X9_does d_ad v5).bind fun u8 => k29 u8 v4 (v5 + 1)
def L_X9_foretells_29 (x1 : Int32) (x2 : Int32) (x3 : Int32)  : Nat → Pic → Int32 → Int32 → Option (Int32 × Pic)
  | 0 => fun _ _ _ => none
  | n + 1 => b_X9_foretells_29 x1 x2 x3 (L_X9_foretells_29 x1 x2 x3  n)
def f_X9_foretells (d_ad : Pic) (x1 : Int32) (x2 : Int32) (x3 : Int32) : Option (Int32 × Pic) := (f_X9_keepsAside d_ad).bind fun u1 => (f_X9_clears u1).bind fun u2 => (wA u2 20 1234 0 x1).bind fun d_ad3 => (some (pS d_ad3 3 x2)).bind fun d_ad4 => L_X9_foretells_29 x1 x2 x3 FU d_ad4 (gS d_ad 3) 0
def b_X9_foretold_21 (x1 : Int32) (x2 : Int32) (x3 : Int32)  (d_ad : Pic) : Option (Int32 × Pic) := (f_X9_refused d_ad 1).bind fun u2 => some (u2.1, u2.2)
def b_X9_foretold_46 (x1 : Int32) (x2 : Int32) (x3 : Int32)  (d_ad : Pic) : Option (Int32 × Pic) := (f_X9_refused d_ad 2).bind fun u5 => some (u5.1, u5.2)
def f_X9_foretold (d_ad : Pic) (x1 : Int32) (x2 : Int32) (x3 : Int32) : Option (Int32 × Pic) := (some (pS d_ad 0 0)).bind fun d_ad1 => if (gS d_ad1 19) = 0 then b_X9_foretold_21 x1 x2 x3 d_ad1 else (f_X9_in x3 0 2).bind fun u3 => if u3 = 0 then b_X9_foretold_21 x1 x2 x3 d_ad1 else (f_X9_in x1 1 24).bind fun u4 => if u4 = 0 then b_X9_foretold_46 x1 x2 x3 d_ad1 else (f_X9_in x2 1 4).bind fun u6 => if u6 = 0 then b_X9_foretold_46 x1 x2 x3 d_ad1 else (f_X9_foretells d_ad1 x1 x2 x3).bind fun u7 => (f_X9_good u7.2 u7.1).bind fun u8 => some (u8.1, u8.2)
def b_X9_enough_20  (k20 : Pic → Int32 → Option (Int32 × Pic)) (d_ad : Pic) (v1 : Int32) : Option (Int32 × Pic) := if 24 < v1 then (f_X9_good d_ad (-2)).bind fun u2 => some (u2.1, u2.2) else (f_X9_foretells d_ad v1 (gS d_ad 3) 1).bind fun u3 => if u3.1 = 0 then (f_X9_good u3.2 v1).bind fun u4 => some (u4.1, u4.2) else k20 u3.2 (v1 + 1)
def L_X9_enough_20   : Nat → Pic → Int32 → Option (Int32 × Pic)
  | 0 => fun _ _ => none
  | n + 1 => b_X9_enough_20  (L_X9_enough_20   n)
def f_X9_enough (d_ad : Pic) : Option (Int32 × Pic) := (some (pS d_ad 0 0)).bind fun d_ad1 => if (gS d_ad1 19) = 0 then (f_X9_refused d_ad1 1).bind fun u5 => some (u5.1, u5.2) else L_X9_enough_20 FU d_ad1 1
def b_X9_op_33 (x1 : Int32) (x2 : Int32)  (d_ad : Pic) : Option (Int32 × Pic) := (f_X9_refused d_ad 1).bind fun u2 => some (u2.1, u2.2)
def b_X9_op_73 (x1 : Int32) (x2 : Int32)  (d_ad : Pic) (t0 : Int32) : Option (Int32 × Pic) := (f_X9_good d_ad t0).bind fun u5 => some (u5.1, u5.2)
def f_X9_op (d_ad : Pic) (x1 : Int32) (x2 : Int32) : Option (Int32 × Pic) := (some (pS d_ad 0 0)).bind fun d_ad1 => if (gS d_ad1 19) = 0 then b_X9_op_33 x1 x2 d_ad1 else if x1 < 0 then b_X9_op_33 x1 x2 d_ad1 else if (gS d_ad1 6) ≤ x1 then b_X9_op_33 x1 x2 d_ad1 else (f_X9_in x2 0 2).bind fun u3 => if u3 = 0 then b_X9_op_33 x1 x2 d_ad1 else if x2 = 0 then (rA d_ad1 12 24 x1).bind fun v7_ => b_X9_op_73 x1 x2 d_ad1 v7_ else if x2 = 1 then (rA d_ad1 13 24 x1).bind fun v6_ => b_X9_op_73 x1 x2 d_ad1 v6_ else (rA d_ad1 14 24 x1).bind fun v4_ => b_X9_op_73 x1 x2 d_ad1 v4_
def b_X9_remembers_52  (k52 : Pic → Int32 → Option (Pic)) (d_ad : Pic) (v1 : Int32) : Option (Pic) := if 1234 ≤ v1 then (some (pS d_ad 23 ((gS d_ad 23) + 1))).bind fun d_ad1 => some (d_ad1) else (rA d_ad 20 1234 v1).bind fun v2_ => (wA d_ad 22 12340 ((1234 * (gS d_ad 23)) + v1) v2_).bind fun d_ad3 => k52 d_ad3 (v1 + 1)
def L_X9_remembers_52   : Nat → Pic → Int32 → Option (Pic)
  | 0 => fun _ _ => none
  | n + 1 => b_X9_remembers_52  (L_X9_remembers_52   n)
def b_X9_remembers_11  (k11 : Pic → Int32 → Option (Pic)) (d_ad : Pic) (v1 : Int32) : Option (Pic) := if 11106 ≤ v1 then (some (pS d_ad 23 ((gS d_ad 23) - 1))).bind fun d_ad4 => L_X9_remembers_52 FU d_ad4 0 else (rA d_ad 22 12340 (v1 + 1234)).bind fun v5_ => (wA d_ad 22 12340 v1 v5_).bind fun d_ad6 => k11 d_ad6 (v1 + 1)
def L_X9_remembers_11   : Nat → Pic → Int32 → Option (Pic)
  | 0 => fun _ _ => none
  | n + 1 => b_X9_remembers_11  (L_X9_remembers_11   n)
def f_X9_remembers (d_ad : Pic) : Option (Pic) := if (gS d_ad 23) = 10 then L_X9_remembers_11 FU d_ad 0 else L_X9_remembers_52 FU d_ad 0
def b_X9_store_21 (x1 : Int32) (x2 : Int32)  (d_ad : Pic) : Option (Int32 × Pic) := (f_X9_refused d_ad 1).bind fun u3 => some (u3.1, u3.2)
def f_X9_store (d_ad : Pic) (x1 : Int32) (x2 : Int32) : Option (Int32 × Pic) := (some (pS d_ad 0 0)).bind fun d_ad1 => (f_X9_isPage d_ad1 x1).bind fun u2 => if u2 = 0 then b_X9_store_21 x1 x2 d_ad1 else (f_X9_isData d_ad1 x2).bind fun u4 => if u4 = 0 then b_X9_store_21 x1 x2 d_ad1 else (f_X9_remembers d_ad1).bind fun u5 => (f_X9_stores u5 x1 x2).bind fun u6 => (f_X9_good u6.2 u6.1).bind fun u7 => some (u7.1, u7.2)
def f_X9_load (d_ad : Pic) (x1 : Int32) : Option (Int32 × Pic) := (some (pS d_ad 0 0)).bind fun d_ad1 => (f_X9_isPage d_ad1 x1).bind fun u2 => if u2 = 0 then (f_X9_refused d_ad1 1).bind fun u9 => some (u9.1, u9.2) else (f_X9_placeOf d_ad1 x1).bind fun u3 => if u3 = 0 then (f_X9_refused d_ad1 5).bind fun u8 => some (u8.1, u8.2) else (f_X9_remembers d_ad1).bind fun u4 => (f_X9_loads u4 x1).bind fun u5 => (f_X9_placeOf u5 x1).bind fun u6 => (f_X9_good u5 u6).bind fun u7 => some (u7.1, u7.2)
def f_X9_drop (d_ad : Pic) (x1 : Int32) : Option (Int32 × Pic) := (some (pS d_ad 0 0)).bind fun d_ad1 => (f_X9_isPage d_ad1 x1).bind fun u2 => if u2 = 0 then (f_X9_refused d_ad1 1).bind fun u9 => some (u9.1, u9.2) else (f_X9_placeOf d_ad1 x1).bind fun u3 => if u3 = 0 then (f_X9_refused d_ad1 5).bind fun u8 => some (u8.1, u8.2) else (f_X9_remembers d_ad1).bind fun u4 => (f_X9_placeOf u4 x1).bind fun u5 => (f_X9_dropsOne u4 x1).bind fun u6 => (f_X9_good u6 u5).bind fun u7 => some (u7.1, u7.2)
def f_X9_denied (d_ad : Pic) (x1 : Int32) : Option (Int32 × Pic) := (f_X9_refused d_ad x1).bind fun u1 => some (0, u1.2)
def f_X9_turnsHeld (d_ad : Pic) (x1 : Int32) (x2 : Int32) : Option (Int32 × Pic) := (f_X9_remembers d_ad).bind fun u1 => (wA u1 20 1234 (1204 + x1) x2).bind fun d_ad2 => (f_X9_good d_ad2 0).bind fun u3 => some (1, u3.2)
def b_X9_hold_36 (x1 : Int32)  (d_ad : Pic) : Option (Int32 × Pic) := (f_X9_denied d_ad 5).bind fun u4 => (okZ u4.1).bind fun z5_ => some (z5_, u4.2)
def f_X9_hold (d_ad : Pic) (x1 : Int32) : Option (Int32 × Pic) := (some (pS d_ad 0 0)).bind fun d_ad1 => (f_X9_isPage d_ad1 x1).bind fun u2 => if u2 = 0 then (f_X9_denied d_ad1 1).bind fun u9 => (okZ u9.1).bind fun z10_ => some (z10_, u9.2) else (f_X9_placeOf d_ad1 x1).bind fun u3 => if u3 = 2 then (f_X9_isHeld d_ad1 x1).bind fun u6 => if u6 = 0 then (f_X9_turnsHeld d_ad1 x1 1).bind fun u7 => (okZ u7.1).bind fun z8_ => some (z8_, u7.2) else b_X9_hold_36 x1 d_ad1 else b_X9_hold_36 x1 d_ad1
def f_X9_release (d_ad : Pic) (x1 : Int32) : Option (Int32 × Pic) := (some (pS d_ad 0 0)).bind fun d_ad1 => (f_X9_isPage d_ad1 x1).bind fun u2 => if u2 = 0 then (f_X9_denied d_ad1 1).bind fun u8 => (okZ u8.1).bind fun z9_ => some (z9_, u8.2) else (f_X9_isHeld d_ad1 x1).bind fun u3 => if u3 = 0 then (f_X9_denied d_ad1 5).bind fun u4 => (okZ u4.1).bind fun z5_ => some (z5_, u4.2) else (f_X9_turnsHeld d_ad1 x1 0).bind fun u6 => (okZ u6.1).bind fun z7_ => some (z7_, u6.2)
def b_X9_poke_23 (x1 : Int32) (x2 : Int32) (x3 : Int32)  (d_ad : Pic) : Option (Int32 × Pic) := (f_X9_refused d_ad 1).bind fun u3 => some (u3.1, u3.2)
def f_X9_poke (d_ad : Pic) (x1 : Int32) (x2 : Int32) (x3 : Int32) : Option (Int32 × Pic) := (some (pS d_ad 0 0)).bind fun d_ad1 => (f_X9_isData d_ad1 x1).bind fun u2 => if u2 = 0 then b_X9_poke_23 x1 x2 x3 d_ad1 else (f_X9_in x2 0 15).bind fun u4 => if u4 = 0 then b_X9_poke_23 x1 x2 x3 d_ad1 else (f_X9_in x3 0 99).bind fun u5 => if u5 = 0 then (f_X9_refused d_ad1 2).bind fun u12 => some (u12.1, u12.2) else (f_X9_remembers d_ad1).bind fun u6 => (f_X9_dataAt x1).bind fun u7 => (rA u6 20 1234 (u7 + x2)).bind fun v8_ => (f_X9_dataAt x1).bind fun u9 => (wA u6 20 1234 (u9 + x2) x3).bind fun d_ad10 => (f_X9_good d_ad10 v8_).bind fun u11 => some (u11.1, u11.2)
def b_X9_writeBack_64 (x1 : Int32)  (d_ad : Pic) (v2 : Int32) : Option (Int32 × Pic) := (f_X9_good d_ad v2).bind fun u4 => some (u4.1, u4.2)
def b_X9_writeBack_40 (x1 : Int32) (k40 : Pic → Int32 → Option (Int32 × Pic)) (d_ad : Pic) (v2 : Int32) : Option (Int32 × Pic) := if x1 ≤ v2 then b_X9_writeBack_64 x1 d_ad v2 else (f_X9_coldestFree d_ad).bind fun u5 => if u5 = (-1) then b_X9_writeBack_64 x1 d_ad v2 else (f_X9_writesColdest d_ad).bind fun u6 => k40 u6.2 (v2 + 1)
def L_X9_writeBack_40 (x1 : Int32)  : Nat → Pic → Int32 → Option (Int32 × Pic)
  | 0 => fun _ _ => none
  | n + 1 => b_X9_writeBack_40 x1 (L_X9_writeBack_40 x1  n)
def f_X9_writeBack (d_ad : Pic) (x1 : Int32) : Option (Int32 × Pic) := (some (pS d_ad 0 0)).bind fun d_ad1 => if (gS d_ad1 19) = 0 then (f_X9_refused d_ad1 1).bind fun u8 => some (u8.1, u8.2) else (f_X9_in x1 1 30).bind fun u2 => if u2 = 0 then (f_X9_refused d_ad1 2).bind fun u7 => some (u7.1, u7.2) else (f_X9_remembers d_ad1).bind fun u3 => L_X9_writeBack_40 x1 FU u3 0
def f_X9_limit (d_ad : Pic) (x1 : Int32) : Option (Int32 × Pic) := (some (pS d_ad 0 0)).bind fun d_ad1 => if (gS d_ad1 19) = 0 then (f_X9_refused d_ad1 1).bind fun u10 => some (u10.1, u10.2) else (f_X9_in x1 1 24).bind fun u2 => if u2 = 0 then (f_X9_refused d_ad1 2).bind fun u9 => some (u9.1, u9.2) else (f_X9_remembers d_ad1).bind fun u3 => (wA u3 20 1234 0 x1).bind fun d_ad4 => (f_X9_goes d_ad4 x1).bind fun u5 => (rA u5.2 20 1234 2).bind fun v6_ => (wA u5.2 20 1234 2 (v6_ + u5.1)).bind fun d_ad7 => (f_X9_good d_ad7 u5.1).bind fun u8 => some (u8.1, u8.2)
def f_X9_compact (d_ad : Pic) : Option (Int32 × Pic) := (some (pS d_ad 0 0)).bind fun d_ad1 => if (gS d_ad1 19) = 0 then (f_X9_refused d_ad1 1).bind fun u5 => some (u5.1, u5.2) else (f_X9_remembers d_ad1).bind fun u2 => (f_X9_compacts u2).bind fun u3 => (f_X9_good u3.2 u3.1).bind fun u4 => some (u4.1, u4.2)
def b_X9_run_24 (x1 : Int32) (x2 : Int32)  (d_ad : Pic) : Option (Int32 × Pic) := (f_X9_refused d_ad 1).bind fun u2 => some (u2.1, u2.2)
def b_X9_run_80 (x1 : Int32) (x2 : Int32)  (d_ad : Pic) (v3 : Int32) : Option (Int32 × Pic) := (f_X9_good d_ad v3).bind fun u5 => some (u5.1, u5.2)
def b_X9_run_52 (x1 : Int32) (x2 : Int32) (k52 : Pic → Int32 → Option (Int32 × Pic)) (d_ad : Pic) (v3 : Int32) : Option (Int32 × Pic) := if x2 ≤ v3 then b_X9_run_80 x1 x2 d_ad v3 else if (gS d_ad 6) ≤ (x1 + v3) then b_X9_run_80 x1 x2 d_ad v3 else (f_X9_does d_ad (x1 + v3)).bind fun u6 => k52 u6 (v3 + 1)
def L_X9_run_52 (x1 : Int32) (x2 : Int32)  : Nat → Pic → Int32 → Option (Int32 × Pic)
  | 0 => fun _ _ => none
  | n + 1 => b_X9_run_52 x1 x2 (L_X9_run_52 x1 x2  n)
def f_X9_run (d_ad : Pic) (x1 : Int32) (x2 : Int32) : Option (Int32 × Pic) := (some (pS d_ad 0 0)).bind fun d_ad1 => if (gS d_ad1 19) = 0 then b_X9_run_24 x1 x2 d_ad1 else if x1 < 0 then b_X9_run_24 x1 x2 d_ad1 else if x1 < (gS d_ad1 6) then (f_X9_in x2 1 24).bind fun u3 => if u3 = 0 then (f_X9_refused d_ad1 2).bind fun u7 => some (u7.1, u7.2) else (f_X9_remembers d_ad1).bind fun u4 => L_X9_run_52 x1 x2 FU u4 0 else b_X9_run_24 x1 x2 d_ad1
def b_X9_undo_19   (d_ad : Pic) : Option (Int32 × Pic) := (f_X9_refused d_ad 1).bind fun u2 => some (0, u2.2)
def b_X9_undo_39  (k39 : Pic → Int32 → Option (Int32 × Pic)) (d_ad : Pic) (v1 : Int32) : Option (Int32 × Pic) := if 1234 ≤ v1 then (f_X9_good d_ad 0).bind fun u4 => some (1, u4.2) else (rA d_ad 22 12340 ((1234 * (gS d_ad 23)) + v1)).bind fun v5_ => (wA d_ad 20 1234 v1 v5_).bind fun d_ad6 => k39 d_ad6 (v1 + 1)
def L_X9_undo_39   : Nat → Pic → Int32 → Option (Int32 × Pic)
  | 0 => fun _ _ => none
  | n + 1 => b_X9_undo_39  (L_X9_undo_39   n)
def f_X9_undo (d_ad : Pic) : Option (Int32 × Pic) := (some (pS d_ad 0 0)).bind fun d_ad1 => if (gS d_ad1 19) = 0 then b_X9_undo_19 d_ad1 else if (gS d_ad1 23) = 0 then b_X9_undo_19 d_ad1 else (some (pS d_ad1 23 ((gS d_ad1 23) - 1))).bind fun d_ad3 => L_X9_undo_39 FU d_ad3 0
def b_X9_onDisk_50 (x1 : Int32)  (d_ad : Pic) : Option (Int32 × Pic) := (some (pS d_ad 0 1)).bind fun d_ad2 => some (0, d_ad2)
def b_X9_onDisk_9 (x1 : Int32) (k9 : Pic → Int32 → Int32 → Option (Int32 × Pic)) (d_ad : Pic) (v2 : Int32) (v3 : Int32) : Option (Int32 × Pic) := if (gS d_ad 19) = 0 then b_X9_onDisk_50 x1 d_ad else if 30 ≤ v3 then b_X9_onDisk_50 x1 d_ad else (f_X9_placeOf d_ad v3).bind fun u3 => if u3 = 3 then if v2 = x1 then some (v3, d_ad) else k9 d_ad (v2 + 1) (v3 + 1) else k9 d_ad v2 (v3 + 1)
def L_X9_onDisk_9 (x1 : Int32)  : Nat → Pic → Int32 → Int32 → Option (Int32 × Pic)
  | 0 => fun _ _ _ => none
  | n + 1 => b_X9_onDisk_9 x1 (L_X9_onDisk_9 x1  n)
def f_X9_onDisk (d_ad : Pic) (x1 : Int32) : Option (Int32 × Pic) := (some (pS d_ad 0 0)).bind fun d_ad1 => L_X9_onDisk_9 x1 FU d_ad1 0 0
def f_X9_size (d_ad : Pic) (x1 : Int32) : Option (Int32 × Pic) := (some (pS d_ad 0 0)).bind fun d_ad1 => if x1 = 0 then some ((gS d_ad1 25), d_ad1) else if x1 = 1 then some ((gS d_ad1 23), d_ad1) else some ((-1), d_ad1)
def f_X9_trouble (d_ad : Pic) : Option (Int32 × Pic) := (some (pS d_ad 0 0)).bind fun d_ad1 => some ((gS d_ad1 1), d_ad1)
def b_X9_goOn_8  (k8 : Pic → Int64 → Option (Pic × Int64)) (d_ad : Pic) (dw : Int64) : Option (Pic × Int64) := (f_X9_byteAt d_ad (gS d_ad 27)).bind fun u1 => if u1 = 32 then (some (pS d_ad 27 ((gS d_ad 27) + 1))).bind fun d_ad10 => k8 d_ad10 dw else (some (pS d_ad 29 (gS d_ad 27))).bind fun d_ad2 => (f_X9_byteAt d_ad2 (gS d_ad2 27)).bind fun u3 => if u3 = (-1) then (some (pS d_ad2 28 1)).bind fun d_ad9 => some (d_ad9, dw) else (f_X9_in u3 97 122).bind fun u4 => if u4 = 0 then (f_X9_in u3 48 57).bind fun u5 => if u5 = 0 then (f_X9_nextSign d_ad2 u3).bind fun u6 => some (u6, dw) else (f_X9_nextWhole d_ad2).bind fun u7 => some (u7, dw) else (f_X9_nextWord d_ad2 dw).bind fun u8 => some (u8.1, u8.2)
def L_X9_goOn_8   : Nat → Pic → Int64 → Option (Pic × Int64)
  | 0 => fun _ _ => none
  | n + 1 => b_X9_goOn_8  (L_X9_goOn_8   n)
def f_X9_goOn (d_ad : Pic) (dw : Int64) : Option (Pic × Int64) := if (gS d_ad 31) ≤ 0 then L_X9_goOn_8 FU d_ad dw else some (d_ad, dw)
def f_X9_readWhole (d_ad : Pic) (dw : Int64) (x1 : Int32) (x2 : Int32) : Option (Int32 × Pic × Int64) := (f_X9_wholeAt d_ad x1 x2).bind fun u1 => (f_X9_goOn u1.2 dw).bind fun u2 => some (u1.1, u2.1, u2.2)
def b_X9_readPart_13 (w1 : Nat) (x2 : Int32) (x3 : Int32)  (d_ad : Pic) (dw : Int64) : Option (Int32 × Pic × Int64) := (f_X9_goOn d_ad dw).bind fun u2 => (f_X9_readWhole u2.1 u2.2 x2 x3).bind fun u3 => some (u3.1, u3.2.1, u3.2.2)
def f_X9_readPart (d_ad : Pic) (dw : Int64) (w1 : Nat) (x2 : Int32) (x3 : Int32) : Option (Int32 × Pic × Int64) := (f_X9_isWord d_ad dw w1).bind fun u1 => if u1 = 0 then (f_X9_flaw d_ad 1).bind fun u4 => b_X9_readPart_13 w1 x2 x3 u4 dw else b_X9_readPart_13 w1 x2 x3 d_ad dw
def b_X9_readSwap_12   (d_ad : Pic) (dw : Int64) : Option (Pic × Int64) := (f_X9_goOn d_ad dw).bind fun u1 => (f_X9_readPart u1.1 u1.2 1 1 24).bind fun u2 => (f_X9_readPart u2.2.1 u2.2.2 2 1 4).bind fun u3 => (f_X9_readPart u3.2.1 u3.2.2 3 4 15).bind fun u4 => if (gS u4.2.1 31) ≤ 0 then (some (pS u4.2.1 7 u2.1)).bind fun d_ad5 => (some (pS d_ad5 8 u3.1)).bind fun d_ad6 => (some (pS d_ad6 9 u4.1)).bind fun d_ad7 => some (d_ad7, u4.2.2) else some (u4.2.1, u4.2.2)
def f_X9_readSwap (d_ad : Pic) (dw : Int64) : Option (Pic × Int64) := if (gS d_ad 7) ≤ 0 then b_X9_readSwap_12 d_ad dw else (f_X9_flaw d_ad 3).bind fun u8 => b_X9_readSwap_12 u8 dw
def b_X9_begins_21 (x1 : Int32)  (d_ad : Pic) (dw : Int64) : Option (Pic × Int64) := (f_X9_goOn d_ad dw).bind fun u1 => some (u1.1, u1.2)
def b_X9_begins_9 (x1 : Int32)  (d_ad : Pic) (dw : Int64) : Option (Pic × Int64) := if (gS d_ad 7) = 0 then (f_X9_flaw d_ad 5).bind fun u2 => b_X9_begins_21 x1 u2 dw else b_X9_begins_21 x1 d_ad dw
def f_X9_begins (d_ad : Pic) (dw : Int64) (x1 : Int32) : Option (Pic × Int64) := if x1 = 0 then b_X9_begins_9 x1 d_ad dw else (f_X9_flaw d_ad 4).bind fun u3 => b_X9_begins_9 x1 u3 dw
def b_X9_readSome_91 (x1 : Int32) (k91 : Pic → Int64 → Int32 → Int32 → Int32 → Option (Int32 × Pic × Int64)) (d_ad : Pic) (dw : Int64) (v2 : Int32) (v3 : Int32) (v4 : Int32) : Option (Int32 × Pic × Int64) := if (x1 + v3) ≤ v4 then some ((x1 + v3), d_ad, dw) else (wA d_ad 18 160 ((16 * (gS d_ad 10)) + v4) v2).bind fun d_ad4 => k91 d_ad4 dw v2 v3 (v4 + 1)
def L_X9_readSome_91 (x1 : Int32)  : Nat → Pic → Int64 → Int32 → Int32 → Int32 → Option (Int32 × Pic × Int64)
  | 0 => fun _ _ _ _ _ => none
  | n + 1 => b_X9_readSome_91 x1 (L_X9_readSome_91 x1  n)
def b_X9_readSome_79 (x1 : Int32)  (d_ad : Pic) (dw : Int64) (v2 : Int32) (v3 : Int32) : Option (Int32 × Pic × Int64) := if (gS d_ad 31) ≤ 0 then L_X9_readSome_91 x1 FU d_ad dw v2 v3 x1 else some (x1, d_ad, dw)
def b_X9_readSome_75 (x1 : Int32)  (d_ad : Pic) (dw : Int64) (v2 : Int32) (v3 : Int32) : Option (Int32 × Pic × Int64) := (f_X9_goOn d_ad dw).bind fun u7 => b_X9_readSome_79 x1 u7.1 u7.2 v2 v3
def b_X9_readSome_27 (x1 : Int32)  (d_ad : Pic) (dw : Int64) (v2 : Int32) : Option (Int32 × Pic × Int64) := (f_X9_goOn d_ad dw).bind fun u2 => (f_X9_isWord u2.1 u2.2 5).bind fun u3 => if u3 = 0 then b_X9_readSome_79 x1 u2.1 u2.2 v2 1 else (f_X9_goOn u2.1 u2.2).bind fun u5 => (f_X9_wholeAt u5.1 1 16).bind fun u6 => if (gS u6.2 31) = 0 then if (x1 + u6.1) ≤ 16 then b_X9_readSome_75 x1 u6.2 u5.2 v2 u6.1 else (f_X9_flaw u6.2 6).bind fun u8 => b_X9_readSome_75 x1 u8 u5.2 v2 u6.1 else b_X9_readSome_75 x1 u6.2 u5.2 v2 u6.1
def f_X9_readSome (d_ad : Pic) (dw : Int64) (x1 : Int32) : Option (Int32 × Pic × Int64) := (f_X9_wholeAt d_ad 0 99).bind fun u1 => if (gS u1.2 31) = 0 then if x1 = 16 then (f_X9_flaw u1.2 6).bind fun u9 => b_X9_readSome_27 x1 u9 dw u1.1 else b_X9_readSome_27 x1 u1.2 dw u1.1 else b_X9_readSome_27 x1 u1.2 dw u1.1
def b_X9_readOp_46 (x1 : Int32)  (d_ad : Pic) (dw : Int64) (v2 : Int32) (t0 : Int32) : Option (Pic × Int64) := if (gS d_ad 31) ≤ 0 then (wA d_ad 15 24 (gS d_ad 11) x1).bind fun d_ad3 => (wA d_ad3 16 24 (gS d_ad3 11) v2).bind fun d_ad4 => (wA d_ad4 17 24 (gS d_ad4 11) t0).bind fun d_ad5 => (some (pS d_ad5 11 ((gS d_ad5 11) + 1))).bind fun d_ad6 => some (d_ad6, dw) else some (d_ad, dw)
def b_X9_readOp_15 (x1 : Int32)  (d_ad : Pic) (dw : Int64) (t0 : Int32) : Option (Pic × Int64) := (f_X9_begins d_ad dw t0).bind fun u1 => (f_X9_readWhole u1.1 u1.2 0 29).bind fun u2 => if x1 = 0 then (f_X9_readWhole u2.2.1 u2.2.2 0 ((gS u2.2.1 10) - 1)).bind fun u7 => b_X9_readOp_46 x1 u7.2.1 u7.2.2 u2.1 u7.1 else b_X9_readOp_46 x1 u2.2.1 u2.2.2 u2.1 (-2)
def f_X9_readOp (d_ad : Pic) (dw : Int64) (x1 : Int32) : Option (Pic × Int64) := if (gS d_ad 11) = 24 then b_X9_readOp_15 x1 d_ad dw 1 else b_X9_readOp_15 x1 d_ad dw 0
def b_X9_takesOver_103  (k103 : Pic → Int32 → Option (Pic)) (d_ad : Pic) (v1 : Int32) : Option (Pic) := if 160 ≤ v1 then (some (pS d_ad 23 0)).bind fun d_ad8 => some (d_ad8) else (rA d_ad 18 160 v1).bind fun v9_ => (wA d_ad 20 1234 (5 + v1) v9_).bind fun d_ad10 => k103 d_ad10 (v1 + 1)
def L_X9_takesOver_103   : Nat → Pic → Int32 → Option (Pic)
  | 0 => fun _ _ => none
  | n + 1 => b_X9_takesOver_103  (L_X9_takesOver_103   n)
def b_X9_takesOver_39  (k39 : Pic → Int32 → Option (Pic)) (d_ad : Pic) (v1 : Int32) : Option (Pic) := if 24 ≤ v1 then (f_X9_clears d_ad).bind fun u6 => (wA u6 20 1234 0 (gS u6 7)).bind fun d_ad7 => L_X9_takesOver_103 FU d_ad7 0 else (rA d_ad 15 24 v1).bind fun v11_ => (wA d_ad 12 24 v1 v11_).bind fun d_ad12 => (rA d_ad12 16 24 v1).bind fun v13_ => (wA d_ad12 13 24 v1 v13_).bind fun d_ad14 => (rA d_ad14 17 24 v1).bind fun v15_ => (wA d_ad14 14 24 v1 v15_).bind fun d_ad16 => k39 d_ad16 (v1 + 1)
def L_X9_takesOver_39   : Nat → Pic → Int32 → Option (Pic)
  | 0 => fun _ _ => none
  | n + 1 => b_X9_takesOver_39  (L_X9_takesOver_39   n)
def f_X9_takesOver (d_ad : Pic) : Option (Pic) := (some (pS d_ad 19 1)).bind fun d_ad1 => (some (pS d_ad1 3 (gS d_ad1 8))).bind fun d_ad2 => (some (pS d_ad2 4 (gS d_ad2 9))).bind fun d_ad3 => (some (pS d_ad3 5 (gS d_ad3 10))).bind fun d_ad4 => (some (pS d_ad4 6 (gS d_ad4 11))).bind fun d_ad5 => L_X9_takesOver_39 FU d_ad5 0
def b_X9_sizes_22 (x1 : Int32) (x2 : Int32)  (d_ad : Pic) : Option (Int32 × Pic) := (f_X9_refused d_ad 1).bind fun u3 => some (u3.1, u3.2)
def f_X9_sizes (d_ad : Pic) (x1 : Int32) (x2 : Int32) : Option (Int32 × Pic) := (some (pS d_ad 0 0)).bind fun d_ad1 => (f_X9_isClass d_ad1 x1).bind fun u2 => if u2 = 0 then b_X9_sizes_22 x1 x2 d_ad1 else (f_X9_in x2 0 4).bind fun u4 => if u4 = 0 then b_X9_sizes_22 x1 x2 d_ad1 else if x2 = 0 then (f_X9_framesOf x1).bind fun u14 => (f_X9_good d_ad1 u14).bind fun u15 => some (u15.1, u15.2) else if x2 = 1 then (f_X9_slotsOf x1).bind fun u12 => (f_X9_good d_ad1 u12).bind fun u13 => some (u13.1, u13.2) else if x2 = 2 then (f_X9_framesOf x1).bind fun u9 => (rmI (16 * u9) x1).bind fun v10_ => (f_X9_good d_ad1 v10_).bind fun u11 => some (u11.1, u11.2) else if x2 = 3 then (f_X9_zonesOf d_ad1 x1).bind fun u7 => (f_X9_good d_ad1 u7).bind fun u8 => some (u8.1, u8.2) else (f_X9_pagesOf d_ad1 x1).bind fun u5 => (f_X9_good d_ad1 u5).bind fun u6 => some (u6.1, u6.2)
def b_X9_readDataLine_75   (d_ad : Pic) (dw : Int64) : Option (Pic × Int64) := if (gS d_ad 31) = 0 then (some (pS d_ad 10 ((gS d_ad 10) + 1))).bind fun d_ad4 => some (d_ad4, dw) else some (d_ad, dw)
def b_X9_readDataLine_69   (d_ad : Pic) (dw : Int64) : Option (Pic × Int64) := (f_X9_flaw d_ad 6).bind fun u6 => b_X9_readDataLine_75 u6 dw
def b_X9_readDataLine_24  (k24 : Pic → Int64 → Int32 → Option (Pic × Int64)) (d_ad : Pic) (dw : Int64) (v1 : Int32) : Option (Pic × Int64) := (f_X9_isSign d_ad 44).bind fun u3 => if u3 = 0 then if 16 ≤ v1 then b_X9_readDataLine_75 d_ad dw else (f_X9_isSign d_ad 59).bind fun u5 => if u5 = 0 then if (gS d_ad 28) = 1 then b_X9_readDataLine_69 d_ad dw else b_X9_readDataLine_75 d_ad dw else b_X9_readDataLine_69 d_ad dw else (f_X9_goOn d_ad dw).bind fun u7 => (f_X9_readSome u7.1 u7.2 v1).bind fun u8 => k24 u8.2.1 u8.2.2 u8.1
def L_X9_readDataLine_24   : Nat → Pic → Int64 → Int32 → Option (Pic × Int64)
  | 0 => fun _ _ _ => none
  | n + 1 => b_X9_readDataLine_24  (L_X9_readDataLine_24   n)
def b_X9_readDataLine_15   (d_ad : Pic) (dw : Int64) (t0 : Int32) : Option (Pic × Int64) := (f_X9_begins d_ad dw t0).bind fun u1 => (f_X9_readSome u1.1 u1.2 0).bind fun u2 => L_X9_readDataLine_24 FU u2.2.1 u2.2.2 u2.1
def f_X9_readDataLine (d_ad : Pic) (dw : Int64) : Option (Pic × Int64) := if (gS d_ad 10) = 10 then b_X9_readDataLine_15 d_ad dw 1 else b_X9_readDataLine_15 d_ad dw 0
def f_X9_readLine (d_ad : Pic) (dw : Int64) : Option (Pic × Int64) := (f_X9_isWord d_ad dw 0).bind fun u1 => if u1 = 0 then (f_X9_isWord d_ad dw 4).bind fun u2 => if u2 = 0 then (f_X9_isWord d_ad dw 6).bind fun u3 => if u3 = 0 then (f_X9_isWord d_ad dw 7).bind fun u4 => if u4 = 0 then (f_X9_isWord d_ad dw 8).bind fun u5 => if u5 = 0 then (f_X9_flaw d_ad 1).bind fun u6 => some (u6, dw) else (f_X9_readOp d_ad dw 2).bind fun u7 => some (u7.1, u7.2) else (f_X9_readOp d_ad dw 1).bind fun u8 => some (u8.1, u8.2) else (f_X9_readOp d_ad dw 0).bind fun u9 => some (u9.1, u9.2) else (f_X9_readDataLine d_ad dw).bind fun u10 => some (u10.1, u10.2) else (f_X9_readSwap d_ad dw).bind fun u11 => some (u11.1, u11.2)
def b_X9_readAll_56   (d_ad : Pic) (dw : Int64) : Option (Pic × Int64) := if (gS d_ad 31) = 0 then if (gS d_ad 7) = 0 then (f_X9_flaw d_ad 5).bind fun u7 => some (u7, dw) else some (d_ad, dw) else some (d_ad, dw)
def b_X9_readAll_23  (k23 : Pic → Int64 → Option (Pic × Int64)) (d_ad : Pic) (dw : Int64) : Option (Pic × Int64) := (f_X9_isSign d_ad 59).bind fun u6 => if u6 = 0 then if (gS d_ad 28) = 1 then b_X9_readAll_56 d_ad dw else (f_X9_flaw d_ad 1).bind fun u8 => b_X9_readAll_56 u8 dw else (f_X9_goOn d_ad dw).bind fun u9 => (f_X9_readLine u9.1 u9.2).bind fun u10 => k23 u10.1 u10.2
def L_X9_readAll_23   : Nat → Pic → Int64 → Option (Pic × Int64)
  | 0 => fun _ _ => none
  | n + 1 => b_X9_readAll_23  (L_X9_readAll_23   n)
def f_X9_readAll (d_ad : Pic) (dw : Int64) : Option (Pic × Int64) := (some (pS d_ad 7 0)).bind fun d_ad1 => (some (pS d_ad1 10 0)).bind fun d_ad2 => (some (pS d_ad2 11 0)).bind fun d_ad3 => (f_X9_goOn d_ad3 dw).bind fun u4 => (f_X9_readLine u4.1 u4.2).bind fun u5 => L_X9_readAll_23 FU u5.1 u5.2
def b_X9_swap_17 (x1 : Int32)  (d_ad : Pic) (dw : Int64) : Option (Int32 × Pic × Int64) := (f_X9_refused d_ad 2).bind fun u2 => some (u2.1, u2.2, dw)
def f_X9_swap (d_ad : Pic) (dw : Int64) (x1 : Int32) : Option (Int32 × Pic × Int64) := (some (pS d_ad 0 0)).bind fun d_ad1 => if x1 < 0 then b_X9_swap_17 x1 d_ad1 dw else if x1 ≤ (gS d_ad1 25) then (some (pS d_ad1 26 x1)).bind fun d_ad3 => (some (pS d_ad3 25 0)).bind fun d_ad4 => (some (pS d_ad4 27 0)).bind fun d_ad5 => (some (pS d_ad5 31 0)).bind fun d_ad6 => (f_X9_readAll d_ad6 dw).bind fun u7 => if (gS u7.1 31) ≤ 0 then (f_X9_takesOver u7.1).bind fun u8 => (f_X9_good u8 (gS u8 5)).bind fun u9 => some (u9.1, u9.2, u7.2) else (some (pS u7.1 1 4)).bind fun d_ad10 => (some (pS d_ad10 2 (gS d_ad10 29))).bind fun d_ad11 => some ((-1), d_ad11, u7.2) else b_X9_swap_17 x1 d_ad1 dw
