/-! the worlds: what the cells of an object are, by its picture -/
def zO (G : GG) (ad : Nat → Nat) (q : Pic) : va_W := [(ad 199, .inr (6, [.int (gS q 0), .ref (ad 101), .ref (ad 102), .ref (ad 103), .ref (ad 104), .ref (ad 105)])), (ad 101, .inl (G.2.1, 24, .inl (q.2 1))), (ad 102, .inl (G.2.1, 24, .inl (q.2 2))), (ad 103, .inl (G.2.1, 24, .inl (q.2 3))), (ad 104, .inl (G.2.1, 24, .inl (q.2 4))), (ad 105, .inl (G.2.1, 384, .inl (q.2 5)))]
def pO (G : GG) (ad : Nat → Nat) (q : Pic) : va_W := [(ad 99, .inr (2, [.int (gS q 0), .int (gS q 1), .int (gS q 2), .ref (ad 199), .ref (ad 4), .ref (ad 5), .ref (ad 6), .ref (ad 7), .ref (ad 8), .ref (ad 9), .ref (ad 10), .int (gS q 11), .ref (ad 12), .ref (ad 13), .int (gS q 14)])), (ad 4, .inl (G.2.1, 30, .inl (q.2 4))), (ad 5, .inl (G.2.1, 30, .inl (q.2 5))), (ad 6, .inl (G.2.1, 30, .inl (q.2 6))), (ad 7, .inl (G.2.1, 30, .inl (q.2 7))), (ad 8, .inl (G.2.1, 30, .inl (q.2 8))), (ad 9, .inl (G.2.1, 480, .inl (q.2 9))), (ad 10, .inl (G.2.1, 30, .inl (q.2 10))), (ad 12, .inl (G.2.1, 4, .inl (q.2 12))), (ad 13, .inl (G.2.1, 30, .inl (q.2 13)))]
def tO (G : GG) (ad : Nat → Nat) (q : Pic) : va_W := [(ad 299, .inr (5, [.ref (ad 200), .ref (ad 201), .ref (ad 99)])), (ad 201, .inl (G.2.1, 10, .inl (q.2 1)))]
def cO (G : GG) (ad : Nat → Nat) (q : Pic) : va_W := [(ad 99, .inr (0, [.ref (ad 0), .ref (ad 1), .ref (ad 2), .ref (ad 3), .ref (ad 4), .ref (ad 5), .ref (ad 6), .int (gS q 7)])), (ad 0, .inl (G.2.1, 16, .inl (q.2 0))), (ad 1, .inl (G.2.1, 17, .inl (q.2 1))), (ad 2, .inl (G.2.1, 17, .inl (q.2 2))), (ad 3, .inl (G.2.1, 16, .inl (q.2 3))), (ad 4, .inl (G.2.1, 16, .inl (q.2 4))), (ad 5, .inl (G.2.1, 16, .inl (q.2 5))), (ad 6, .inl (G.2.1, 16, .inl (q.2 6)))]
def sO (G : GG) (ad : Nat → Nat) (q : Pic) : va_W := [(ad 99, .inr (4, [.int (gS q 0), .int (gS q 1), .int (gS q 2), .int (gS q 3), .int (gS q 4), .ref (ad 5), .ref (ad 6), .ref (ad 7), .ref (ad 8)])), (ad 5, .inl (G.2.1, 160, .inl (q.2 5))), (ad 6, .inl (G.2.1, 24, .inl (q.2 6))), (ad 7, .inl (G.2.1, 24, .inl (q.2 7))), (ad 8, .inl (G.2.1, 24, .inl (q.2 8)))]
def rO (G : GG) (ad : Nat → Nat) (ab at_ : Nat → Nat) (q : Pic) : va_W := [(ad 99, .inr (3, [.ref (ab 0), .int (gS q 1), .int (gS q 2), .int (gS q 3), .int (gS q 4), .int (gS q 5), .int (gS q 6), .int (gS q 7), .ref (at_ 99)]))]
def mO (G : GG) (ad : Nat → Nat) (as_ ar ac an ath ah : Nat → Nat) (q : Pic) : va_W := [(ad 99, .inr (7, [.ref (ad 0), .int (gS q 1), .int (gS q 2), .int (gS q 3), .int (gS q 4), .int (gS q 5), .ref (as_ 99), .ref (ar 99), .ref (ac 99), .ref (an 299), .ref (ath 99), .ref (ah 99)]))]
def dO (G : GG) (ad : Nat → Nat) (q : Pic) (w : Int64) : va_W := [(ad 99, .inr (8, [.int (gS q 0), .int (gS q 1), .int (gS q 2), .int (gS q 3), .int (gS q 4), .int (gS q 5), .int (gS q 6), .int (gS q 7), .int (gS q 8), .int (gS q 9), .int (gS q 10), .int (gS q 11), .ref (ad 12), .ref (ad 13), .ref (ad 14), .ref (ad 15), .ref (ad 16), .ref (ad 17), .ref (ad 18), .int (gS q 19), .ref (ad 20), .ref (ad 21), .ref (ad 22), .int (gS q 23), .ref (ad 24), .int (gS q 25), .int (gS q 26), .int (gS q 27), .int (gS q 28), .int (gS q 29), .int (gS q 30), .int (gS q 31), .long w, .ref (ad 33), .ref (ad 34), .ref (ad 35), .ref (ad 36), .ref (ad 37), .ref (ad 38), .ref (ad 39), .int (gS q 40), .ref (ad 41), .ref (ad 42), .int (gS q 43)])), (ad 12, .inl (G.2.1, 24, .inl (q.2 12))), (ad 13, .inl (G.2.1, 24, .inl (q.2 13))), (ad 14, .inl (G.2.1, 24, .inl (q.2 14))), (ad 15, .inl (G.2.1, 24, .inl (q.2 15))), (ad 16, .inl (G.2.1, 24, .inl (q.2 16))), (ad 17, .inl (G.2.1, 24, .inl (q.2 17))), (ad 18, .inl (G.2.1, 160, .inl (q.2 18))), (ad 20, .inl (G.2.1, 1234, .inl (q.2 20))), (ad 21, .inl (G.2.1, 1234, .inl (q.2 21))), (ad 22, .inl (G.2.1, 12340, .inl (q.2 22))), (ad 24, .inl (G.2.2.1, 900, .inl (q.2 24))), (ad 33, .inl (G.2.1, 16, .inl (q.2 33))), (ad 34, .inl (G.2.1, 17, .inl (q.2 34))), (ad 35, .inl (G.2.1, 17, .inl (q.2 35))), (ad 36, .inl (G.2.1, 16, .inl (q.2 36))), (ad 37, .inl (G.2.1, 16, .inl (q.2 37))), (ad 38, .inl (G.2.1, 16, .inl (q.2 38))), (ad 39, .inl (G.2.1, 16, .inl (q.2 39))), (ad 41, .inl (G.2.1, 10, .inl (q.2 41))), (ad 42, .inl (G.2.1, 31, .inl (q.2 42)))]
def hO (G : GG) (ad : Nat → Nat) (rg : Nat → Option Nat) (q : Pic) : va_W := [(ad 99, .inr (1, [.ref (ad 0), .int (gS q 1), .int (gS q 2)])), (ad 0, .inl (G.2.2.2.1, 10, .inr (.inr (.inr (.inr rg)))))]
def bO (G : GG) (ad : Nat → Nat) (q : Pic) : va_W := [(ad 0, .inl (G.2.1, 900, .inl (q.2 0)))]
def eO (G : GG) (ad : Nat → Nat) (q : Pic) : va_W := [(ad 200, .inl (G.2.1, 160, .inl (q.2 0)))]
theorem zO_o {G : GG} {ad : Nat → Nat} {q : Pic} : (zO G ad q)[0]? = some (ad 199, .inr (6, [.int (gS q 0), .ref (ad 101), .ref (ad 102), .ref (ad 103), .ref (ad 104), .ref (ad 105)])) := rfl
theorem zO_f {G : GG} {ad : Nat → Nat} {q q1 : Pic} : (zO G ad q1).map Prod.fst = (zO G ad q).map Prod.fst := rfl
theorem zO_p0 {G : GG} {ad : Nat → Nat} {q q1 : Pic} {v : Int32} (h : some (pS q 0 v) = some q1) : (zO G ad q).set 0 (ad 199, .inr (6, List.set [.int (gS q 0), .ref (ad 101), .ref (ad 102), .ref (ad 103), .ref (ad 104), .ref (ad 105)] 0 (.int v))) = zO G ad q1 := by
  obtain rfl := Option.some.inj h
  rfl
theorem zO_g1 {G : GG} {ad : Nat → Nat} {q : Pic} : (zO G ad q)[1]? = some (ad 101, .inl (G.2.1, 24, .inl (q.2 1))) := rfl
theorem zO_s1 {G : GG} {ad : Nat → Nat} {q q1 : Pic} {f : Nat → Int32} (h : q1 = (q.1, va_up q.2 1 f)) : (zO G ad q).set 1 (ad 101, .inl (G.2.1, 24, .inl f)) = zO G ad q1 := by
  subst h
  rfl
theorem zO_g2 {G : GG} {ad : Nat → Nat} {q : Pic} : (zO G ad q)[2]? = some (ad 102, .inl (G.2.1, 24, .inl (q.2 2))) := rfl
theorem zO_s2 {G : GG} {ad : Nat → Nat} {q q1 : Pic} {f : Nat → Int32} (h : q1 = (q.1, va_up q.2 2 f)) : (zO G ad q).set 2 (ad 102, .inl (G.2.1, 24, .inl f)) = zO G ad q1 := by
  subst h
  rfl
theorem zO_g3 {G : GG} {ad : Nat → Nat} {q : Pic} : (zO G ad q)[3]? = some (ad 103, .inl (G.2.1, 24, .inl (q.2 3))) := rfl
theorem zO_s3 {G : GG} {ad : Nat → Nat} {q q1 : Pic} {f : Nat → Int32} (h : q1 = (q.1, va_up q.2 3 f)) : (zO G ad q).set 3 (ad 103, .inl (G.2.1, 24, .inl f)) = zO G ad q1 := by
  subst h
  rfl
theorem zO_g4 {G : GG} {ad : Nat → Nat} {q : Pic} : (zO G ad q)[4]? = some (ad 104, .inl (G.2.1, 24, .inl (q.2 4))) := rfl
theorem zO_s4 {G : GG} {ad : Nat → Nat} {q q1 : Pic} {f : Nat → Int32} (h : q1 = (q.1, va_up q.2 4 f)) : (zO G ad q).set 4 (ad 104, .inl (G.2.1, 24, .inl f)) = zO G ad q1 := by
  subst h
  rfl
theorem zO_g5 {G : GG} {ad : Nat → Nat} {q : Pic} : (zO G ad q)[5]? = some (ad 105, .inl (G.2.1, 384, .inl (q.2 5))) := rfl
theorem zO_s5 {G : GG} {ad : Nat → Nat} {q q1 : Pic} {f : Nat → Int32} (h : q1 = (q.1, va_up q.2 5 f)) : (zO G ad q).set 5 (ad 105, .inl (G.2.1, 384, .inl f)) = zO G ad q1 := by
  subst h
  rfl
theorem pO_o {G : GG} {ad : Nat → Nat} {q : Pic} : (pO G ad q)[0]? = some (ad 99, .inr (2, [.int (gS q 0), .int (gS q 1), .int (gS q 2), .ref (ad 199), .ref (ad 4), .ref (ad 5), .ref (ad 6), .ref (ad 7), .ref (ad 8), .ref (ad 9), .ref (ad 10), .int (gS q 11), .ref (ad 12), .ref (ad 13), .int (gS q 14)])) := rfl
theorem pO_f {G : GG} {ad : Nat → Nat} {q q1 : Pic} : (pO G ad q1).map Prod.fst = (pO G ad q).map Prod.fst := rfl
theorem pO_p0 {G : GG} {ad : Nat → Nat} {q q1 : Pic} {v : Int32} (h : some (pS q 0 v) = some q1) : (pO G ad q).set 0 (ad 99, .inr (2, List.set [.int (gS q 0), .int (gS q 1), .int (gS q 2), .ref (ad 199), .ref (ad 4), .ref (ad 5), .ref (ad 6), .ref (ad 7), .ref (ad 8), .ref (ad 9), .ref (ad 10), .int (gS q 11), .ref (ad 12), .ref (ad 13), .int (gS q 14)] 0 (.int v))) = pO G ad q1 := by
  obtain rfl := Option.some.inj h
  rfl
theorem pO_p1 {G : GG} {ad : Nat → Nat} {q q1 : Pic} {v : Int32} (h : some (pS q 1 v) = some q1) : (pO G ad q).set 0 (ad 99, .inr (2, List.set [.int (gS q 0), .int (gS q 1), .int (gS q 2), .ref (ad 199), .ref (ad 4), .ref (ad 5), .ref (ad 6), .ref (ad 7), .ref (ad 8), .ref (ad 9), .ref (ad 10), .int (gS q 11), .ref (ad 12), .ref (ad 13), .int (gS q 14)] 1 (.int v))) = pO G ad q1 := by
  obtain rfl := Option.some.inj h
  rfl
theorem pO_p2 {G : GG} {ad : Nat → Nat} {q q1 : Pic} {v : Int32} (h : some (pS q 2 v) = some q1) : (pO G ad q).set 0 (ad 99, .inr (2, List.set [.int (gS q 0), .int (gS q 1), .int (gS q 2), .ref (ad 199), .ref (ad 4), .ref (ad 5), .ref (ad 6), .ref (ad 7), .ref (ad 8), .ref (ad 9), .ref (ad 10), .int (gS q 11), .ref (ad 12), .ref (ad 13), .int (gS q 14)] 2 (.int v))) = pO G ad q1 := by
  obtain rfl := Option.some.inj h
  rfl
theorem pO_p11 {G : GG} {ad : Nat → Nat} {q q1 : Pic} {v : Int32} (h : some (pS q 11 v) = some q1) : (pO G ad q).set 0 (ad 99, .inr (2, List.set [.int (gS q 0), .int (gS q 1), .int (gS q 2), .ref (ad 199), .ref (ad 4), .ref (ad 5), .ref (ad 6), .ref (ad 7), .ref (ad 8), .ref (ad 9), .ref (ad 10), .int (gS q 11), .ref (ad 12), .ref (ad 13), .int (gS q 14)] 11 (.int v))) = pO G ad q1 := by
  obtain rfl := Option.some.inj h
  rfl
theorem pO_p14 {G : GG} {ad : Nat → Nat} {q q1 : Pic} {v : Int32} (h : some (pS q 14 v) = some q1) : (pO G ad q).set 0 (ad 99, .inr (2, List.set [.int (gS q 0), .int (gS q 1), .int (gS q 2), .ref (ad 199), .ref (ad 4), .ref (ad 5), .ref (ad 6), .ref (ad 7), .ref (ad 8), .ref (ad 9), .ref (ad 10), .int (gS q 11), .ref (ad 12), .ref (ad 13), .int (gS q 14)] 14 (.int v))) = pO G ad q1 := by
  obtain rfl := Option.some.inj h
  rfl
theorem pO_g4 {G : GG} {ad : Nat → Nat} {q : Pic} : (pO G ad q)[1]? = some (ad 4, .inl (G.2.1, 30, .inl (q.2 4))) := rfl
theorem pO_s4 {G : GG} {ad : Nat → Nat} {q q1 : Pic} {f : Nat → Int32} (h : q1 = (q.1, va_up q.2 4 f)) : (pO G ad q).set 1 (ad 4, .inl (G.2.1, 30, .inl f)) = pO G ad q1 := by
  subst h
  rfl
theorem pO_g5 {G : GG} {ad : Nat → Nat} {q : Pic} : (pO G ad q)[2]? = some (ad 5, .inl (G.2.1, 30, .inl (q.2 5))) := rfl
theorem pO_s5 {G : GG} {ad : Nat → Nat} {q q1 : Pic} {f : Nat → Int32} (h : q1 = (q.1, va_up q.2 5 f)) : (pO G ad q).set 2 (ad 5, .inl (G.2.1, 30, .inl f)) = pO G ad q1 := by
  subst h
  rfl
theorem pO_g6 {G : GG} {ad : Nat → Nat} {q : Pic} : (pO G ad q)[3]? = some (ad 6, .inl (G.2.1, 30, .inl (q.2 6))) := rfl
theorem pO_s6 {G : GG} {ad : Nat → Nat} {q q1 : Pic} {f : Nat → Int32} (h : q1 = (q.1, va_up q.2 6 f)) : (pO G ad q).set 3 (ad 6, .inl (G.2.1, 30, .inl f)) = pO G ad q1 := by
  subst h
  rfl
theorem pO_g7 {G : GG} {ad : Nat → Nat} {q : Pic} : (pO G ad q)[4]? = some (ad 7, .inl (G.2.1, 30, .inl (q.2 7))) := rfl
theorem pO_s7 {G : GG} {ad : Nat → Nat} {q q1 : Pic} {f : Nat → Int32} (h : q1 = (q.1, va_up q.2 7 f)) : (pO G ad q).set 4 (ad 7, .inl (G.2.1, 30, .inl f)) = pO G ad q1 := by
  subst h
  rfl
theorem pO_g8 {G : GG} {ad : Nat → Nat} {q : Pic} : (pO G ad q)[5]? = some (ad 8, .inl (G.2.1, 30, .inl (q.2 8))) := rfl
theorem pO_s8 {G : GG} {ad : Nat → Nat} {q q1 : Pic} {f : Nat → Int32} (h : q1 = (q.1, va_up q.2 8 f)) : (pO G ad q).set 5 (ad 8, .inl (G.2.1, 30, .inl f)) = pO G ad q1 := by
  subst h
  rfl
theorem pO_g9 {G : GG} {ad : Nat → Nat} {q : Pic} : (pO G ad q)[6]? = some (ad 9, .inl (G.2.1, 480, .inl (q.2 9))) := rfl
theorem pO_s9 {G : GG} {ad : Nat → Nat} {q q1 : Pic} {f : Nat → Int32} (h : q1 = (q.1, va_up q.2 9 f)) : (pO G ad q).set 6 (ad 9, .inl (G.2.1, 480, .inl f)) = pO G ad q1 := by
  subst h
  rfl
theorem pO_g10 {G : GG} {ad : Nat → Nat} {q : Pic} : (pO G ad q)[7]? = some (ad 10, .inl (G.2.1, 30, .inl (q.2 10))) := rfl
theorem pO_s10 {G : GG} {ad : Nat → Nat} {q q1 : Pic} {f : Nat → Int32} (h : q1 = (q.1, va_up q.2 10 f)) : (pO G ad q).set 7 (ad 10, .inl (G.2.1, 30, .inl f)) = pO G ad q1 := by
  subst h
  rfl
theorem pO_g12 {G : GG} {ad : Nat → Nat} {q : Pic} : (pO G ad q)[8]? = some (ad 12, .inl (G.2.1, 4, .inl (q.2 12))) := rfl
theorem pO_s12 {G : GG} {ad : Nat → Nat} {q q1 : Pic} {f : Nat → Int32} (h : q1 = (q.1, va_up q.2 12 f)) : (pO G ad q).set 8 (ad 12, .inl (G.2.1, 4, .inl f)) = pO G ad q1 := by
  subst h
  rfl
theorem pO_g13 {G : GG} {ad : Nat → Nat} {q : Pic} : (pO G ad q)[9]? = some (ad 13, .inl (G.2.1, 30, .inl (q.2 13))) := rfl
theorem pO_s13 {G : GG} {ad : Nat → Nat} {q q1 : Pic} {f : Nat → Int32} (h : q1 = (q.1, va_up q.2 13 f)) : (pO G ad q).set 9 (ad 13, .inl (G.2.1, 30, .inl f)) = pO G ad q1 := by
  subst h
  rfl
theorem tO_o {G : GG} {ad : Nat → Nat} {q : Pic} : (tO G ad q)[0]? = some (ad 299, .inr (5, [.ref (ad 200), .ref (ad 201), .ref (ad 99)])) := rfl
theorem tO_f {G : GG} {ad : Nat → Nat} {q q1 : Pic} : (tO G ad q1).map Prod.fst = (tO G ad q).map Prod.fst := rfl
theorem tO_g1 {G : GG} {ad : Nat → Nat} {q : Pic} : (tO G ad q)[1]? = some (ad 201, .inl (G.2.1, 10, .inl (q.2 1))) := rfl
theorem tO_s1 {G : GG} {ad : Nat → Nat} {q q1 : Pic} {f : Nat → Int32} (h : q1 = (q.1, va_up q.2 1 f)) : (tO G ad q).set 1 (ad 201, .inl (G.2.1, 10, .inl f)) = tO G ad q1 := by
  subst h
  rfl
theorem cO_o {G : GG} {ad : Nat → Nat} {q : Pic} : (cO G ad q)[0]? = some (ad 99, .inr (0, [.ref (ad 0), .ref (ad 1), .ref (ad 2), .ref (ad 3), .ref (ad 4), .ref (ad 5), .ref (ad 6), .int (gS q 7)])) := rfl
theorem cO_f {G : GG} {ad : Nat → Nat} {q q1 : Pic} : (cO G ad q1).map Prod.fst = (cO G ad q).map Prod.fst := rfl
theorem cO_p7 {G : GG} {ad : Nat → Nat} {q q1 : Pic} {v : Int32} (h : some (pS q 7 v) = some q1) : (cO G ad q).set 0 (ad 99, .inr (0, List.set [.ref (ad 0), .ref (ad 1), .ref (ad 2), .ref (ad 3), .ref (ad 4), .ref (ad 5), .ref (ad 6), .int (gS q 7)] 7 (.int v))) = cO G ad q1 := by
  obtain rfl := Option.some.inj h
  rfl
theorem cO_g0 {G : GG} {ad : Nat → Nat} {q : Pic} : (cO G ad q)[1]? = some (ad 0, .inl (G.2.1, 16, .inl (q.2 0))) := rfl
theorem cO_s0 {G : GG} {ad : Nat → Nat} {q q1 : Pic} {f : Nat → Int32} (h : q1 = (q.1, va_up q.2 0 f)) : (cO G ad q).set 1 (ad 0, .inl (G.2.1, 16, .inl f)) = cO G ad q1 := by
  subst h
  rfl
theorem cO_g1 {G : GG} {ad : Nat → Nat} {q : Pic} : (cO G ad q)[2]? = some (ad 1, .inl (G.2.1, 17, .inl (q.2 1))) := rfl
theorem cO_s1 {G : GG} {ad : Nat → Nat} {q q1 : Pic} {f : Nat → Int32} (h : q1 = (q.1, va_up q.2 1 f)) : (cO G ad q).set 2 (ad 1, .inl (G.2.1, 17, .inl f)) = cO G ad q1 := by
  subst h
  rfl
theorem cO_g2 {G : GG} {ad : Nat → Nat} {q : Pic} : (cO G ad q)[3]? = some (ad 2, .inl (G.2.1, 17, .inl (q.2 2))) := rfl
theorem cO_s2 {G : GG} {ad : Nat → Nat} {q q1 : Pic} {f : Nat → Int32} (h : q1 = (q.1, va_up q.2 2 f)) : (cO G ad q).set 3 (ad 2, .inl (G.2.1, 17, .inl f)) = cO G ad q1 := by
  subst h
  rfl
theorem cO_g3 {G : GG} {ad : Nat → Nat} {q : Pic} : (cO G ad q)[4]? = some (ad 3, .inl (G.2.1, 16, .inl (q.2 3))) := rfl
theorem cO_s3 {G : GG} {ad : Nat → Nat} {q q1 : Pic} {f : Nat → Int32} (h : q1 = (q.1, va_up q.2 3 f)) : (cO G ad q).set 4 (ad 3, .inl (G.2.1, 16, .inl f)) = cO G ad q1 := by
  subst h
  rfl
theorem cO_g4 {G : GG} {ad : Nat → Nat} {q : Pic} : (cO G ad q)[5]? = some (ad 4, .inl (G.2.1, 16, .inl (q.2 4))) := rfl
theorem cO_s4 {G : GG} {ad : Nat → Nat} {q q1 : Pic} {f : Nat → Int32} (h : q1 = (q.1, va_up q.2 4 f)) : (cO G ad q).set 5 (ad 4, .inl (G.2.1, 16, .inl f)) = cO G ad q1 := by
  subst h
  rfl
theorem cO_g5 {G : GG} {ad : Nat → Nat} {q : Pic} : (cO G ad q)[6]? = some (ad 5, .inl (G.2.1, 16, .inl (q.2 5))) := rfl
theorem cO_s5 {G : GG} {ad : Nat → Nat} {q q1 : Pic} {f : Nat → Int32} (h : q1 = (q.1, va_up q.2 5 f)) : (cO G ad q).set 6 (ad 5, .inl (G.2.1, 16, .inl f)) = cO G ad q1 := by
  subst h
  rfl
theorem cO_g6 {G : GG} {ad : Nat → Nat} {q : Pic} : (cO G ad q)[7]? = some (ad 6, .inl (G.2.1, 16, .inl (q.2 6))) := rfl
theorem cO_s6 {G : GG} {ad : Nat → Nat} {q q1 : Pic} {f : Nat → Int32} (h : q1 = (q.1, va_up q.2 6 f)) : (cO G ad q).set 7 (ad 6, .inl (G.2.1, 16, .inl f)) = cO G ad q1 := by
  subst h
  rfl
theorem sO_o {G : GG} {ad : Nat → Nat} {q : Pic} : (sO G ad q)[0]? = some (ad 99, .inr (4, [.int (gS q 0), .int (gS q 1), .int (gS q 2), .int (gS q 3), .int (gS q 4), .ref (ad 5), .ref (ad 6), .ref (ad 7), .ref (ad 8)])) := rfl
theorem sO_f {G : GG} {ad : Nat → Nat} {q q1 : Pic} : (sO G ad q1).map Prod.fst = (sO G ad q).map Prod.fst := rfl
theorem sO_p0 {G : GG} {ad : Nat → Nat} {q q1 : Pic} {v : Int32} (h : some (pS q 0 v) = some q1) : (sO G ad q).set 0 (ad 99, .inr (4, List.set [.int (gS q 0), .int (gS q 1), .int (gS q 2), .int (gS q 3), .int (gS q 4), .ref (ad 5), .ref (ad 6), .ref (ad 7), .ref (ad 8)] 0 (.int v))) = sO G ad q1 := by
  obtain rfl := Option.some.inj h
  rfl
theorem sO_p1 {G : GG} {ad : Nat → Nat} {q q1 : Pic} {v : Int32} (h : some (pS q 1 v) = some q1) : (sO G ad q).set 0 (ad 99, .inr (4, List.set [.int (gS q 0), .int (gS q 1), .int (gS q 2), .int (gS q 3), .int (gS q 4), .ref (ad 5), .ref (ad 6), .ref (ad 7), .ref (ad 8)] 1 (.int v))) = sO G ad q1 := by
  obtain rfl := Option.some.inj h
  rfl
theorem sO_p2 {G : GG} {ad : Nat → Nat} {q q1 : Pic} {v : Int32} (h : some (pS q 2 v) = some q1) : (sO G ad q).set 0 (ad 99, .inr (4, List.set [.int (gS q 0), .int (gS q 1), .int (gS q 2), .int (gS q 3), .int (gS q 4), .ref (ad 5), .ref (ad 6), .ref (ad 7), .ref (ad 8)] 2 (.int v))) = sO G ad q1 := by
  obtain rfl := Option.some.inj h
  rfl
theorem sO_p3 {G : GG} {ad : Nat → Nat} {q q1 : Pic} {v : Int32} (h : some (pS q 3 v) = some q1) : (sO G ad q).set 0 (ad 99, .inr (4, List.set [.int (gS q 0), .int (gS q 1), .int (gS q 2), .int (gS q 3), .int (gS q 4), .ref (ad 5), .ref (ad 6), .ref (ad 7), .ref (ad 8)] 3 (.int v))) = sO G ad q1 := by
  obtain rfl := Option.some.inj h
  rfl
theorem sO_p4 {G : GG} {ad : Nat → Nat} {q q1 : Pic} {v : Int32} (h : some (pS q 4 v) = some q1) : (sO G ad q).set 0 (ad 99, .inr (4, List.set [.int (gS q 0), .int (gS q 1), .int (gS q 2), .int (gS q 3), .int (gS q 4), .ref (ad 5), .ref (ad 6), .ref (ad 7), .ref (ad 8)] 4 (.int v))) = sO G ad q1 := by
  obtain rfl := Option.some.inj h
  rfl
theorem sO_g5 {G : GG} {ad : Nat → Nat} {q : Pic} : (sO G ad q)[1]? = some (ad 5, .inl (G.2.1, 160, .inl (q.2 5))) := rfl
theorem sO_s5 {G : GG} {ad : Nat → Nat} {q q1 : Pic} {f : Nat → Int32} (h : q1 = (q.1, va_up q.2 5 f)) : (sO G ad q).set 1 (ad 5, .inl (G.2.1, 160, .inl f)) = sO G ad q1 := by
  subst h
  rfl
theorem sO_g6 {G : GG} {ad : Nat → Nat} {q : Pic} : (sO G ad q)[2]? = some (ad 6, .inl (G.2.1, 24, .inl (q.2 6))) := rfl
theorem sO_s6 {G : GG} {ad : Nat → Nat} {q q1 : Pic} {f : Nat → Int32} (h : q1 = (q.1, va_up q.2 6 f)) : (sO G ad q).set 2 (ad 6, .inl (G.2.1, 24, .inl f)) = sO G ad q1 := by
  subst h
  rfl
theorem sO_g7 {G : GG} {ad : Nat → Nat} {q : Pic} : (sO G ad q)[3]? = some (ad 7, .inl (G.2.1, 24, .inl (q.2 7))) := rfl
theorem sO_s7 {G : GG} {ad : Nat → Nat} {q q1 : Pic} {f : Nat → Int32} (h : q1 = (q.1, va_up q.2 7 f)) : (sO G ad q).set 3 (ad 7, .inl (G.2.1, 24, .inl f)) = sO G ad q1 := by
  subst h
  rfl
theorem sO_g8 {G : GG} {ad : Nat → Nat} {q : Pic} : (sO G ad q)[4]? = some (ad 8, .inl (G.2.1, 24, .inl (q.2 8))) := rfl
theorem sO_s8 {G : GG} {ad : Nat → Nat} {q q1 : Pic} {f : Nat → Int32} (h : q1 = (q.1, va_up q.2 8 f)) : (sO G ad q).set 4 (ad 8, .inl (G.2.1, 24, .inl f)) = sO G ad q1 := by
  subst h
  rfl
theorem rO_o {G : GG} {ad : Nat → Nat} {ab at_ : Nat → Nat} {q : Pic} : (rO G ad ab at_ q)[0]? = some (ad 99, .inr (3, [.ref (ab 0), .int (gS q 1), .int (gS q 2), .int (gS q 3), .int (gS q 4), .int (gS q 5), .int (gS q 6), .int (gS q 7), .ref (at_ 99)])) := rfl
theorem rO_f {G : GG} {ad : Nat → Nat} {ab at_ : Nat → Nat} {q q1 : Pic} : (rO G ad ab at_ q1).map Prod.fst = (rO G ad ab at_ q).map Prod.fst := rfl
theorem rO_p1 {G : GG} {ad : Nat → Nat} {ab at_ : Nat → Nat} {q q1 : Pic} {v : Int32} (h : some (pS q 1 v) = some q1) : (rO G ad ab at_ q).set 0 (ad 99, .inr (3, List.set [.ref (ab 0), .int (gS q 1), .int (gS q 2), .int (gS q 3), .int (gS q 4), .int (gS q 5), .int (gS q 6), .int (gS q 7), .ref (at_ 99)] 1 (.int v))) = rO G ad ab at_ q1 := by
  obtain rfl := Option.some.inj h
  rfl
theorem rO_p2 {G : GG} {ad : Nat → Nat} {ab at_ : Nat → Nat} {q q1 : Pic} {v : Int32} (h : some (pS q 2 v) = some q1) : (rO G ad ab at_ q).set 0 (ad 99, .inr (3, List.set [.ref (ab 0), .int (gS q 1), .int (gS q 2), .int (gS q 3), .int (gS q 4), .int (gS q 5), .int (gS q 6), .int (gS q 7), .ref (at_ 99)] 2 (.int v))) = rO G ad ab at_ q1 := by
  obtain rfl := Option.some.inj h
  rfl
theorem rO_p3 {G : GG} {ad : Nat → Nat} {ab at_ : Nat → Nat} {q q1 : Pic} {v : Int32} (h : some (pS q 3 v) = some q1) : (rO G ad ab at_ q).set 0 (ad 99, .inr (3, List.set [.ref (ab 0), .int (gS q 1), .int (gS q 2), .int (gS q 3), .int (gS q 4), .int (gS q 5), .int (gS q 6), .int (gS q 7), .ref (at_ 99)] 3 (.int v))) = rO G ad ab at_ q1 := by
  obtain rfl := Option.some.inj h
  rfl
theorem rO_p4 {G : GG} {ad : Nat → Nat} {ab at_ : Nat → Nat} {q q1 : Pic} {v : Int32} (h : some (pS q 4 v) = some q1) : (rO G ad ab at_ q).set 0 (ad 99, .inr (3, List.set [.ref (ab 0), .int (gS q 1), .int (gS q 2), .int (gS q 3), .int (gS q 4), .int (gS q 5), .int (gS q 6), .int (gS q 7), .ref (at_ 99)] 4 (.int v))) = rO G ad ab at_ q1 := by
  obtain rfl := Option.some.inj h
  rfl
theorem rO_p5 {G : GG} {ad : Nat → Nat} {ab at_ : Nat → Nat} {q q1 : Pic} {v : Int32} (h : some (pS q 5 v) = some q1) : (rO G ad ab at_ q).set 0 (ad 99, .inr (3, List.set [.ref (ab 0), .int (gS q 1), .int (gS q 2), .int (gS q 3), .int (gS q 4), .int (gS q 5), .int (gS q 6), .int (gS q 7), .ref (at_ 99)] 5 (.int v))) = rO G ad ab at_ q1 := by
  obtain rfl := Option.some.inj h
  rfl
theorem rO_p6 {G : GG} {ad : Nat → Nat} {ab at_ : Nat → Nat} {q q1 : Pic} {v : Int32} (h : some (pS q 6 v) = some q1) : (rO G ad ab at_ q).set 0 (ad 99, .inr (3, List.set [.ref (ab 0), .int (gS q 1), .int (gS q 2), .int (gS q 3), .int (gS q 4), .int (gS q 5), .int (gS q 6), .int (gS q 7), .ref (at_ 99)] 6 (.int v))) = rO G ad ab at_ q1 := by
  obtain rfl := Option.some.inj h
  rfl
theorem rO_p7 {G : GG} {ad : Nat → Nat} {ab at_ : Nat → Nat} {q q1 : Pic} {v : Int32} (h : some (pS q 7 v) = some q1) : (rO G ad ab at_ q).set 0 (ad 99, .inr (3, List.set [.ref (ab 0), .int (gS q 1), .int (gS q 2), .int (gS q 3), .int (gS q 4), .int (gS q 5), .int (gS q 6), .int (gS q 7), .ref (at_ 99)] 7 (.int v))) = rO G ad ab at_ q1 := by
  obtain rfl := Option.some.inj h
  rfl
theorem mO_o {G : GG} {ad : Nat → Nat} {as_ ar ac an ath ah : Nat → Nat} {q : Pic} : (mO G ad as_ ar ac an ath ah q)[0]? = some (ad 99, .inr (7, [.ref (ad 0), .int (gS q 1), .int (gS q 2), .int (gS q 3), .int (gS q 4), .int (gS q 5), .ref (as_ 99), .ref (ar 99), .ref (ac 99), .ref (an 299), .ref (ath 99), .ref (ah 99)])) := rfl
theorem mO_f {G : GG} {ad : Nat → Nat} {as_ ar ac an ath ah : Nat → Nat} {q q1 : Pic} : (mO G ad as_ ar ac an ath ah q1).map Prod.fst = (mO G ad as_ ar ac an ath ah q).map Prod.fst := rfl
theorem mO_p1 {G : GG} {ad : Nat → Nat} {as_ ar ac an ath ah : Nat → Nat} {q q1 : Pic} {v : Int32} (h : some (pS q 1 v) = some q1) : (mO G ad as_ ar ac an ath ah q).set 0 (ad 99, .inr (7, List.set [.ref (ad 0), .int (gS q 1), .int (gS q 2), .int (gS q 3), .int (gS q 4), .int (gS q 5), .ref (as_ 99), .ref (ar 99), .ref (ac 99), .ref (an 299), .ref (ath 99), .ref (ah 99)] 1 (.int v))) = mO G ad as_ ar ac an ath ah q1 := by
  obtain rfl := Option.some.inj h
  rfl
theorem mO_p2 {G : GG} {ad : Nat → Nat} {as_ ar ac an ath ah : Nat → Nat} {q q1 : Pic} {v : Int32} (h : some (pS q 2 v) = some q1) : (mO G ad as_ ar ac an ath ah q).set 0 (ad 99, .inr (7, List.set [.ref (ad 0), .int (gS q 1), .int (gS q 2), .int (gS q 3), .int (gS q 4), .int (gS q 5), .ref (as_ 99), .ref (ar 99), .ref (ac 99), .ref (an 299), .ref (ath 99), .ref (ah 99)] 2 (.int v))) = mO G ad as_ ar ac an ath ah q1 := by
  obtain rfl := Option.some.inj h
  rfl
theorem mO_p3 {G : GG} {ad : Nat → Nat} {as_ ar ac an ath ah : Nat → Nat} {q q1 : Pic} {v : Int32} (h : some (pS q 3 v) = some q1) : (mO G ad as_ ar ac an ath ah q).set 0 (ad 99, .inr (7, List.set [.ref (ad 0), .int (gS q 1), .int (gS q 2), .int (gS q 3), .int (gS q 4), .int (gS q 5), .ref (as_ 99), .ref (ar 99), .ref (ac 99), .ref (an 299), .ref (ath 99), .ref (ah 99)] 3 (.int v))) = mO G ad as_ ar ac an ath ah q1 := by
  obtain rfl := Option.some.inj h
  rfl
theorem mO_p4 {G : GG} {ad : Nat → Nat} {as_ ar ac an ath ah : Nat → Nat} {q q1 : Pic} {v : Int32} (h : some (pS q 4 v) = some q1) : (mO G ad as_ ar ac an ath ah q).set 0 (ad 99, .inr (7, List.set [.ref (ad 0), .int (gS q 1), .int (gS q 2), .int (gS q 3), .int (gS q 4), .int (gS q 5), .ref (as_ 99), .ref (ar 99), .ref (ac 99), .ref (an 299), .ref (ath 99), .ref (ah 99)] 4 (.int v))) = mO G ad as_ ar ac an ath ah q1 := by
  obtain rfl := Option.some.inj h
  rfl
theorem mO_p5 {G : GG} {ad : Nat → Nat} {as_ ar ac an ath ah : Nat → Nat} {q q1 : Pic} {v : Int32} (h : some (pS q 5 v) = some q1) : (mO G ad as_ ar ac an ath ah q).set 0 (ad 99, .inr (7, List.set [.ref (ad 0), .int (gS q 1), .int (gS q 2), .int (gS q 3), .int (gS q 4), .int (gS q 5), .ref (as_ 99), .ref (ar 99), .ref (ac 99), .ref (an 299), .ref (ath 99), .ref (ah 99)] 5 (.int v))) = mO G ad as_ ar ac an ath ah q1 := by
  obtain rfl := Option.some.inj h
  rfl
theorem dO_o {G : GG} {ad : Nat → Nat} {q : Pic} {w : Int64} : (dO G ad q w)[0]? = some (ad 99, .inr (8, [.int (gS q 0), .int (gS q 1), .int (gS q 2), .int (gS q 3), .int (gS q 4), .int (gS q 5), .int (gS q 6), .int (gS q 7), .int (gS q 8), .int (gS q 9), .int (gS q 10), .int (gS q 11), .ref (ad 12), .ref (ad 13), .ref (ad 14), .ref (ad 15), .ref (ad 16), .ref (ad 17), .ref (ad 18), .int (gS q 19), .ref (ad 20), .ref (ad 21), .ref (ad 22), .int (gS q 23), .ref (ad 24), .int (gS q 25), .int (gS q 26), .int (gS q 27), .int (gS q 28), .int (gS q 29), .int (gS q 30), .int (gS q 31), .long w, .ref (ad 33), .ref (ad 34), .ref (ad 35), .ref (ad 36), .ref (ad 37), .ref (ad 38), .ref (ad 39), .int (gS q 40), .ref (ad 41), .ref (ad 42), .int (gS q 43)])) := rfl
theorem dO_f {G : GG} {ad : Nat → Nat} {q q1 : Pic} {w : Int64} {w1 : Int64} : (dO G ad q1 w1).map Prod.fst = (dO G ad q w).map Prod.fst := rfl
theorem dO_p0 {G : GG} {ad : Nat → Nat} {q q1 : Pic} {w : Int64} {v : Int32} (h : some (pS q 0 v) = some q1) : (dO G ad q w).set 0 (ad 99, .inr (8, List.set [.int (gS q 0), .int (gS q 1), .int (gS q 2), .int (gS q 3), .int (gS q 4), .int (gS q 5), .int (gS q 6), .int (gS q 7), .int (gS q 8), .int (gS q 9), .int (gS q 10), .int (gS q 11), .ref (ad 12), .ref (ad 13), .ref (ad 14), .ref (ad 15), .ref (ad 16), .ref (ad 17), .ref (ad 18), .int (gS q 19), .ref (ad 20), .ref (ad 21), .ref (ad 22), .int (gS q 23), .ref (ad 24), .int (gS q 25), .int (gS q 26), .int (gS q 27), .int (gS q 28), .int (gS q 29), .int (gS q 30), .int (gS q 31), .long w, .ref (ad 33), .ref (ad 34), .ref (ad 35), .ref (ad 36), .ref (ad 37), .ref (ad 38), .ref (ad 39), .int (gS q 40), .ref (ad 41), .ref (ad 42), .int (gS q 43)] 0 (.int v))) = dO G ad q1 w := by
  obtain rfl := Option.some.inj h
  rfl
theorem dO_p1 {G : GG} {ad : Nat → Nat} {q q1 : Pic} {w : Int64} {v : Int32} (h : some (pS q 1 v) = some q1) : (dO G ad q w).set 0 (ad 99, .inr (8, List.set [.int (gS q 0), .int (gS q 1), .int (gS q 2), .int (gS q 3), .int (gS q 4), .int (gS q 5), .int (gS q 6), .int (gS q 7), .int (gS q 8), .int (gS q 9), .int (gS q 10), .int (gS q 11), .ref (ad 12), .ref (ad 13), .ref (ad 14), .ref (ad 15), .ref (ad 16), .ref (ad 17), .ref (ad 18), .int (gS q 19), .ref (ad 20), .ref (ad 21), .ref (ad 22), .int (gS q 23), .ref (ad 24), .int (gS q 25), .int (gS q 26), .int (gS q 27), .int (gS q 28), .int (gS q 29), .int (gS q 30), .int (gS q 31), .long w, .ref (ad 33), .ref (ad 34), .ref (ad 35), .ref (ad 36), .ref (ad 37), .ref (ad 38), .ref (ad 39), .int (gS q 40), .ref (ad 41), .ref (ad 42), .int (gS q 43)] 1 (.int v))) = dO G ad q1 w := by
  obtain rfl := Option.some.inj h
  rfl
theorem dO_p2 {G : GG} {ad : Nat → Nat} {q q1 : Pic} {w : Int64} {v : Int32} (h : some (pS q 2 v) = some q1) : (dO G ad q w).set 0 (ad 99, .inr (8, List.set [.int (gS q 0), .int (gS q 1), .int (gS q 2), .int (gS q 3), .int (gS q 4), .int (gS q 5), .int (gS q 6), .int (gS q 7), .int (gS q 8), .int (gS q 9), .int (gS q 10), .int (gS q 11), .ref (ad 12), .ref (ad 13), .ref (ad 14), .ref (ad 15), .ref (ad 16), .ref (ad 17), .ref (ad 18), .int (gS q 19), .ref (ad 20), .ref (ad 21), .ref (ad 22), .int (gS q 23), .ref (ad 24), .int (gS q 25), .int (gS q 26), .int (gS q 27), .int (gS q 28), .int (gS q 29), .int (gS q 30), .int (gS q 31), .long w, .ref (ad 33), .ref (ad 34), .ref (ad 35), .ref (ad 36), .ref (ad 37), .ref (ad 38), .ref (ad 39), .int (gS q 40), .ref (ad 41), .ref (ad 42), .int (gS q 43)] 2 (.int v))) = dO G ad q1 w := by
  obtain rfl := Option.some.inj h
  rfl
theorem dO_p3 {G : GG} {ad : Nat → Nat} {q q1 : Pic} {w : Int64} {v : Int32} (h : some (pS q 3 v) = some q1) : (dO G ad q w).set 0 (ad 99, .inr (8, List.set [.int (gS q 0), .int (gS q 1), .int (gS q 2), .int (gS q 3), .int (gS q 4), .int (gS q 5), .int (gS q 6), .int (gS q 7), .int (gS q 8), .int (gS q 9), .int (gS q 10), .int (gS q 11), .ref (ad 12), .ref (ad 13), .ref (ad 14), .ref (ad 15), .ref (ad 16), .ref (ad 17), .ref (ad 18), .int (gS q 19), .ref (ad 20), .ref (ad 21), .ref (ad 22), .int (gS q 23), .ref (ad 24), .int (gS q 25), .int (gS q 26), .int (gS q 27), .int (gS q 28), .int (gS q 29), .int (gS q 30), .int (gS q 31), .long w, .ref (ad 33), .ref (ad 34), .ref (ad 35), .ref (ad 36), .ref (ad 37), .ref (ad 38), .ref (ad 39), .int (gS q 40), .ref (ad 41), .ref (ad 42), .int (gS q 43)] 3 (.int v))) = dO G ad q1 w := by
  obtain rfl := Option.some.inj h
  rfl
theorem dO_p4 {G : GG} {ad : Nat → Nat} {q q1 : Pic} {w : Int64} {v : Int32} (h : some (pS q 4 v) = some q1) : (dO G ad q w).set 0 (ad 99, .inr (8, List.set [.int (gS q 0), .int (gS q 1), .int (gS q 2), .int (gS q 3), .int (gS q 4), .int (gS q 5), .int (gS q 6), .int (gS q 7), .int (gS q 8), .int (gS q 9), .int (gS q 10), .int (gS q 11), .ref (ad 12), .ref (ad 13), .ref (ad 14), .ref (ad 15), .ref (ad 16), .ref (ad 17), .ref (ad 18), .int (gS q 19), .ref (ad 20), .ref (ad 21), .ref (ad 22), .int (gS q 23), .ref (ad 24), .int (gS q 25), .int (gS q 26), .int (gS q 27), .int (gS q 28), .int (gS q 29), .int (gS q 30), .int (gS q 31), .long w, .ref (ad 33), .ref (ad 34), .ref (ad 35), .ref (ad 36), .ref (ad 37), .ref (ad 38), .ref (ad 39), .int (gS q 40), .ref (ad 41), .ref (ad 42), .int (gS q 43)] 4 (.int v))) = dO G ad q1 w := by
  obtain rfl := Option.some.inj h
  rfl
theorem dO_p5 {G : GG} {ad : Nat → Nat} {q q1 : Pic} {w : Int64} {v : Int32} (h : some (pS q 5 v) = some q1) : (dO G ad q w).set 0 (ad 99, .inr (8, List.set [.int (gS q 0), .int (gS q 1), .int (gS q 2), .int (gS q 3), .int (gS q 4), .int (gS q 5), .int (gS q 6), .int (gS q 7), .int (gS q 8), .int (gS q 9), .int (gS q 10), .int (gS q 11), .ref (ad 12), .ref (ad 13), .ref (ad 14), .ref (ad 15), .ref (ad 16), .ref (ad 17), .ref (ad 18), .int (gS q 19), .ref (ad 20), .ref (ad 21), .ref (ad 22), .int (gS q 23), .ref (ad 24), .int (gS q 25), .int (gS q 26), .int (gS q 27), .int (gS q 28), .int (gS q 29), .int (gS q 30), .int (gS q 31), .long w, .ref (ad 33), .ref (ad 34), .ref (ad 35), .ref (ad 36), .ref (ad 37), .ref (ad 38), .ref (ad 39), .int (gS q 40), .ref (ad 41), .ref (ad 42), .int (gS q 43)] 5 (.int v))) = dO G ad q1 w := by
  obtain rfl := Option.some.inj h
  rfl
theorem dO_p6 {G : GG} {ad : Nat → Nat} {q q1 : Pic} {w : Int64} {v : Int32} (h : some (pS q 6 v) = some q1) : (dO G ad q w).set 0 (ad 99, .inr (8, List.set [.int (gS q 0), .int (gS q 1), .int (gS q 2), .int (gS q 3), .int (gS q 4), .int (gS q 5), .int (gS q 6), .int (gS q 7), .int (gS q 8), .int (gS q 9), .int (gS q 10), .int (gS q 11), .ref (ad 12), .ref (ad 13), .ref (ad 14), .ref (ad 15), .ref (ad 16), .ref (ad 17), .ref (ad 18), .int (gS q 19), .ref (ad 20), .ref (ad 21), .ref (ad 22), .int (gS q 23), .ref (ad 24), .int (gS q 25), .int (gS q 26), .int (gS q 27), .int (gS q 28), .int (gS q 29), .int (gS q 30), .int (gS q 31), .long w, .ref (ad 33), .ref (ad 34), .ref (ad 35), .ref (ad 36), .ref (ad 37), .ref (ad 38), .ref (ad 39), .int (gS q 40), .ref (ad 41), .ref (ad 42), .int (gS q 43)] 6 (.int v))) = dO G ad q1 w := by
  obtain rfl := Option.some.inj h
  rfl
theorem dO_p7 {G : GG} {ad : Nat → Nat} {q q1 : Pic} {w : Int64} {v : Int32} (h : some (pS q 7 v) = some q1) : (dO G ad q w).set 0 (ad 99, .inr (8, List.set [.int (gS q 0), .int (gS q 1), .int (gS q 2), .int (gS q 3), .int (gS q 4), .int (gS q 5), .int (gS q 6), .int (gS q 7), .int (gS q 8), .int (gS q 9), .int (gS q 10), .int (gS q 11), .ref (ad 12), .ref (ad 13), .ref (ad 14), .ref (ad 15), .ref (ad 16), .ref (ad 17), .ref (ad 18), .int (gS q 19), .ref (ad 20), .ref (ad 21), .ref (ad 22), .int (gS q 23), .ref (ad 24), .int (gS q 25), .int (gS q 26), .int (gS q 27), .int (gS q 28), .int (gS q 29), .int (gS q 30), .int (gS q 31), .long w, .ref (ad 33), .ref (ad 34), .ref (ad 35), .ref (ad 36), .ref (ad 37), .ref (ad 38), .ref (ad 39), .int (gS q 40), .ref (ad 41), .ref (ad 42), .int (gS q 43)] 7 (.int v))) = dO G ad q1 w := by
  obtain rfl := Option.some.inj h
  rfl
theorem dO_p8 {G : GG} {ad : Nat → Nat} {q q1 : Pic} {w : Int64} {v : Int32} (h : some (pS q 8 v) = some q1) : (dO G ad q w).set 0 (ad 99, .inr (8, List.set [.int (gS q 0), .int (gS q 1), .int (gS q 2), .int (gS q 3), .int (gS q 4), .int (gS q 5), .int (gS q 6), .int (gS q 7), .int (gS q 8), .int (gS q 9), .int (gS q 10), .int (gS q 11), .ref (ad 12), .ref (ad 13), .ref (ad 14), .ref (ad 15), .ref (ad 16), .ref (ad 17), .ref (ad 18), .int (gS q 19), .ref (ad 20), .ref (ad 21), .ref (ad 22), .int (gS q 23), .ref (ad 24), .int (gS q 25), .int (gS q 26), .int (gS q 27), .int (gS q 28), .int (gS q 29), .int (gS q 30), .int (gS q 31), .long w, .ref (ad 33), .ref (ad 34), .ref (ad 35), .ref (ad 36), .ref (ad 37), .ref (ad 38), .ref (ad 39), .int (gS q 40), .ref (ad 41), .ref (ad 42), .int (gS q 43)] 8 (.int v))) = dO G ad q1 w := by
  obtain rfl := Option.some.inj h
  rfl
theorem dO_p9 {G : GG} {ad : Nat → Nat} {q q1 : Pic} {w : Int64} {v : Int32} (h : some (pS q 9 v) = some q1) : (dO G ad q w).set 0 (ad 99, .inr (8, List.set [.int (gS q 0), .int (gS q 1), .int (gS q 2), .int (gS q 3), .int (gS q 4), .int (gS q 5), .int (gS q 6), .int (gS q 7), .int (gS q 8), .int (gS q 9), .int (gS q 10), .int (gS q 11), .ref (ad 12), .ref (ad 13), .ref (ad 14), .ref (ad 15), .ref (ad 16), .ref (ad 17), .ref (ad 18), .int (gS q 19), .ref (ad 20), .ref (ad 21), .ref (ad 22), .int (gS q 23), .ref (ad 24), .int (gS q 25), .int (gS q 26), .int (gS q 27), .int (gS q 28), .int (gS q 29), .int (gS q 30), .int (gS q 31), .long w, .ref (ad 33), .ref (ad 34), .ref (ad 35), .ref (ad 36), .ref (ad 37), .ref (ad 38), .ref (ad 39), .int (gS q 40), .ref (ad 41), .ref (ad 42), .int (gS q 43)] 9 (.int v))) = dO G ad q1 w := by
  obtain rfl := Option.some.inj h
  rfl
theorem dO_p10 {G : GG} {ad : Nat → Nat} {q q1 : Pic} {w : Int64} {v : Int32} (h : some (pS q 10 v) = some q1) : (dO G ad q w).set 0 (ad 99, .inr (8, List.set [.int (gS q 0), .int (gS q 1), .int (gS q 2), .int (gS q 3), .int (gS q 4), .int (gS q 5), .int (gS q 6), .int (gS q 7), .int (gS q 8), .int (gS q 9), .int (gS q 10), .int (gS q 11), .ref (ad 12), .ref (ad 13), .ref (ad 14), .ref (ad 15), .ref (ad 16), .ref (ad 17), .ref (ad 18), .int (gS q 19), .ref (ad 20), .ref (ad 21), .ref (ad 22), .int (gS q 23), .ref (ad 24), .int (gS q 25), .int (gS q 26), .int (gS q 27), .int (gS q 28), .int (gS q 29), .int (gS q 30), .int (gS q 31), .long w, .ref (ad 33), .ref (ad 34), .ref (ad 35), .ref (ad 36), .ref (ad 37), .ref (ad 38), .ref (ad 39), .int (gS q 40), .ref (ad 41), .ref (ad 42), .int (gS q 43)] 10 (.int v))) = dO G ad q1 w := by
  obtain rfl := Option.some.inj h
  rfl
theorem dO_p11 {G : GG} {ad : Nat → Nat} {q q1 : Pic} {w : Int64} {v : Int32} (h : some (pS q 11 v) = some q1) : (dO G ad q w).set 0 (ad 99, .inr (8, List.set [.int (gS q 0), .int (gS q 1), .int (gS q 2), .int (gS q 3), .int (gS q 4), .int (gS q 5), .int (gS q 6), .int (gS q 7), .int (gS q 8), .int (gS q 9), .int (gS q 10), .int (gS q 11), .ref (ad 12), .ref (ad 13), .ref (ad 14), .ref (ad 15), .ref (ad 16), .ref (ad 17), .ref (ad 18), .int (gS q 19), .ref (ad 20), .ref (ad 21), .ref (ad 22), .int (gS q 23), .ref (ad 24), .int (gS q 25), .int (gS q 26), .int (gS q 27), .int (gS q 28), .int (gS q 29), .int (gS q 30), .int (gS q 31), .long w, .ref (ad 33), .ref (ad 34), .ref (ad 35), .ref (ad 36), .ref (ad 37), .ref (ad 38), .ref (ad 39), .int (gS q 40), .ref (ad 41), .ref (ad 42), .int (gS q 43)] 11 (.int v))) = dO G ad q1 w := by
  obtain rfl := Option.some.inj h
  rfl
theorem dO_p19 {G : GG} {ad : Nat → Nat} {q q1 : Pic} {w : Int64} {v : Int32} (h : some (pS q 19 v) = some q1) : (dO G ad q w).set 0 (ad 99, .inr (8, List.set [.int (gS q 0), .int (gS q 1), .int (gS q 2), .int (gS q 3), .int (gS q 4), .int (gS q 5), .int (gS q 6), .int (gS q 7), .int (gS q 8), .int (gS q 9), .int (gS q 10), .int (gS q 11), .ref (ad 12), .ref (ad 13), .ref (ad 14), .ref (ad 15), .ref (ad 16), .ref (ad 17), .ref (ad 18), .int (gS q 19), .ref (ad 20), .ref (ad 21), .ref (ad 22), .int (gS q 23), .ref (ad 24), .int (gS q 25), .int (gS q 26), .int (gS q 27), .int (gS q 28), .int (gS q 29), .int (gS q 30), .int (gS q 31), .long w, .ref (ad 33), .ref (ad 34), .ref (ad 35), .ref (ad 36), .ref (ad 37), .ref (ad 38), .ref (ad 39), .int (gS q 40), .ref (ad 41), .ref (ad 42), .int (gS q 43)] 19 (.int v))) = dO G ad q1 w := by
  obtain rfl := Option.some.inj h
  rfl
theorem dO_p23 {G : GG} {ad : Nat → Nat} {q q1 : Pic} {w : Int64} {v : Int32} (h : some (pS q 23 v) = some q1) : (dO G ad q w).set 0 (ad 99, .inr (8, List.set [.int (gS q 0), .int (gS q 1), .int (gS q 2), .int (gS q 3), .int (gS q 4), .int (gS q 5), .int (gS q 6), .int (gS q 7), .int (gS q 8), .int (gS q 9), .int (gS q 10), .int (gS q 11), .ref (ad 12), .ref (ad 13), .ref (ad 14), .ref (ad 15), .ref (ad 16), .ref (ad 17), .ref (ad 18), .int (gS q 19), .ref (ad 20), .ref (ad 21), .ref (ad 22), .int (gS q 23), .ref (ad 24), .int (gS q 25), .int (gS q 26), .int (gS q 27), .int (gS q 28), .int (gS q 29), .int (gS q 30), .int (gS q 31), .long w, .ref (ad 33), .ref (ad 34), .ref (ad 35), .ref (ad 36), .ref (ad 37), .ref (ad 38), .ref (ad 39), .int (gS q 40), .ref (ad 41), .ref (ad 42), .int (gS q 43)] 23 (.int v))) = dO G ad q1 w := by
  obtain rfl := Option.some.inj h
  rfl
theorem dO_p25 {G : GG} {ad : Nat → Nat} {q q1 : Pic} {w : Int64} {v : Int32} (h : some (pS q 25 v) = some q1) : (dO G ad q w).set 0 (ad 99, .inr (8, List.set [.int (gS q 0), .int (gS q 1), .int (gS q 2), .int (gS q 3), .int (gS q 4), .int (gS q 5), .int (gS q 6), .int (gS q 7), .int (gS q 8), .int (gS q 9), .int (gS q 10), .int (gS q 11), .ref (ad 12), .ref (ad 13), .ref (ad 14), .ref (ad 15), .ref (ad 16), .ref (ad 17), .ref (ad 18), .int (gS q 19), .ref (ad 20), .ref (ad 21), .ref (ad 22), .int (gS q 23), .ref (ad 24), .int (gS q 25), .int (gS q 26), .int (gS q 27), .int (gS q 28), .int (gS q 29), .int (gS q 30), .int (gS q 31), .long w, .ref (ad 33), .ref (ad 34), .ref (ad 35), .ref (ad 36), .ref (ad 37), .ref (ad 38), .ref (ad 39), .int (gS q 40), .ref (ad 41), .ref (ad 42), .int (gS q 43)] 25 (.int v))) = dO G ad q1 w := by
  obtain rfl := Option.some.inj h
  rfl
theorem dO_p26 {G : GG} {ad : Nat → Nat} {q q1 : Pic} {w : Int64} {v : Int32} (h : some (pS q 26 v) = some q1) : (dO G ad q w).set 0 (ad 99, .inr (8, List.set [.int (gS q 0), .int (gS q 1), .int (gS q 2), .int (gS q 3), .int (gS q 4), .int (gS q 5), .int (gS q 6), .int (gS q 7), .int (gS q 8), .int (gS q 9), .int (gS q 10), .int (gS q 11), .ref (ad 12), .ref (ad 13), .ref (ad 14), .ref (ad 15), .ref (ad 16), .ref (ad 17), .ref (ad 18), .int (gS q 19), .ref (ad 20), .ref (ad 21), .ref (ad 22), .int (gS q 23), .ref (ad 24), .int (gS q 25), .int (gS q 26), .int (gS q 27), .int (gS q 28), .int (gS q 29), .int (gS q 30), .int (gS q 31), .long w, .ref (ad 33), .ref (ad 34), .ref (ad 35), .ref (ad 36), .ref (ad 37), .ref (ad 38), .ref (ad 39), .int (gS q 40), .ref (ad 41), .ref (ad 42), .int (gS q 43)] 26 (.int v))) = dO G ad q1 w := by
  obtain rfl := Option.some.inj h
  rfl
theorem dO_p27 {G : GG} {ad : Nat → Nat} {q q1 : Pic} {w : Int64} {v : Int32} (h : some (pS q 27 v) = some q1) : (dO G ad q w).set 0 (ad 99, .inr (8, List.set [.int (gS q 0), .int (gS q 1), .int (gS q 2), .int (gS q 3), .int (gS q 4), .int (gS q 5), .int (gS q 6), .int (gS q 7), .int (gS q 8), .int (gS q 9), .int (gS q 10), .int (gS q 11), .ref (ad 12), .ref (ad 13), .ref (ad 14), .ref (ad 15), .ref (ad 16), .ref (ad 17), .ref (ad 18), .int (gS q 19), .ref (ad 20), .ref (ad 21), .ref (ad 22), .int (gS q 23), .ref (ad 24), .int (gS q 25), .int (gS q 26), .int (gS q 27), .int (gS q 28), .int (gS q 29), .int (gS q 30), .int (gS q 31), .long w, .ref (ad 33), .ref (ad 34), .ref (ad 35), .ref (ad 36), .ref (ad 37), .ref (ad 38), .ref (ad 39), .int (gS q 40), .ref (ad 41), .ref (ad 42), .int (gS q 43)] 27 (.int v))) = dO G ad q1 w := by
  obtain rfl := Option.some.inj h
  rfl
theorem dO_p28 {G : GG} {ad : Nat → Nat} {q q1 : Pic} {w : Int64} {v : Int32} (h : some (pS q 28 v) = some q1) : (dO G ad q w).set 0 (ad 99, .inr (8, List.set [.int (gS q 0), .int (gS q 1), .int (gS q 2), .int (gS q 3), .int (gS q 4), .int (gS q 5), .int (gS q 6), .int (gS q 7), .int (gS q 8), .int (gS q 9), .int (gS q 10), .int (gS q 11), .ref (ad 12), .ref (ad 13), .ref (ad 14), .ref (ad 15), .ref (ad 16), .ref (ad 17), .ref (ad 18), .int (gS q 19), .ref (ad 20), .ref (ad 21), .ref (ad 22), .int (gS q 23), .ref (ad 24), .int (gS q 25), .int (gS q 26), .int (gS q 27), .int (gS q 28), .int (gS q 29), .int (gS q 30), .int (gS q 31), .long w, .ref (ad 33), .ref (ad 34), .ref (ad 35), .ref (ad 36), .ref (ad 37), .ref (ad 38), .ref (ad 39), .int (gS q 40), .ref (ad 41), .ref (ad 42), .int (gS q 43)] 28 (.int v))) = dO G ad q1 w := by
  obtain rfl := Option.some.inj h
  rfl
theorem dO_p29 {G : GG} {ad : Nat → Nat} {q q1 : Pic} {w : Int64} {v : Int32} (h : some (pS q 29 v) = some q1) : (dO G ad q w).set 0 (ad 99, .inr (8, List.set [.int (gS q 0), .int (gS q 1), .int (gS q 2), .int (gS q 3), .int (gS q 4), .int (gS q 5), .int (gS q 6), .int (gS q 7), .int (gS q 8), .int (gS q 9), .int (gS q 10), .int (gS q 11), .ref (ad 12), .ref (ad 13), .ref (ad 14), .ref (ad 15), .ref (ad 16), .ref (ad 17), .ref (ad 18), .int (gS q 19), .ref (ad 20), .ref (ad 21), .ref (ad 22), .int (gS q 23), .ref (ad 24), .int (gS q 25), .int (gS q 26), .int (gS q 27), .int (gS q 28), .int (gS q 29), .int (gS q 30), .int (gS q 31), .long w, .ref (ad 33), .ref (ad 34), .ref (ad 35), .ref (ad 36), .ref (ad 37), .ref (ad 38), .ref (ad 39), .int (gS q 40), .ref (ad 41), .ref (ad 42), .int (gS q 43)] 29 (.int v))) = dO G ad q1 w := by
  obtain rfl := Option.some.inj h
  rfl
theorem dO_p30 {G : GG} {ad : Nat → Nat} {q q1 : Pic} {w : Int64} {v : Int32} (h : some (pS q 30 v) = some q1) : (dO G ad q w).set 0 (ad 99, .inr (8, List.set [.int (gS q 0), .int (gS q 1), .int (gS q 2), .int (gS q 3), .int (gS q 4), .int (gS q 5), .int (gS q 6), .int (gS q 7), .int (gS q 8), .int (gS q 9), .int (gS q 10), .int (gS q 11), .ref (ad 12), .ref (ad 13), .ref (ad 14), .ref (ad 15), .ref (ad 16), .ref (ad 17), .ref (ad 18), .int (gS q 19), .ref (ad 20), .ref (ad 21), .ref (ad 22), .int (gS q 23), .ref (ad 24), .int (gS q 25), .int (gS q 26), .int (gS q 27), .int (gS q 28), .int (gS q 29), .int (gS q 30), .int (gS q 31), .long w, .ref (ad 33), .ref (ad 34), .ref (ad 35), .ref (ad 36), .ref (ad 37), .ref (ad 38), .ref (ad 39), .int (gS q 40), .ref (ad 41), .ref (ad 42), .int (gS q 43)] 30 (.int v))) = dO G ad q1 w := by
  obtain rfl := Option.some.inj h
  rfl
theorem dO_p31 {G : GG} {ad : Nat → Nat} {q q1 : Pic} {w : Int64} {v : Int32} (h : some (pS q 31 v) = some q1) : (dO G ad q w).set 0 (ad 99, .inr (8, List.set [.int (gS q 0), .int (gS q 1), .int (gS q 2), .int (gS q 3), .int (gS q 4), .int (gS q 5), .int (gS q 6), .int (gS q 7), .int (gS q 8), .int (gS q 9), .int (gS q 10), .int (gS q 11), .ref (ad 12), .ref (ad 13), .ref (ad 14), .ref (ad 15), .ref (ad 16), .ref (ad 17), .ref (ad 18), .int (gS q 19), .ref (ad 20), .ref (ad 21), .ref (ad 22), .int (gS q 23), .ref (ad 24), .int (gS q 25), .int (gS q 26), .int (gS q 27), .int (gS q 28), .int (gS q 29), .int (gS q 30), .int (gS q 31), .long w, .ref (ad 33), .ref (ad 34), .ref (ad 35), .ref (ad 36), .ref (ad 37), .ref (ad 38), .ref (ad 39), .int (gS q 40), .ref (ad 41), .ref (ad 42), .int (gS q 43)] 31 (.int v))) = dO G ad q1 w := by
  obtain rfl := Option.some.inj h
  rfl
theorem dO_p32 {G : GG} {ad : Nat → Nat} {q : Pic} {w : Int64} {w1 v : Int64} (h : some v = some w1) : (dO G ad q w).set 0 (ad 99, .inr (8, List.set [.int (gS q 0), .int (gS q 1), .int (gS q 2), .int (gS q 3), .int (gS q 4), .int (gS q 5), .int (gS q 6), .int (gS q 7), .int (gS q 8), .int (gS q 9), .int (gS q 10), .int (gS q 11), .ref (ad 12), .ref (ad 13), .ref (ad 14), .ref (ad 15), .ref (ad 16), .ref (ad 17), .ref (ad 18), .int (gS q 19), .ref (ad 20), .ref (ad 21), .ref (ad 22), .int (gS q 23), .ref (ad 24), .int (gS q 25), .int (gS q 26), .int (gS q 27), .int (gS q 28), .int (gS q 29), .int (gS q 30), .int (gS q 31), .long w, .ref (ad 33), .ref (ad 34), .ref (ad 35), .ref (ad 36), .ref (ad 37), .ref (ad 38), .ref (ad 39), .int (gS q 40), .ref (ad 41), .ref (ad 42), .int (gS q 43)] 32 (.long v))) = dO G ad q w1 := by
  obtain rfl := Option.some.inj h
  rfl
theorem dO_p40 {G : GG} {ad : Nat → Nat} {q q1 : Pic} {w : Int64} {v : Int32} (h : some (pS q 40 v) = some q1) : (dO G ad q w).set 0 (ad 99, .inr (8, List.set [.int (gS q 0), .int (gS q 1), .int (gS q 2), .int (gS q 3), .int (gS q 4), .int (gS q 5), .int (gS q 6), .int (gS q 7), .int (gS q 8), .int (gS q 9), .int (gS q 10), .int (gS q 11), .ref (ad 12), .ref (ad 13), .ref (ad 14), .ref (ad 15), .ref (ad 16), .ref (ad 17), .ref (ad 18), .int (gS q 19), .ref (ad 20), .ref (ad 21), .ref (ad 22), .int (gS q 23), .ref (ad 24), .int (gS q 25), .int (gS q 26), .int (gS q 27), .int (gS q 28), .int (gS q 29), .int (gS q 30), .int (gS q 31), .long w, .ref (ad 33), .ref (ad 34), .ref (ad 35), .ref (ad 36), .ref (ad 37), .ref (ad 38), .ref (ad 39), .int (gS q 40), .ref (ad 41), .ref (ad 42), .int (gS q 43)] 40 (.int v))) = dO G ad q1 w := by
  obtain rfl := Option.some.inj h
  rfl
theorem dO_p43 {G : GG} {ad : Nat → Nat} {q q1 : Pic} {w : Int64} {v : Int32} (h : some (pS q 43 v) = some q1) : (dO G ad q w).set 0 (ad 99, .inr (8, List.set [.int (gS q 0), .int (gS q 1), .int (gS q 2), .int (gS q 3), .int (gS q 4), .int (gS q 5), .int (gS q 6), .int (gS q 7), .int (gS q 8), .int (gS q 9), .int (gS q 10), .int (gS q 11), .ref (ad 12), .ref (ad 13), .ref (ad 14), .ref (ad 15), .ref (ad 16), .ref (ad 17), .ref (ad 18), .int (gS q 19), .ref (ad 20), .ref (ad 21), .ref (ad 22), .int (gS q 23), .ref (ad 24), .int (gS q 25), .int (gS q 26), .int (gS q 27), .int (gS q 28), .int (gS q 29), .int (gS q 30), .int (gS q 31), .long w, .ref (ad 33), .ref (ad 34), .ref (ad 35), .ref (ad 36), .ref (ad 37), .ref (ad 38), .ref (ad 39), .int (gS q 40), .ref (ad 41), .ref (ad 42), .int (gS q 43)] 43 (.int v))) = dO G ad q1 w := by
  obtain rfl := Option.some.inj h
  rfl
theorem dO_g12 {G : GG} {ad : Nat → Nat} {q : Pic} {w : Int64} : (dO G ad q w)[1]? = some (ad 12, .inl (G.2.1, 24, .inl (q.2 12))) := rfl
theorem dO_s12 {G : GG} {ad : Nat → Nat} {q q1 : Pic} {w : Int64} {f : Nat → Int32} (h : q1 = (q.1, va_up q.2 12 f)) : (dO G ad q w).set 1 (ad 12, .inl (G.2.1, 24, .inl f)) = dO G ad q1 w := by
  subst h
  rfl
theorem dO_g13 {G : GG} {ad : Nat → Nat} {q : Pic} {w : Int64} : (dO G ad q w)[2]? = some (ad 13, .inl (G.2.1, 24, .inl (q.2 13))) := rfl
theorem dO_s13 {G : GG} {ad : Nat → Nat} {q q1 : Pic} {w : Int64} {f : Nat → Int32} (h : q1 = (q.1, va_up q.2 13 f)) : (dO G ad q w).set 2 (ad 13, .inl (G.2.1, 24, .inl f)) = dO G ad q1 w := by
  subst h
  rfl
theorem dO_g14 {G : GG} {ad : Nat → Nat} {q : Pic} {w : Int64} : (dO G ad q w)[3]? = some (ad 14, .inl (G.2.1, 24, .inl (q.2 14))) := rfl
theorem dO_s14 {G : GG} {ad : Nat → Nat} {q q1 : Pic} {w : Int64} {f : Nat → Int32} (h : q1 = (q.1, va_up q.2 14 f)) : (dO G ad q w).set 3 (ad 14, .inl (G.2.1, 24, .inl f)) = dO G ad q1 w := by
  subst h
  rfl
theorem dO_g15 {G : GG} {ad : Nat → Nat} {q : Pic} {w : Int64} : (dO G ad q w)[4]? = some (ad 15, .inl (G.2.1, 24, .inl (q.2 15))) := rfl
theorem dO_s15 {G : GG} {ad : Nat → Nat} {q q1 : Pic} {w : Int64} {f : Nat → Int32} (h : q1 = (q.1, va_up q.2 15 f)) : (dO G ad q w).set 4 (ad 15, .inl (G.2.1, 24, .inl f)) = dO G ad q1 w := by
  subst h
  rfl
theorem dO_g16 {G : GG} {ad : Nat → Nat} {q : Pic} {w : Int64} : (dO G ad q w)[5]? = some (ad 16, .inl (G.2.1, 24, .inl (q.2 16))) := rfl
theorem dO_s16 {G : GG} {ad : Nat → Nat} {q q1 : Pic} {w : Int64} {f : Nat → Int32} (h : q1 = (q.1, va_up q.2 16 f)) : (dO G ad q w).set 5 (ad 16, .inl (G.2.1, 24, .inl f)) = dO G ad q1 w := by
  subst h
  rfl
theorem dO_g17 {G : GG} {ad : Nat → Nat} {q : Pic} {w : Int64} : (dO G ad q w)[6]? = some (ad 17, .inl (G.2.1, 24, .inl (q.2 17))) := rfl
theorem dO_s17 {G : GG} {ad : Nat → Nat} {q q1 : Pic} {w : Int64} {f : Nat → Int32} (h : q1 = (q.1, va_up q.2 17 f)) : (dO G ad q w).set 6 (ad 17, .inl (G.2.1, 24, .inl f)) = dO G ad q1 w := by
  subst h
  rfl
theorem dO_g18 {G : GG} {ad : Nat → Nat} {q : Pic} {w : Int64} : (dO G ad q w)[7]? = some (ad 18, .inl (G.2.1, 160, .inl (q.2 18))) := rfl
theorem dO_s18 {G : GG} {ad : Nat → Nat} {q q1 : Pic} {w : Int64} {f : Nat → Int32} (h : q1 = (q.1, va_up q.2 18 f)) : (dO G ad q w).set 7 (ad 18, .inl (G.2.1, 160, .inl f)) = dO G ad q1 w := by
  subst h
  rfl
theorem dO_g20 {G : GG} {ad : Nat → Nat} {q : Pic} {w : Int64} : (dO G ad q w)[8]? = some (ad 20, .inl (G.2.1, 1234, .inl (q.2 20))) := rfl
theorem dO_s20 {G : GG} {ad : Nat → Nat} {q q1 : Pic} {w : Int64} {f : Nat → Int32} (h : q1 = (q.1, va_up q.2 20 f)) : (dO G ad q w).set 8 (ad 20, .inl (G.2.1, 1234, .inl f)) = dO G ad q1 w := by
  subst h
  rfl
theorem dO_g21 {G : GG} {ad : Nat → Nat} {q : Pic} {w : Int64} : (dO G ad q w)[9]? = some (ad 21, .inl (G.2.1, 1234, .inl (q.2 21))) := rfl
theorem dO_s21 {G : GG} {ad : Nat → Nat} {q q1 : Pic} {w : Int64} {f : Nat → Int32} (h : q1 = (q.1, va_up q.2 21 f)) : (dO G ad q w).set 9 (ad 21, .inl (G.2.1, 1234, .inl f)) = dO G ad q1 w := by
  subst h
  rfl
theorem dO_g22 {G : GG} {ad : Nat → Nat} {q : Pic} {w : Int64} : (dO G ad q w)[10]? = some (ad 22, .inl (G.2.1, 12340, .inl (q.2 22))) := rfl
theorem dO_s22 {G : GG} {ad : Nat → Nat} {q q1 : Pic} {w : Int64} {f : Nat → Int32} (h : q1 = (q.1, va_up q.2 22 f)) : (dO G ad q w).set 10 (ad 22, .inl (G.2.1, 12340, .inl f)) = dO G ad q1 w := by
  subst h
  rfl
theorem dO_g24 {G : GG} {ad : Nat → Nat} {q : Pic} {w : Int64} : (dO G ad q w)[11]? = some (ad 24, .inl (G.2.2.1, 900, .inl (q.2 24))) := rfl
theorem dO_s24 {G : GG} {ad : Nat → Nat} {q q1 : Pic} {w : Int64} {f : Nat → Int32} (h : q1 = (q.1, va_up q.2 24 f)) : (dO G ad q w).set 11 (ad 24, .inl (G.2.2.1, 900, .inl f)) = dO G ad q1 w := by
  subst h
  rfl
theorem dO_g33 {G : GG} {ad : Nat → Nat} {q : Pic} {w : Int64} : (dO G ad q w)[12]? = some (ad 33, .inl (G.2.1, 16, .inl (q.2 33))) := rfl
theorem dO_s33 {G : GG} {ad : Nat → Nat} {q q1 : Pic} {w : Int64} {f : Nat → Int32} (h : q1 = (q.1, va_up q.2 33 f)) : (dO G ad q w).set 12 (ad 33, .inl (G.2.1, 16, .inl f)) = dO G ad q1 w := by
  subst h
  rfl
theorem dO_g34 {G : GG} {ad : Nat → Nat} {q : Pic} {w : Int64} : (dO G ad q w)[13]? = some (ad 34, .inl (G.2.1, 17, .inl (q.2 34))) := rfl
theorem dO_s34 {G : GG} {ad : Nat → Nat} {q q1 : Pic} {w : Int64} {f : Nat → Int32} (h : q1 = (q.1, va_up q.2 34 f)) : (dO G ad q w).set 13 (ad 34, .inl (G.2.1, 17, .inl f)) = dO G ad q1 w := by
  subst h
  rfl
theorem dO_g35 {G : GG} {ad : Nat → Nat} {q : Pic} {w : Int64} : (dO G ad q w)[14]? = some (ad 35, .inl (G.2.1, 17, .inl (q.2 35))) := rfl
theorem dO_s35 {G : GG} {ad : Nat → Nat} {q q1 : Pic} {w : Int64} {f : Nat → Int32} (h : q1 = (q.1, va_up q.2 35 f)) : (dO G ad q w).set 14 (ad 35, .inl (G.2.1, 17, .inl f)) = dO G ad q1 w := by
  subst h
  rfl
theorem dO_g36 {G : GG} {ad : Nat → Nat} {q : Pic} {w : Int64} : (dO G ad q w)[15]? = some (ad 36, .inl (G.2.1, 16, .inl (q.2 36))) := rfl
theorem dO_s36 {G : GG} {ad : Nat → Nat} {q q1 : Pic} {w : Int64} {f : Nat → Int32} (h : q1 = (q.1, va_up q.2 36 f)) : (dO G ad q w).set 15 (ad 36, .inl (G.2.1, 16, .inl f)) = dO G ad q1 w := by
  subst h
  rfl
theorem dO_g37 {G : GG} {ad : Nat → Nat} {q : Pic} {w : Int64} : (dO G ad q w)[16]? = some (ad 37, .inl (G.2.1, 16, .inl (q.2 37))) := rfl
theorem dO_s37 {G : GG} {ad : Nat → Nat} {q q1 : Pic} {w : Int64} {f : Nat → Int32} (h : q1 = (q.1, va_up q.2 37 f)) : (dO G ad q w).set 16 (ad 37, .inl (G.2.1, 16, .inl f)) = dO G ad q1 w := by
  subst h
  rfl
theorem dO_g38 {G : GG} {ad : Nat → Nat} {q : Pic} {w : Int64} : (dO G ad q w)[17]? = some (ad 38, .inl (G.2.1, 16, .inl (q.2 38))) := rfl
theorem dO_s38 {G : GG} {ad : Nat → Nat} {q q1 : Pic} {w : Int64} {f : Nat → Int32} (h : q1 = (q.1, va_up q.2 38 f)) : (dO G ad q w).set 17 (ad 38, .inl (G.2.1, 16, .inl f)) = dO G ad q1 w := by
  subst h
  rfl
theorem dO_g39 {G : GG} {ad : Nat → Nat} {q : Pic} {w : Int64} : (dO G ad q w)[18]? = some (ad 39, .inl (G.2.1, 16, .inl (q.2 39))) := rfl
theorem dO_s39 {G : GG} {ad : Nat → Nat} {q q1 : Pic} {w : Int64} {f : Nat → Int32} (h : q1 = (q.1, va_up q.2 39 f)) : (dO G ad q w).set 18 (ad 39, .inl (G.2.1, 16, .inl f)) = dO G ad q1 w := by
  subst h
  rfl
theorem dO_g41 {G : GG} {ad : Nat → Nat} {q : Pic} {w : Int64} : (dO G ad q w)[19]? = some (ad 41, .inl (G.2.1, 10, .inl (q.2 41))) := rfl
theorem dO_s41 {G : GG} {ad : Nat → Nat} {q q1 : Pic} {w : Int64} {f : Nat → Int32} (h : q1 = (q.1, va_up q.2 41 f)) : (dO G ad q w).set 19 (ad 41, .inl (G.2.1, 10, .inl f)) = dO G ad q1 w := by
  subst h
  rfl
theorem dO_g42 {G : GG} {ad : Nat → Nat} {q : Pic} {w : Int64} : (dO G ad q w)[20]? = some (ad 42, .inl (G.2.1, 31, .inl (q.2 42))) := rfl
theorem dO_s42 {G : GG} {ad : Nat → Nat} {q q1 : Pic} {w : Int64} {f : Nat → Int32} (h : q1 = (q.1, va_up q.2 42 f)) : (dO G ad q w).set 20 (ad 42, .inl (G.2.1, 31, .inl f)) = dO G ad q1 w := by
  subst h
  rfl
theorem hO_o {G : GG} {ad : Nat → Nat} {rg : Nat → Option Nat} {q : Pic} : (hO G ad rg q)[0]? = some (ad 99, .inr (1, [.ref (ad 0), .int (gS q 1), .int (gS q 2)])) := rfl
theorem hO_f {G : GG} {ad : Nat → Nat} {rg : Nat → Option Nat} {q q1 : Pic} : (hO G ad rg q1).map Prod.fst = (hO G ad rg q).map Prod.fst := rfl
theorem hO_p1 {G : GG} {ad : Nat → Nat} {rg : Nat → Option Nat} {q q1 : Pic} {v : Int32} (h : some (pS q 1 v) = some q1) : (hO G ad rg q).set 0 (ad 99, .inr (1, List.set [.ref (ad 0), .int (gS q 1), .int (gS q 2)] 1 (.int v))) = hO G ad rg q1 := by
  obtain rfl := Option.some.inj h
  rfl
theorem hO_p2 {G : GG} {ad : Nat → Nat} {rg : Nat → Option Nat} {q q1 : Pic} {v : Int32} (h : some (pS q 2 v) = some q1) : (hO G ad rg q).set 0 (ad 99, .inr (1, List.set [.ref (ad 0), .int (gS q 1), .int (gS q 2)] 2 (.int v))) = hO G ad rg q1 := by
  obtain rfl := Option.some.inj h
  rfl
theorem bO_g0 {G : GG} {ad : Nat → Nat} {q : Pic} : (bO G ad q)[0]? = some (ad 0, .inl (G.2.1, 900, .inl (q.2 0))) := rfl
theorem bO_s0 {G : GG} {ad : Nat → Nat} {q q1 : Pic} {f : Nat → Int32} (h : q1 = (q.1, va_up q.2 0 f)) : (bO G ad q).set 0 (ad 0, .inl (G.2.1, 900, .inl f)) = bO G ad q1 := by
  subst h
  rfl
theorem bO_f {G : GG} {ad : Nat → Nat} {q q1 : Pic} : (bO G ad q1).map Prod.fst = (bO G ad q).map Prod.fst := rfl
theorem eO_g0 {G : GG} {ad : Nat → Nat} {q : Pic} : (eO G ad q)[0]? = some (ad 200, .inl (G.2.1, 160, .inl (q.2 0))) := rfl
theorem eO_s0 {G : GG} {ad : Nat → Nat} {q q1 : Pic} {f : Nat → Int32} (h : q1 = (q.1, va_up q.2 0 f)) : (eO G ad q).set 0 (ad 200, .inl (G.2.1, 160, .inl f)) = eO G ad q1 := by
  subst h
  rfl
theorem eO_f {G : GG} {ad : Nat → Nat} {q q1 : Pic} : (eO G ad q1).map Prod.fst = (eO G ad q).map Prod.fst := rfl
theorem gx_h {c ws : va_W} {j : Nat} {e : Nat × va_E} (h : c[j]? = some e) : (c ++ ws)[j]? = some e := by
  rw [List.getElem?_append_left (List.getElem?_eq_some_iff.mp h).1]; exact h
theorem gx_t {c ws : va_W} {j : Nat} {e : Nat × va_E} (h : ws[j]? = some e) : (c ++ ws)[c.length + j]? = some e := by
  rw [get_add]; exact h
theorem sx_h {c c' ws : va_W} {j : Nat} {e x : Nat × va_E} (g : c[j]? = some e) (h : c.set j x = c') : (c ++ ws).set j x = c' ++ ws := by
  rw [List.set_append_left _ _ (List.getElem?_eq_some_iff.mp g).1, h]
theorem sx_t {c ws ws' : va_W} {j : Nat} {x : Nat × va_E} (h : ws.set j x = ws') : (c ++ ws).set (c.length + j) x = c ++ ws' := by
  rw [List.set_append_right _ _ (by omega), ← h]
  congr 2
  omega

theorem ifp {c : Prop} [Decidable c] {α : Type} {a b x : α} (hf : (if c then a else b) = x) (hc : c) : a = x := (if_pos hc).symm.trans hf
theorem ifn {c : Prop} [Decidable c] {α : Type} {a b x : α} (hf : (if c then a else b) = x) (hc : ¬ c) : b = x := (if_neg hc).symm.trans hf
section FI
variable {p : Program} {l : Launch} {e : Env} {R : Room} {s : State} {m : MethodId} {args : Array Value} {below : List Frame} {meth : Method} {c : Code} {H : Heap} {locs : List Loc} {cells slots : Nat} {Q : State → Prop}
variable {cc : ByteArray} {nL pc : Nat} {own : String} {w0 : Cond} {ret : Option FieldType} {ls : Array Slot} {rest : List Value} {G : GG} {A : Nat → Prop} {ws ws' : va_W} {a : Nat} {lv lv' : List (Nat × Value)}
theorem fin_i (C : Cx p s m args meth c cc nL own w0 (some .int)) (hw : Wd G A s H locs ws) {α : Type} {o o' : α} (ho : o = o') (F : α → Int32) (Wf : α → va_W) {r : Int32} (hr : r = F o) (hws : ws = Wf o) (hdg : decode cc pc = .ok (.ireturn, 1)) : W p l e R s m args below meth c H locs cells slots (MQ below (Ans G (F o') A (Wf o')) args s cells slots A) (F0 m pc ls [.int r]) := by
  subst ho; subst hr; subst hws; exact r_iret C hw hdg
theorem fin_z (C : Cx p s m args meth c cc nL own w0 (some .boolean)) (hw : Wd G A s H locs ws) {r : Int32} (hz : okZ r = some r) {α : Type} {o o' : α} (ho : o = o') (F : α → Int32) (Wf : α → va_W) (hr : r = F o) (hws : ws = Wf o) (hdg : decode cc pc = .ok (.ireturn, 1)) : W p l e R s m args below meth c H locs cells slots (MQ below (Ans G (F o') A (Wf o')) args s cells slots A) (F0 m pc ls [.int r]) := by
  subst ho; subst hr; subst hws; exact r_zret C hw hz hdg
theorem fin_v (C : Cx p s m args meth c cc nL own w0 none) (hw : Wd G A s H locs ws) {α : Type} {o o' : α} (ho : o = o') (Wf : α → va_W) (hws : ws = Wf o) (hdg : decode cc pc = .ok (.return_, 1)) : W p l e R s m args below meth c H locs cells slots (MQ below (Don G A (Wf o')) args s cells slots A) (F0 m pc ls []) := by
  subst ho; subst hws; exact r_vret C hw hdg
theorem r_bast (C : Cx p s m args meth c cc nL own w0 ret) (hw : Wd G A s H locs ws) (q0 : Nat) {pi pj : Pic} {k n : Nat} (ha : ws[q0]? = some (a, .inl (G.2.2.1, n, .inl (pi.2 k)))) {i x : Int32} (hv : wA pi k n i (vp_nar .byte x) = some pj) (ws' : va_W) (hs : pj = (pi.1, va_up pi.2 k (upd (pi.2 k) i.toNatClampNeg (vp_nar .byte x))) → ws.set q0 (a, .inl (G.2.2.1, n, .inl (upd (pi.2 k) i.toNatClampNeg (vp_nar .byte x)))) = ws') (hdg : decode cc pc = .ok (.bastore, 1)) (kk : ∀ (H1 : Heap) (locs1 : List Loc), Wd G A s H1 locs1 ws' → W p l e R s m args below meth c H1 locs1 cells slots Q (F0 m (pc + 1) ls rest)) : W p l e R s m args below meth c H locs cells slots Q (F0 m pc ls (.int x :: .int i :: .ref a :: rest)) := by
  obtain ⟨h1, h2⟩ := wA_in hv
  refine va_bast C.1 C.2.1 hw.1 hw.2.1 hw.2.2.1 hw.2.2.2.1 q0 1 ha rfl h1 hdg (fun H1 locs1 hP hD hS => ?_)
  rw [hs h2] at hP hD
  exact kk H1 locs1 ⟨hw.1, hP, hD, hS, hw.2.2.2.2⟩
end FI
theorem iinc_e {x a b : Int32} (h : a = b) : x + a = x + b := by rw [h]
theorem sw_aux {x : Int32} {n : Nat} (hn : n < 1000) (h : ∀ k : Nat, k ≤ n → ¬ x = Int32.ofNat k) : x.toInt < 0 ∨ (n : Int) < x.toInt := by
  rcases Int.lt_or_le x.toInt 0 with h0 | h0
  · exact Or.inl h0
  · rcases Int.lt_or_le (n : Int) x.toInt with h1 | h1
    · exact Or.inr h1
    · exfalso
      have hx : ¬ x < 0 := by rw [Int32.lt_iff_toInt_lt, Int32.toInt_zero]; omega
      obtain ⟨j, hj, e⟩ := nI_of hx
      rw [e, nI_toInt hj] at h1
      exact h j (by omega) e

theorem sw_out3 {x : Int32} (h0 : ¬ x = 0) (h1 : ¬ x = 1) (h2 : ¬ x = 2) : x.toInt < 0 ∨ (2 : Int) < x.toInt := sw_aux (n := 2) (by omega) (fun k hk => by
  match k, hk with
  | 0, _ => exact h0
  | 1, _ => exact h1
  | 2, _ => exact h2
  | _ + 3, hk => omega)
theorem sw_out4 {x : Int32} (h0 : ¬ x = 0) (h1 : ¬ x = 1) (h2 : ¬ x = 2) (h3 : ¬ x = 3) : x.toInt < 0 ∨ (3 : Int) < x.toInt := sw_aux (n := 3) (by omega) (fun k hk => by
  match k, hk with
  | 0, _ => exact h0
  | 1, _ => exact h1
  | 2, _ => exact h2
  | 3, _ => exact h3
  | _ + 4, hk => omega)
theorem sw_out5 {x : Int32} (h0 : ¬ x = 0) (h1 : ¬ x = 1) (h2 : ¬ x = 2) (h3 : ¬ x = 3) (h4 : ¬ x = 4) : x.toInt < 0 ∨ (4 : Int) < x.toInt := sw_aux (n := 4) (by omega) (fun k hk => by
  match k, hk with
  | 0, _ => exact h0
  | 1, _ => exact h1
  | 2, _ => exact h2
  | 3, _ => exact h3
  | 4, _ => exact h4
  | _ + 5, hk => omega)
theorem sw_out11 {x : Int32} (h0 : ¬ x = 0) (h1 : ¬ x = 1) (h2 : ¬ x = 2) (h3 : ¬ x = 3) (h4 : ¬ x = 4) (h5 : ¬ x = 5) (h6 : ¬ x = 6) (h7 : ¬ x = 7) (h8 : ¬ x = 8) (h9 : ¬ x = 9) (h10 : ¬ x = 10) : x.toInt < 0 ∨ (10 : Int) < x.toInt := sw_aux (n := 10) (by omega) (fun k hk => by
  match k, hk with
  | 0, _ => exact h0
  | 1, _ => exact h1
  | 2, _ => exact h2
  | 3, _ => exact h3
  | 4, _ => exact h4
  | 5, _ => exact h5
  | 6, _ => exact h6
  | 7, _ => exact h7
  | 8, _ => exact h8
  | 9, _ => exact h9
  | 10, _ => exact h10
  | _ + 11, hk => omega)
