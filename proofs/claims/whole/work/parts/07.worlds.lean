/-! the worlds: what the cells of an object are, by its picture -/
def zO (G : GG) (ad : Nat → Nat) (q : Pic) : va_W := [(ad 199, .inr (6, [.int (gS q 0), .ref (ad 101), .ref (ad 102), .ref (ad 103), .ref (ad 104), .ref (ad 105)])), (ad 101, .inl (G.2.1, 24, .inl (q.2 1))), (ad 102, .inl (G.2.1, 24, .inl (q.2 2))), (ad 103, .inl (G.2.1, 24, .inl (q.2 3))), (ad 104, .inl (G.2.1, 24, .inl (q.2 4))), (ad 105, .inl (G.2.1, 384, .inl (q.2 5)))]
def pO (G : GG) (ad : Nat → Nat) (q : Pic) : va_W := [(ad 99, .inr (2, [.int (gS q 0), .int (gS q 1), .int (gS q 2), .ref (ad 199), .ref (ad 4), .ref (ad 5), .ref (ad 6), .ref (ad 7), .ref (ad 8), .ref (ad 9), .ref (ad 10), .int (gS q 11), .ref (ad 12), .ref (ad 13), .int (gS q 14)])), (ad 4, .inl (G.2.1, 30, .inl (q.2 4))), (ad 5, .inl (G.2.1, 30, .inl (q.2 5))), (ad 6, .inl (G.2.1, 30, .inl (q.2 6))), (ad 7, .inl (G.2.1, 30, .inl (q.2 7))), (ad 8, .inl (G.2.1, 30, .inl (q.2 8))), (ad 9, .inl (G.2.1, 480, .inl (q.2 9))), (ad 10, .inl (G.2.1, 30, .inl (q.2 10))), (ad 12, .inl (G.2.1, 4, .inl (q.2 12))), (ad 13, .inl (G.2.1, 30, .inl (q.2 13)))]
def tO (G : GG) (ad : Nat → Nat) (q : Pic) : va_W := [(ad 299, .inr (5, [.ref (ad 200), .ref (ad 201), .ref (ad 99)])), (ad 200, .inl (G.2.1, 160, .inl (q.2 0))), (ad 201, .inl (G.2.1, 10, .inl (q.2 1)))]
def cO (G : GG) (ad : Nat → Nat) (q : Pic) : va_W := [(ad 99, .inr (0, [.ref (ad 0), .ref (ad 1), .ref (ad 2), .ref (ad 3), .ref (ad 4), .ref (ad 5), .ref (ad 6), .int (gS q 7)])), (ad 0, .inl (G.2.1, 16, .inl (q.2 0))), (ad 1, .inl (G.2.1, 17, .inl (q.2 1))), (ad 2, .inl (G.2.1, 17, .inl (q.2 2))), (ad 3, .inl (G.2.1, 16, .inl (q.2 3))), (ad 4, .inl (G.2.1, 16, .inl (q.2 4))), (ad 5, .inl (G.2.1, 16, .inl (q.2 5))), (ad 6, .inl (G.2.1, 16, .inl (q.2 6)))]
def sO (G : GG) (ad : Nat → Nat) (q : Pic) : va_W := [(ad 99, .inr (4, [.int (gS q 0), .int (gS q 1), .int (gS q 2), .int (gS q 3), .int (gS q 4), .ref (ad 5), .ref (ad 6), .ref (ad 7), .ref (ad 8)])), (ad 5, .inl (G.2.1, 160, .inl (q.2 5))), (ad 6, .inl (G.2.1, 24, .inl (q.2 6))), (ad 7, .inl (G.2.1, 24, .inl (q.2 7))), (ad 8, .inl (G.2.1, 24, .inl (q.2 8)))]
def rO (G : GG) (ad : Nat → Nat) (ab at_ : Nat → Nat) (q : Pic) : va_W := [(ad 99, .inr (3, [.ref (ab 0), .int (gS q 1), .int (gS q 2), .int (gS q 3), .int (gS q 4), .int (gS q 5), .int (gS q 6), .int (gS q 7), .ref (at_ 99)]))]
def mO (G : GG) (ad : Nat → Nat) (as_ ar ac an ath ah : Nat → Nat) (q : Pic) : va_W := [(ad 99, .inr (7, [.ref (ad 0), .int (gS q 1), .int (gS q 2), .int (gS q 3), .int (gS q 4), .int (gS q 5), .ref (as_ 99), .ref (ar 99), .ref (ac 99), .ref (an 299), .ref (ath 99), .ref (ah 99)])), (ad 0, .inl (G.2.1, 900, .inl (q.2 0)))]
def dO (G : GG) (ad : Nat → Nat) (q : Pic) (w : Int64) : va_W := [(ad 99, .inr (8, [.int (gS q 0), .int (gS q 1), .int (gS q 2), .int (gS q 3), .int (gS q 4), .int (gS q 5), .int (gS q 6), .int (gS q 7), .int (gS q 8), .int (gS q 9), .int (gS q 10), .int (gS q 11), .ref (ad 12), .ref (ad 13), .ref (ad 14), .ref (ad 15), .ref (ad 16), .ref (ad 17), .ref (ad 18), .int (gS q 19), .ref (ad 20), .ref (ad 21), .ref (ad 22), .int (gS q 23), .ref (ad 24), .int (gS q 25), .int (gS q 26), .int (gS q 27), .int (gS q 28), .int (gS q 29), .int (gS q 30), .int (gS q 31), .long w, .ref (ad 33), .ref (ad 34), .ref (ad 35), .ref (ad 36), .ref (ad 37), .ref (ad 38), .ref (ad 39), .int (gS q 40), .ref (ad 41), .ref (ad 42), .int (gS q 43)])), (ad 12, .inl (G.2.1, 24, .inl (q.2 12))), (ad 13, .inl (G.2.1, 24, .inl (q.2 13))), (ad 14, .inl (G.2.1, 24, .inl (q.2 14))), (ad 15, .inl (G.2.1, 24, .inl (q.2 15))), (ad 16, .inl (G.2.1, 24, .inl (q.2 16))), (ad 17, .inl (G.2.1, 24, .inl (q.2 17))), (ad 18, .inl (G.2.1, 160, .inl (q.2 18))), (ad 20, .inl (G.2.1, 1234, .inl (q.2 20))), (ad 21, .inl (G.2.1, 1234, .inl (q.2 21))), (ad 22, .inl (G.2.1, 12340, .inl (q.2 22))), (ad 24, .inl (G.2.2.1, 900, .inl (q.2 24))), (ad 33, .inl (G.2.1, 16, .inl (q.2 33))), (ad 34, .inl (G.2.1, 17, .inl (q.2 34))), (ad 35, .inl (G.2.1, 17, .inl (q.2 35))), (ad 36, .inl (G.2.1, 16, .inl (q.2 36))), (ad 37, .inl (G.2.1, 16, .inl (q.2 37))), (ad 38, .inl (G.2.1, 16, .inl (q.2 38))), (ad 39, .inl (G.2.1, 16, .inl (q.2 39))), (ad 41, .inl (G.2.1, 10, .inl (q.2 41))), (ad 42, .inl (G.2.1, 31, .inl (q.2 42)))]
def hO (G : GG) (ad : Nat → Nat) (rg : Nat → Option Nat) (q : Pic) : va_W := [(ad 99, .inr (1, [.ref (ad 0), .int (gS q 1), .int (gS q 2)])), (ad 0, .inl (G.2.2.2.1, 10, .inr (.inr (.inr (.inr rg)))))]
def bO (G : GG) (ad : Nat → Nat) (q : Pic) : va_W := [(ad 0, .inl (G.2.1, 900, .inl (q.2 0)))]
def eO (G : GG) (ad : Nat → Nat) (q : Pic) : va_W := [(ad 200, .inl (G.2.1, 160, .inl (q.2 0)))]
theorem ifp {c : Prop} [Decidable c] {α : Type} {a b x : α} (hf : (if c then a else b) = x) (hc : c) : a = x := (if_pos hc).symm.trans hf
theorem ifn {c : Prop} [Decidable c] {α : Type} {a b x : α} (hf : (if c then a else b) = x) (hc : ¬ c) : b = x := (if_neg hc).symm.trans hf
section FI
variable {p : Program} {l : Launch} {e : Env} {R : Room} {s : State} {m : MethodId} {args : Array Value} {below : List Frame} {meth : Method} {c : Code} {H : Heap} {locs : List Loc} {cells slots : Nat} {Q : State → Prop}
variable {cc : ByteArray} {nL pc : Nat} {own : String} {w0 : Cond} {ret : Option FieldType} {ls : Array Slot} {rest : List Value} {G : GG} {A : Nat → Prop} {ws ws' : va_W} {a : Nat} {lv lv' : List (Nat × Value)}
theorem fin_i (C : Cx p s m args meth c cc nL own w0 (some .int)) (hw : Wd G A s H locs ws) {α : Type} {o o' : α} (ho : o = o') (F : α → Int32) (Wf : α → va_W) {r : Int32} (hr : r = F o) (hws : ws = Wf o) (hdg : decode cc pc = .ok (.ireturn, 1)) : W p l e R s m args below meth c H locs cells slots (MQ below (Ans G (F o') A (Wf o')) args s cells slots A) (F0 m pc ls [.int r]) := by
  subst ho; subst hr; subst hws; exact r_iret C hw hdg
theorem fin_z (C : Cx p s m args meth c cc nL own w0 (some .boolean)) (hw : Wd G A s H locs ws) {r : Int32} (hz : okZ r = some r) {α : Type} {o o' : α} (ho : o = o') (F : α → Int32) (Wf : α → va_W) (hr : r = F o) (hws : ws = Wf o) (hdg : decode cc pc = .ok (.ireturn, 1)) : W p l e R s m args below meth c H locs cells slots (MQ below (Ans G (F o') A (Wf o')) args s cells slots A) (F0 m pc ls [.int r]) := by
  subst ho; subst hr; subst hws; exact r_zret C hw hz hdg
theorem fin_v (C : Cx p s m args meth c cc nL own w0 none) (hw : Wd G A s H locs ws) {α : Type} {o o' : α} (ho : o = o') (Wf : α → va_W) (hws : ws = Wf o) (hdg : decode cc pc = .ok (.return_, 1)) : W p l e R s m args below meth c H locs cells slots (MQ below (Don G A (Wf o')) args s cells slots A) (F0 m pc ls []) := by
  subst ho; subst hws; exact r_vret C hw hdg
theorem r_bast (C : Cx p s m args meth c cc nL own w0 ret) (hw : Wd G A s H locs ws) (q0 : Nat) {pi pj : Pic} {k n : Nat} (ha : ws[q0]? = some (a, .inl (G.2.2.1, n, .inl (pi.2 k)))) {i x : Int32} (hv : wA pi k n i (vp_nar .byte x) = some pj) (ws' : va_W) (hs : pj = (pi.1, va_up pi.2 k (upd (pi.2 k) i.toNatClampNeg (vp_nar .byte x))) → ws.set q0 (a, .inl (G.2.2.1, n, .inl (upd (pi.2 k) i.toNatClampNeg (vp_nar .byte x)))) = ws') (hdg : decode cc pc = .ok (.bastore, 1)) (kk : ∀ (H1 : Heap) (locs1 : List Loc), Wd G A s H1 locs1 ws' → W p l e R s m args below meth c H1 locs1 cells slots Q (F0 m (pc + 1) ls rest)) : W p l e R s m args below meth c H locs cells slots Q (F0 m pc ls (.int x :: .int i :: .ref a :: rest)) := by
  obtain ⟨h1, h2⟩ := wA_in hv
  refine va_bast C.1 C.2.1 hw.1 hw.2.1 hw.2.2.1 hw.2.2.2.1 q0 1 ha rfl h1 hdg (fun H1 locs1 hP hD hS => ?_)
  rw [hs h2] at hP hD
  exact kk H1 locs1 ⟨hw.1, hP, hD, hS, hw.2.2.2.2⟩
end FI
theorem iinc_e {x a b : Int32} (h : a = b) : x + a = x + b := by rw [h]
theorem sw_aux {x : Int32} {n : Nat} (hn : n < 1000) (h : ∀ k : Nat, k ≤ n → ¬ x = Int32.ofNat k) : x.toInt < 0 ∨ (n : Int) < x.toInt := by
  rcases Int.lt_or_le x.toInt 0 with h0 | h0
  · exact Or.inl h0
  · rcases Int.lt_or_le (n : Int) x.toInt with h1 | h1
    · exact Or.inr h1
    · exfalso
      have hx : ¬ x < 0 := by rw [Int32.lt_iff_toInt_lt, Int32.toInt_zero]; omega
      obtain ⟨j, hj, e⟩ := nI_of hx
      rw [e, nI_toInt hj] at h1
      exact h j (by omega) e

theorem sw_out3 {x : Int32} (h0 : ¬ x = 0) (h1 : ¬ x = 1) (h2 : ¬ x = 2) : x.toInt < 0 ∨ (2 : Int) < x.toInt := sw_aux (n := 2) (by omega) (fun k hk => by
  match k, hk with
  | 0, _ => exact h0
  | 1, _ => exact h1
  | 2, _ => exact h2
  | _ + 3, hk => omega)
theorem sw_out4 {x : Int32} (h0 : ¬ x = 0) (h1 : ¬ x = 1) (h2 : ¬ x = 2) (h3 : ¬ x = 3) : x.toInt < 0 ∨ (3 : Int) < x.toInt := sw_aux (n := 3) (by omega) (fun k hk => by
  match k, hk with
  | 0, _ => exact h0
  | 1, _ => exact h1
  | 2, _ => exact h2
  | 3, _ => exact h3
  | _ + 4, hk => omega)
theorem sw_out5 {x : Int32} (h0 : ¬ x = 0) (h1 : ¬ x = 1) (h2 : ¬ x = 2) (h3 : ¬ x = 3) (h4 : ¬ x = 4) : x.toInt < 0 ∨ (4 : Int) < x.toInt := sw_aux (n := 4) (by omega) (fun k hk => by
  match k, hk with
  | 0, _ => exact h0
  | 1, _ => exact h1
  | 2, _ => exact h2
  | 3, _ => exact h3
  | 4, _ => exact h4
  | _ + 5, hk => omega)
theorem sw_out11 {x : Int32} (h0 : ¬ x = 0) (h1 : ¬ x = 1) (h2 : ¬ x = 2) (h3 : ¬ x = 3) (h4 : ¬ x = 4) (h5 : ¬ x = 5) (h6 : ¬ x = 6) (h7 : ¬ x = 7) (h8 : ¬ x = 8) (h9 : ¬ x = 9) (h10 : ¬ x = 10) : x.toInt < 0 ∨ (10 : Int) < x.toInt := sw_aux (n := 10) (by omega) (fun k hk => by
  match k, hk with
  | 0, _ => exact h0
  | 1, _ => exact h1
  | 2, _ => exact h2
  | 3, _ => exact h3
  | 4, _ => exact h4
  | 5, _ => exact h5
  | 6, _ => exact h6
  | 7, _ => exact h7
  | 8, _ => exact h8
  | 9, _ => exact h9
  | 10, _ => exact h10
  | _ + 11, hk => omega)
