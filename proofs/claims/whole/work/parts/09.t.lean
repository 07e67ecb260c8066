/-! Reader.trade; words that came later -/
theorem kX4_trade : MV yX4_trade cX4_trade 3 (some (.object "SqueezedSwap$Script")) 1 := ⟨(inBT 17 sT3 (w := Cond.code yX4_trade cX4_trade 3 (some (.object "SqueezedSwap$Script"))) (by decide +kernel) (by decide +kernel)), (inBT 15 sT3 (w := Cond.instanceMethod yX4_trade) (by decide +kernel) (by decide +kernel)), (inBT 16 sT3 (w := Cond.selects yX4_trade.cls yX4_trade yX4_trade) (by decide +kernel) (by decide +kernel)), (inBT 3 sT1 (w := Cond.initialized yX4_trade.cls) (by decide +kernel) (by decide +kernel)), by decide +kernel, by decide +kernel, by decide +kernel⟩
def sel3 (f : Nat) (a b c : Nat → Nat) : Nat → Nat := match f with
  | 0 => a
  | 1 => b
  | _ => c
theorem rO_pb {G : GG} {ad ab at_ b1 : Nat → Nat} {q : Pic} : (rO G ad ab at_ q).set 0 (ad 99, .inr (3, List.set [.ref (ab 0), .int (gS q 1), .int (gS q 2), .int (gS q 3), .int (gS q 4), .int (gS q 5), .int (gS q 6), .int (gS q 7), .ref (at_ 99)] 0 (.ref (b1 0)))) = rO G ad b1 at_ q := rfl
theorem rO_pt {G : GG} {ad ab at_ b1 : Nat → Nat} {q : Pic} : (rO G ad ab at_ q).set 0 (ad 99, .inr (3, List.set [.ref (ab 0), .int (gS q 1), .int (gS q 2), .int (gS q 3), .int (gS q 4), .int (gS q 5), .int (gS q 6), .int (gS q 7), .ref (at_ 99)] 8 (.ref (b1 99)))) = rO G ad ab b1 q := rfl
theorem mO_ps {G : GG} {ad as_ ar ac an ath ah b1 : Nat → Nat} {q : Pic} : (mO G ad as_ ar ac an ath ah q).set 0 (ad 99, .inr (7, List.set [.ref (ad 0), .int (gS q 1), .int (gS q 2), .int (gS q 3), .int (gS q 4), .int (gS q 5), .ref (as_ 99), .ref (ar 99), .ref (ac 99), .ref (an 299), .ref (ath 99), .ref (ah 99)] 6 (.ref (b1 99)))) = mO G ad b1 ar ac an ath ah q := rfl
theorem rO_f2 {G : GG} {ad ab at_ b1 t1 : Nat → Nat} {q q1 : Pic} : (rO G ad b1 t1 q1).map Prod.fst = (rO G ad ab at_ q).map Prod.fst := rfl
set_option maxHeartbeats 4000000 in
set_option maxRecDepth 100000 in
theorem c_X4_trade (l : Launch) (G : GG) (ar ab at_ af : Nat → Nat) (sz : Nat) (r : Pic) : Met l yX4_trade (.code yX4_trade cX4_trade 3 (some (.object "SqueezedSwap$Script")) :: BT) { frames := 0, cells := 0, slots := 0, locals := 0 } (va_Pc [.ref (ar 99), .ref (af 99)] (PreW G sz (rO G ar ab at_ r ++ []))) (va_Qr (fun (_ : Unit) => True) (fun _ x t => x = at_ 99 ∧ PosW G (va_A (rO G ar ab at_ r ++ []) sz) (rO G ar ab af r ++ []) t) (va_A (rO G ar ab at_ r ++ []) sz)) 0 0 (va_A (rO G ar ab at_ r ++ []) sz) := by
  refine Met.into (by decide) (Nat.le_of_ble_eq_true rfl) ?_
  intro p e s m below meth c C hsz ls hl hw
  have hl : lv_has ls 3 [(0, .ref (ar 99)), (1, .ref (af 99))] := hl
  clear hsz
  generalize va_A (rO G ar ab at_ r ++ []) sz = A at hw ⊢
  refine r_aload0 C hl 0 rfl dX4_trade_0 ?_
  refine r_get C hw _ (gx_h rO_o) 8 fl_X4_18 rfl dX4_trade_1 ?_
  refine r_astore0 C hl [(2, .ref (at_ 99)), (0, .ref (ar 99)), (1, .ref (af 99))] (by decide) rfl dX4_trade_4 (fun ls hl => ?_)
  refine r_aload0 C hl 1 rfl dX4_trade_5 ?_
  refine r_aload0 C hl 2 rfl dX4_trade_6 ?_
  refine r_put C hw _ (gx_h rO_o) 8 fp_X4_18 rfl rfl (Nat.le_of_ble_eq_true rfl) (rO G ar ab af r ++ []) (sx_h rO_o rO_pt) dX4_trade_7 (fun H locs hw => ?_)
  refine r_aload0 C hl 0 rfl dX4_trade_10 ?_
  exact W.aret C.1 C.2.1 C.2.2.2.2.2.2 (Or.inl ⟨_, rfl⟩) (Or.inr ⟨_, rfl⟩) (fun t ht hW => ⟨⟨(), _, rfl, trivial, rfl, by rw [ht]; exact hw.2.1, va_K.moved hW.alike hw.1, hw.2.2.1⟩, hw.2.2.2.1.F ht⟩) hw.2.2.2.1.2.2 dX4_trade_11 C.2.2.2.2.2.1
section TR
variable {p : Program} {l : Launch} {e : Env} {R : Room} {s : State} {m : MethodId} {args : Array Value} {below : List Frame} {meth : Method} {c : Code} {H : Heap} {locs : List Loc} {cells slots : Nat} {Q : State → Prop}
variable {cc : ByteArray} {nL pc : Nat} {own : String} {w0 : Cond} {ret : Option FieldType} {ls : Array Slot} {rest : List Value} {G : GG} {A : Nat → Prop} {ws ws' : va_W} {a : Nat} {lv lv' : List (Nat × Value)}
variable {wc wc' : va_W} {index b ra : Nat}
theorem r_trade (C : Cx p s m args meth c cc nL own w0 ret) (hw : Wd G A s H locs ws) (hls : ls.size = nL) (lk : Cond.methodLink own index yX4_trade ∈ BT)
    (M : Met l yX4_trade (.code yX4_trade cX4_trade 3 (some (.object "SqueezedSwap$Script")) :: BT) { frames := 0, cells := 0, slots := 0, locals := 0 } (va_Pc [.ref a, .ref b] (PreW G H.size wc)) (va_Qr (fun (_ : Unit) => True) (fun _ x t => x = ra ∧ PosW G (va_A wc H.size) wc' t) (va_A wc H.size)) 0 0 (va_A wc H.size))
    (cut : CutX ws wc ws' wc') {q0 : Nat} {fs : List Value} (hrc : ws[q0]? = some (a, .inr (3, fs))) (hr2 : 0 + 1 ≤ R.frames ∧ 8 + (3 + 11) + 0 ≤ R.locals) (hcs : cells ≤ R.cells ∧ slots ≤ R.slots)
    {st0 : List Value} (hst : st0 = [Value.ref b] ++ .ref a :: rest) (hW : (rest.map fun v => v.category).sum ≤ 8) (hdg : decode cc pc = .ok (.invokevirtual index, 3))
    (kk : ∀ (H1 : Heap) (locs1 : List Loc), Wd G A s H1 locs1 ws' → W p l e R s m args below meth c H1 locs1 cells slots Q (F0 m (pc + 3) ls (.ref ra :: rest))) : W p l e R s m args below meth c H locs cells slots Q (F0 m pc ls st0) := by
  obtain ⟨isC, isR, c1, c2, c3, c4, c5, c6⟩ := cut
  obtain ⟨k1, k2, k3, k4, k5, k6, k7⟩ := kX4_trade
  have hts := C.2.2.2.2.1
  have inb : ∀ {w : Cond}, w ∈ BT → w.before args s = true := fun h => hts _ (List.mem_cons_of_mem _ h)
  have cw : CallW R s args own yX4_trade.cls index yX4_trade cX4_trade 3 (some (.object "SqueezedSwap$Script")) (.code yX4_trade cX4_trade 3 (some (.object "SqueezedSwap$Script")) :: BT) { frames := 0, cells := 0, slots := 0, locals := 0 } 0 0 1 := ⟨callB_of 1 hts (goodBT w0 k1) rfl rfl rfl (inb k4) (inb lk) ⟨k5, k6, k7⟩ hr2, inb k2, inb k3⟩
  refine va_callr (va_runV (As := [.ref b]) (rest := rest) ⟨C.1, C.2.1, C.2.2.1, C.2.2.2.1, hts⟩ M cw ⟨blindW, va_recv hw.1 hw.2.1 rfl hrc, fun U hU hW2 => ⟨rfl, hw.pre isC c1 c2 U hU hW2⟩⟩ rfl rfl hls hst (lv_room hW) hdg ⟨hcs.1, hcs.2⟩) hw.2.2.2.1 (fun q _ h => hw.fr isC c2 q h) (hw.fr isC c2) (fun u r1 t H1 locs1 ht hvm hp hB hz1 hk1 hS => ?_)
  obtain ⟨rfl, hB2⟩ := hB
  exact kk H1 locs1 (hw.after isC isR c2 c3 c4 c5 c6 hk1 hS ht hB2)
end TR
