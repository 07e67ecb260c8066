/-! the start: its facts -/
theorem st_K {args : Array Value} {s : State} (hts : ∀ w ∈ BT, w.before args s = true) (hao : va_AO "SqueezedSwap$State" s) : ∃ G : GG, va_K G.1 vwCl (tysG G) s := by
  obtain ⟨c1, i1, h1⟩ := u_known (C := RX1) (T := TX1) (N := 8) (n := 8) hts inBX1 (hts _ inst_X1)
  obtain ⟨c2, i2, h2⟩ := u_known (C := RX2) (T := TX2) (N := 3) (n := 3) hts inBX2 (hts _ inst_X2)
  obtain ⟨c3, i3, h3⟩ := u_known (C := RX3) (T := TX3) (N := 15) (n := 15) hts inBX3 (hts _ inst_X3)
  obtain ⟨c4, i4, h4⟩ := u_known (C := RX4) (T := TX4) (N := 9) (n := 9) hts inBX4 (hts _ inst_X4)
  obtain ⟨c5, i5, h5⟩ := u_known (C := RX5) (T := TX5) (N := 9) (n := 9) hts inBX5 (hts _ inst_X5)
  obtain ⟨c6, i6, h6⟩ := u_known (C := RX6) (T := TX6) (N := 3) (n := 3) hts inBX6 (hts _ inst_X6)
  obtain ⟨c7, i7, h7⟩ := u_known (C := RX7) (T := TX7) (N := 6) (n := 6) hts inBX7 (hts _ inst_X7)
  obtain ⟨c8, i8, h8⟩ := u_known (C := RX8) (T := TX8) (N := 12) (n := 12) hts inBX8 (hts _ inst_X8)
  obtain ⟨c9, i9, h9⟩ := u_known (C := RX9) (T := TX9) (N := 44) (n := 44) hts inBX9 (hts _ inst_X9)
  obtain ⟨cI, kI, pI, a1, a2, a3⟩ := Cond.arrayClass_spec (hts _ arc_int)
  obtain ⟨cY, kY, pY, b1, b2, b3⟩ := Cond.arrayClass_spec (hts _ arc_byte)
  obtain ⟨cJ, kJ, pJ, d1, d2, d3⟩ := Cond.arrayClass_spec (hts _ arc_long)
  obtain ⟨pQ, cQ, kQ, g1, -, g3, g4, g5⟩ := Cond.arrayOver_spec hao
  refine ⟨((fun k => [c1, c2, c3, c4, c5, c6, c7, c8, c9].getD k c1, fun k => [i1, i2, i3, i4, i5, i6, i7, i8, i9].getD k i1), cI, cY, cQ, cJ), fun k q hq => ?_, fun k q hq => ?_⟩
  · match k, hq with
    | 0, hq => cases hq; exact h1
    | 1, hq => cases hq; exact h2
    | 2, hq => cases hq; exact h3
    | 3, hq => cases hq; exact h4
    | 4, hq => cases hq; exact h5
    | 5, hq => cases hq; exact h6
    | 6, hq => cases hq; exact h7
    | 7, hq => cases hq; exact h8
    | 8, hq => cases hq; exact h9
    | k + 9, hq => simp [vwCl] at hq
  · match k, hq with
    | 0, hq => cases hq; exact ⟨fun n z => ⟨fun k h => (by cases h), kI, a2, pI, a3⟩, a1⟩
    | 1, hq => cases hq; exact ⟨fun n z => ⟨fun k h => (by cases h), kY, b2, pY, b3⟩, b1⟩
    | 2, hq => cases hq; exact ⟨fun n z => ⟨fun k h => (by cases h), kQ, g3, pQ, g4⟩, kQ, pQ, g3, g4, g1, g5⟩
    | 3, hq => cases hq; exact ⟨fun n z => ⟨fun k h => (by cases h), kJ, d2, pJ, d3⟩, d1⟩
    | k + 4, hq => simp [tysG] at hq
theorem st_S {args : Array Value} {s : State} {A : Nat → Prop} (hts : ∀ w ∈ lw_tbl, w.before args s = true) (hgs : ∀ w ∈ GV, w.before args s = true) (hA : ∀ a : Nat, a < s.heap.size → ¬ A a) : ∃ K : SK, StrW K A s := by
  obtain ⟨aK, aV, h1, h2⟩ := vk_Sof (args := args) (s := s) (N := 9) (tm := sT) (len := sLen) (byt := sByt) (A := A) (by decide) (fun i h => hgs _ (gv_ex i h)) (fun i h => hgs _ (gv_co i h)) (fun i h => hgs _ (gv_ar i h)) (fun i h => hgs _ (gv_le i h)) (fun i h j hj => hgs _ (gv_el i h j hj)) (fun i j hi hj hn => (gv_ne i hi j hj hn).imp (hgs _) (hgs _)) hA
  have zz := fun w h => hgs w (gv_z w h)
  have tt := fun w h => hts w (tb_w w h)
  exact ⟨(aK, aV), h1, fun i hi => ⟨vk_R.of (hts _ (tb_s i hi).1) (h2 i hi), vk_R.of (hts _ (tb_s i hi).2) (va_eqR (hgs _ (gv_eq i hi)) (h2 i hi))⟩, va_Zof (tt _ (by simp)) (tt _ (by simp)) (va_eqt (zz _ (by simp))) hA, va_Zqof (tt _ (by simp)) (tt _ (by simp)) (zz _ (by simp)) hA⟩
theorem st_T {args : Array Value} {s : State} {A : Nat → Prop} (hts : ∀ w ∈ lw_tbl, w.before args s = true) (hgs : ∀ w ∈ GV, w.before args s = true) (hA : ∀ a : Nat, a < s.heap.size → ¬ A a) : ∃ sa : Nat, ThrW sa A s := by
  obtain ⟨a, -, -, -, h1, -⟩ := Cond.exactly_spec (hgs _ gv_s8)
  have zz := fun w h => hgs w (gv_z w h)
  have tt := fun w h => hts w (tb_w w h)
  have dd := fun w h => hts w (ns_d w h)
  exact ⟨a, vk_R.of (tt _ (by simp)) h1, vx_Zqof (tt _ (by simp)) (tt _ (by simp)) (zz _ (by simp)) hA, vx_Zqof (tt _ (by simp)) (tt _ (by simp)) (zz _ (by simp)) hA, va_Nw.of rfl (hts _ ns_c), va_Nw.of rfl (dd _ (by simp)), va_Nw.of rfl (dd _ (by simp)), va_Nw.of rfl (dd _ (by simp))⟩
theorem st_N {args : Array Value} {s : State} (hts : ∀ w ∈ lw_tbl, w.before args s = true) : NestW s := ⟨fun q hq => va_Nw.of rfl (hts _ (tb_n q hq)), va_AO.of (hts _ (tb_w _ (by simp)))⟩
section SR
variable {p : Program} {l : Launch} {e : Env} {R : Room} {s : State} {m : MethodId} {args : Array Value} {below : List Frame} {meth : Method} {c : Code} {H : Heap} {locs : List Loc} {cells slots : Nat} {Q : State → Prop}
variable {cc : ByteArray} {nL pc : Nat} {own : String} {w0 : Cond} {ret : Option FieldType} {ls : Array Slot} {rest : List Value} {G : GG} {A : Nat → Prop} {ws : va_W} {a : Nat}
variable {y : MethodName} {bytes : ByteArray} {maxL index mc ms ob : Nat} {rm : Room} {zf : (Nat → Nat) → va_W} {E : va_E}
theorem r_newL (C : Cx p s m args meth c cc nL own w0 ret) (hw : Wd G A s H locs ws) {n : Int32} (N : Nat) (hn : ¬ n < 0) (hN : n.toNatClampNeg = N) (hby : N * 8 ≤ 536870912) (hc1 : cells + 1 ≤ R.cells) (hs1 : slots + N ≤ R.slots) (hdg : decode cc pc = .ok (.newarray .long, 2))
    (kk : ∀ (q : Nat) (H1 : Heap), Wd G A s H1 locs (ws ++ [(q, .inl (G.2.2.2.2, N, .inr (.inl (fun _ => 0))))]) → W p l e R s m args below meth c H1 locs (cells + 1) (slots + N) Q (F0 m (pc + 2) ls (.ref q :: rest))) : W p l e R s m args below meth c H locs cells slots Q (F0 m pc ls (.int n :: rest)) := by
  obtain ⟨hK, hP, hD, hS, hA⟩ := hw
  refine va_newa (atype := .long) (ty := .long) (a0 := (N, .inr (.inl (fun _ => 0)))) C.1 C.2.1 (C.2.2.2.2.1 _ (List.mem_cons_of_mem _ arc_long)) rfl hK hP hD hS hA (fun _ => rfl) hn hN hby hc1 hs1 hdg (fun q cA H1 hK1 hP1 hD1 hS1 => ?_)
  have e1 : cA = G.2.2.2.2 := by
    have h1 := (hK1.2 4 (cA, .long) rfl).2
    have h2 := (hK.2 3 (G.2.2.2.2, .long) rfl).2
    exact Option.some.inj ((show s.vm.findClass _ = some cA from h1).symm.trans h2)
  subst e1
  exact kk q H1 ⟨hK, hP1, hD1, hS1, hA⟩
theorem r_ctorP {wr : va_W} (C : Cx p s m args meth c cc nL own w0 ret) (hq : NestW s) (hw : Wd G A s H locs (wr ++ [(a, E)])) (hls : ls.size = nL) (KM : Cond.code y bytes maxL none ∈ BT ∧ Cond.instanceMethod y ∈ BT) (hi : Cond.initialized y.cls ∈ BT) (lk : Cond.methodLink own index y ∈ BT) (hyd : y.name = "<init>" ∧ y.cls ≠ "java/lang/invoke/MethodHandle" ∧ y.cls ≠ "java/lang/invoke/VarHandle" ∧ (parseMethodDescriptor y.desc).map (fun d => d.parameters.length) = some 0)
    (M : Met l y (.code y bytes maxL none :: BT) rm (va_Pc [.ref a] (PreN G H.size [(a, E)])) (Born G zf ob a (va_A [(a, E)] H.size)) mc ms (va_A [(a, E)] H.size))
    (hr1 : rm.cells = mc ∧ rm.slots = ms) (hr2 : rm.frames + 1 ≤ R.frames ∧ 8 + (maxL + 11) + rm.locals ≤ R.locals) (hcs : cells + mc ≤ R.cells ∧ slots + ms ≤ R.slots) (hW : (rest.map fun v => v.category).sum ≤ 8) (hdg : decode cc pc = .ok (.invokespecial index, 3))
    (kk : ∀ (u : Nat → Nat) (H1 : Heap) (locs1 : List Loc), u ob = a → Wd G A s H1 locs1 (wr ++ zf u) → W p l e R s m args below meth c H1 locs1 (cells + mc) (slots + ms) Q (F0 m (pc + 3) ls rest)) : W p l e R s m args below meth c H locs cells slots Q (F0 m pc ls (.ref a :: rest)) := by
  have hts := C.2.2.2.2.1
  have inb : ∀ {w : Cond}, w ∈ BT → w.before args s = true := fun h => hts _ (List.mem_cons_of_mem _ h)
  obtain ⟨hpre, hfr⟩ := hw.tailpre
  refine va_callv (va_runI (As := []) (rest := rest) (n := 0) ⟨C.1, C.2.1, C.2.2.1, C.2.2.2.1, hts⟩ M ⟨callB_of 0 hts (goodBT w0 KM.1) rfl hr1.1 hr1.2 (inb hi) (inb lk) hyd.2 hr2, hyd.1, inb KM.2⟩ ⟨blindN, fun U hU hW2 => ⟨rfl, hpre U hU hW2, hq.warm hW2⟩⟩ rfl rfl hls rfl (lv_room hW) hdg hcs) hw.2.2.2.1 (fun q _ h => hfr q h) hfr (fun u t H1 locs1 ht hvm hp hB hz1 hk1 hS => ?_)
  exact kk u H1 locs1 hp (hw.join hk1 hS ht hB)
end SR
