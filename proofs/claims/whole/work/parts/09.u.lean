/-! making objects and arrays; constructors -/
def nestL : List (String × Nat × MethodName) := [(RX8, 15, yX5_init), (RX8, 22, yX4_init), (RX4, 17, yX5_init), (RX8, 29, yX1_init), (RX8, 36, yX6_init), (RX6, 20, yX3_init), (RX3, 23, yX7_init), (RX8, 43, yX3_init), (RX8, 50, yX2_init), (RX2, 24, yX6_init)]
def NestW (U : State) : Prop := (∀ q ∈ nestL, va_Nw (.methodLinkNest q.1 q.2.1 q.2.2 "SqueezedSwap") U) ∧ va_AO "SqueezedSwap$State" U
def PreN (G : GG) (sz : Nat) (ws : va_W) (U : State) : Prop := PreW G sz ws U ∧ NestW U
theorem NestW.warm {s U : State} (hW : s.WarmedH U.vm) (h : NestW s) : NestW U := ⟨fun q hq => (h.1 q hq).warmM hW, h.2.moved hW.alike⟩
theorem NestW.same {u U : State} (hv : u.vm = U.vm) (h : NestW u) : NestW U := ⟨fun q hq => (h.1 q hq).same rfl hv, h.2.moved (by rw [hv]; exact Vm.Alike.refl U.vm)⟩
theorem blindN {G : GG} {av : List Value} {sz : Nat} {wc : va_W} : FrameBlind (va_Pc av (PreN G sz wc)) := fun a U g mk q => by
  obtain ⟨q0, q1, q2⟩ := q
  exact ⟨q0, (blindW (av := av) a U g mk ⟨q0, q1⟩).2, q2.same rfl⟩
/-- a constructor's end: the object at h is the world zf of some addresses u -/
def Born (G : GG) (zf : (Nat → Nat) → va_W) (ob h : Nat) (A : Nat → Prop) : Array Value → State → Outcome → State → Prop := va_Qv (fun u : Nat → Nat => u ob = h) (fun u t => PosW G A (zf u) t) A
/-- a final field, as its own class's constructor names it -/
def FF (own : String) (index ci k : Nat) (ty : FieldType) : Prop := ∃ (C : String) (T : u_T) (N : Nat) (ty0 : Nat → FieldType), vwCl[ci]? = some (C, T, N) ∧ k < N ∧ (∀ w ∈ u_ws C T N, w ∈ BT) ∧ Cond.fieldLink own index C (T k).2.1 (T k).2.2.1 ∈ BT ∧ (∀ k, k < N → parseFieldDescriptor (T k).2.2.1 = some (ty0 k)) ∧ (∀ a, a < N → ∀ b, b < N → a ≠ b → (T a).2.1 ≠ (T b).2.1) ∧ (T k).2.2.2 = true ∧ parseFieldDescriptor (T k).2.2.1 = some ty ∧ (T k).1 = C ∧ C = own
theorem FL.final {own : String} {index ci k : Nat} {C : String} {T : u_T} {N : Nat} (ty0 : Nat → FieldType) {ty : FieldType} (h : FL own index ci k) (hc : vwCl[ci]? = some (C, T, N)) (hty : ∀ k, k < N → parseFieldDescriptor (T k).2.2.1 = some (ty0 k)) (hnm : ∀ a, a < N → ∀ b, b < N → a ≠ b → (T a).2.1 ≠ (T b).2.1) (hf : (T k).2.2.2 = true) (hd : parseFieldDescriptor (T k).2.2.1 = some ty) (ho : C = own) : FF own index ci k ty := by
  obtain ⟨C', T', N', h1, h2, h3, h4, h5⟩ := h
  have e := Option.some.inj (h1.symm.trans hc)
  cases e
  exact ⟨C, T, N, ty0, h1, h2, h3, h4, hty, hnm, hf, hd, h5, ho⟩
theorem ap_t {c ws x ws' : va_W} (h : ws ++ x = ws') : (c ++ ws) ++ x = c ++ ws' := by rw [List.append_assoc, h]
theorem ap_n {x : va_W} : ([] : va_W) ++ x = x ++ [] := by rw [List.nil_append, List.append_nil]
section UR
variable {p : Program} {l : Launch} {e : Env} {R : Room} {s : State} {m : MethodId} {args : Array Value} {below : List Frame} {meth : Method} {c : Code} {H : Heap} {locs : List Loc} {cells slots : Nat} {Q : State → Prop}
variable {cc : ByteArray} {nL pc : Nat} {own : String} {w0 : Cond} {ret : Option FieldType} {ls : Array Slot} {rest : List Value} {G : GG} {A : Nat → Prop} {ws ws' : va_W} {a : Nat} {lv lv' : List (Nat × Value)}
theorem r_newI (C : Cx p s m args meth c cc nL own w0 ret) (hw : Wd G A s H locs ws) {n : Int32} (N : Nat) (hn : ¬ n < 0) (hN : n.toNatClampNeg = N) (hby : N * 4 ≤ 536870912) (hc1 : cells + 1 ≤ R.cells) (hs1 : slots + N ≤ R.slots) (hdg : decode cc pc = .ok (.newarray .int, 2))
    (wf : Nat → va_W) (hs : ∀ q, ws ++ [(q, .inl (G.2.1, N, .inl (fun _ => 0)))] = wf q) (kk : ∀ (q : Nat) (H1 : Heap), Wd G A s H1 locs (wf q) → W p l e R s m args below meth c H1 locs (cells + 1) (slots + N) Q (F0 m (pc + 2) ls (.ref q :: rest))) : W p l e R s m args below meth c H locs cells slots Q (F0 m pc ls (.int n :: rest)) := by
  obtain ⟨hK, hP, hD, hS, hA⟩ := hw
  refine va_newa (atype := .int) (ty := .int) (a0 := (N, .inl (fun _ => 0))) C.1 C.2.1 (C.2.2.2.2.1 _ (List.mem_cons_of_mem _ arc_int)) rfl hK hP hD hS hA (fun _ => rfl) hn hN hby hc1 hs1 hdg (fun q cA H1 hK1 hP1 hD1 hS1 => ?_)
  have e1 : cA = G.2.1 := by
    have h1 := (hK1.2 4 (cA, .int) rfl).2
    have h2 := (hK.2 0 (G.2.1, .int) rfl).2
    exact Option.some.inj ((show s.vm.findClass _ = some cA from h1).symm.trans h2)
  subst e1
  rw [hs q] at hP1 hD1
  exact kk q H1 ⟨hK, hP1, hD1, hS1, hA⟩
theorem r_newB (C : Cx p s m args meth c cc nL own w0 ret) (hw : Wd G A s H locs ws) {n : Int32} (N : Nat) (hn : ¬ n < 0) (hN : n.toNatClampNeg = N) (hby : N * 1 ≤ 536870912) (hc1 : cells + 1 ≤ R.cells) (hs1 : slots + N ≤ R.slots) (hdg : decode cc pc = .ok (.newarray .byte, 2))
    (wf : Nat → va_W) (hs : ∀ q, ws ++ [(q, .inl (G.2.2.1, N, .inl (fun _ => 0)))] = wf q) (kk : ∀ (q : Nat) (H1 : Heap), Wd G A s H1 locs (wf q) → W p l e R s m args below meth c H1 locs (cells + 1) (slots + N) Q (F0 m (pc + 2) ls (.ref q :: rest))) : W p l e R s m args below meth c H locs cells slots Q (F0 m pc ls (.int n :: rest)) := by
  obtain ⟨hK, hP, hD, hS, hA⟩ := hw
  refine va_newa (atype := .byte) (ty := .byte) (a0 := (N, .inl (fun _ => 0))) C.1 C.2.1 (C.2.2.2.2.1 _ (List.mem_cons_of_mem _ arc_byte)) rfl hK hP hD hS hA (fun _ => rfl) hn hN hby hc1 hs1 hdg (fun q cA H1 hK1 hP1 hD1 hS1 => ?_)
  have e1 : cA = G.2.2.1 := by
    have h1 := (hK1.2 4 (cA, .byte) rfl).2
    have h2 := (hK.2 1 (G.2.2.1, .byte) rfl).2
    exact Option.some.inj ((show s.vm.findClass _ = some cA from h1).symm.trans h2)
  subst e1
  rw [hs q] at hP1 hD1
  exact kk q H1 ⟨hK, hP1, hD1, hS1, hA⟩
theorem r_newQ {index : Nat} (C : Cx p s m args meth c cc nL own w0 ret) (hw : Wd G A s H locs ws) (hq : NestW s) (lk : Cond.classLink own index "SqueezedSwap$State" ∈ BT) {n : Int32} (N : Nat) (hn : ¬ n < 0) (hN : n.toNatClampNeg = N) (hby : N * 4 ≤ 536870912) (hc1 : cells + 1 ≤ R.cells) (hs1 : slots + N ≤ R.slots) (hdg : decode cc pc = .ok (.anewarray index, 3))
    (wf : Nat → va_W) (hs : ∀ q, ws ++ [(q, .inl (G.2.2.2.1, N, .inr (.inr (.inr (.inr (fun _ => none))))))] = wf q) (kk : ∀ (q : Nat) (H1 : Heap), Wd G A s H1 locs (wf q) → W p l e R s m args below meth c H1 locs (cells + 1) (slots + N) Q (F0 m (pc + 3) ls (.ref q :: rest))) : W p l e R s m args below meth c H locs cells slots Q (F0 m pc ls (.int n :: rest)) := by
  obtain ⟨hK, hP, hD, hS, hA⟩ := hw
  refine va_newq C.1 C.2.1 C.2.2.2.1 (C.2.2.2.2.1 _ (List.mem_cons_of_mem _ lk)) hq.2 hK hP hD hS hA hn hN hby hc1 hs1 hdg (fun q cA H1 hK1 hP1 hD1 hS1 => ?_)
  have e1 : cA = G.2.2.2.1 := by
    obtain ⟨_, _, -, -, -, h1⟩ := (hK1.2 4 (cA, .object "SqueezedSwap$State") rfl).2
    obtain ⟨_, _, -, -, -, h2⟩ := (hK.2 2 (G.2.2.2.1, .object RX6) rfl).2
    exact Option.some.inj (h1.symm.trans h2)
  subst e1
  rw [hs q] at hP1 hD1
  exact kk q H1 ⟨hK, hP1, hD1, hS1, hA⟩
/-- a class that can be made: its kind, its words -/
def NewW (own : String) (index ci N : Nat) (ty : Nat → FieldType) : Prop := ∃ (C : String) (T : u_T), vwCl[ci]? = some (C, T, N) ∧ (∀ w ∈ u_ws C T N, w ∈ BT) ∧ (∀ k, k < N → parseFieldDescriptor (T k).2.2.1 = some (ty k)) ∧ Cond.classLink own index C ∈ BT ∧ Cond.instantiable C N ∈ BT ∧ Cond.initialized C ∈ BT
theorem r_new {index ci N : Nat} {ty : Nat → FieldType} (C : Cx p s m args meth c cc nL own w0 ret) (hw : Wd G A s H locs ws) (nw : NewW own index ci N ty) (fs : List Value) (hfs : ∀ j, j < N → defaultValue (ty j) = vp_V fs j) (hc1 : cells + 1 ≤ R.cells) (hs1 : slots + N ≤ R.slots) (hdg : decode cc pc = .ok (.new index, 3))
    (kk : ∀ (q : Nat) (H1 : Heap), Wd G A s H1 locs (ws ++ [(q, .inr (ci, fs))]) → W p l e R s m args below meth c H1 locs (cells + 1) (slots + N) Q (F0 m (pc + 3) ls (.ref q :: rest))) : W p l e R s m args below meth c H locs cells slots Q (F0 m pc ls rest) := by
  obtain ⟨hK, hP, hD, hS, hA⟩ := hw
  obtain ⟨CC, T, h1, h2, h3, h4, h5, h6⟩ := nw
  have inb : ∀ {w : Cond}, w ∈ BT → w.before args s = true := fun h => C.2.2.2.2.1 _ (List.mem_cons_of_mem _ h)
  exact va_new C.1 C.2.1 C.2.2.2.2.1 (fun w h => List.mem_cons_of_mem _ (h2 w h)) ty h3 C.2.2.2.1 (inb h4) (inb h5) (inb h6) hK hP hD hS hA h1 hfs hc1 hs1 hdg (fun q H1 hP1 hD1 hS1 => kk q H1 ⟨hK, hP1, hD1, hS1, hA⟩)
theorem r_objI {idx : Nat} (C : Cx p s m args meth c cc nL own w0 ret) (hls : ls.size = nL) (lk : Cond.methodLink own idx objectInit ∈ BT) (hfr : 1 ≤ R.frames) (hlo : (rest.map fun v => v.category).sum + 12 ≤ R.locals) (hdg : decode cc pc = .ok (.invokespecial idx, 3)) (kk : W p l e R s m args below meth c H locs cells slots Q (F0 m (pc + 3) ls rest)) : W p l e R s m args below meth c H locs cells slots Q (F0 m pc ls (.ref a :: rest)) := by
  have inb : ∀ {w : Cond}, w ∈ BT → w.before args s = true := fun h => C.2.2.2.2.1 _ (List.mem_cons_of_mem _ h)
  exact W.objInit C.1 C.2.1 C.2.2.2.1 (inb lk) (inb ob_i) (inb ob_c) rfl (hls.trans C.2.2.1.symm) rfl hdg hfr (by simpa [JFrame.monitorRoom] using hlo) kk
theorem r_putF (C : Cx p s m args meth c cc nL own w0 ret) (hin : meth.name = "<init>") (hw : Wd G A s H locs ws) {q0 : Nat} {ci index : Nat} {fs : List Value} (he : ws[q0]? = some (a, .inr (ci, fs))) (k : Nat) {ty : FieldType} (fp : FF own index ci k ty) {v : Value} (hn : narrow ty v = v) (hfit : fits ty v = true) (hlen : k < fs.length) (ws' : va_W) (hs : ws.set q0 (a, .inr (ci, fs.set k v)) = ws') (hdg : decode cc pc = .ok (.putfield index, 3)) (kk : ∀ (H1 : Heap) (locs1 : List Loc), Wd G A s H1 locs1 ws' → W p l e R s m args below meth c H1 locs1 cells slots Q (F0 m (pc + 3) ls rest)) : W p l e R s m args below meth c H locs cells slots Q (F0 m pc ls (v :: .ref a :: rest)) := by
  obtain ⟨CC, T, N, ty0, hc, hk, hi, hlk, hty, hnm, hfin, hd, hT, ho⟩ := fp
  obtain ⟨hx, hb, -, hown, hts, -⟩ := C
  refine va_putF hx hb hts (fun w h => List.mem_cons_of_mem _ (hi w h)) ty0 hty hnm hown hw.1 hw.2.1 hw.2.2.1 hw.2.2.2.1 q0 he hc k hk (hts _ (List.mem_cons_of_mem _ hlk)) (fun x h => by rw [hT] at h; exact h) hfin hin (hT.trans ho) hd hn hfit hlen hdg (fun H1 locs1 hP hD hS => ?_)
  rw [hs] at hP hD
  exact kk H1 locs1 ⟨hw.1, hP, hD, hS, hw.2.2.2.2⟩
theorem Met.intoC {y : MethodName} {maxL : Nat} {rm : Room} {av : List Value} {sz mc ms : Nat} {Qc : Array Value → State → Outcome → State → Prop} (hy : plainName y.cls = true) (hyn : y.name = "<init>") (hn : (lg_sl av).length ≤ maxL)
    (body : ∀ (p : Program) (e : Env) (s : State) (m : MethodId) (below : List Frame) (meth : Method) (c : Code), Cx p s m av.toArray meth c cc maxL y.cls (.code y cc maxL ret) ret → meth.name = "<init>" → NestW s → ∀ ls : Array Slot, lv_has ls maxL (lv_args 0 av) → Wd G (va_A ws sz) s s.heap [] ws → W p l e rm s m av.toArray below meth c s.heap [] 0 0 (MQ below Qc av.toArray s mc ms (va_A ws sz)) (F0 m 0 ls [])) :
    Met l y (.code y cc maxL ret :: BT) rm (va_Pc av (PreN G sz ws)) Qc mc ms (va_A ws sz) := by
  refine Met.ofW (cc := cc) (maxL := maxL) (ret := ret) hy rfl ?_
  intro p e s m args below meth c s₁ B hml hv
  obtain ⟨rfl, ⟨hsz, hP, hK, hD0⟩, hq⟩ := hv
  have hts := atoms_spec (ws := .code y cc maxL ret :: BT) B.pre
  have hown : s.vm.findClass y.cls = some m.cls := findClass_of_methodNamed B.named
  have hl := lv_entry av (n := maxL) hn
  rw [lg_entry_eq]
  refine body p e s m below meth c ⟨B.exec, B.bytes, hml, hown, hts, B.notSynchronized, B.returns⟩ ((name_of_methodNamed B.named B.method).1.trans hyn) hq _ hl ⟨hK, hP, hD0.self, va_S.rf, fun q h => Or.inr (by rw [← hsz]; exact h)⟩
/-- behind a call on a part of the world that may grow: the rest, and what the callee left -/
theorem Wd.join {wr wc w1 : va_W} {H1 : Heap} {locs1 : List Loc} {t : State} (hw : Wd G A s H locs (wr ++ wc)) (hk : ∀ q : Nat, q < H.size → ¬ va_A wc H.size q → H1[q]? = H[q]?) (hS : va_S A s.heap H1 locs1) (ht : t.heap = H1) (hB : PosW G (va_A wc H.size) w1 t) : Wd G A s H1 locs1 (wr ++ w1) := by
  obtain ⟨hK, hP, hD, hS0, hA⟩ := hw
  have e1 : ((List.range wc.length).map (fun i => wr.length + i)).map (fun i => (wr ++ wc)[i]?) = wc.map some := by rw [map_add]; exact map_get_range wc
  have hF : ∀ q, va_A wc H.size q → A q := va_free hD hS0 hA _ e1
  have hP1 : va_P G.1 vwCl w1 H1 := by rw [← ht]; exact hB.1
  obtain ⟨h1, h2⟩ := va_join hP hD _ (List.range wr.length) e1 (map_left wr wc) (by rw [List.range_eq_range']; exact nd_range' _ _) (fun i hi hm => by
    obtain ⟨j, -, e⟩ := List.mem_map.mp hm
    have := List.mem_range.mp hi
    omega) hk hF hP1 hB.2.2
  exact ⟨hK, h1, h2, hS, hA⟩
theorem Wd.tailpre {wr wc : va_W} (hw : Wd G A s H locs (wr ++ wc)) : (∀ U : State, U.heap = H → s.WarmedH U.vm → PreW G H.size wc U) ∧ ∀ q, va_A wc H.size q → A q := by
  have e1 : ((List.range wc.length).map (fun i => wr.length + i)).map (fun i => (wr ++ wc)[i]?) = wc.map some := by rw [map_add]; exact map_get_range wc
  exact ⟨hw.pre _ (nd_add _ _ (by rw [List.range_eq_range']; exact nd_range' _ _)) e1, hw.fr _ e1⟩
variable {y : MethodName} {bytes : ByteArray} {maxL index mc ms ob : Nat} {rm : Room} {zf : (Nat → Nat) → va_W} {E : va_E}
theorem r_ctorN {wr : va_W} (C : Cx p s m args meth c cc nL own w0 ret) (hq : NestW s) (hw : Wd G A s H locs (wr ++ [(a, E)])) (hls : ls.size = nL) (K : Cond.code y bytes maxL none ∈ BT ∧ Cond.instanceMethod y ∈ BT) (hi : Cond.initialized y.cls ∈ BT) (lk : (own, index, y) ∈ nestL) (hyd : y.name = "<init>" ∧ y.cls ≠ "java/lang/invoke/MethodHandle" ∧ y.cls ≠ "java/lang/invoke/VarHandle" ∧ (parseMethodDescriptor y.desc).map (fun d => d.parameters.length) = some 0)
    (M : Met l y (.code y bytes maxL none :: BT) rm (va_Pc [.ref a] (PreN G H.size [(a, E)])) (Born G zf ob a (va_A [(a, E)] H.size)) mc ms (va_A [(a, E)] H.size))
    (hr1 : rm.cells = mc ∧ rm.slots = ms) (hr2 : rm.frames + 1 ≤ R.frames ∧ 8 + (maxL + 11) + rm.locals ≤ R.locals) (hcs : cells + mc ≤ R.cells ∧ slots + ms ≤ R.slots) (hW : (rest.map fun v => v.category).sum ≤ 8) (hdg : decode cc pc = .ok (.invokespecial index, 3))
    (wf : (Nat → Nat) → va_W) (hs : ∀ u, wr ++ zf u = wf u) (kk : ∀ (u : Nat → Nat) (H1 : Heap) (locs1 : List Loc), u ob = a → Wd G A s H1 locs1 (wf u) → W p l e R s m args below meth c H1 locs1 (cells + mc) (slots + ms) Q (F0 m (pc + 3) ls rest)) : W p l e R s m args below meth c H locs cells slots Q (F0 m pc ls (.ref a :: rest)) := by
  have hts := C.2.2.2.2.1
  have inb : ∀ {w : Cond}, w ∈ BT → w.before args s = true := fun h => hts _ (List.mem_cons_of_mem _ h)
  obtain ⟨hpre, hfr⟩ := hw.tailpre
  have cw := va_cnB (host := "SqueezedSwap") (own := own) (index := index) (y := y) (bytes := bytes) (maxL := maxL) (ret := none) (R := R) (rm := rm) (mc := mc) (ms := ms) 0 hts (goodBT w0 K.1) rfl hr1.1 hr1.2 (hq.1 _ lk) (inb hi) ⟨hyd.2.1, hyd.2.2.1, hyd.2.2.2⟩ hr2
  refine va_callv (va_runIN (As := []) (rest := rest) ⟨C.1, C.2.1, C.2.2.1, C.2.2.2.1, hts⟩ M ⟨cw, hyd.1, inb K.2⟩ ⟨blindN, fun U hU hW2 => ⟨rfl, hpre U hU hW2, hq.warm hW2⟩⟩ rfl rfl hls rfl (lv_room hW) hdg hcs) hw.2.2.2.1 (fun q _ h => hfr q h) hfr (fun u t H1 locs1 ht hvm hp hB hz1 hk1 hS => ?_)
  exact kk u H1 locs1 hp (by rw [← hs u]; exact hw.join hk1 hS ht hB)
theorem r_born (C : Cx p s m args meth c cc nL own w0 none) (hw : Wd G A s H locs ws) (u : Nat → Nat) (hu : u ob = a) (is : List Nat) (hn : va_nd is = true) (hs : is.map (fun i => ws[i]?) = (zf u).map some) (hdg : decode cc pc = .ok (.return_, 1)) : W p l e R s m args below meth c H locs cells slots (MQ below (Born G zf ob a A) args s cells slots A) (F0 m pc ls []) := by
  have hP : va_P G.1 vwCl (zf u) H := fun _ q hk => (va_in_of is hs hk).elim (fun i hi => hw.2.1 i q hi.2)
  exact W.vret C.1 C.2.1 C.2.2.2.2.2.2 (fun t ht hW => ⟨⟨u, rfl, hu, by rw [ht]; exact hP, va_K.moved hW.alike hw.1, hw.2.2.1.sub is hn hs⟩, hw.2.2.2.1.F ht⟩) hw.2.2.2.1.2.2 hdg C.2.2.2.2.2.1
end UR
def P0 : Pic := (fun _ => 0, fun _ _ => 0)
def PL : Pic := (fun k => if k = 0 then 1 else if k = 1 then 1 else if k = 2 then 15 else 0, fun _ _ => 0)
def PM : Pic := (fun k => if k = 2 then -1 else 0, fun _ _ => 0)
abbrev cB (h ci : Nat) (fs : List Value) : va_W := [(h, .inr (ci, fs))]
abbrev cA (q : Nat) (cl : ClassId) (n : Nat) : va_W := [(q, .inl (cl, n, .inl (fun _ => 0)))]
abbrev cR (q : Nat) (cl : ClassId) (n : Nat) : va_W := [(q, .inl (cl, n, .inr (.inr (.inr (.inr (fun _ => none))))))]
theorem gB {h ci : Nat} {fs : List Value} : (cB h ci fs)[0]? = some (h, .inr (ci, fs)) := rfl
theorem sB {h ci : Nat} {fs fs1 : List Value} : (cB h ci fs).set 0 (h, .inr (ci, fs1)) = cB h ci fs1 := rfl
theorem g1 {x : Nat × va_E} : ([x] : va_W)[0]? = some x := rfl
theorem s1 {x y : Nat × va_E} : ([x] : va_W).set 0 y = [y] := rfl
def off (u : Nat → Nat) (n : Nat) : Nat → Nat := fun k => u (n + k)
