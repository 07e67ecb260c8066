/-! rows of our own: a method's frame of reference (Cx), a world with its frame (Wd), a contract's start and end (PreW, PosW) -/
def BT : List Cond := lw_tbl.filter goodWord
abbrev Pic : Type := (Nat → Int32) × (Nat → Nat → Int32)
def gS (p : Pic) (k : Nat) : Int32 := p.1 k
def pS (p : Pic) (k : Nat) (v : Int32) : Pic := (va_up p.1 k v, p.2)
def rA (p : Pic) (k n : Nat) (i : Int32) : Option Int32 := if i < 0 ∨ n ≤ i.toNatClampNeg then none else some (p.2 k i.toNatClampNeg)
def wA (p : Pic) (k n : Nat) (i v : Int32) : Option Pic := if i < 0 ∨ n ≤ i.toNatClampNeg then none else some (p.1, va_up p.2 k (upd (p.2 k) i.toNatClampNeg v))
def dvI (x y : Int32) : Option Int32 := if y = 0 then none else some (x / y)
def rmI (x y : Int32) : Option Int32 := if y = 0 then none else some (x - x / y * y)
/-- a number that is a boolean -/
def okZ (x : Int32) : Option Int32 := if narrow .boolean (.int x) = .int x then some x else none
def FU : Nat := 12000
abbrev GG : Type := va_G × ClassId × ClassId × ClassId × ClassId
abbrev tysG (G : GG) : List (ClassId × FieldType) := [(G.2.1, .int), (G.2.2.1, .byte), (G.2.2.2.1, .object RX6), (G.2.2.2.2, .long)]
def PreW (G : GG) (sz : Nat) (ws : va_W) (U : State) : Prop := U.heap.size = sz ∧ va_P G.1 vwCl ws U.heap ∧ va_K G.1 vwCl (tysG G) U ∧ va_D (fun _ => True) ws
def PosW (G : GG) (A : Nat → Prop) (ws : va_W) (t : State) : Prop := va_P G.1 vwCl ws t.heap ∧ va_K G.1 vwCl (tysG G) t ∧ va_D A ws
def Wd (G : GG) (A : Nat → Prop) (s : State) (H : Heap) (locs : List Loc) (ws : va_W) : Prop := va_K G.1 vwCl (tysG G) s ∧ va_P G.1 vwCl ws H ∧ va_D A ws ∧ va_S A s.heap H locs ∧ ∀ q, s.heap.size ≤ q → A q
def Cx (p : Program) (s : State) (m : MethodId) (args : Array Value) (meth : Method) (c : Code) (cc : ByteArray) (nL : Nat) (own : String) (w0 : Cond) (ret : Option FieldType) : Prop := p.tables.exec = Jvm.exec ∧ c.code = cc ∧ c.maxLocals = nL ∧ s.vm.findClass own = some m.cls ∧ (∀ w ∈ w0 :: BT, w.before args s = true) ∧ meth.locks = false ∧ meth.sig.returnType = ret
def Ans (G : GG) (r : Int32) (A : Nat → Prop) (ws : va_W) : Array Value → State → Outcome → State → Prop := va_Qi (fun x (_ : Unit) => x = r) (fun _ t => PosW G A ws t) A
def Don (G : GG) (A : Nat → Prop) (ws : va_W) : Array Value → State → Outcome → State → Prop := va_Qv (fun (_ : Unit) => True) (fun _ t => PosW G A ws t) A
theorem bx {α β : Type} {o : Option α} {k : α → Option β} {b : β} (h : o.bind k = some b) : ∃ a, o = some a ∧ k a = some b := Option.bind_eq_some_iff.mp h
theorem inBT {ts : List Cond} (i : Nat) {w : Cond} (hs : ∀ w ∈ ts, w ∈ lw_tbl) (h : ts[i]? = some w) (g : goodWord w = true) : w ∈ BT := List.mem_filter.mpr ⟨hs w (List.mem_of_getElem? h), g⟩
theorem goodBT (w0 : Cond) {y : MethodName} {b : ByteArray} {n : Nat} {r : Option FieldType} (h : Cond.code y b n r ∈ BT) : GoodIn (w0 :: BT) (Cond.code y b n r :: BT) := by
  intro w hw
  have hm : w ∈ BT := by
    rcases List.mem_cons.mp hw with rfl | h2
    · exact h
    · exact h2
  exact ⟨List.mem_cons_of_mem _ hm, good_of_word (List.mem_filter.mp hm).2⟩
/-- a field, as a class's code names it: it is slot k of the kind ci -/
def FL (own : String) (index ci k : Nat) : Prop := ∃ (C : String) (T : u_T) (N : Nat), vwCl[ci]? = some (C, T, N) ∧ k < N ∧ (∀ w ∈ u_ws C T N, w ∈ BT) ∧ Cond.fieldLink own index C (T k).2.1 (T k).2.2.1 ∈ BT ∧ (T k).1 = C
def FP (own : String) (index ci k : Nat) (ty : FieldType) : Prop := ∃ (C : String) (T : u_T) (N : Nat) (ty0 : Nat → FieldType), vwCl[ci]? = some (C, T, N) ∧ k < N ∧ (∀ w ∈ u_ws C T N, w ∈ BT) ∧ Cond.fieldLink own index C (T k).2.1 (T k).2.2.1 ∈ BT ∧ (∀ k, k < N → parseFieldDescriptor (T k).2.2.1 = some (ty0 k)) ∧ (∀ a, a < N → ∀ b, b < N → a ≠ b → (T a).2.1 ≠ (T b).2.1) ∧ (T k).2.2.2 = false ∧ parseFieldDescriptor (T k).2.2.1 = some ty ∧ (T k).1 = C
/-- a method that is called on an object: what the tables say of it -/
def MV (y : MethodName) (b : ByteArray) (nL : Nat) (ret : Option FieldType) (n : Nat) : Prop := Cond.code y b nL ret ∈ BT ∧ Cond.instanceMethod y ∈ BT ∧ Cond.selects y.cls y y ∈ BT ∧ Cond.initialized y.cls ∈ BT ∧ y.cls ≠ "java/lang/invoke/MethodHandle" ∧ y.cls ≠ "java/lang/invoke/VarHandle" ∧ (parseMethodDescriptor y.desc).map (fun d => d.parameters.length) = some n
def MS (y : MethodName) (b : ByteArray) (nL : Nat) (ret : Option FieldType) (n : Nat) : Prop := Cond.code y b nL ret ∈ BT ∧ Cond.static y ∈ BT ∧ Cond.initialized y.cls ∈ BT ∧ y.cls ≠ "java/lang/invoke/MethodHandle" ∧ y.cls ≠ "java/lang/invoke/VarHandle" ∧ (parseMethodDescriptor y.desc).map (fun d => d.parameters.length) = some n
section RW
variable {p : Program} {l : Launch} {e : Env} {R : Room} {s : State} {m : MethodId} {args : Array Value} {below : List Frame} {meth : Method} {c : Code} {H : Heap} {locs : List Loc} {cells slots : Nat} {Q : State → Prop}
variable {cc : ByteArray} {nL pc : Nat} {own : String} {w0 : Cond} {ret : Option FieldType} {ls : Array Slot} {rest : List Value} {G : GG} {A : Nat → Prop} {ws ws' : va_W} {a : Nat} {lv lv' : List (Nat × Value)}
theorem r_iload0 (C : Cx p s m args meth c cc nL own w0 ret) (hl : lv_has ls nL lv) (k : Nat) {j : Fin 4} {x : Int32} (hk : lv[k]? = some ((j : Nat), .int x)) (hdg : decode cc pc = .ok (.iload_n j, 1)) (kk : W p l e R s m args below meth c H locs cells slots Q (F0 m (pc + 1) ls (.int x :: rest))) : W p l e R s m args below meth c H locs cells slots Q (F0 m pc ls rest) :=
  lv_iload_n C.1 C.2.1 hdg rfl (lv_at hl k hk) kk
theorem r_iload (C : Cx p s m args meth c cc nL own w0 ret) (hl : lv_has ls nL lv) (k : Nat) {j : Nat} {x : Int32} (hk : lv[k]? = some (j, .int x)) (hdg : decode cc pc = .ok (.iload j, 2)) (kk : W p l e R s m args below meth c H locs cells slots Q (F0 m (pc + 2) ls (.int x :: rest))) : W p l e R s m args below meth c H locs cells slots Q (F0 m pc ls rest) :=
  lv_iload C.1 C.2.1 hdg (lv_at hl k hk) kk
theorem r_aload0 (C : Cx p s m args meth c cc nL own w0 ret) (hl : lv_has ls nL lv) (k : Nat) {j : Fin 4} {x : Nat} (hk : lv[k]? = some ((j : Nat), .ref x)) (hdg : decode cc pc = .ok (.aload_n j, 1)) (kk : W p l e R s m args below meth c H locs cells slots Q (F0 m (pc + 1) ls (.ref x :: rest))) : W p l e R s m args below meth c H locs cells slots Q (F0 m pc ls rest) :=
  lv_aload_n C.1 C.2.1 hdg rfl (lv_at hl k hk) kk
theorem r_aload (C : Cx p s m args meth c cc nL own w0 ret) (hl : lv_has ls nL lv) (k : Nat) {j : Nat} {x : Nat} (hk : lv[k]? = some (j, .ref x)) (hdg : decode cc pc = .ok (.aload j, 2)) (kk : W p l e R s m args below meth c H locs cells slots Q (F0 m (pc + 2) ls (.ref x :: rest))) : W p l e R s m args below meth c H locs cells slots Q (F0 m pc ls rest) :=
  lv_aload C.1 C.2.1 hdg (lv_at hl k hk) kk
theorem r_istore0 (C : Cx p s m args meth c cc nL own w0 ret) (hl : lv_has ls nL lv) {j : Fin 4} {x : Int32} (lv' : List (Nat × Value)) (hn : (j : Nat) < nL) (hv : ((j : Nat), Value.int x) :: lv.filter (fun q => !(q.1 == (j : Nat)) && !(q.1 + 1 == (j : Nat) && q.2.category == 2)) = lv') (hdg : decode cc pc = .ok (.istore_n j, 1)) (kk : ∀ ls' : Array Slot, lv_has ls' nL lv' → W p l e R s m args below meth c H locs cells slots Q (F0 m (pc + 1) ls' rest)) : W p l e R s m args below meth c H locs cells slots Q (F0 m pc ls (.int x :: rest)) :=
  lv_istore_n C.1 C.2.1 hdg rfl hl hn hv kk
theorem r_istore (C : Cx p s m args meth c cc nL own w0 ret) (hl : lv_has ls nL lv) {j : Nat} {x : Int32} (lv' : List (Nat × Value)) (hn : j < nL) (hv : (j, Value.int x) :: lv.filter (fun q => !(q.1 == j) && !(q.1 + 1 == j && q.2.category == 2)) = lv') (hdg : decode cc pc = .ok (.istore j, 2)) (kk : ∀ ls' : Array Slot, lv_has ls' nL lv' → W p l e R s m args below meth c H locs cells slots Q (F0 m (pc + 2) ls' rest)) : W p l e R s m args below meth c H locs cells slots Q (F0 m pc ls (.int x :: rest)) :=
  lv_istore C.1 C.2.1 hdg hl hn hv kk
theorem r_astore0 (C : Cx p s m args meth c cc nL own w0 ret) (hl : lv_has ls nL lv) {j : Fin 4} {x : Nat} (lv' : List (Nat × Value)) (hn : (j : Nat) < nL) (hv : ((j : Nat), Value.ref x) :: lv.filter (fun q => !(q.1 == (j : Nat)) && !(q.1 + 1 == (j : Nat) && q.2.category == 2)) = lv') (hdg : decode cc pc = .ok (.astore_n j, 1)) (kk : ∀ ls' : Array Slot, lv_has ls' nL lv' → W p l e R s m args below meth c H locs cells slots Q (F0 m (pc + 1) ls' rest)) : W p l e R s m args below meth c H locs cells slots Q (F0 m pc ls (.ref x :: rest)) :=
  lv_astore_n C.1 C.2.1 hdg rfl hl hn hv kk
theorem r_iinc (C : Cx p s m args meth c cc nL own w0 ret) (hl : lv_has ls nL lv) (k : Nat) {j : Nat} {n : Int} {x : Int32} (v : Int32) (lv' : List (Nat × Value)) (hk : lv[k]? = some (j, .int x)) (hv : x + Int32.ofInt n = v) (hn : j < nL) (hf : (j, Value.int v) :: lv.filter (fun q => !(q.1 == j) && !(q.1 + 1 == j && q.2.category == 2)) = lv') (hdg : decode cc pc = .ok (.iinc j n, 3)) (kk : ∀ ls' : Array Slot, lv_has ls' nL lv' → W p l e R s m args below meth c H locs cells slots Q (F0 m (pc + 3) ls' rest)) : W p l e R s m args below meth c H locs cells slots Q (F0 m pc ls rest) :=
  lv_iinc C.1 C.2.1 hdg hl hk hv hn hf kk
theorem r_get (C : Cx p s m args meth c cc nL own w0 ret) (hw : Wd G A s H locs ws) (q0 : Nat) {ci index : Nat} {fs : List Value} (he : ws[q0]? = some (a, .inr (ci, fs))) (k : Nat) (fl : FL own index ci k) {v : Value} (hv : fs[k]? = some v) (hdg : decode cc pc = .ok (.getfield index, 3)) (kk : W p l e R s m args below meth c H locs cells slots Q (F0 m (pc + 3) ls (v :: rest))) : W p l e R s m args below meth c H locs cells slots Q (F0 m pc ls (.ref a :: rest)) := by
  obtain ⟨CC, T, N, hc, hk, hin, hlk, hT⟩ := fl
  obtain ⟨hx, hb, -, ho, hts, -⟩ := C
  exact va_get hx hb hts (fun w h => List.mem_cons_of_mem _ (hin w h)) ho hw.1 hw.2.1 q0 he hc k hk (hts _ (List.mem_cons_of_mem _ hlk)) (fun x h => by rw [hT] at h; exact h) hv hdg kk
theorem r_put (C : Cx p s m args meth c cc nL own w0 ret) (hw : Wd G A s H locs ws) (q0 : Nat) {ci index : Nat} {fs : List Value} (he : ws[q0]? = some (a, .inr (ci, fs))) (k : Nat) {ty : FieldType} (fp : FP own index ci k ty) {v : Value} (hn : narrow ty v = v) (hfit : fits ty v = true) (hlen : k < fs.length) (ws' : va_W) (hs : ws.set q0 (a, .inr (ci, fs.set k v)) = ws') (hdg : decode cc pc = .ok (.putfield index, 3)) (kk : ∀ (H1 : Heap) (locs1 : List Loc), Wd G A s H1 locs1 ws' → W p l e R s m args below meth c H1 locs1 cells slots Q (F0 m (pc + 3) ls rest)) : W p l e R s m args below meth c H locs cells slots Q (F0 m pc ls (v :: .ref a :: rest)) := by
  obtain ⟨CC, T, N, ty0, hc, hk, hin, hlk, hty, hnm, hfin, hd, hT⟩ := fp
  obtain ⟨hx, hb, -, ho, hts, -⟩ := C
  refine va_put hx hb hts (fun w h => List.mem_cons_of_mem _ (hin w h)) ty0 hty hnm ho hw.1 hw.2.1 hw.2.2.1 hw.2.2.2.1 q0 he hc k hk (hts _ (List.mem_cons_of_mem _ hlk)) (fun x h => by rw [hT] at h; exact h) hfin hd hn hfit hlen hdg (fun H1 locs1 hP hD hS => ?_)
  rw [hs] at hP hD
  exact kk H1 locs1 ⟨hw.1, hP, hD, hS, hw.2.2.2.2⟩
theorem rA_in {pi : Pic} {k n : Nat} {i v : Int32} (h : rA pi k n i = some v) : vp_in i n ∧ pi.2 k i.toNatClampNeg = v := by
  unfold rA at h
  by_cases hc : i < 0 ∨ n ≤ i.toNatClampNeg
  · rw [if_pos hc] at h; cases h
  · rw [if_neg hc] at h; exact ⟨hc, Option.some.inj h⟩
theorem wA_in {pi pj : Pic} {k n : Nat} {i v : Int32} (h : wA pi k n i v = some pj) : vp_in i n ∧ pj = (pi.1, va_up pi.2 k (upd (pi.2 k) i.toNatClampNeg v)) := by
  unfold wA at h
  by_cases hc : i < 0 ∨ n ≤ i.toNatClampNeg
  · rw [if_pos hc] at h; cases h
  · rw [if_neg hc] at h; exact ⟨hc, (Option.some.inj h).symm⟩
theorem r_iald (C : Cx p s m args meth c cc nL own w0 ret) (hw : Wd G A s H locs ws) (q0 : Nat) {pi : Pic} {k n : Nat} (ha : ws[q0]? = some (a, .inl (G.2.1, n, .inl (pi.2 k)))) {i v : Int32} (hv : rA pi k n i = some v) (hdg : decode cc pc = .ok (.iaload, 1)) (kk : W p l e R s m args below meth c H locs cells slots Q (F0 m (pc + 1) ls (.int v :: rest))) : W p l e R s m args below meth c H locs cells slots Q (F0 m pc ls (.int i :: .ref a :: rest)) := by
  obtain ⟨h1, h2⟩ := rA_in hv
  refine va_iald C.1 C.2.1 hw.1 hw.2.1 q0 0 ha rfl h1 hdg ?_
  rw [h2]; exact kk
theorem r_bald (C : Cx p s m args meth c cc nL own w0 ret) (hw : Wd G A s H locs ws) (q0 : Nat) {pi : Pic} {k n : Nat} (ha : ws[q0]? = some (a, .inl (G.2.2.1, n, .inl (pi.2 k)))) {i v : Int32} (hv : rA pi k n i = some v) (hdg : decode cc pc = .ok (.baload, 1)) (kk : W p l e R s m args below meth c H locs cells slots Q (F0 m (pc + 1) ls (.int v :: rest))) : W p l e R s m args below meth c H locs cells slots Q (F0 m pc ls (.int i :: .ref a :: rest)) := by
  obtain ⟨h1, h2⟩ := rA_in hv
  refine va_bald C.1 C.2.1 hw.1 hw.2.1 q0 1 ha rfl h1 hdg ?_
  rw [h2]; exact kk
/-- what an array of a picture is written to: fn makes the world of the picture -/
theorem r_iast (C : Cx p s m args meth c cc nL own w0 ret) (hw : Wd G A s H locs ws) (q0 : Nat) {pi pj : Pic} {k n : Nat} (ha : ws[q0]? = some (a, .inl (G.2.1, n, .inl (pi.2 k)))) {i x : Int32} (hv : wA pi k n i x = some pj) (ws' : va_W) (hs : pj = (pi.1, va_up pi.2 k (upd (pi.2 k) i.toNatClampNeg x)) → ws.set q0 (a, .inl (G.2.1, n, .inl (upd (pi.2 k) i.toNatClampNeg x))) = ws') (hdg : decode cc pc = .ok (.iastore, 1)) (kk : ∀ (H1 : Heap) (locs1 : List Loc), Wd G A s H1 locs1 ws' → W p l e R s m args below meth c H1 locs1 cells slots Q (F0 m (pc + 1) ls rest)) : W p l e R s m args below meth c H locs cells slots Q (F0 m pc ls (.int x :: .int i :: .ref a :: rest)) := by
  obtain ⟨h1, h2⟩ := wA_in hv
  refine va_iast C.1 C.2.1 hw.1 hw.2.1 hw.2.2.1 hw.2.2.2.1 q0 0 ha rfl h1 hdg (fun H1 locs1 hP hD hS => ?_)
  rw [hs h2] at hP hD
  exact kk H1 locs1 ⟨hw.1, hP, hD, hS, hw.2.2.2.2⟩
theorem r_iret (C : Cx p s m args meth c cc nL own w0 (some .int)) (hw : Wd G A s H locs ws) {r : Int32} (hdg : decode cc pc = .ok (.ireturn, 1)) : W p l e R s m args below meth c H locs cells slots (MQ below (Ans G r A ws) args s cells slots A) (F0 m pc ls [.int r]) :=
  W.iret C.1 C.2.1 C.2.2.2.2.2.2 (fun t ht hW => ⟨⟨r, (), rfl, rfl, by rw [ht]; exact hw.2.1, va_K.moved hW.alike hw.1, hw.2.2.1⟩, hw.2.2.2.1.F ht⟩) hw.2.2.2.1.2.2 hdg C.2.2.2.2.2.1
theorem r_zret (C : Cx p s m args meth c cc nL own w0 (some .boolean)) (hw : Wd G A s H locs ws) {r : Int32} (hz : okZ r = some r) (hdg : decode cc pc = .ok (.ireturn, 1)) : W p l e R s m args below meth c H locs cells slots (MQ below (Ans G r A ws) args s cells slots A) (F0 m pc ls [.int r]) := by
  have hn : narrow .boolean (.int r) = .int r := by
    unfold okZ at hz
    by_cases h : narrow .boolean (.int r) = .int r
    · exact h
    · rw [if_neg h] at hz; cases hz
  exact W.zret C.1 C.2.1 C.2.2.2.2.2.2 hn (fun t ht hW => ⟨⟨r, (), rfl, rfl, by rw [ht]; exact hw.2.1, va_K.moved hW.alike hw.1, hw.2.2.1⟩, hw.2.2.2.1.F ht⟩) hw.2.2.2.1.2.2 hdg C.2.2.2.2.2.1
theorem r_vret (C : Cx p s m args meth c cc nL own w0 none) (hw : Wd G A s H locs ws) (hdg : decode cc pc = .ok (.return_, 1)) : W p l e R s m args below meth c H locs cells slots (MQ below (Don G A ws) args s cells slots A) (F0 m pc ls []) :=
  W.vret C.1 C.2.1 C.2.2.2.2.2.2 (fun t ht hW => ⟨⟨(), rfl, trivial, by rw [ht]; exact hw.2.1, va_K.moved hW.alike hw.1, hw.2.2.1⟩, hw.2.2.2.1.F ht⟩) hw.2.2.2.1.2.2 hdg C.2.2.2.2.2.1
/-- a method's start -/
theorem Met.into {y : MethodName} {maxL : Nat} {rm : Room} {av : List Value} {sz mc ms : Nat} {Qc : Array Value → State → Outcome → State → Prop} (hy : plainName y.cls = true) (hn : (lg_sl av).length ≤ maxL)
    (body : ∀ (p : Program) (e : Env) (s : State) (m : MethodId) (below : List Frame) (meth : Method) (c : Code), Cx p s m av.toArray meth c cc maxL y.cls (.code y cc maxL ret) ret → s.heap.size = sz → ∀ ls : Array Slot, lv_has ls maxL (lv_args 0 av) → Wd G (va_A ws sz) s s.heap [] ws → W p l e rm s m av.toArray below meth c s.heap [] 0 0 (MQ below Qc av.toArray s mc ms (va_A ws sz)) (F0 m 0 ls [])) :
    Met l y (.code y cc maxL ret :: BT) rm (va_Pc av (PreW G sz ws)) Qc mc ms (va_A ws sz) := by
  refine Met.ofW (cc := cc) (maxL := maxL) (ret := ret) hy rfl ?_
  intro p e s m args below meth c s₁ B hml hv
  obtain ⟨rfl, hsz, hP, hK, hD0⟩ := hv
  have hts := atoms_spec (ws := .code y cc maxL ret :: BT) B.pre
  have hown : s.vm.findClass y.cls = some m.cls := findClass_of_methodNamed B.named
  have hl := lv_entry av (n := maxL) hn
  rw [lg_entry_eq]
  refine body p e s m below meth c ⟨B.exec, B.bytes, hml, hown, hts, B.notSynchronized, B.returns⟩ hsz _ hl ⟨hK, hP, hD0.self, va_S.rf, fun q h => Or.inr (by rw [← hsz]; exact h)⟩
/-- behind a call that makes nothing: the world with the callee's cells as it left them -/
theorem Wd.after {wc wc' : va_W} {H1 : Heap} {locs1 : List Loc} {t : State} (hw : Wd G A s H locs ws) (isC isR : List Nat) (hC : isC.map (fun i => ws[i]?) = wc.map some) (hC' : isC.map (fun i => ws'[i]?) = wc'.map some) (hR : isR.map (fun i => ws'[i]?) = isR.map (fun i => ws[i]?)) (hall : ∀ i, i < ws.length → i ∈ isC ∨ (i ∈ isR ∧ i ∉ isC)) (hfst : ws'.map Prod.fst = ws.map Prod.fst)
    (hk : ∀ q : Nat, q < H.size → ¬ va_A wc H.size q → H1[q]? = H[q]?) (hS : va_S A s.heap H1 locs1) (ht : t.heap = H1) (hB : PosW G (va_A wc H.size) wc' t) : Wd G A s H1 locs1 ws' := by
  obtain ⟨hK, hP, hD, -, hA⟩ := hw
  have hlen : ws'.length = ws.length := by have := congrArg List.length hfst; simpa using this
  have hf : ∀ (i : Nat) (x y : Nat × va_E), ws'[i]? = some x → ws[i]? = some y → x.1 = y.1 := by
    intro i x y h1 h2
    have h3 := congrArg (fun l : List Nat => l[i]?) hfst
    simp only [List.getElem?_map, h1, h2, Option.map_some] at h3
    exact Option.some.inj h3
  have hsm : ∀ (i : Nat) (x : Nat × va_E), ws'[i]? = some x → ∃ y, ws[i]? = some y ∧ y.1 = x.1 := by
    intro i x h1
    have hlt : i < ws.length := by rw [← hlen]; exact (List.getElem?_eq_some_iff.mp h1).1
    exact ⟨ws[i], List.getElem?_eq_getElem hlt, (hf i x _ h1 (List.getElem?_eq_getElem hlt)).symm⟩
  have hD' : va_D A ws' := by
    refine ⟨fun i j x y hi hj hxy => ?_, fun k q hk => ?_⟩
    · obtain ⟨x2, hx2, ex⟩ := hsm i x hi
      obtain ⟨y2, hy2, ey⟩ := hsm j y hj
      exact hD.1 i j x2 y2 hx2 hy2 (by rw [ex, ey]; exact hxy)
    · obtain ⟨x2, hx2, ex⟩ := hsm k q hk
      rw [← ex]; exact hD.2 k x2 hx2
  refine ⟨hK, fun i q hq => ?_, hD', hS, hA⟩
  have hlt : i < ws.length := by rw [← hlen]; exact (List.getElem?_eq_some_iff.mp hq).1
  rcases hall i hlt with h | ⟨h, hn⟩
  · obtain ⟨k, hk1⟩ := List.getElem?_of_mem h
    have h1 : (isC.map (fun i => ws'[i]?))[k]? = some (some q) := by rw [List.getElem?_map, hk1]; exact congrArg some hq
    rw [hC', List.getElem?_map] at h1
    cases hz : wc'[k]? with
    | none => rw [hz] at h1; cases h1
    | some z =>
      rw [hz] at h1
      cases h1
      have := hB.1 k q hz
      rw [ht] at this
      exact this
  · obtain ⟨k, hk1⟩ := List.getElem?_of_mem h
    have h1 : (isR.map (fun i => ws'[i]?))[k]? = some (some q) := by rw [List.getElem?_map, hk1]; exact congrArg some hq
    rw [hR, List.getElem?_map, hk1] at h1
    have hq2 : ws[i]? = some q := Option.some.inj h1
    have hat := hP i q hq2
    refine hat.kept (hk q.1 hat.lt ?_)
    rintro (⟨k2, e2, h2⟩ | h2)
    · have h3 : (isC.map (fun i => ws[i]?))[k2]? = some (some (q.1, e2)) := by rw [hC, List.getElem?_map, h2]; rfl
      rw [List.getElem?_map] at h3
      cases hi : isC[k2]? with
      | none => rw [hi] at h3; cases h3
      | some j =>
        rw [hi] at h3
        have h4 : ws[j]? = some (q.1, e2) := Option.some.inj h3
        have hij := hD.1 i j q (q.1, e2) hq2 h4 rfl
        subst hij
        exact hn (List.mem_of_getElem? hi)
    · exact absurd hat.lt (by omega)
theorem blindW {av : List Value} {sz : Nat} {wc : va_W} : FrameBlind (va_Pc av (PreW G sz wc)) := fun a U g mk q => by
  obtain ⟨q0, q1, qP, qK, qD⟩ := q
  exact ⟨q0, q1, qP, va_K.moved (u := U) (U := U.calling g mk a) (Vm.Alike.refl U.vm) qK, qD⟩
theorem Wd.pre {wc : va_W} (hw : Wd G A s H locs ws) (isC : List Nat) (hn : va_nd isC = true) (hC : isC.map (fun i => ws[i]?) = wc.map some) : ∀ U : State, U.heap = H → s.WarmedH U.vm → PreW G H.size wc U := by
  intro U hU hW
  obtain ⟨hK, hP, hD, -, -⟩ := hw
  refine ⟨by rw [hU], fun k q hk => ?_, va_K.moved hW.alike hK, (hD.sub isC hn hC).weaken (fun _ _ _ _ => trivial)⟩
  have h1 : (isC.map (fun i => ws[i]?))[k]? = some (some q) := by rw [hC, List.getElem?_map, hk]; rfl
  rw [List.getElem?_map] at h1
  cases hi : isC[k]? with
  | none => rw [hi] at h1; cases h1
  | some i => rw [hi] at h1; rw [hU]; exact hP i q (Option.some.inj h1)
theorem Wd.fr {wc : va_W} (hw : Wd G A s H locs ws) (isC : List Nat) (hC : isC.map (fun i => ws[i]?) = wc.map some) : ∀ q, va_A wc H.size q → A q := va_free hw.2.2.1 hw.2.2.2.1 hw.2.2.2.2 isC hC
/-- how the callee's cells stand in the caller's world, before and after -/
def CutW (ws wc ws' wc' : va_W) (isC isR : List Nat) : Prop := va_nd isC = true ∧ isC.map (fun i => ws[i]?) = wc.map some ∧ isC.map (fun i => ws'[i]?) = wc'.map some ∧ isR.map (fun i => ws'[i]?) = isR.map (fun i => ws[i]?) ∧ (∀ i, i < ws.length → i ∈ isC ∨ (i ∈ isR ∧ i ∉ isC)) ∧ ws'.map Prod.fst = ws.map Prod.fst
end RW
theorem nd_range' : ∀ (n k : Nat), va_nd (List.range' k n) = true
  | 0, _ => rfl
  | n + 1, k => by
    rw [List.range'_succ]
    simp only [va_nd, Bool.and_eq_true, decide_eq_true_eq]
    refine ⟨fun h => ?_, nd_range' n (k + 1)⟩
    have := (List.mem_range'_1.mp h).1
    omega
theorem map_get_range (ws : va_W) : (List.range ws.length).map (fun i => ws[i]?) = ws.map some := by
  apply List.ext_getElem?
  intro i
  rw [List.getElem?_map, List.getElem?_map]
  by_cases h : i < ws.length
  · rw [List.getElem?_range h, List.getElem?_eq_getElem h]
    simp [List.getElem?_eq_getElem h]
  · rw [List.getElem?_eq_none (by simpa using h), List.getElem?_eq_none (by simpa using h)]
    rfl
/-- the callee's cells in the caller's world, wherever they stand -/
def CutX (ws wc ws' wc' : va_W) : Prop := ∃ isC isR : List Nat, CutW ws wc ws' wc' isC isR
theorem CutX.all {ws ws' : va_W} (hfst : ws'.map Prod.fst = ws.map Prod.fst) : CutX ws ws ws' ws' := by
  have hlen : ws'.length = ws.length := by have := congrArg List.length hfst; simpa using this
  exact ⟨List.range ws.length, [], by rw [List.range_eq_range']; exact nd_range' _ _, map_get_range ws, by rw [← hlen]; exact map_get_range ws', rfl, fun i h => Or.inl (List.mem_range.mpr h), hfst⟩
theorem CutX.none {ws : va_W} : CutX ws [] ws [] := ⟨[], List.range ws.length, rfl, rfl, rfl, rfl, fun i h => Or.inr ⟨List.mem_range.mpr h, fun h => by cases h⟩, rfl⟩
theorem CutX.mk {ws wc ws' wc' : va_W} {isC isR : List Nat} (n : Nat) (h0 : va_nd isC = true) (h1 : isC.map (fun i => ws[i]?) = wc.map some) (h2 : isC.map (fun i => ws'[i]?) = wc'.map some) (h3 : isR.map (fun i => ws'[i]?) = isR.map (fun i => ws[i]?)) (hn : ws.length = n) (h4 : ∀ i, i < n → i ∈ isC ∨ (i ∈ isR ∧ i ∉ isC)) (h5 : ws'.map Prod.fst = ws.map Prod.fst) : CutX ws wc ws' wc' := ⟨isC, isR, h0, h1, h2, h3, by rw [hn]; exact h4, h5⟩
theorem nd_add (n : Nat) : ∀ l : List Nat, va_nd l = true → va_nd (l.map (fun i => n + i)) = true
  | [], _ => rfl
  | a :: l, h => by
    simp only [va_nd, Bool.and_eq_true, decide_eq_true_eq, List.map_cons] at h ⊢
    refine ⟨fun hm => ?_, nd_add n l h.2⟩
    obtain ⟨b, hb, e⟩ := List.mem_map.mp hm
    have : b = a := by omega
    subst this
    exact h.1 hb
theorem nd_app : ∀ (l1 l2 : List Nat), va_nd l1 = true → va_nd l2 = true → (∀ i ∈ l1, i ∉ l2) → va_nd (l1 ++ l2) = true
  | [], l2, _, h, _ => h
  | a :: l1, l2, h1, h2, h3 => by
    simp only [va_nd, Bool.and_eq_true, decide_eq_true_eq, List.cons_append] at h1 ⊢
    refine ⟨fun hm => ?_, nd_app l1 l2 h1.2 h2 (fun i hi => h3 i (List.mem_cons_of_mem _ hi))⟩
    rcases List.mem_append.mp hm with h | h
    · exact h1.1 h
    · exact h3 a List.mem_cons_self h
theorem get_add (c ws : va_W) (i : Nat) : (c ++ ws)[c.length + i]? = ws[i]? := by
  rw [List.getElem?_append_right (by omega)]
  congr 1
  omega
theorem map_add (c ws : va_W) (l : List Nat) : (l.map (fun i => c.length + i)).map (fun i => (c ++ ws)[i]?) = l.map (fun i => ws[i]?) := by
  rw [List.map_map]
  apply List.map_congr_left
  intro i _
  exact get_add c ws i
theorem map_left (c ws : va_W) : (List.range c.length).map (fun i => (c ++ ws)[i]?) = c.map some := by
  rw [← map_get_range c]
  apply List.map_congr_left
  intro i hi
  exact List.getElem?_append_left (List.mem_range.mp hi)
theorem CutX.skip {c ws wc ws' wc' : va_W} (h : CutX ws wc ws' wc') : CutX (c ++ ws) wc (c ++ ws') wc' := by
  obtain ⟨isC, isR, h0, h1, h2, h3, h4, h5⟩ := h
  refine ⟨isC.map (fun i => c.length + i), List.range c.length ++ isR.map (fun i => c.length + i), nd_add _ _ h0, by rw [map_add]; exact h1, by rw [map_add]; exact h2, ?_, ?_, by rw [List.map_append, List.map_append, h5]⟩
  · rw [List.map_append, List.map_append, map_add, map_add, map_left, map_left, h3]
  · intro i hi
    rw [List.length_append] at hi
    by_cases hc : i < c.length
    · refine Or.inr ⟨List.mem_append_left _ (List.mem_range.mpr hc), fun hm => ?_⟩
      obtain ⟨j, -, e⟩ := List.mem_map.mp hm
      omega
    · have e : c.length + (i - c.length) = i := by omega
      rcases h4 (i - c.length) (by omega) with q | ⟨q, q2⟩
      · exact Or.inl (List.mem_map.mpr ⟨_, q, e⟩)
      · refine Or.inr ⟨List.mem_append_right _ (List.mem_map.mpr ⟨_, q, e⟩), fun hm => ?_⟩
        obtain ⟨j, hj, e2⟩ := List.mem_map.mp hm
        have : j = i - c.length := by omega
        subst this
        exact q2 hj
theorem CutX.take {c c' ws wc ws' wc' : va_W} (hf : c'.map Prod.fst = c.map Prod.fst) (h : CutX ws wc ws' wc') : CutX (c ++ ws) (c ++ wc) (c' ++ ws') (c' ++ wc') := by
  have hlen : c'.length = c.length := by have := congrArg List.length hf; simpa using this
  obtain ⟨isC, isR, h0, h1, h2, h3, h4, h5⟩ := h
  refine ⟨List.range c.length ++ isC.map (fun i => c.length + i), isR.map (fun i => c.length + i), ?_, ?_, ?_, ?_, ?_, by rw [List.map_append, List.map_append, h5, hf]⟩
  · refine nd_app _ _ (by rw [List.range_eq_range']; exact nd_range' _ _) (nd_add _ _ h0) (fun i hi hm => ?_)
    obtain ⟨j, -, e⟩ := List.mem_map.mp hm
    have := List.mem_range.mp hi
    omega
  · rw [List.map_append, List.map_append, map_add, map_left, h1]
  · rw [← hlen, List.map_append, List.map_append, map_add, map_left, h2]
  · have e1 := map_add c' ws' isR
    rw [hlen] at e1
    rw [e1, map_add, h3]
  · intro i hi
    rw [List.length_append] at hi
    by_cases hc : i < c.length
    · exact Or.inl (List.mem_append_left _ (List.mem_range.mpr hc))
    · have e : c.length + (i - c.length) = i := by omega
      rcases h4 (i - c.length) (by omega) with q | ⟨q, q2⟩
      · exact Or.inl (List.mem_append_right _ (List.mem_map.mpr ⟨_, q, e⟩))
      · refine Or.inr ⟨List.mem_map.mpr ⟨_, q, e⟩, fun hm => ?_⟩
        rcases List.mem_append.mp hm with hm | hm
        · exact hc (List.mem_range.mp hm)
        · obtain ⟨j, hj, e2⟩ := List.mem_map.mp hm
          have : j = i - c.length := by omega
          subst this
          exact q2 hj
theorem dvI_in {x y v : Int32} (h : dvI x y = some v) : ¬ y = 0 ∧ x / y = v := by
  unfold dvI at h
  by_cases hc : y = 0
  · rw [if_pos hc] at h; cases h
  · rw [if_neg hc] at h; exact ⟨hc, Option.some.inj h⟩
theorem rmI_in {x y v : Int32} (h : rmI x y = some v) : ¬ y = 0 ∧ x - x / y * y = v := by
  unfold rmI at h
  by_cases hc : y = 0
  · rw [if_pos hc] at h; cases h
  · rw [if_neg hc] at h; exact ⟨hc, Option.some.inj h⟩
theorem okZ_in {x v : Int32} (h : okZ x = some v) : v = x := by
  unfold okZ at h
  split at h
  · exact (Option.some.inj h).symm
  · cases h
section RX
variable {p : Program} {l : Launch} {e : Env} {R : Room} {s : State} {m : MethodId} {args : Array Value} {below : List Frame} {meth : Method} {c : Code} {H : Heap} {locs : List Loc} {cells slots : Nat} {Q : State → Prop}
variable {cc : ByteArray} {nL pc : Nat} {own : String} {w0 : Cond} {ret : Option FieldType} {ls : Array Slot} {rest : List Value} {G : GG} {A : Nat → Prop} {ws ws' : va_W} {a : Nat} {lv lv' : List (Nat × Value)}
theorem r_idiv (C : Cx p s m args meth c cc nL own w0 ret) {x y v : Int32} (hv : dvI x y = some v) (hdg : decode cc pc = .ok (.idiv, 1)) (kk : W p l e R s m args below meth c H locs cells slots Q (F0 m (pc + 1) ls (.int v :: rest))) : W p l e R s m args below meth c H locs cells slots Q (F0 m pc ls (.int y :: .int x :: rest)) := by
  obtain ⟨h1, h2⟩ := dvI_in hv
  refine lv_idiv C.1 C.2.1 hdg h1 ?_
  rw [h2]; exact kk
theorem r_irem (C : Cx p s m args meth c cc nL own w0 ret) {x y v : Int32} (hv : rmI x y = some v) (hdg : decode cc pc = .ok (.irem, 1)) (kk : W p l e R s m args below meth c H locs cells slots Q (F0 m (pc + 1) ls (.int v :: rest))) : W p l e R s m args below meth c H locs cells slots Q (F0 m pc ls (.int y :: .int x :: rest)) := by
  obtain ⟨h1, h2⟩ := rmI_in hv
  refine lv_irem C.1 C.2.1 hdg h1 ?_
  rw [h2]; exact kk
theorem r_alen (C : Cx p s m args meth c cc nL own w0 ret) (hw : Wd G A s H locs ws) (q0 : Nat) {x : vp_A} (ha : ws[q0]? = some (a, .inl (G.2.1, x))) {v : Int32} (hv : Int32.ofNat x.1 = v) (hdg : decode cc pc = .ok (.arraylength, 1)) (kk : W p l e R s m args below meth c H locs cells slots Q (F0 m (pc + 1) ls (.int v :: rest))) : W p l e R s m args below meth c H locs cells slots Q (F0 m pc ls (.ref a :: rest)) :=
  va_alen C.1 C.2.1 hw.1 hw.2.1 q0 0 ha rfl hv hdg kk
end RX
section RC
variable {p : Program} {l : Launch} {e : Env} {R : Room} {s : State} {m : MethodId} {args : Array Value} {below : List Frame} {meth : Method} {c : Code} {H : Heap} {locs : List Loc} {cells slots : Nat} {Q : State → Prop}
variable {cc : ByteArray} {nL pc : Nat} {own : String} {w0 : Cond} {ret : Option FieldType} {ls : Array Slot} {rest : List Value} {G : GG} {A : Nat → Prop} {ws ws' : va_W} {a : Nat} {lv lv' : List (Nat × Value)}
variable {y : MethodName} {bytes : ByteArray} {maxL n index : Nat} {ret1 : Option FieldType} {rm : Room} {wc wc' : va_W} {As : List Value} {r : Int32}
variable {Pre : State → Prop}
theorem g_callVi (C : Cx p s m args meth c cc nL own w0 ret) (hw : Wd G A s H locs ws) (hls : ls.size = nL) (K : MV y bytes maxL ret1 n) (lk : Cond.methodLink own index y ∈ BT)
    (M : Met l y (.code y bytes maxL ret1 :: BT) rm (va_Pc (.ref a :: As) Pre) (Ans G r (va_A wc H.size) wc') 0 0 (va_A wc H.size)) (hbl : FrameBlind (va_Pc (.ref a :: As) Pre))
    (cut : CutX ws wc ws' wc') (hpre : (∀ q, va_A wc H.size q → A q) → ∀ U : State, U.heap = H → s.WarmedH U.vm → PreW G H.size wc U → Pre U) (hrecv : ∃ cellB : Cell, H[a]? = some cellB ∧ cellB.vm.isStatics = false ∧ s.vm.findClass y.cls = some cellB.cls) (hr1 : rm.cells = 0 ∧ rm.slots = 0) (hr2 : rm.frames + 1 ≤ R.frames ∧ 8 + (maxL + 11) + rm.locals ≤ R.locals) (hn : As.length = n) (hcs : cells ≤ R.cells ∧ slots ≤ R.slots)
    {st0 : List Value} (hst : st0 = As.reverse ++ .ref a :: rest) (hW : (rest.map fun v => v.category).sum ≤ 8) (hdg : decode cc pc = .ok (.invokevirtual index, 3))
    (kk : ∀ (H1 : Heap) (locs1 : List Loc), Wd G A s H1 locs1 ws' → W p l e R s m args below meth c H1 locs1 cells slots Q (F0 m (pc + 3) ls (.int r :: rest))) : W p l e R s m args below meth c H locs cells slots Q (F0 m pc ls st0) := by
  obtain ⟨isC, isR, c1, c2, c3, c4, c5, c6⟩ := cut
  obtain ⟨k1, k2, k3, k4, k5, k6, k7⟩ := K
  have hts := C.2.2.2.2.1
  have inb : ∀ {w : Cond}, w ∈ BT → w.before args s = true := fun h => hts _ (List.mem_cons_of_mem _ h)
  have cw : CallW R s args own y.cls index y bytes maxL ret1 (.code y bytes maxL ret1 :: BT) rm 0 0 n := ⟨callB_of n hts (goodBT w0 k1) rfl hr1.1 hr1.2 (inb k4) (inb lk) ⟨k5, k6, k7⟩ hr2, inb k2, inb k3⟩
  refine va_calli (va_runV (As := As) (rest := rest) ⟨C.1, C.2.1, C.2.2.1, C.2.2.2.1, hts⟩ M cw ⟨hbl, hrecv, fun U hU hW2 => ⟨rfl, hpre (hw.fr isC c2) U hU hW2 (hw.pre isC c1 c2 U hU hW2)⟩⟩ rfl hn hls hst (lv_room hW) hdg ⟨hcs.1, hcs.2⟩) hw.2.2.2.1 (fun q _ h => hw.fr isC c2 q h) (hw.fr isC c2) (fun r1 u t H1 locs1 ht hvm hp hB hz1 hk1 hS => ?_)
  subst hp
  have hB2 : PosW G (va_A wc H.size) wc' t := hB
  exact kk H1 locs1 (hw.after isC isR c2 c3 c4 c5 c6 hk1 hS ht hB2)
theorem g_callVv (C : Cx p s m args meth c cc nL own w0 ret) (hw : Wd G A s H locs ws) (hls : ls.size = nL) (K : MV y bytes maxL ret1 n) (lk : Cond.methodLink own index y ∈ BT)
    (M : Met l y (.code y bytes maxL ret1 :: BT) rm (va_Pc (.ref a :: As) Pre) (Don G (va_A wc H.size) wc') 0 0 (va_A wc H.size)) (hbl : FrameBlind (va_Pc (.ref a :: As) Pre))
    (cut : CutX ws wc ws' wc') (hpre : (∀ q, va_A wc H.size q → A q) → ∀ U : State, U.heap = H → s.WarmedH U.vm → PreW G H.size wc U → Pre U) (hrecv : ∃ cellB : Cell, H[a]? = some cellB ∧ cellB.vm.isStatics = false ∧ s.vm.findClass y.cls = some cellB.cls) (hr1 : rm.cells = 0 ∧ rm.slots = 0) (hr2 : rm.frames + 1 ≤ R.frames ∧ 8 + (maxL + 11) + rm.locals ≤ R.locals) (hn : As.length = n) (hcs : cells ≤ R.cells ∧ slots ≤ R.slots)
    {st0 : List Value} (hst : st0 = As.reverse ++ .ref a :: rest) (hW : (rest.map fun v => v.category).sum ≤ 8) (hdg : decode cc pc = .ok (.invokevirtual index, 3))
    (kk : ∀ (H1 : Heap) (locs1 : List Loc), Wd G A s H1 locs1 ws' → W p l e R s m args below meth c H1 locs1 cells slots Q (F0 m (pc + 3) ls rest)) : W p l e R s m args below meth c H locs cells slots Q (F0 m pc ls st0) := by
  obtain ⟨isC, isR, c1, c2, c3, c4, c5, c6⟩ := cut
  obtain ⟨k1, k2, k3, k4, k5, k6, k7⟩ := K
  have hts := C.2.2.2.2.1
  have inb : ∀ {w : Cond}, w ∈ BT → w.before args s = true := fun h => hts _ (List.mem_cons_of_mem _ h)
  have cw : CallW R s args own y.cls index y bytes maxL ret1 (.code y bytes maxL ret1 :: BT) rm 0 0 n := ⟨callB_of n hts (goodBT w0 k1) rfl hr1.1 hr1.2 (inb k4) (inb lk) ⟨k5, k6, k7⟩ hr2, inb k2, inb k3⟩
  refine va_callv (va_runV (As := As) (rest := rest) ⟨C.1, C.2.1, C.2.2.1, C.2.2.2.1, hts⟩ M cw ⟨hbl, hrecv, fun U hU hW2 => ⟨rfl, hpre (hw.fr isC c2) U hU hW2 (hw.pre isC c1 c2 U hU hW2)⟩⟩ rfl hn hls hst (lv_room hW) hdg ⟨hcs.1, hcs.2⟩) hw.2.2.2.1 (fun q _ h => hw.fr isC c2 q h) (hw.fr isC c2) (fun u t H1 locs1 ht hvm hp hB hz1 hk1 hS => ?_)
  have hB2 : PosW G (va_A wc H.size) wc' t := hB
  exact kk H1 locs1 (hw.after isC isR c2 c3 c4 c5 c6 hk1 hS ht hB2)
theorem g_callSi (C : Cx p s m args meth c cc nL own w0 ret) (hw : Wd G A s H locs ws) (hls : ls.size = nL) (K : MS y bytes maxL ret1 n) (lk : Cond.methodLink own index y ∈ BT)
    (M : Met l y (.code y bytes maxL ret1 :: BT) rm (va_Pc As Pre) (Ans G r (va_A wc H.size) wc') 0 0 (va_A wc H.size)) (hbl : FrameBlind (va_Pc As Pre))
    (cut : CutX ws wc ws' wc') (hpre : (∀ q, va_A wc H.size q → A q) → ∀ U : State, U.heap = H → s.WarmedH U.vm → PreW G H.size wc U → Pre U) (hr1 : rm.cells = 0 ∧ rm.slots = 0) (hr2 : rm.frames + 1 ≤ R.frames ∧ 8 + (maxL + 11) + rm.locals ≤ R.locals) (hn : As.length = n) (hcs : cells ≤ R.cells ∧ slots ≤ R.slots)
    {st0 : List Value} (hst : st0 = As.reverse ++ rest) (hW : (rest.map fun v => v.category).sum ≤ 8) (hdg : decode cc pc = .ok (.invokestatic index, 3))
    (kk : ∀ (H1 : Heap) (locs1 : List Loc), Wd G A s H1 locs1 ws' → W p l e R s m args below meth c H1 locs1 cells slots Q (F0 m (pc + 3) ls (.int r :: rest))) : W p l e R s m args below meth c H locs cells slots Q (F0 m pc ls st0) := by
  obtain ⟨isC, isR, c1, c2, c3, c4, c5, c6⟩ := cut
  obtain ⟨k1, k2, k4, k5, k6, k7⟩ := K
  have hts := C.2.2.2.2.1
  have inb : ∀ {w : Cond}, w ∈ BT → w.before args s = true := fun h => hts _ (List.mem_cons_of_mem _ h)
  have cw : CallB R s args own index y bytes maxL ret1 (.code y bytes maxL ret1 :: BT) rm 0 0 n ∧ (Cond.static y).before args s = true := ⟨callB_of n hts (goodBT w0 k1) rfl hr1.1 hr1.2 (inb k4) (inb lk) ⟨k5, k6, k7⟩ hr2, inb k2⟩
  refine va_calli (va_runS (As := As) (rest := rest) ⟨C.1, C.2.1, C.2.2.1, C.2.2.2.1, hts⟩ M cw ⟨hbl, fun U hU hW2 => ⟨rfl, hpre (hw.fr isC c2) U hU hW2 (hw.pre isC c1 c2 U hU hW2)⟩⟩ rfl hn hls hst (lv_room hW) hdg ⟨hcs.1, hcs.2⟩) hw.2.2.2.1 (fun q _ h => hw.fr isC c2 q h) (hw.fr isC c2) (fun r1 u t H1 locs1 ht hvm hp hB hz1 hk1 hS => ?_)
  subst hp
  have hB2 : PosW G (va_A wc H.size) wc' t := hB
  exact kk H1 locs1 (hw.after isC isR c2 c3 c4 c5 c6 hk1 hS ht hB2)
theorem g_callSv (C : Cx p s m args meth c cc nL own w0 ret) (hw : Wd G A s H locs ws) (hls : ls.size = nL) (K : MS y bytes maxL ret1 n) (lk : Cond.methodLink own index y ∈ BT)
    (M : Met l y (.code y bytes maxL ret1 :: BT) rm (va_Pc As Pre) (Don G (va_A wc H.size) wc') 0 0 (va_A wc H.size)) (hbl : FrameBlind (va_Pc As Pre))
    (cut : CutX ws wc ws' wc') (hpre : (∀ q, va_A wc H.size q → A q) → ∀ U : State, U.heap = H → s.WarmedH U.vm → PreW G H.size wc U → Pre U) (hr1 : rm.cells = 0 ∧ rm.slots = 0) (hr2 : rm.frames + 1 ≤ R.frames ∧ 8 + (maxL + 11) + rm.locals ≤ R.locals) (hn : As.length = n) (hcs : cells ≤ R.cells ∧ slots ≤ R.slots)
    {st0 : List Value} (hst : st0 = As.reverse ++ rest) (hW : (rest.map fun v => v.category).sum ≤ 8) (hdg : decode cc pc = .ok (.invokestatic index, 3))
    (kk : ∀ (H1 : Heap) (locs1 : List Loc), Wd G A s H1 locs1 ws' → W p l e R s m args below meth c H1 locs1 cells slots Q (F0 m (pc + 3) ls rest)) : W p l e R s m args below meth c H locs cells slots Q (F0 m pc ls st0) := by
  obtain ⟨isC, isR, c1, c2, c3, c4, c5, c6⟩ := cut
  obtain ⟨k1, k2, k4, k5, k6, k7⟩ := K
  have hts := C.2.2.2.2.1
  have inb : ∀ {w : Cond}, w ∈ BT → w.before args s = true := fun h => hts _ (List.mem_cons_of_mem _ h)
  have cw : CallB R s args own index y bytes maxL ret1 (.code y bytes maxL ret1 :: BT) rm 0 0 n ∧ (Cond.static y).before args s = true := ⟨callB_of n hts (goodBT w0 k1) rfl hr1.1 hr1.2 (inb k4) (inb lk) ⟨k5, k6, k7⟩ hr2, inb k2⟩
  refine va_callv (va_runS (As := As) (rest := rest) ⟨C.1, C.2.1, C.2.2.1, C.2.2.2.1, hts⟩ M cw ⟨hbl, fun U hU hW2 => ⟨rfl, hpre (hw.fr isC c2) U hU hW2 (hw.pre isC c1 c2 U hU hW2)⟩⟩ rfl hn hls hst (lv_room hW) hdg ⟨hcs.1, hcs.2⟩) hw.2.2.2.1 (fun q _ h => hw.fr isC c2 q h) (hw.fr isC c2) (fun u t H1 locs1 ht hvm hp hB hz1 hk1 hS => ?_)
  have hB2 : PosW G (va_A wc H.size) wc' t := hB
  exact kk H1 locs1 (hw.after isC isR c2 c3 c4 c5 c6 hk1 hS ht hB2)
theorem r_callVi (C : Cx p s m args meth c cc nL own w0 ret) (hw : Wd G A s H locs ws) (hls : ls.size = nL) (K : MV y bytes maxL ret1 n) (lk : Cond.methodLink own index y ∈ BT)
    (M : Met l y (.code y bytes maxL ret1 :: BT) rm (va_Pc (.ref a :: As) (PreW G H.size wc)) (Ans G r (va_A wc H.size) wc') 0 0 (va_A wc H.size))
    (cut : CutX ws wc ws' wc') (q0 : Nat) {ci : Nat} {fs : List Value} {T : u_T} {N : Nat} (hrc : ws[q0]? = some (a, .inr (ci, fs))) (hcl : vwCl[ci]? = some (y.cls, T, N)) (hr1 : rm.cells = 0 ∧ rm.slots = 0) (hr2 : rm.frames + 1 ≤ R.frames ∧ 8 + (maxL + 11) + rm.locals ≤ R.locals) (hn : As.length = n) (hcs : cells ≤ R.cells ∧ slots ≤ R.slots)
    {st0 : List Value} (hst : st0 = As.reverse ++ .ref a :: rest) (hW : (rest.map fun v => v.category).sum ≤ 8) (hdg : decode cc pc = .ok (.invokevirtual index, 3))
    (kk : ∀ (H1 : Heap) (locs1 : List Loc), Wd G A s H1 locs1 ws' → W p l e R s m args below meth c H1 locs1 cells slots Q (F0 m (pc + 3) ls (.int r :: rest))) : W p l e R s m args below meth c H locs cells slots Q (F0 m pc ls st0) :=
  g_callVi C hw hls K lk M blindW cut (fun _ _ _ _ h => h) (va_recv hw.1 hw.2.1 hcl hrc) hr1 hr2 hn hcs hst hW hdg kk
theorem r_callVv (C : Cx p s m args meth c cc nL own w0 ret) (hw : Wd G A s H locs ws) (hls : ls.size = nL) (K : MV y bytes maxL ret1 n) (lk : Cond.methodLink own index y ∈ BT)
    (M : Met l y (.code y bytes maxL ret1 :: BT) rm (va_Pc (.ref a :: As) (PreW G H.size wc)) (Don G (va_A wc H.size) wc') 0 0 (va_A wc H.size))
    (cut : CutX ws wc ws' wc') (q0 : Nat) {ci : Nat} {fs : List Value} {T : u_T} {N : Nat} (hrc : ws[q0]? = some (a, .inr (ci, fs))) (hcl : vwCl[ci]? = some (y.cls, T, N)) (hr1 : rm.cells = 0 ∧ rm.slots = 0) (hr2 : rm.frames + 1 ≤ R.frames ∧ 8 + (maxL + 11) + rm.locals ≤ R.locals) (hn : As.length = n) (hcs : cells ≤ R.cells ∧ slots ≤ R.slots)
    {st0 : List Value} (hst : st0 = As.reverse ++ .ref a :: rest) (hW : (rest.map fun v => v.category).sum ≤ 8) (hdg : decode cc pc = .ok (.invokevirtual index, 3))
    (kk : ∀ (H1 : Heap) (locs1 : List Loc), Wd G A s H1 locs1 ws' → W p l e R s m args below meth c H1 locs1 cells slots Q (F0 m (pc + 3) ls rest)) : W p l e R s m args below meth c H locs cells slots Q (F0 m pc ls st0) :=
  g_callVv C hw hls K lk M blindW cut (fun _ _ _ _ h => h) (va_recv hw.1 hw.2.1 hcl hrc) hr1 hr2 hn hcs hst hW hdg kk
theorem r_callSi (C : Cx p s m args meth c cc nL own w0 ret) (hw : Wd G A s H locs ws) (hls : ls.size = nL) (K : MS y bytes maxL ret1 n) (lk : Cond.methodLink own index y ∈ BT)
    (M : Met l y (.code y bytes maxL ret1 :: BT) rm (va_Pc As (PreW G H.size wc)) (Ans G r (va_A wc H.size) wc') 0 0 (va_A wc H.size))
    (cut : CutX ws wc ws' wc') (hr1 : rm.cells = 0 ∧ rm.slots = 0) (hr2 : rm.frames + 1 ≤ R.frames ∧ 8 + (maxL + 11) + rm.locals ≤ R.locals) (hn : As.length = n) (hcs : cells ≤ R.cells ∧ slots ≤ R.slots)
    {st0 : List Value} (hst : st0 = As.reverse ++ rest) (hW : (rest.map fun v => v.category).sum ≤ 8) (hdg : decode cc pc = .ok (.invokestatic index, 3))
    (kk : ∀ (H1 : Heap) (locs1 : List Loc), Wd G A s H1 locs1 ws' → W p l e R s m args below meth c H1 locs1 cells slots Q (F0 m (pc + 3) ls (.int r :: rest))) : W p l e R s m args below meth c H locs cells slots Q (F0 m pc ls st0) :=
  g_callSi C hw hls K lk M blindW cut (fun _ _ _ _ h => h) hr1 hr2 hn hcs hst hW hdg kk
theorem r_callSv (C : Cx p s m args meth c cc nL own w0 ret) (hw : Wd G A s H locs ws) (hls : ls.size = nL) (K : MS y bytes maxL ret1 n) (lk : Cond.methodLink own index y ∈ BT)
    (M : Met l y (.code y bytes maxL ret1 :: BT) rm (va_Pc As (PreW G H.size wc)) (Don G (va_A wc H.size) wc') 0 0 (va_A wc H.size))
    (cut : CutX ws wc ws' wc') (hr1 : rm.cells = 0 ∧ rm.slots = 0) (hr2 : rm.frames + 1 ≤ R.frames ∧ 8 + (maxL + 11) + rm.locals ≤ R.locals) (hn : As.length = n) (hcs : cells ≤ R.cells ∧ slots ≤ R.slots)
    {st0 : List Value} (hst : st0 = As.reverse ++ rest) (hW : (rest.map fun v => v.category).sum ≤ 8) (hdg : decode cc pc = .ok (.invokestatic index, 3))
    (kk : ∀ (H1 : Heap) (locs1 : List Loc), Wd G A s H1 locs1 ws' → W p l e R s m args below meth c H1 locs1 cells slots Q (F0 m (pc + 3) ls rest)) : W p l e R s m args below meth c H locs cells slots Q (F0 m pc ls st0) :=
  g_callSv C hw hls K lk M blindW cut (fun _ _ _ _ h => h) hr1 hr2 hn hcs hst hW hdg kk
end RC
