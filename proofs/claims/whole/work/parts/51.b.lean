/-! the throw of onDisk: the constructor's call (ns_init), then all of it (ns_throw) -/
section NS
variable {p : Program} {l : Launch} {e : Env} {R : Room} {s : State} {m : MethodId} {args : Array Value} {below : List Frame} {meth : Method} {c : Code} {cells slots : Nat}
variable {pl : Platform} {T : ThrowableC} {Z0 : Init0T} {cX : ClassId} {kX : Class}
set_option maxRecDepth 20000 in
theorem ns_top : ∀ w ∈ Bundle.throwableAtoms ++ Bundle.throwableSAtoms, w ∈ nsWd := by decide +kernel
/-- the three constructors between the throw and Throwable's own -/
theorem ns_links (hpl : pl.magicAccessors = ({} : Platform).magicAccessors) {top : MethodId} (ht : s.methodNamed? (Bundle.initS Bundle.tN) = some top) (h : ∀ w ∈ nsWd, w.before args s = true) :
    ∃ Ps : List PassC, Ps.length = 3 ∧ (∀ P ∈ Ps, P.LinksS pl s) ∧ PassesOn top (Ps.map (·.toPassT)) ∧ s.methodNamed? (Bundle.initS nsE) = some (firstOf top (Ps.map (·.toPassT))) := by
  obtain ⟨D, D1, D2, D3⟩ := PassC.ofS_atoms (pl := pl) (bytes := nsB) hpl (show plainName nsE = true by decide +kernel) (show nsY ≠ _ ∧ nsY ≠ _ by decide +kernel)
    (by decide +kernel) (by decide +kernel) (by decide +kernel) (by decide +kernel) (fun w hw => h w (List.mem_append_right _ (List.mem_append_left _ hw)))
  obtain ⟨M, Ms, k0, k1, k2, k3, k4, k5⟩ := Bundle.chainS (pl := pl) hpl ht nsZ nsY (by decide +kernel) (by decide +kernel) (fun w hw => h w (List.mem_append_right _ (List.mem_append_right _ hw)))
  refine ⟨D :: M :: Ms, by simp only [List.length_cons, k0]; rfl, ?_, ⟨?_, k4, k5⟩, D2⟩
  · simp only [List.forall_mem_cons]
    exact ⟨D1, k1, k2⟩
  · rw [D3] at k3
    exact Option.some.inj k3
/-- objects of the kind cX have the field f, at its own place -/
def nsF (s : State) (cX : ClassId) (k : Class) (f : Field) : Prop := k.instanceTypes[f.slot]? = some f.type ∧ ∃ d, Jmm.declares? s.vm f.slot (cX + 1) cX = some d ∧ d.2.name = f.name
theorem nsF.apart {f g : Field} (hf : nsF s cX kX f) (hg : nsF s cX kX g) (hn : f.name ≠ g.name) : g.slot ≠ f.slot := by
  obtain ⟨-, x, x1, x2⟩ := hf
  obtain ⟨-, y, y1, y2⟩ := hg
  exact Cond.laysApart y1 x1 y2 x2 hn.symm
theorem nsF.takes {f : Field} {v : Value} (hf : nsF s cX kX f) (hk : s.vm.classes[cX]? = some kX) (ho : kX.kind = .ordinary) {t : FieldType} (ht : f.type = t) (hv : fits t v = true) : Takes s (freshCell cX kX) f v := by
  subst ht
  exact Takes.of_laid hk ho hf.1 hv
/-- a place that isn't written keeps what it holds -/
theorem ns_put {x : Cell} {i j : Nat} {v : Value} {w : Option Value} (hne : j ≠ i) (h : x.slots[i]? = w) : (x.setSlot j v).slots[i]? = w := by
  simp only [Cell.setSlot, Array.getElem?_setIfInBounds, if_neg hne]
  exact h
/-- the four fields that Throwable's constructor writes -/
theorem ns_four (h : ∀ w ∈ nsWd, w.before args s = true) (Y : Bundle.Ties T Z0 s) (hf : s.vm.findClass nsE = some cX) (hk : s.vm.classes[cX]? = some kX) :
    nsF s cX kX T.fCause ∧ nsF s cX kX T.fStack ∧ nsF s cX kX T.fSupp ∧ nsF s cX kX T.fMsg := by
  have a : ∀ (n d : String) (c1 : ClassId) (k1 : Class) (i1 : Nat) (f : Field), Cond.lays nsE Bundle.tN n d ∈ nsWd → s.fieldFound? Bundle.tN n d = some (c1, k1, i1, f) → nsF s cX kX f :=
    fun n d c1 k1 i1 f hw hq => Cond.laysAt hf hk hq (h _ hw)
  obtain ⟨_, hm⟩ := Y.msg
  exact ⟨a _ _ _ _ _ _ (by decide +kernel) Y.cause, a _ _ _ _ _ _ (by decide +kernel) Y.stack, a _ _ _ _ _ _ (by decide +kernel) Y.supp, a _ _ _ _ _ _ (by decide +kernel) hm⟩
/-- the fifth, which it only reads: null in a new object, also when three of the four are written -/
theorem ns_fifth (hpl : pl.magicAccessors = ({} : Platform).magicAccessors) (h : ∀ w ∈ nsWd, w.before args s = true) (L : T.Links pl s) (Y : Bundle.Ties T Z0 s) (hf : s.vm.findClass nsE = some cX) (hk : s.vm.classes[cX]? = some kX)
    (u n : RefV) (a : Addr) (t : ThreadId) : SkipFacts T pl s (fun z => z) u ((preparedCellV T.toThrowableT (freshCell cX kX) a u n).withEntry t) := by
  obtain ⟨q1, q2, q3, -⟩ := ns_four h Y hf hk
  obtain ⟨ci, i, f, o1, o2, o3, o4, -, on, ot, of⟩ := Cond.ownField (index := 198) (name := "backtrace") (desc := "Ljava/lang/Object;") (C' := Bundle.tN) (t := .object "java/lang/Object") Y.found L.cls (by decide +kernel) (h _ (by decide +kernel)) (h _ (by decide +kernel)) pl hpl
  have qb : nsF s cX kX f := Cond.laysAt hf hk of (h _ (by decide +kernel))
  have z0 : (freshCell cX kX).slots[f.slot]? = some .null := (fresh_default (c := cX) qb.1).trans (by rw [ot]; rfl)
  have no : ∀ {g : Field} {y : String}, nsF s cX kX g → g.name = y → "backtrace" ≠ y → g.slot ≠ f.slot := fun hg hy hne => nsF.apart qb hg (by rw [on, hy]; exact hne)
  exact ⟨⟨ci, i, f⟩, ⟨o1, o2, o3, o4⟩, show (preparedCellV T.toThrowableT (freshCell cX kX) a u n).slots[f.slot]? = some .null from ns_put (no q3 Y.suppName (by decide)) (ns_put (no q2 Y.stackName (by decide)) (ns_put (no q1 Y.causeName (by decide)) z0)), fun _ _ => rfl⟩
/-- the statics of Throwable, where nothing old was written -/
theorem ns_stat {V : State} (X : Stand p l e R s m args below meth c V [] cells slots) (h : ∀ w ∈ nsWd, w.before args s = true) (L : T.Links pl s) (Y : Bundle.Ties T Z0 s) :
    T.aS < s.heap.size ∧ ∃ (z : Cell) (u n : RefV), V.heap[T.aS]? = some z ∧ z.vm ≠ .unknown ∧ z.slots[T.fUnassigned.slot]? = some u.v ∧ z.slots[T.fSentinel.slot]? = some n.v := by
  obtain ⟨x, x1, x2⟩ := Y.statics
  refine ⟨(Array.getElem?_eq_some_iff.mp x1).1, ?_⟩
  obtain ⟨u, hu⟩ := Cond.staticRefV Y.unassigned L.unassignedStatic L.statics x1 x2 (h _ (by decide +kernel))
  obtain ⟨n, hn⟩ := Cond.staticRefV Y.sentinel L.sentinelStatic L.statics x1 x2 (h _ (by decide +kernel))
  obtain ⟨z, z1, z2, -, z3⟩ := X.same.2.2.2.2.2 _ x x1
  have zk : ∀ i, z.slots[i]? = x.slots[i]? := fun i => z3 i List.not_mem_nil
  refine ⟨z, u, n, z1, fun hz => ?_, (zk _).trans hu, (zk _).trans hn⟩
  have z4 : z.vm = x.vm := by rw [z2]
  rw [← z4, hz] at x2
  cases x2
/-- the constructor's call: the new object a comes back with its fields written, nothing else is -/
theorem ns_init {V : State} (X : Stand p l e R s m args below meth c V [] cells slots) (hexec : p.tables.exec = Jvm.exec) (htr : e.platform.stackTraces = false) (hown : s.vm.findClass RX8 = some m.cls) (h : ∀ w ∈ nsWd, w.before args s = true)
    (hf : s.vm.findClass nsE = some cX) (hk : s.vm.classes[cX]? = some kX) {a : Addr} (hcell : V.heap[a]? = some (freshCell cX kX)) (hnew : s.heap.size ≤ a) {msg : Value} (hmsg : msg.isRef = true)
    {g : JFrame} (hg : g.method = m) (hsize : g.locals.size = c.maxLocals) {rest : List Value} (hst : g.stack = msg :: .ref a :: rest) (hd : decode c.code g.pc = .ok (.invokespecial 363, 3))
    (hRf : 5 < R.frames) (hRl : 2 * g.monitorRoom + (rest.map fun v => v.category).sum + 81 ≤ R.locals) :
    ∃ (V1 : State) (ys : List Loc) (x : Cell), Stand p l e R s m args below meth c V1 ys cells slots ∧ (∀ y ∈ ys, y.base = a) ∧ V1.heap[a]? = some x ∧ x.vm = .none ∧ x.cls = cX ∧
      ∀ goal, Steps p.tables e below (V1.setTop { g with stack := rest, pc := g.pc + 3 }) goal → Steps p.tables e below (V.setTop g) goal := by
  have P : e.platform.frameOwnsMonitors = true ∧ e.platform.finalization = false ∧ e.platform.magicAccessors = ({} : Platform).magicAccessors := by
    rw [X.admits.platform]
    exact ⟨rfl, rfl, rfl⟩
  obtain ⟨T, Z0, L, -, Y⟩ := ThrowableC.of_atoms P.1 P.2.1 P.2.2 (fun w hw => h w (ns_top w (List.mem_append_left _ hw)))
  obtain ⟨Z, M, LZ, LM, hZ⟩ := Init0T.ofS_atoms P.2.2 L Y (fun w hw => h w (ns_top w (List.mem_append_right _ hw)))
  obtain ⟨Ps, n3, hPs, hon, hE⟩ := ns_links P.2.2 hZ h
  obtain ⟨hlt, z, u, n, z1, z2, z3, z4⟩ := ns_stat X h L Y
  obtain ⟨qC, qS, qP, qM⟩ := ns_four h Y hf hk
  obtain ⟨_, _, i1, i2, ho, -⟩ := Cond.instantiable_spec (cls := nsE) (n := 6) (h _ (by decide +kernel))
  rw [hf] at i1
  cases i1
  rw [hk] at i2
  cases i2
  have sel : ∀ {t : MethodName} {k : MethodId}, s.methodNamed? t = some k → (t.cls ≠ "java/lang/invoke/MethodHandle" ∧ t.cls ≠ "java/lang/invoke/VarHandle") → Cond.selects nsE t t ∈ nsWd → selectMethod e.platform s.vm cX k = .method k := by
    intro t k ht hn hw
    obtain ⟨_, _, _, r1, r2, r3, r4, -⟩ := Cond.selects_spec (h _ hw)
    rw [hf] at r1
    rw [State.methodFound?_of_named ht hn] at r2
    rw [ht] at r3
    cases r1
    cases r2
    cases r3
    exact (Launch.admits_selectMethod X.admits ..).trans r4
  obtain ⟨mE, _, _, _, vm1, b1, -, -, -, -, -, -, -, hW, into⟩ := Steps.initColdS X.here hexec X.warmed P.2.2 hown (t := Bundle.initS nsE) rfl rfl (by decide +kernel) (h _ (by decide +kernel)) (h _ (by decide +kernel)) (bytes := nsB) (maxL := 2) (h _ (by decide +kernel)) hg hst hd
  rw [hE] at b1
  cases b1
  have nul : fits (.object Bundle.tN) (.ref a) = true := rfl
  obtain ⟨vm2, X2, over⟩ := (X.noted hW).ctorMessageOffV (g := { g with stack := rest }) hexec hg hsize T L Z LZ M LM Ps hPs hon hmsg (u0 := u) (sen := n) hcell (by intro k hq; cases hq) (by intro hq; cases hq) rfl rfl
    (sel Y.fill0 (by decide) (by decide +kernel)) (sel Y.fill (by decide) (by decide +kernel)) z1 (Nat.ne_of_lt (Nat.lt_of_lt_of_le hlt hnew)) z2 z3 z4
    (qC.takes hk ho Y.causeType nul) (qS.takes hk ho Y.stackType (fits_refV_array _ u)) (qP.takes hk ho Y.suppType (fits_refV_object _ n)) (qM.takes hk ho Y.msgType (fits_refV_object _ ⟨msg, hmsg⟩))
    Y.objLocals (ns_fifth P.2.2 h L Y hf hk u n a _) htr [] hd (by rw [n3]; exact hRf) (by rw [n3]; exact hRl)
  refine ⟨_, _, _, X2, ?_, heapAt_setCell_self _ (Array.getElem?_eq_some_iff.mp hcell).1, rfl, rfl, fun goal hgo => into goal (fun acts => ?_)⟩
  · rw [List.nil_append]
    exact List.forall_mem_cons.mpr ⟨rfl, List.forall_mem_cons.mpr ⟨rfl, List.forall_mem_cons.mpr ⟨rfl, List.forall_mem_cons.mpr ⟨rfl, List.forall_mem_cons.mpr ⟨rfl, fun _ hq => nomatch hq⟩⟩⟩⟩⟩
  · rw [doInvoke_state]
    exact over goal hgo
end NS
section NT
variable {p : Program} {l : Launch} {e : Env} {R : Room} {s : State} {m : MethodId} {args : Array Value} {below : List Frame} {meth : Method} {c : Code} {H : Heap} {locs : List Loc} {cells slots : Nat} {Q : State → Prop}
variable {mc ms : Nat} {free : Addr → Prop} {A0 A1 : Nat → Prop} {H0 : Heap} {a : Array Value} {ls : Array Slot} {st0 rest : List Value}
variable {Qc : Array Value → State → Outcome → State → Prop} {XC : String → State → State → Prop}
/-- 'throw new NoSuchElementException(text)' in onDisk (it began as a copy of the row vx_throwSW, which is given for pasting) -/
theorem ns_throw {cc : ByteArray} {pc : Nat} (hexec : p.tables.exec = Jvm.exec) (hb : c.code = cc) (hl : l.stackTraces = false) {text : String} {ik is mc ms sa : Nat} {A : Nat → Prop} (hown : s.vm.findClass RX8 = some m.cls)
    (hk : (Cond.classLink RX8 ik nsE).before args s = true) (hini : (Cond.initialized nsE).before args s = true) (hstr : vk_R RX8 is text sa s) (hat : ∀ w ∈ nsA, w.before args s = true)
    (hgood : ∀ w ∈ Cond.classLink RX8 ik nsE :: Cond.initialized nsE :: nsA, vx_ot w = true)
    (hU : vx_Zq Bundle.tN "UNASSIGNED_STACK" Bundle.steD A s s.heap) (hN : vx_Zq Bundle.tN "SUPPRESSED_SENTINEL" Bundle.listD A s s.heap) (hS : va_S A s.heap H locs) (hsize : ls.size = c.maxLocals)
    (d0 : decode cc pc = .ok (.new ik, 3)) (d3 : decode cc (pc + 3) = .ok (.dup, 1)) (d4 : decode cc (pc + 4) = .ok (.ldc_w is, 3)) (d7 : decode cc (pc + 7) = .ok (.invokespecial 363, 3)) (d10 : decode cc (pc + 10) = .ok (.athrow, 1))
    (hout : ∀ x ∈ c.exceptionTable.toList, covers x (pc + 10) = false)
    (hRframes : 5 < R.frames) (hRlocals : (rest.map fun v => v.category).sum + 82 ≤ R.locals) (hRcells : cells + 1 ≤ R.cells) (hRslots : slots + 6 ≤ R.slots) (hlocks : meth.locks = false)
    (hx : ∀ t : State, s.vm.Alike t.vm → H.size ≤ t.heap.size → (∀ q : Nat, q < H.size → t.heap[q]? = H[q]?) → XC nsE s t)
    (hf : ∀ z ∈ locs, free z.base) (hc : cells + 1 ≤ mc) (hs : slots + 6 ≤ ms) :
    W p l e R s m args below meth c H locs cells slots (vx_MQ below Qc XC args s mc ms free) (F0 m pc ls rest) := by
  intro T hT X
  have htr : e.platform.stackTraces = false := (show e.platform.stackTraces = l.stackTraces by rw [X.admits.platform]).trans hl
  have Y9 := vx_rebase X (R' := { frames := R.frames, locals := R.locals, cells := 1, slots := 6 }) (Nat.le_refl _) (Nat.le_refl _) hRcells hRslots
  obtain ⟨s', hA⟩ : ∃ z, z = (T.setVm s.vm).setFrames (.invoking m args :: below) := ⟨_, rfl⟩
  rw [← hA] at Y9
  have hvm : s'.vm = s.vm := by rw [hA]; rfl
  have hhp : s'.heap = H := by rw [hA]; exact hT
  have hW0 : s.WarmedH s'.vm := by rw [hvm]; exact State.WarmedH.refl s
  have hat' : ∀ w ∈ nsA, w.before args s' = true := fun w hw => vx_ot_at hW0 hvm.symm (hgood w (List.mem_cons_of_mem _ (List.mem_cons_of_mem _ hw))) (hat w hw)
  have hk' : (Cond.classLink RX8 ik nsE).before args s' = true := vx_ot_at hW0 hvm.symm (hgood _ List.mem_cons_self) hk
  have hini' : (Cond.initialized nsE).before args s' = true := vx_ot_at hW0 hvm.symm (hgood _ (List.mem_cons_of_mem _ List.mem_cons_self)) hini
  have hU' : vx_Zq Bundle.tN "UNASSIGNED_STACK" Bundle.steD A s' s'.heap := by rw [hhp]; exact vx_Zq.moved hW0.alike (hU.kept hS.2.1)
  have hN' : vx_Zq Bundle.tN "SUPPRESSED_SENTINEL" Bundle.listD A s' s'.heap := by rw [hhp]; exact vx_Zq.moved hW0.alike (hN.kept hS.2.1)
  have h : ∀ w ∈ nsWd, w.before args s' = true := vx_own hat' (vx_isRefq hU'.1) (vx_isRefq hN'.1) hU'.2.word hN'.2.word
  have hown' : s'.vm.findClass RX8 = some m.cls := by rw [hvm]; exact hown
  have hins : (Cond.instantiable nsE 6).before args s' = true := h _ (by decide +kernel)
  obtain ⟨vm₁, cX, kX, hfX, hkX, -, -, X₁, st1⟩ := Y9.newCold hexec (own := RX8) (C := nsE) (index := ik) (n := 6) hown' hk' hins hini'
    (g := F0 m pc ls rest) rfl (by rw [hb]; exact d0) (Nat.le_refl _) (Nat.le_refl _)
  generalize hT1 : (T.setVm vm₁).pushCell { cls := cX, slots := kX.instanceTypes.map defaultValue, vm := .none } = T1 at X₁ st1
  have hcat : (Value.ref T.heap.size).category = 1 := rfl
  have hcellA : T1.heap[T.heap.size]? = some (freshCell cX kX) := by rw [← hT1]; exact State.heap_pushCell_size _ _
  have d3' : decode c.code (pc + 3) = .ok (.dup, 1) := by rw [hb]; exact d3
  have d4' : decode c.code (pc + 4) = .ok (.ldc_w is, 3) := by rw [hb]; exact d4
  have hstr' : vk_R RX8 is text sa s' := vk_R.warm hW0 hstr
  have hroom : 2 * (0 : Nat) + (((Value.ref T.heap.size) :: rest).map fun v => v.category).sum + 81 ≤ R.locals := by simp only [List.map_cons, List.sum_cons, hcat]; omega
  obtain ⟨V1, ys, ce, X₂, hys, hce, hcev, hcc, st2⟩ := ns_init X₁ hexec htr hown' h hfX hkX hcellA (by rw [hhp, hT]; exact Nat.le_refl _) (msg := .ref sa) rfl
    (g := { method := m, pc := pc + 7, locals := ls, stack := .ref sa :: .ref T.heap.size :: .ref T.heap.size :: rest, locked := none }) rfl hsize (rest := .ref T.heap.size :: rest) rfl (by rw [hb]; exact d7) hRframes hroom
  obtain ⟨st3, hrun, hend, hW, hsm⟩ := X₂.athrowLeaves hexec (g := { method := m, pc := pc + 10, locals := ls, stack := .ref T.heap.size :: rest, locked := none }) rfl rfl rfl hout rfl (by rw [hb]; exact d10) hlocks
  have hsame := hsm.weaken (l' := []) (fun y hy hlt => absurd hlt (by rw [hys y hy, hhp, hT]; exact Nat.lt_irrefl _)) (Nat.le_refl _) (Nat.le_refl _)
  obtain ⟨f1, f2⟩ := vx_frame hsame
  rw [hhp] at f1 f2
  have hWs : s.WarmedH (V1.setFrames (.throwing T.heap.size :: below)).vm := State.WarmedH.trans hW0 hW
  have hcl : s.vm.findClass nsE = some ce.cls := by rw [hcc, ← hvm]; exact hfX
  have hall : s.sameButNew ({ V1.setFrames (.throwing T.heap.size :: below) with vm := s.vm } : State) locs mc ms := by
    subst hA
    obtain ⟨e1, e2⟩ := hsame
    rw [State.setFrames_setFrames] at e1
    have h2 : (T.setVm s.vm).sameButNew ({ V1.setFrames (.throwing T.heap.size :: below) with vm := s.vm } : State) [] (0 + 1) (0 + 6) := ⟨e1, e2⟩
    have h3 := X.same.trans h2
    rw [List.append_nil] at h3
    exact h3.mono hc hs
  refine ⟨_, ?_, .threw T.heap.size, hrun, hend, Or.inr ⟨T.heap.size, rfl, nsE, ce, locs, hx _ hWs.alike f1 (fun q hq => f2 q hq (fun z hz => nomatch hz)), hce, hcev, hcl, hWs, hall, hf⟩⟩
  refine st1 _ ?_
  show Steps p.tables e below (T1.setTop { method := m, pc := pc + 3, locals := ls, stack := .ref T.heap.size :: rest, locked := none }) _
  jvm_step X₁.here [X₁.here.top, hexec, d3', Value.category]
  exact X₁.ldcStringW hexec (own := RX8) (text := text) (index := is) (a := sa) hown' hstr'.1 hstr'.2
    (g := { method := m, pc := pc + 4, locals := ls, stack := .ref T.heap.size :: .ref T.heap.size :: rest, locked := none }) rfl d4' _ (st2 _ st3)
end NT
