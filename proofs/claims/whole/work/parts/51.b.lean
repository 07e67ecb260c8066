/-! a class's own exception whose constructor hands its text on by another place of its pool -/
section NS
variable {p : Program} {l : Launch} {e : Env} {R : Room} {s : State} {m : MethodId} {args : Array Value} {below : List Frame} {meth : Method} {c : Code} {locs : List Loc} {cells slots : Nat}
theorem ns_sel (hA : l.admits e) {cls : String} {k mid : _} {t : MethodName} (hf : s.vm.findClass cls = some k) (hn : s.methodNamed? t = some mid) (hfd : s.methodFound? t.cls t.name t.desc = some mid) (h : (Cond.selects cls t t).holds args s none s [] = true) : selectMethod e.platform s.vm k mid = .method mid := by
  obtain ⟨c2, r2, m2, q1, q2, q3, q4, -⟩ := Cond.selects_spec h
  cases Option.some.inj (q1.symm.trans hf)
  cases Option.some.inj (q2.symm.trans hfd)
  cases Option.some.inj (q3.symm.trans hn)
  rw [Launch.admits_selectMethod hA]
  exact q4
set_option maxHeartbeats 4000000 in
theorem ns_ctor {V : State} (X : Stand p l e R s m args below meth c V [] cells slots) (hexec : p.tables.exec = Jvm.exec) (htr : e.platform.stackTraces = false) {own cls : String} {Y : String} {r : List String} {ic ix : Nat} {rx : ByteArray} (x0 : decode rx 0 = .ok (.aload_n 0, 1)) (x1 : decode rx 1 = .ok (.aload_n 1, 1)) (x2 : decode rx 2 = .ok (.invokespecial ix, 3)) (x5 : decode rx 5 = .ok (.return_, 1))
    (hown : s.vm.findClass own = some m.cls) (hcls : Bundle.fit cls = true) (hnames : ∀ n ∈ Y :: r, Bundle.fit n = true) (h : ∀ w ∈ nsX own ic cls ix rx Y r, w.before args s = true)
    {a : Addr} {cX : ClassId} {kX : Class} (hfX : s.vm.findClass cls = some cX) (hkX : s.vm.classes[cX]? = some kX) (hcell : V.heap[a]? = some (freshCell cX kX)) (hnew : s.heap.size ≤ a) {msg : Value} (hmsg : msg.isRef = true)
    {g : JFrame} (hg : g.method = m) (hsize : g.locals.size = c.maxLocals) (hlk : g.locked = none) (hen : g.entered = []) {rest : List Value} (hst : g.stack = msg :: .ref a :: .ref a :: rest) (hd6 : decode c.code g.pc = .ok (.invokespecial ic, 3)) (hd9 : decode c.code (g.pc + 3) = .ok (.athrow, 1)) (hout : ∀ x ∈ c.exceptionTable.toList, covers x (g.pc + 3) = false)
    (hRf : (Y :: r).length + 3 < R.frames) (hRl : 2 * g.monitorRoom + ((Value.ref a :: rest).map fun v => v.category).sum + (13 * ((Y :: r).length + 1) + 42) ≤ R.locals) (hlocks : meth.locks = false) :
    ∃ U : State, Steps p.tables e below (V.setTop g) U ∧ U.status = .running ∧ Ended U below (.threw a) ∧ s.WarmedH U.vm ∧ s.sameButNew ({ U with vm := s.vm } : State) [] cells slots ∧ ∃ ce : Cell, U.heap[a]? = some ce ∧ ce.vm = .none ∧ s.vm.findClass cls = some ce.cls := by
  have hpl : e.platform.magicAccessors = ({} : Platform).magicAccessors := by rw [X.admits.platform]
  have wd : ∀ w : Cond, w ∈ nsX own ic cls ix rx Y r → w.holds args s none s [] = true := fun w hw => h w hw
  -- Throwable, its constructor, and the constructors on the way to it
  obtain ⟨T, Z0, L, LZ0, Yt⟩ := ThrowableC.of_atoms (args := args) (pl := e.platform) (s := s) (by rw [X.admits.platform]) (by rw [X.admits.platform]) hpl (fun w hw => h w (by simp [nsX, hw]))
  obtain ⟨Z, M, LZ, LM, hnZ⟩ := Init0T.ofS_atoms (args := args) hpl L Yt (fun w hw => h w (by simp [nsX, hw]))
  obtain ⟨P1, L1, hP1, hs1⟩ := PassC.ofS_atoms (args := args) (s := s) hpl (X := cls) (Y := Y) (Bundle.fit_spec hcls).1 (Bundle.fit_spec (hnames Y List.mem_cons_self)).2 x0 x1 x2 x5 (fun w hw => h w (by simp [nsX, hw]))
  obtain ⟨P2, Pr, hlen, L2, hL, hP2, hk2, hk3⟩ := Bundle.chainS (args := args) hpl hnZ r Y (hnames Y List.mem_cons_self) (fun n hn => hnames n (List.mem_cons_of_mem _ hn)) (fun w hw => h w (by simp [nsX, hw]))
  have hk1 : P1.sup = P2.m := Option.some.inj (hs1.symm.trans hP2)
  have hfd : s.vm.findClass cls = some P1.m.cls := findClass_of_methodNamed hP1
  cases Option.some.inj (hfX.symm.trans hfd)
  obtain ⟨c1, k1, q1, q2, hord, -, -, -⟩ := Cond.instantiable_spec (wd (.instantiable cls 6) (by simp [nsX]))
  cases Option.some.inj (q1.symm.trans hfd)
  cases Option.some.inj (hkX.symm.trans q2)
  have s0 := ns_sel X.admits hfd Yt.fill0 (State.methodFound?_of_named Yt.fill0 (by decide)) (wd (.selects cls Bundle.tFill0 Bundle.tFill0) (by simp [nsX]))
  have s1 := ns_sel X.admits hfd Yt.fill (State.methodFound?_of_named Yt.fill (by decide)) (wd (.selects cls Bundle.tFill Bundle.tFill) (by simp [nsX]))
  -- the two statics that it reads
  obtain ⟨z0, hz0, hzs⟩ := Yt.statics
  obtain ⟨u0, hu0⟩ := Cond.staticRefV Yt.unassigned L.unassignedStatic L.statics hz0 hzs (wd (.isRef (.static Bundle.tN "UNASSIGNED_STACK" Bundle.steD)) (by simp [nsX]))
  obtain ⟨sn, hsn⟩ := Cond.staticRefV Yt.sentinel L.sentinelStatic L.statics hz0 hzs (wd (.isRef (.static Bundle.tN "SUPPRESSED_SENTINEL" Bundle.listD)) (by simp [nsX]))
  obtain ⟨z1, hz1, hzv, -, hkeep⟩ := X.same.2.2.2.2.2 T.aS z0 hz0
  have hz1' : V.heap[T.aS]? = some z1 := hz1
  have hno : ∀ i, (⟨T.aS, i⟩ : Loc) ∉ ([] : List Loc) := fun _ hm => nomatch hm
  have hun : z1.vm ≠ .unknown := by
    rw [hzv]
    intro hu
    rw [show z0.vm = .unknown from hu] at hzs
    cases hzs
  have hne : T.aS ≠ a := Nat.ne_of_lt (Nat.lt_of_lt_of_le (Array.getElem?_eq_some_iff.mp hz0).1 hnew)
  -- the places of its fields
  obtain ⟨ci, ii, fB, b1, b2, b3, b4, -, b5, b6, b7⟩ := Cond.ownField (t := .object "java/lang/Object") Yt.found L.cls (by decide +kernel) (wd (.fieldLink Bundle.tN 198 Bundle.tN "backtrace" "Ljava/lang/Object;") (by simp [nsX])) (wd (.lays Bundle.tN Bundle.tN "backtrace" "Ljava/lang/Object;") (by simp [nsX])) e.platform hpl
  obtain ⟨iM, hfM⟩ := Yt.msg
  obtain ⟨tC, dC, eC, nC⟩ := Cond.laysAt hfd hkX Yt.cause (wd (.lays cls Bundle.tN "cause" "Ljava/lang/Throwable;") (by simp [nsX]))
  obtain ⟨tS, dS, eS, nS⟩ := Cond.laysAt hfd hkX Yt.stack (wd (.lays cls Bundle.tN "stackTrace" Bundle.steD) (by simp [nsX]))
  obtain ⟨tP, dP, eP, nP⟩ := Cond.laysAt hfd hkX Yt.supp (wd (.lays cls Bundle.tN "suppressedExceptions" Bundle.listD) (by simp [nsX]))
  obtain ⟨tM, dM, eM, nM⟩ := Cond.laysAt hfd hkX hfM (wd (.lays cls Bundle.tN "detailMessage" "Ljava/lang/String;") (by simp [nsX]))
  obtain ⟨tB, dB, eB, nB⟩ := Cond.laysAt hfd hkX b7 (wd (.lays cls Bundle.tN "backtrace" "Ljava/lang/Object;") (by simp [nsX]))
  have bC := Cond.laysApart eB eC nB nC (by rw [b5, Yt.causeName]; decide)
  have bS := Cond.laysApart eB eS nB nS (by rw [b5, Yt.stackName]; decide)
  have bP := Cond.laysApart eB eP nB nP (by rw [b5, Yt.suppName]; decide)
  have hsk : SkipFacts T e.platform s (fun u => u) u0 ((preparedCellV T.toThrowableT (freshCell P1.m.cls kX) a u0 sn).withEntry V.cur) := by
    refine ⟨{ ci198 := ci, i198 := ii, fBack := fB }, ⟨b1, b2, b3, b4⟩, ?_, fun _ _ => rfl⟩
    have hd := fresh_default (c := P1.m.cls) tB
    rw [b6] at hd
    simpa [preparedCellV, Cell.setSlot, Cell.withEntry, Array.getElem?_setIfInBounds, bC, bS, bP, bC.symm, bS.symm, bP.symm, defaultValue] using hd
  -- the call, the constructors, the throw
  obtain ⟨tm, -, -, -, vm1, hn1, -, -, -, -, -, -, -, hW1, st1⟩ := Steps.initColdS (tb := p.tables) (e := e) (below := below) (s := s) (U := V) X.here hexec X.warmed hpl hown (t := Bundle.initS cls) rfl rfl (Bundle.fit_spec hcls).2
    (wd (.methodLink own ic (Bundle.initS cls)) (by simp [nsX])) (h (.instanceMethod (Bundle.initS cls)) (by simp [nsX, Bundle.passSAtoms])) (bytes := rx) (maxL := 2) (h (.code (Bundle.initS cls) rx 2 none) (by simp [nsX, Bundle.passSAtoms]))
    (f := g) hg (a := a) (msg := msg) (rest := .ref a :: rest) hst hd6
  cases Option.some.inj (hn1.symm.trans hP1)
  obtain ⟨vm2, X2, st2⟩ := (X.noted hW1).ctorMessageOffV hexec (g := { g with stack := .ref a :: rest }) hg hsize T L Z LZ M LM (P1 :: P2 :: Pr)
    (fun P hP => by rcases List.mem_cons.mp hP with rfl | hP; exact L1; rcases List.mem_cons.mp hP with rfl | hP; exact L2; exact hL P hP) ⟨hk1, hk2, hk3⟩ (u0 := u0) (sen := sn) (self := a) hmsg (cell := freshCell P1.m.cls kX) (cellS := z1)
    hcell (fun _ => by simp) (by simp) rfl rfl s0 s1 hz1' hne hun (by rw [hkeep _ (hno _)]; exact hu0) (by rw [hkeep _ (hno _)]; exact hsn)
    (Takes.of_laid hkX hord tC (by rw [Yt.causeType]; rfl)) (Takes.of_laid hkX hord tS (by rw [Yt.stackType]; exact fits_refV_array _ u0)) (Takes.of_laid hkX hord tP (by rw [Yt.suppType]; exact fits_refV_object _ sn))
    (Takes.of_laid hkX hord tM (by rw [Yt.msgType]; exact fits_refV_object _ ⟨msg, hmsg⟩)) Yt.objLocals hsk htr [] hd6
    (by simp only [List.length_cons, hlen] at hRf ⊢; omega) (by simp only [List.length_cons, hlen] at hRl ⊢; exact hRl)
  obtain ⟨hwk, hrun, hend, hWU, hsm⟩ := X2.athrowLeaves hexec (g := { g with stack := .ref a :: rest, pc := g.pc + 3 }) hg hlk hen hout (a := a) (rest := rest) rfl hd9
  have hlt : a < ((V.setVm vm1).setVm vm2).heap.size := (Array.getElem?_eq_some_iff.mp hcell).1
  refine ⟨_, st1 _ (fun acts => ?_), hrun, hend, hWU, hsm.weaken (fun y hy hy2 => ?_) (Nat.le_refl _) (Nat.le_refl _), _, heapAt_setCell_self (s := (V.setVm vm1).setVm vm2) (plainBareV T.toThrowableT (freshCell P1.m.cls kX) a u0 sn msg) hlt, rfl, hfd⟩
  · rw [doInvoke_state]
    exact st2 _ hwk
  · rcases List.mem_append.mp hy with h1 | h1
    · exact h1
    · have hb : y.base = a := by
        simp only [List.mem_cons, List.not_mem_nil, or_false] at h1
        rcases h1 with rfl | rfl | rfl | rfl | rfl <;> rfl
      exact absurd hy2 (by rw [hb]; exact Nat.not_lt.mpr hnew)
end NS
section NT
variable {p : Program} {l : Launch} {e : Env} {R : Room} {s : State} {m : MethodId} {args : Array Value} {below : List Frame} {meth : Method} {c : Code} {H : Heap} {locs : List Loc} {cells slots : Nat} {Q : State → Prop}
variable {mc ms : Nat} {free : Addr → Prop} {A0 A1 : Nat → Prop} {H0 : Heap} {a : Array Value} {ls : Array Slot} {st0 rest : List Value}
variable {Qc : Array Value → State → Outcome → State → Prop} {XC : String → State → State → Prop}
theorem ns_throw {cc : ByteArray} {pc : Nat} (hexec : p.tables.exec = Jvm.exec) (hb : c.code = cc) (hl : l.stackTraces = false) {own cls text : String} {Y : String} {r : List String} {ik is ic ix mc ms sa : Nat} {rx : ByteArray} {A : Nat → Prop} (x0 : decode rx 0 = .ok (.aload_n 0, 1)) (x1 : decode rx 1 = .ok (.aload_n 1, 1)) (x2 : decode rx 2 = .ok (.invokespecial ix, 3)) (x5 : decode rx 5 = .ok (.return_, 1))
    (hown : s.vm.findClass own = some m.cls) (hcls : Bundle.fit cls = true) (hnames : ∀ n ∈ Y :: r, Bundle.fit n = true)
    (hk : (Cond.classLink own ik cls).before args s = true) (hini : (Cond.initialized cls).before args s = true) (hstr : vk_R own is text sa s) (hat : ∀ w ∈ (nsX own ic cls ix rx Y r).filter vx_no, w.before args s = true)
    (hgood : ∀ w ∈ Cond.classLink own ik cls :: Cond.initialized cls :: (nsX own ic cls ix rx Y r).filter vx_no, vx_ot w = true)
    (hU : vx_Zq Bundle.tN "UNASSIGNED_STACK" Bundle.steD A s s.heap) (hN : vx_Zq Bundle.tN "SUPPRESSED_SENTINEL" Bundle.listD A s s.heap) (hS : va_S A s.heap H locs) (hsize : ls.size = c.maxLocals)
    (d0 : decode cc pc = .ok (.new ik, 3)) (d3 : decode cc (pc + 3) = .ok (.dup, 1)) (d4 : decode cc (pc + 4) = .ok (.ldc_w is, 3)) (d7 : decode cc (pc + 7) = .ok (.invokespecial ic, 3)) (d10 : decode cc (pc + 10) = .ok (.athrow, 1))
    (hout : ∀ x ∈ c.exceptionTable.toList, covers x (pc + 10) = false)
    (hRframes : (Y :: r).length + 3 < R.frames) (hRlocals : (rest.map fun v => v.category).sum + (13 * ((Y :: r).length + 1) + 43) ≤ R.locals) (hRcells : cells + 1 ≤ R.cells) (hRslots : slots + 6 ≤ R.slots) (hlocks : meth.locks = false)
    (hx : ∀ t : State, s.vm.Alike t.vm → H.size ≤ t.heap.size → (∀ q : Nat, q < H.size → t.heap[q]? = H[q]?) → XC cls s t)
    (hf : ∀ z ∈ locs, free z.base) (hc : cells + 1 ≤ mc) (hs : slots + 6 ≤ ms) :
    W p l e R s m args below meth c H locs cells slots (vx_MQ below Qc XC args s mc ms free) (F0 m pc ls rest) := by
  intro T hT X
  have htr : e.platform.stackTraces = false := (show e.platform.stackTraces = l.stackTraces by rw [X.admits.platform]).trans hl
  have Y9 := vx_rebase X (R' := { frames := R.frames, locals := R.locals, cells := 1, slots := 6 }) (Nat.le_refl _) (Nat.le_refl _) hRcells hRslots
  obtain ⟨s', hA⟩ : ∃ z, z = (T.setVm s.vm).setFrames (.invoking m args :: below) := ⟨_, rfl⟩
  rw [← hA] at Y9
  have hvm : s'.vm = s.vm := by rw [hA]; rfl
  have hhp : s'.heap = H := by rw [hA]; exact hT
  have hW0 : s.WarmedH s'.vm := by rw [hvm]; exact State.WarmedH.refl s
  have hat' : ∀ w ∈ (nsX own ic cls ix rx Y r).filter vx_no, w.before args s' = true := fun w hw => vx_ot_at hW0 hvm.symm (hgood w (List.mem_cons_of_mem _ (List.mem_cons_of_mem _ hw))) (hat w hw)
  have hk' : (Cond.classLink own ik cls).before args s' = true := vx_ot_at hW0 hvm.symm (hgood _ List.mem_cons_self) hk
  have hini' : (Cond.initialized cls).before args s' = true := vx_ot_at hW0 hvm.symm (hgood _ (List.mem_cons_of_mem _ List.mem_cons_self)) hini
  have hU' : vx_Zq Bundle.tN "UNASSIGNED_STACK" Bundle.steD A s' s'.heap := by rw [hhp]; exact vx_Zq.moved hW0.alike (hU.kept hS.2.1)
  have hN' : vx_Zq Bundle.tN "SUPPRESSED_SENTINEL" Bundle.listD A s' s'.heap := by rw [hhp]; exact vx_Zq.moved hW0.alike (hN.kept hS.2.1)
  have h : ∀ w ∈ nsX own ic cls ix rx Y r, w.before args s' = true := vx_own hat' (vx_isRefq hU'.1) (vx_isRefq hN'.1) hU'.2.word hN'.2.word
  have hown' : s'.vm.findClass own = some m.cls := by rw [hvm]; exact hown
  have hins : (Cond.instantiable cls 6).before args s' = true := h _ (by simp [nsX])
  obtain ⟨vm₁, cX, kX, hfX, hkX, -, -, X₁, st1⟩ := Y9.newCold hexec (own := own) (C := cls) (index := ik) (n := 6) hown' hk' hins hini'
    (g := F0 m pc ls rest) rfl (by rw [hb]; exact d0) (Nat.le_refl _) (Nat.le_refl _)
  generalize hT1 : (T.setVm vm₁).pushCell { cls := cX, slots := kX.instanceTypes.map defaultValue, vm := .none } = T1 at X₁ st1
  have hcat : (Value.ref T.heap.size).category = 1 := rfl
  have hcellA : T1.heap[T.heap.size]? = some (freshCell cX kX) := by rw [← hT1]; exact State.heap_pushCell_size _ _
  have d3' : decode c.code (pc + 3) = .ok (.dup, 1) := by rw [hb]; exact d3
  have d4' : decode c.code (pc + 4) = .ok (.ldc_w is, 3) := by rw [hb]; exact d4
  have hstr' : vk_R own is text sa s' := vk_R.warm hW0 hstr
  obtain ⟨U, hsteps, hrun, hend, hW, hsame, ce, hce, hcev, hcl0⟩ := ns_ctor X₁ hexec htr x0 x1 x2 x5 (own := own) (cls := cls) (Y := Y) (r := r) (ic := ic) hown' hcls hnames h hfX hkX hcellA (by rw [hhp, hT]; exact Nat.le_refl _) (msg := .ref sa) rfl
    (g := { method := m, pc := pc + 7, locals := ls, stack := .ref sa :: .ref T.heap.size :: .ref T.heap.size :: rest, locked := none }) rfl hsize rfl rfl (rest := rest) rfl
    (by rw [hb]; exact d7) (by rw [hb]; exact d10) hout hRframes (by simp only [List.map_cons, List.sum_cons, hcat]; omega) hlocks
  obtain ⟨f1, f2⟩ := vx_frame hsame
  rw [hhp] at f1 f2
  have hWs : s.WarmedH U.vm := State.WarmedH.trans hW0 hW
  have hcl : s.vm.findClass cls = some ce.cls := by
    have h9 := hcl0
    rw [hvm] at h9
    exact h9
  have hall : s.sameButNew ({ U with vm := s.vm } : State) locs mc ms := by
    subst hA
    obtain ⟨e1, e2⟩ := hsame
    rw [State.setFrames_setFrames] at e1
    have h2 : (T.setVm s.vm).sameButNew ({ U with vm := s.vm } : State) [] (0 + 1) (0 + 6) := ⟨e1, e2⟩
    have h3 := X.same.trans h2
    rw [List.append_nil] at h3
    exact h3.mono hc hs
  refine ⟨U, ?_, .threw T.heap.size, hrun, hend, Or.inr ⟨T.heap.size, rfl, cls, ce, locs, hx U hWs.alike f1 (fun q hq => f2 q hq (fun z hz => nomatch hz)), hce, hcev, hcl, hWs, hall, hf⟩⟩
  refine st1 _ ?_
  show Steps p.tables e below (T1.setTop { method := m, pc := pc + 3, locals := ls, stack := .ref T.heap.size :: rest, locked := none }) _
  jvm_step X₁.here [X₁.here.top, hexec, d3', Value.category]
  exact X₁.ldcStringW hexec (own := own) (text := text) (index := is) (a := sa) hown' hstr'.1 hstr'.2
    (g := { method := m, pc := pc + 4, locals := ls, stack := .ref T.heap.size :: .ref T.heap.size :: rest, locked := none }) rfl d4' _ hsteps
end NT
