/-! onDisk: the class's contract, which throws -/
def nsE : String := "java/util/NoSuchElementException"
def nsB : ByteArray := ⟨#[0x2a, 0x2b, 0xb7, 0x00, 0x0d, 0xb1]⟩
/-- the words of a throw whose constructor hands its text on by place ix of its pool, to Y's, and so on by r -/
def nsX (own : String) (ic : Nat) (X : String) (ix : Nat) (rx : ByteArray) (Y : String) (r : List String) : List Cond := Bundle.throwableAtoms ++ Bundle.throwableSAtoms ++ (Bundle.passSAtoms X Y ix rx ++ Bundle.chainSAtoms Y r) ++
  [.methodLink own ic (Bundle.initS X), .instantiable X 6, .castable X X, .selects X Bundle.tFill0 Bundle.tFill0, .selects X Bundle.tFill Bundle.tFill, .lays X Bundle.tN "cause" "Ljava/lang/Throwable;", .lays X Bundle.tN "stackTrace" Bundle.steD, .lays X Bundle.tN "suppressedExceptions" Bundle.listD, .lays X Bundle.tN "detailMessage" "Ljava/lang/String;", .isRef (.static Bundle.tN "UNASSIGNED_STACK" Bundle.steD), .isRef (.static Bundle.tN "SUPPRESSED_SENTINEL" Bundle.listD), .fieldLink Bundle.tN 198 Bundle.tN "backtrace" "Ljava/lang/Object;", .lays Bundle.tN Bundle.tN "backtrace" "Ljava/lang/Object;", .lays X Bundle.tN "backtrace" "Ljava/lang/Object;"]
def nsA : List Cond := (nsX RX8 363 nsE 13 nsB "java/lang/RuntimeException" ["java/lang/Exception"]).filter vx_no
set_option maxRecDepth 20000 in
theorem ns_x0 : ∀ w ∈ nsA.filter goodWord, w ∈ lw_tbl := by decide +kernel
set_option maxRecDepth 20000 in
theorem ns_bad : ∀ w ∈ nsA.filter (fun w => !goodWord w), w ∈ [Cond.castable nsE nsE, .declares (Bundle.initS "java/lang/RuntimeException"), .declares (Bundle.initS "java/lang/Exception"), .declares (Bundle.initS Bundle.tN)] := by decide +kernel
set_option maxRecDepth 20000 in
theorem ns_ot : ∀ w ∈ Cond.classLink RX8 359 nsE :: Cond.initialized nsE :: nsA, vx_ot w = true := by decide +kernel
theorem ns_k : Cond.classLink RX8 359 nsE ∈ BT := List.mem_filter.mpr ⟨by decide +kernel, by decide +kernel⟩
theorem ns_i : Cond.initialized nsE ∈ BT := List.mem_filter.mpr ⟨by decide +kernel, by decide +kernel⟩
theorem ns_L : Cond.classLink RL 13 nsE ∈ BT := List.mem_filter.mpr ⟨by decide +kernel, by decide +kernel⟩
theorem ns_c : Cond.castable nsE nsE ∈ lw_tbl := by decide +kernel
theorem ns_w : Cond.codeWith yL_onDisk cL_onDisk 4 (some .int) [(0, 9, 12, 13)] ∈ BT := List.mem_filter.mpr ⟨by decide +kernel, by decide +kernel⟩
theorem ns_s : Cond.static yL_onDisk ∈ BT := List.mem_filter.mpr ⟨by decide +kernel, by decide +kernel⟩
theorem ns_l : Cond.initialized RL ∈ BT := List.mem_filter.mpr ⟨by decide +kernel, by decide +kernel⟩
theorem ns_d : ∀ w ∈ [Cond.declares (Bundle.initS "java/lang/RuntimeException"), .declares (Bundle.initS "java/lang/Exception"), .declares (Bundle.initS Bundle.tN)], w ∈ lw_tbl := by decide +kernel
def nsC (U : State) : Prop := va_Nw (.castable nsE nsE) U ∧ va_Nw (.declares (Bundle.initS "java/lang/RuntimeException")) U ∧ va_Nw (.declares (Bundle.initS "java/lang/Exception")) U ∧ va_Nw (.declares (Bundle.initS Bundle.tN)) U
theorem nsC.warm {s U : State} (hW : s.WarmedH U.vm) (h : nsC s) : nsC U := ⟨h.1.warmC hW, h.2.1.warmD hW, h.2.2.1.warmD hW, h.2.2.2.warmD hW⟩
theorem nsC.same {s U : State} (hv : s.vm = U.vm) (h : nsC s) : nsC U := ⟨h.1.same rfl hv, h.2.1.same rfl hv, h.2.2.1.same rfl hv, h.2.2.2.same rfl hv⟩
