/-! onDisk: the class's contract, which throws -/
def nsE : String := "java/util/NoSuchElementException"
/-- its mother, and those between her and Throwable -/
def nsY : String := "java/lang/RuntimeException"
def nsZ : List String := ["java/lang/Exception"]
/-- its constructor: this, text, the mother's constructor by place 13, return -/
def nsB : ByteArray := ⟨#[0x2a, 0x2b, 0xb7, 0x00, 0x0d, 0xb1]⟩
/-- the library's words of such a throw, those of a link by place 7 taken out; then the links that there are -/
def nsWd : List Cond := (Bundle.ownAtoms RX8 363 nsE []).filter (fun w => decide (w ∉ Bundle.passSAtoms nsE Bundle.tN 7 Bundle.six)) ++ (Bundle.passSAtoms nsE nsY 13 nsB ++ Bundle.chainSAtoms nsY nsZ)
def nsA : List Cond := nsWd.filter vx_no
set_option maxRecDepth 20000 in
theorem ns_x0 : ∀ w ∈ nsA.filter goodWord, w ∈ lw_tbl := by decide +kernel
set_option maxRecDepth 20000 in
theorem ns_bad : ∀ w ∈ nsA.filter (fun w => !goodWord w), w ∈ [Cond.castable nsE nsE, .declares (Bundle.initS "java/lang/RuntimeException"), .declares (Bundle.initS "java/lang/Exception"), .declares (Bundle.initS Bundle.tN)] := by decide +kernel
set_option maxRecDepth 20000 in
theorem ns_ot : ∀ w ∈ Cond.classLink RX8 359 nsE :: Cond.initialized nsE :: nsA, vx_ot w = true := by decide +kernel
theorem ns_k : Cond.classLink RX8 359 nsE ∈ BT := List.mem_filter.mpr ⟨by decide +kernel, by decide +kernel⟩
theorem ns_i : Cond.initialized nsE ∈ BT := List.mem_filter.mpr ⟨by decide +kernel, by decide +kernel⟩
theorem ns_L : Cond.classLink RL 13 nsE ∈ BT := List.mem_filter.mpr ⟨by decide +kernel, by decide +kernel⟩
theorem ns_c : Cond.castable nsE nsE ∈ lw_tbl := by decide +kernel
theorem ns_w : Cond.codeWith yL_onDisk cL_onDisk 4 (some .int) [(0, 9, 12, 13)] ∈ BT := List.mem_filter.mpr ⟨by decide +kernel, by decide +kernel⟩
theorem ns_s : Cond.static yL_onDisk ∈ BT := List.mem_filter.mpr ⟨by decide +kernel, by decide +kernel⟩
theorem ns_l : Cond.initialized RL ∈ BT := List.mem_filter.mpr ⟨by decide +kernel, by decide +kernel⟩
theorem ns_d : ∀ w ∈ [Cond.declares (Bundle.initS "java/lang/RuntimeException"), .declares (Bundle.initS "java/lang/Exception"), .declares (Bundle.initS Bundle.tN)], w ∈ lw_tbl := by decide +kernel
def nsC (U : State) : Prop := va_Nw (.castable nsE nsE) U ∧ va_Nw (.declares (Bundle.initS "java/lang/RuntimeException")) U ∧ va_Nw (.declares (Bundle.initS "java/lang/Exception")) U ∧ va_Nw (.declares (Bundle.initS Bundle.tN)) U
theorem nsC.warm {s U : State} (hW : s.WarmedH U.vm) (h : nsC s) : nsC U := ⟨h.1.warmC hW, h.2.1.warmD hW, h.2.2.1.warmD hW, h.2.2.2.warmD hW⟩
theorem nsC.same {s U : State} (hv : s.vm = U.vm) (h : nsC s) : nsC U := ⟨h.1.same rfl hv, h.2.1.same rfl hv, h.2.2.1.same rfl hv, h.2.2.2.same rfl hv⟩
