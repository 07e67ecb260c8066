/-! the start: what the claim gives -/
def GV : List Cond := flatC (Jvm.Cond.and given_1 narrow_1)
abbrev sT (i : Nat) : Term := .string RX4 (sRi i)
set_option maxRecDepth 100000 in
theorem gv_ex : ∀ i, i < 9 → Cond.exactly (sT i) "java/lang/String" ∈ GV := by decide +kernel
set_option maxRecDepth 100000 in
theorem gv_co : ∀ i, i < 9 → Cond.eq (.field (sT i) "java/lang/String" "coder" "B") (.int 0) ∈ GV := by decide +kernel
set_option maxRecDepth 100000 in
theorem gv_ar : ∀ i, i < 9 → Cond.arrayOf (.field (sT i) "java/lang/String" "value" "[B") .byte ∈ GV := by decide +kernel
set_option maxRecDepth 100000 in
theorem gv_le : ∀ i, i < 9 → Cond.eq (.length (.field (sT i) "java/lang/String" "value" "[B")) (.int (Int32.ofNat (sLen.getD i 0))) ∈ GV := by decide +kernel
set_option maxRecDepth 100000 in
theorem gv_el : ∀ i, i < 9 → ∀ j, j < sLen.getD i 0 → Cond.eq (.elem (.field (sT i) "java/lang/String" "value" "[B") (.int (Int32.ofNat j))) (.int ((sByt.getD i []).getD j 0)) ∈ GV := by decide +kernel
set_option maxRecDepth 100000 in
theorem gv_ne : ∀ i, i < 9 → ∀ j, j < 9 → i ≠ j → Cond.not (Cond.eq (sT i) (sT j)) ∈ GV ∨ Cond.not (Cond.eq (sT j) (sT i)) ∈ GV := by decide +kernel
set_option maxRecDepth 100000 in
theorem gv_eq : ∀ i, i < 9 → Cond.eq (sT i) (.string RX9 (sMi i)) ∈ GV := by decide +kernel
set_option maxRecDepth 100000 in
theorem gv_s8 : Cond.exactly (.string RX8 361) "java/lang/String" ∈ GV := by decide +kernel
set_option maxRecDepth 100000 in
theorem gv_z : ∀ w ∈ [Cond.eq (.static "java/lang/String" "COMPACT_STRINGS" "Z") (.int 1), .isRef (.static "jdk/internal/util/Preconditions" "SIOOBE_FORMATTER" "Ljava/util/function/BiFunction;"), .isRef (.static Bundle.tN "UNASSIGNED_STACK" Bundle.steD), .isRef (.static Bundle.tN "SUPPRESSED_SENTINEL" Bundle.listD)], w ∈ GV := by decide +kernel
set_option maxRecDepth 100000 in
theorem tb_s : ∀ i, i < 9 → Cond.stringRef RX4 (sRi i) (sTx i) ∈ lw_tbl ∧ Cond.stringRef RX9 (sMi i) (sTx i) ∈ lw_tbl := by decide +kernel
set_option maxRecDepth 100000 in
theorem tb_w : ∀ w ∈ [Cond.stringRef RX8 361 "no such page on disk", .laysStatic "java/lang/String" "COMPACT_STRINGS" "Z", .initialized "java/lang/String", .laysStatic "jdk/internal/util/Preconditions" "SIOOBE_FORMATTER" "Ljava/util/function/BiFunction;", .initialized "jdk/internal/util/Preconditions", .laysStatic Bundle.tN "UNASSIGNED_STACK" Bundle.steD, .laysStatic Bundle.tN "SUPPRESSED_SENTINEL" Bundle.listD, .initialized Bundle.tN, .arrayOver (.object "SqueezedSwap$State")], w ∈ lw_tbl := by decide +kernel
set_option maxRecDepth 100000 in
theorem tb_n : ∀ q ∈ nestL, Cond.methodLinkNest q.1 q.2.1 q.2.2 "SqueezedSwap" ∈ lw_tbl := by decide +kernel
