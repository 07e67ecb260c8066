/-! the texts: what is known of the String constants, and the calls of String that are made -/
abbrev SK : Type := (Nat → Nat) × (Nat → Nat)
def sLen : List Nat := [4, 6, 4, 3, 4, 1, 5, 4, 4]
def sByt : List (List Int32) := [[115, 119, 97, 112], [102, 114, 97, 109, 101, 115], [115, 116, 101, 112], [98, 105, 103], [100, 97, 116, 97], [120], [115, 116, 111, 114, 101], [108, 111, 97, 100], [100, 114, 111, 112]]
def sTx (i : Nat) : String := match i with
  | 0 => "swap"
  | 1 => "frames"
  | 2 => "step"
  | 3 => "big"
  | 4 => "data"
  | 5 => "x"
  | 6 => "store"
  | 7 => "load"
  | _ => "drop"
def sRi (i : Nat) : Nat := match i with
  | 0 => 58
  | 1 => 99
  | 2 => 107
  | 3 => 109
  | 4 => 71
  | 5 => 137
  | 6 => 93
  | 7 => 95
  | _ => 97
def sMi (i : Nat) : Nat := match i with
  | 0 => 164
  | 1 => 183
  | 2 => 189
  | 3 => 191
  | 4 => 169
  | 5 => 206
  | 6 => 174
  | 7 => 179
  | _ => 181
/-- the length of a text, its signs -/
def lnS (i : Nat) : Int32 := nI (sLen.getD i 0)
def chS (i : Nat) (j : Int32) : Option Int32 := if j < 0 ∨ sLen.getD i 0 ≤ j.toNatClampNeg then none else some ((sByt.getD i []).getD j.toNatClampNeg 0)
def StrW (K : SK) (A : Nat → Prop) (U : State) : Prop := vk_S 9 sLen sByt K.1 K.2 A U U.heap ∧ (∀ i, i < 9 → vk_R RX4 (sRi i) (sTx i) (K.1 i) U ∧ vk_R RX9 (sMi i) (sTx i) (K.1 i) U) ∧ va_Z "java/lang/String" "COMPACT_STRINGS" "Z" (.int 1) A U U.heap ∧ va_Zq "jdk/internal/util/Preconditions" "SIOOBE_FORMATTER" "Ljava/util/function/BiFunction;" A U U.heap
def PreT (G : GG) (K : SK) (sz : Nat) (ws : va_W) (U : State) : Prop := PreW G sz ws U ∧ StrW K (va_A ws sz) U
theorem StrW.same {K : SK} {A : Nat → Prop} {u U : State} (hv : U.vm = u.vm) (hh : U.heap = u.heap) (h : StrW K A u) : StrW K A U := by
  obtain ⟨h1, h2, h3, h4⟩ := h
  have al : u.vm.Alike U.vm := by rw [hv]; exact Vm.Alike.refl u.vm
  refine ⟨?_, fun i hi => ⟨(h2 i hi).1.same hv, (h2 i hi).2.same hv⟩, ?_, ?_⟩
  · rw [hh]; exact h1.moved al
  · rw [hh]; exact h3.moved al
  · rw [hh]; exact h4.moved al
theorem StrW.pass {K : SK} {A B : Nat → Prop} {s U : State} {H : Heap} {locs : List Loc} (h : StrW K A s) (hS : va_S A s.heap H locs) (hAB : ∀ q, B q → A q) (hU : U.heap = H) (hW : s.WarmedH U.vm) : StrW K B U := by
  obtain ⟨h1, h2, h3, h4⟩ := h
  refine ⟨?_, fun i hi => ⟨(h2 i hi).1.warm hW, (h2 i hi).2.warm hW⟩, ?_, ?_⟩
  · rw [hU]; exact ((h1.kept hS.2.1).moved hW.alike).narrow hAB
  · rw [hU]; exact ((h3.kept hS.2.1).moved hW.alike).narrow hAB
  · rw [hU]; exact ((h4.kept hS.2.1).moved hW.alike).narrow hAB
theorem blindT {G : GG} {K : SK} {av : List Value} {sz : Nat} {wc : va_W} : FrameBlind (va_Pc av (PreT G K sz wc)) := fun a U g mk q => by
  obtain ⟨q0, q1, q2⟩ := q
  exact ⟨q0, (blindW (av := av) a U g mk ⟨q0, q1⟩).2, q2.same rfl rfl⟩
section ST
variable {p : Program} {l : Launch} {e : Env} {R : Room} {s : State} {m : MethodId} {args : Array Value} {below : List Frame} {meth : Method} {c : Code} {H : Heap} {locs : List Loc} {cells slots : Nat} {Q : State → Prop}
variable {cc : ByteArray} {nL pc : Nat} {own : String} {w0 : Cond} {ret : Option FieldType} {ls : Array Slot} {rest : List Value} {G : GG} {K : SK} {A : Nat → Prop} {ws ws' : va_W} {a : Nat} {lv lv' : List (Nat × Value)}
theorem Met.intoT {y : MethodName} {maxL : Nat} {rm : Room} {av : List Value} {sz mc ms : Nat} {Qc : Array Value → State → Outcome → State → Prop} (hy : plainName y.cls = true) (hn : (lg_sl av).length ≤ maxL)
    (body : ∀ (p : Program) (e : Env) (s : State) (m : MethodId) (below : List Frame) (meth : Method) (c : Code), Cx p s m av.toArray meth c cc maxL y.cls (.code y cc maxL ret) ret → s.heap.size = sz → StrW K (va_A ws sz) s → ∀ ls : Array Slot, lv_has ls maxL (lv_args 0 av) → Wd G (va_A ws sz) s s.heap [] ws → W p l e rm s m av.toArray below meth c s.heap [] 0 0 (MQ below Qc av.toArray s mc ms (va_A ws sz)) (F0 m 0 ls [])) :
    Met l y (.code y cc maxL ret :: BT) rm (va_Pc av (PreT G K sz ws)) Qc mc ms (va_A ws sz) := by
  refine Met.ofW (cc := cc) (maxL := maxL) (ret := ret) hy rfl ?_
  intro p e s m args below meth c s₁ B hml hv
  obtain ⟨rfl, ⟨hsz, hP, hK, hD0⟩, hq⟩ := hv
  have hts := atoms_spec (ws := .code y cc maxL ret :: BT) B.pre
  have hown : s.vm.findClass y.cls = some m.cls := findClass_of_methodNamed B.named
  have hl := lv_entry av (n := maxL) hn
  rw [lg_entry_eq]
  refine body p e s m below meth c ⟨B.exec, B.bytes, hml, hown, hts, B.notSynchronized, B.returns⟩ hsz hq _ hl ⟨hK, hP, hD0.self, va_S.rf, fun q h => Or.inr (by rw [← hsz]; exact h)⟩
theorem r_nret {ty : FieldType} (C : Cx p s m args meth c cc nL own w0 (some ty)) (hw : Wd G A s H locs ws) {r : Int32} (hn : narrow ty (.int r) = .int r) (hdg : decode cc pc = .ok (.ireturn, 1)) : W p l e R s m args below meth c H locs cells slots (MQ below (Ans G r A ws) args s cells slots A) (F0 m pc ls [.int r]) :=
  W.zret C.1 C.2.1 C.2.2.2.2.2.2 hn (fun t ht hW => ⟨⟨r, (), rfl, rfl, by rw [ht]; exact hw.2.1, va_K.moved hW.alike hw.1, hw.2.2.1⟩, hw.2.2.2.1.F ht⟩) hw.2.2.2.1.2.2 hdg C.2.2.2.2.2.1
theorem r_gets {C0 n d ref : String} {v : Value} {index : Nat} (C : Cx p s m args meth c cc nL own w0 ret) (hw : Wd G A s H locs ws) (hZ : va_Z C0 n d v A s s.heap) (lk : Cond.fieldLink own index ref n d ∈ BT) (hr : ref = C0) (hdg : decode cc pc = .ok (.getstatic index, 3)) (kk : W p l e R s m args below meth c H locs cells slots Q (F0 m (pc + 3) ls (v :: rest))) : W p l e R s m args below meth c H locs cells slots Q (F0 m pc ls rest) := by
  subst hr
  exact va_gets C.1 C.2.1 hZ hw.2.2.2.1 C.2.2.2.1 (C.2.2.2.2.1 _ (List.mem_cons_of_mem _ lk)) (fun _ h => h) hdg kk
theorem r_getO {o n d ref : String} {v : Value} {index q : Nat} (C : Cx p s m args meth c cc nL own w0 ret) (hw : Wd G A s H locs ws) (hE : va_OF o n d v q A s s.heap) (lk : Cond.fieldLink own index ref n d ∈ BT) (hr : ref = o) (hdg : decode cc pc = .ok (.getfield index, 3)) (kk : W p l e R s m args below meth c H locs cells slots Q (F0 m (pc + 3) ls (v :: rest))) : W p l e R s m args below meth c H locs cells slots Q (F0 m pc ls (.ref q :: rest)) := by
  subst hr
  exact vk_getf C.1 C.2.1 hE hw.2.2.2.1 C.2.2.2.1 (C.2.2.2.2.1 _ (List.mem_cons_of_mem _ lk)) (fun _ h => h) hdg kk
end ST
set_option maxHeartbeats 4000000 in
set_option maxRecDepth 100000 in
theorem c_coder (l : Launch) (G : GG) (K : SK) (sz i : Nat) (hi : i < 9) : Met l yJ0_coder_7d493 (.code yJ0_coder_7d493 cJ0_coder_7d493 1 (some .byte) :: BT) { frames := 0, cells := 0, slots := 0, locals := 0 } (va_Pc [.ref (K.1 i)] (PreT G K sz [])) (Ans G 0 (va_A [] sz) []) 0 0 (va_A [] sz) := by
  refine Met.intoT (by decide) (Nat.le_of_ble_eq_true rfl) ?_
  intro p e s m below meth c C hsz hq ls hl hw
  have hl : lv_has ls 1 [(0, .ref (K.1 i))] := hl
  refine r_gets C hw hq.2.2.1 jf_J0_38 rfl dJ0_coder_7d493_0 ?_
  refine lv_if_eq (tgt := 13) C.1 C.2.1 dJ0_coder_7d493_3 (by decide) (fun hc => absurd hc (by decide)) (fun hc => ?_)
  refine r_aload0 C hl 0 rfl dJ0_coder_7d493_6 ?_
  refine r_getO C hw (hq.1.1 i hi).2.1 jf_J0_15 rfl dJ0_coder_7d493_7 ?_
  refine lv_goto (tgt := 14) C.1 C.2.1 dJ0_coder_7d493_10 (by decide) ?_
  exact r_nret C hw (by decide) dJ0_coder_7d493_14
set_option maxHeartbeats 4000000 in
set_option maxRecDepth 100000 in
theorem c_isLatin1 (l : Launch) (G : GG) (K : SK) (sz i : Nat) (hi : i < 9) : Met l yJ0_isLatin1_aae02 (.code yJ0_isLatin1_aae02 cJ0_isLatin1_aae02 1 (some .boolean) :: BT) { frames := 0, cells := 0, slots := 0, locals := 0 } (va_Pc [.ref (K.1 i)] (PreT G K sz [])) (Ans G 1 (va_A [] sz) []) 0 0 (va_A [] sz) := by
  refine Met.intoT (by decide) (Nat.le_of_ble_eq_true rfl) ?_
  intro p e s m below meth c C hsz hq ls hl hw
  have hl : lv_has ls 1 [(0, .ref (K.1 i))] := hl
  refine r_gets C hw hq.2.2.1 jf_J0_38 rfl dJ0_isLatin1_aae02_0 ?_
  refine lv_if_eq (tgt := 17) C.1 C.2.1 dJ0_isLatin1_aae02_3 (by decide) (fun hc => absurd hc (by decide)) (fun hc => ?_)
  refine r_aload0 C hl 0 rfl dJ0_isLatin1_aae02_6 ?_
  refine r_getO C hw (hq.1.1 i hi).2.1 jf_J0_15 rfl dJ0_isLatin1_aae02_7 ?_
  refine lv_if_ne (tgt := 17) C.1 C.2.1 dJ0_isLatin1_aae02_10 (by decide) (fun hc => absurd rfl hc) (fun hc => ?_)
  refine lv_iconst (v := 1) C.1 C.2.1 dJ0_isLatin1_aae02_13 (by decide) ?_
  refine lv_goto (tgt := 18) C.1 C.2.1 dJ0_isLatin1_aae02_14 (by decide) ?_
  exact r_nret C hw (by decide) dJ0_isLatin1_aae02_18
theorem lnS_shr : ∀ i, i < 9 → (lnS i) >>> ((0 : Int32) &&& 31) = lnS i := by decide +kernel
set_option maxHeartbeats 4000000 in
set_option maxRecDepth 100000 in
theorem c_length (l : Launch) (G : GG) (K : SK) (sz i : Nat) (hi : i < 9) : Met l yJ0_length_8abf5 (.code yJ0_length_8abf5 cJ0_length_8abf5 1 (some .int) :: BT) { frames := 1, cells := 0, slots := 0, locals := 20 } (va_Pc [.ref (K.1 i)] (PreT G K sz [])) (Ans G (lnS i) (va_A [] sz) []) 0 0 (va_A [] sz) := by
  refine Met.intoT (by decide) (Nat.le_of_ble_eq_true rfl) ?_
  intro p e s m below meth c C hsz hq ls hl hw
  have hl : lv_has ls 1 [(0, .ref (K.1 i))] := hl
  refine r_aload0 C hl 0 rfl dJ0_length_8abf5_0 ?_
  refine r_getO C hw (hq.1.1 i hi).2.2.1 jf_J0_9 rfl dJ0_length_8abf5_1 ?_
  refine va_tlen C.1 C.2.1 (hq.1.1 i hi).2.2.2 hw.2.2.2.1 (v := lnS i) rfl dJ0_length_8abf5_4 ?_
  refine r_aload0 C hl 0 rfl dJ0_length_8abf5_5 ?_
  refine g_callVi (ws' := []) (As := []) (rest := [.int (lnS i)]) C hw hl.1 kJ0_coder_7d493 ml_J0_335 (c_coder l G K _ i hi) blindT CutX.none (fun hf U hU hW hp => ⟨hp, hq.pass hw.2.2.2.1 hf hU hW⟩) (vk_recv hq.1 hi hw.2.2.2.1) ⟨rfl, rfl⟩ ⟨Nat.le_of_ble_eq_true rfl, Nat.le_of_ble_eq_true rfl⟩ rfl ⟨Nat.zero_le _, Nat.zero_le _⟩ rfl (Nat.le_of_ble_eq_true rfl) dJ0_length_8abf5_6 (fun H locs hw => ?_)
  refine lv_ishr C.1 C.2.1 dJ0_length_8abf5_9 ?_
  rw [lnS_shr i hi]
  exact r_iret C hw dJ0_length_8abf5_10
set_option maxHeartbeats 4000000 in
set_option maxRecDepth 100000 in
theorem c_pci (l : Launch) (G : GG) (sz : Nat) (x n : Int32) (v : Value) (hv : v = .null ∨ ∃ t : Nat, v = .ref t) (h0 : ¬ x < 0) (h1 : x < n) : Met l yJ3_checkIndex_8e157 (.code yJ3_checkIndex_8e157 cJ3_checkIndex_8e157 3 (some .int) :: BT) { frames := 0, cells := 0, slots := 0, locals := 0 } (va_Pc [.int x, .int n, v] (PreW G sz [])) (Ans G x (va_A [] sz) []) 0 0 (va_A [] sz) := by
  have key : ∀ v : Value, (lg_sl [.int x, .int n, v]).length ≤ 3 → (∀ ls : Array Slot, lv_has ls 3 (lv_args 0 [.int x, .int n, v]) → lv_has ls 3 [(0, .int x), (1, .int n)]) → Met l yJ3_checkIndex_8e157 (.code yJ3_checkIndex_8e157 cJ3_checkIndex_8e157 3 (some .int) :: BT) { frames := 0, cells := 0, slots := 0, locals := 0 } (va_Pc [.int x, .int n, v] (PreW G sz [])) (Ans G x (va_A [] sz) []) 0 0 (va_A [] sz) := by
    intro v hlen hsub
    refine Met.into (by decide) hlen ?_
    intro p e s m below meth c C hsz ls hl hw
    have hl := hsub ls hl
    refine r_iload0 C hl 0 rfl dJ3_checkIndex_8e157_0 ?_
    refine lv_if_lt (tgt := 9) C.1 C.2.1 dJ3_checkIndex_8e157_1 (by decide) (fun hc => absurd hc h0) (fun hc => ?_)
    refine r_iload0 C hl 0 rfl dJ3_checkIndex_8e157_4 ?_
    refine r_iload0 C hl 1 rfl dJ3_checkIndex_8e157_5 ?_
    refine lv_icmp_lt (tgt := 16) C.1 C.2.1 dJ3_checkIndex_8e157_6 (by decide) (fun hc => ?_) (fun hc => absurd h1 hc)
    refine r_iload0 C hl 0 rfl dJ3_checkIndex_8e157_16 ?_
    exact r_iret C hw dJ3_checkIndex_8e157_17
  rcases hv with rfl | ⟨t, rfl⟩
  · exact key _ (Nat.le_of_ble_eq_true rfl) (fun ls hl => lv_sub hl [0, 1] rfl)
  · exact key _ (Nat.le_of_ble_eq_true rfl) (fun ls hl => lv_sub hl [0, 1] rfl)
set_option maxHeartbeats 4000000 in
set_option maxRecDepth 100000 in
theorem c_sci (l : Launch) (G : GG) (K : SK) (sz : Nat) (x n : Int32) (h0 : ¬ x < 0) (h1 : x < n) : Met l yJ0_checkIndex_df160 (.code yJ0_checkIndex_df160 cJ0_checkIndex_df160 2 none :: BT) { frames := 1, cells := 0, slots := 0, locals := 22 } (va_Pc [.int x, .int n] (PreT G K sz [])) (Don G (va_A [] sz) []) 0 0 (va_A [] sz) := by
  refine Met.intoT (by decide) (Nat.le_of_ble_eq_true rfl) ?_
  intro p e s m below meth c C hsz hq ls hl hw
  have hl : lv_has ls 2 [(0, .int x), (1, .int n)] := hl
  refine r_iload0 C hl 0 rfl dJ0_checkIndex_df160_0 ?_
  refine r_iload0 C hl 1 rfl dJ0_checkIndex_df160_1 ?_
  rcases hq.2.2.2 with hz | ⟨t, hz⟩
  · refine r_gets C hw hz jf_J0_1053 rfl dJ0_checkIndex_df160_2 ?_
    refine r_callSi (ws' := []) (As := [.int x, .int n, .null]) (rest := []) C hw hl.1 kJ3_checkIndex_8e157 ml_J0_1059 (c_pci l G _ x n _ (Or.inl rfl) h0 h1) CutX.none ⟨rfl, rfl⟩ ⟨Nat.le_of_ble_eq_true rfl, Nat.le_of_ble_eq_true rfl⟩ rfl ⟨Nat.zero_le _, Nat.zero_le _⟩ rfl (Nat.le_of_ble_eq_true rfl) dJ0_checkIndex_df160_5 (fun H locs hw => ?_)
    refine lv_pop C.1 C.2.1 dJ0_checkIndex_df160_8 rfl ?_
    exact r_vret C hw dJ0_checkIndex_df160_9
  · refine r_gets C hw hz jf_J0_1053 rfl dJ0_checkIndex_df160_2 ?_
    refine r_callSi (ws' := []) (As := [.int x, .int n, .ref t]) (rest := []) C hw hl.1 kJ3_checkIndex_8e157 ml_J0_1059 (c_pci l G _ x n _ (Or.inr ⟨t, rfl⟩) h0 h1) CutX.none ⟨rfl, rfl⟩ ⟨Nat.le_of_ble_eq_true rfl, Nat.le_of_ble_eq_true rfl⟩ rfl ⟨Nat.zero_le _, Nat.zero_le _⟩ rfl (Nat.le_of_ble_eq_true rfl) dJ0_checkIndex_df160_5 (fun H locs hw => ?_)
    refine lv_pop C.1 C.2.1 dJ0_checkIndex_df160_8 rfl ?_
    exact r_vret C hw dJ0_checkIndex_df160_9
theorem chS_in {i : Nat} {j v : Int32} (hi : i < 9) (h : chS i j = some v) : vp_in j (sLen.getD i 0) ∧ (sByt.getD i []).getD j.toNatClampNeg 0 = v ∧ ¬ j < 0 ∧ j < lnS i := by
  unfold chS at h
  by_cases hc : j < 0 ∨ sLen.getD i 0 ≤ j.toNatClampNeg
  · rw [if_pos hc] at h; cases h
  · rw [if_neg hc] at h
    refine ⟨hc, Option.some.inj h, fun q => hc (Or.inl q), ?_⟩
    have h9 : sLen.getD i 0 < 2 ^ 31 := by
      have : ∀ i, i < 9 → sLen.getD i 0 < 2 ^ 31 := by decide
      exact this i hi
    obtain ⟨k, hk, rfl⟩ := vp_in_of (show vp_in j _ from hc) h9
    exact nI_lt hk h9
theorem byt_and : ∀ i, i < 9 → ∀ k, k < sLen.getD i 0 → ((((sByt.getD i []).getD k 0 &&& 255).toUInt32 % 65536).toInt32) = (sByt.getD i []).getD k 0 ∧ narrow .char (.int ((sByt.getD i []).getD k 0)) = .int ((sByt.getD i []).getD k 0) := by decide +kernel
set_option maxHeartbeats 4000000 in
set_option maxRecDepth 100000 in
theorem c_lch (l : Launch) (G : GG) (K : SK) (sz i : Nat) (hi : i < 9) (j v : Int32) (hv : chS i j = some v) : Met l yJ1_charAt_3b067 (.code yJ1_charAt_3b067 cJ1_charAt_3b067 2 (some .char) :: BT) { frames := 2, cells := 0, slots := 0, locals := 43 } (va_Pc [.ref (K.2 i), .int j] (PreT G K sz [])) (Ans G v (va_A [] sz) []) 0 0 (va_A [] sz) := by
  obtain ⟨h1, h2, h3, h4⟩ := chS_in hi hv
  refine Met.intoT (by decide) (Nat.le_of_ble_eq_true rfl) ?_
  intro p e s m below meth c C hsz hq ls hl hw
  have hl : lv_has ls 2 [(0, .ref (K.2 i)), (1, .int j)] := hl
  refine r_iload0 C hl 1 rfl dJ1_charAt_3b067_0 ?_
  refine r_aload0 C hl 0 rfl dJ1_charAt_3b067_1 ?_
  refine va_tlen C.1 C.2.1 (hq.1.1 i hi).2.2.2 hw.2.2.2.1 (v := lnS i) rfl dJ1_charAt_3b067_2 ?_
  refine g_callSv (ws' := []) (As := [.int j, .int (lnS i)]) (rest := []) C hw hl.1 kJ0_checkIndex_df160 ml_J1_9 (c_sci l G K _ j (lnS i) h3 h4) blindT CutX.none (fun hf U hU hW hp => ⟨hp, hq.pass hw.2.2.2.1 hf hU hW⟩) ⟨rfl, rfl⟩ ⟨Nat.le_of_ble_eq_true rfl, Nat.le_of_ble_eq_true rfl⟩ rfl ⟨Nat.zero_le _, Nat.zero_le _⟩ rfl (Nat.le_of_ble_eq_true rfl) dJ1_charAt_3b067_3 (fun H locs hw => ?_)
  refine r_aload0 C hl 0 rfl dJ1_charAt_3b067_6 ?_
  refine r_iload0 C hl 1 rfl dJ1_charAt_3b067_7 ?_
  refine va_tb C.1 C.2.1 (hq.1.1 i hi).2.2.2 hw.2.2.2.1 h1 rfl dJ1_charAt_3b067_8 ?_
  refine lv_sipush (v := 255) C.1 C.2.1 dJ1_charAt_3b067_9 (by decide) ?_
  refine lv_iand C.1 C.2.1 dJ1_charAt_3b067_12 ?_
  have h9 : sLen.getD i 0 < 2 ^ 31 := by
    have : ∀ i, i < 9 → sLen.getD i 0 < 2 ^ 31 := by decide
    exact this i hi
  obtain ⟨k, hk, ek⟩ := vp_in_of h1 h9
  have hb := byt_and i hi j.toNatClampNeg (by rw [ek, nI_clamp (by omega)]; exact hk)
  refine lv_i2c (v := v) C.1 C.2.1 dJ1_charAt_3b067_13 (by rw [hb.1]; exact h2) ?_
  exact r_nret C hw (by rw [← h2]; exact hb.2) dJ1_charAt_3b067_14
set_option maxHeartbeats 4000000 in
set_option maxRecDepth 100000 in
theorem c_charAt (l : Launch) (G : GG) (K : SK) (sz i : Nat) (hi : i < 9) (j v : Int32) (hv : chS i j = some v) : Met l yJ0_charAt_5068e (.code yJ0_charAt_5068e cJ0_charAt_5068e 2 (some .char) :: BT) { frames := 3, cells := 0, slots := 0, locals := 64 } (va_Pc [.ref (K.1 i), .int j] (PreT G K sz [])) (Ans G v (va_A [] sz) []) 0 0 (va_A [] sz) := by
  obtain ⟨h1, h2, h3, h4⟩ := chS_in hi hv
  refine Met.intoT (by decide) (Nat.le_of_ble_eq_true rfl) ?_
  intro p e s m below meth c C hsz hq ls hl hw
  have hl : lv_has ls 2 [(0, .ref (K.1 i)), (1, .int j)] := hl
  refine r_aload0 C hl 0 rfl dJ0_charAt_5068e_0 ?_
  refine g_callVi (ws' := []) (As := []) (rest := []) C hw hl.1 kJ0_isLatin1_aae02 ml_J0_492 (c_isLatin1 l G K _ i hi) blindT CutX.none (fun hf U hU hW hp => ⟨hp, hq.pass hw.2.2.2.1 hf hU hW⟩) (vk_recv hq.1 hi hw.2.2.2.1) ⟨rfl, rfl⟩ ⟨Nat.le_of_ble_eq_true rfl, Nat.le_of_ble_eq_true rfl⟩ rfl ⟨Nat.zero_le _, Nat.zero_le _⟩ rfl (Nat.le_of_ble_eq_true rfl) dJ0_charAt_5068e_1 (fun H locs hw => ?_)
  refine lv_if_eq (tgt := 16) C.1 C.2.1 dJ0_charAt_5068e_4 (by decide) (fun hc => absurd hc (by decide)) (fun hc => ?_)
  refine r_aload0 C hl 0 rfl dJ0_charAt_5068e_7 ?_
  refine r_getO C hw (hq.1.1 i hi).2.2.1 jf_J0_9 rfl dJ0_charAt_5068e_8 ?_
  refine r_iload0 C hl 1 rfl dJ0_charAt_5068e_11 ?_
  refine g_callSi (ws' := []) (As := [.ref (K.2 i), .int j]) (rest := []) C hw hl.1 kJ1_charAt_3b067 ml_J0_495 (c_lch l G K _ i hi j v hv) blindT CutX.none (fun hf U hU hW hp => ⟨hp, hq.pass hw.2.2.2.1 hf hU hW⟩) ⟨rfl, rfl⟩ ⟨Nat.le_of_ble_eq_true rfl, Nat.le_of_ble_eq_true rfl⟩ rfl ⟨Nat.zero_le _, Nat.zero_le _⟩ rfl (Nat.le_of_ble_eq_true rfl) dJ0_charAt_5068e_12 (fun H locs hw => ?_)
  have h9 : sLen.getD i 0 < 2 ^ 31 := by
    have : ∀ i, i < 9 → sLen.getD i 0 < 2 ^ 31 := by decide
    exact this i hi
  obtain ⟨k, hk, ek⟩ := vp_in_of h1 h9
  have hb := byt_and i hi j.toNatClampNeg (by rw [ek, nI_clamp (by omega)]; exact hk)
  exact r_nret C hw (by rw [← h2]; exact hb.2) dJ0_charAt_5068e_15
