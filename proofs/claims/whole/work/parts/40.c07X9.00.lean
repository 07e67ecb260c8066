set_option maxHeartbeats 4000000 in
set_option maxRecDepth 100000 in
theorem c_X9_thrown (l : Launch) (G : GG) (ad : Nat → Nat) (sz : Nat) (d_ad : Pic) (dw : Int64)  (out : Int32) (hf : f_X9_thrown d_ad = some out) : Met l yX9_thrown (.code yX9_thrown cX9_thrown 1 (some .int) :: BT) ({ frames := 0, cells := 0, slots := 0, locals := 0 }) (va_Pc [.ref (ad 99)] (PreW G sz (dO G ad d_ad dw ++ []))) (Ans G out (va_A (dO G ad d_ad dw ++ []) sz) (dO G ad d_ad dw ++ [])) 0 0 (va_A (dO G ad d_ad dw ++ []) sz) := by
  refine Met.into (by decide) (Nat.le_of_ble_eq_true rfl) ?_
  intro p e s m below meth c C hsz ls hl hw
  have hl : lv_has ls 1 [(0, .ref (ad 99))] := hl
  clear hsz
  generalize va_A (dO G ad d_ad dw ++ []) sz = A at hw ⊢
  unfold f_X9_thrown at hf
  refine r_aload0 C hl 0 rfl dX9_thrown_0 ?_
  refine r_get C hw _ (gx_h dO_o) 0 fl_X9_75 rfl dX9_thrown_1 ?_
  exact fin_i C hw (Option.some.inj hf) (fun o => o) (fun o => (dO G ad d_ad dw ++ [])) rfl rfl dX9_thrown_4
set_option maxHeartbeats 4000000 in
set_option maxRecDepth 100000 in
theorem c_X9_refused (l : Launch) (G : GG) (ad : Nat → Nat) (sz : Nat) (d_ad : Pic) (dw : Int64) (x1 : Int32) (out : Int32 × Pic) (hf : f_X9_refused d_ad x1 = some out) : Met l yX9_refused (.code yX9_refused cX9_refused 2 (some .int) :: BT) ({ frames := 0, cells := 0, slots := 0, locals := 0 }) (va_Pc [.ref (ad 99), .int x1] (PreW G sz (dO G ad d_ad dw ++ []))) (Ans G out.1 (va_A (dO G ad d_ad dw ++ []) sz) (dO G ad out.2 dw ++ [])) 0 0 (va_A (dO G ad d_ad dw ++ []) sz) := by
  refine Met.into (by decide) (Nat.le_of_ble_eq_true rfl) ?_
  intro p e s m below meth c C hsz ls hl hw
  have hl : lv_has ls 2 [(0, .ref (ad 99)), (1, .int x1)] := hl
  clear hsz
  generalize va_A (dO G ad d_ad dw ++ []) sz = A at hw ⊢
  unfold f_X9_refused at hf
  refine r_aload0 C hl 0 rfl dX9_refused_0 ?_
  refine r_iload0 C hl 1 rfl dX9_refused_1 ?_
  obtain ⟨d_ad1, e1, hf⟩ := bx hf
  refine r_put C hw _ (gx_h dO_o) 1 fp_X9_78 rfl rfl (Nat.le_of_ble_eq_true rfl) (dO G ad d_ad1 dw ++ []) (sx_h dO_o (dO_p1 e1)) dX9_refused_2 (fun H locs hw => ?_)
  refine r_aload0 C hl 0 rfl dX9_refused_5 ?_
  refine lv_iconst (v := (-1)) C.1 C.2.1 dX9_refused_6 (by decide) ?_
  obtain ⟨d_ad2, e2, hf⟩ := bx hf
  refine r_put C hw _ (gx_h dO_o) 2 fp_X9_9 rfl rfl (Nat.le_of_ble_eq_true rfl) (dO G ad d_ad2 dw ++ []) (sx_h dO_o (dO_p2 e2)) dX9_refused_7 (fun H locs hw => ?_)
  refine lv_iconst (v := (-1)) C.1 C.2.1 dX9_refused_10 (by decide) ?_
  exact fin_i C hw (Option.some.inj hf) (fun o => o.1) (fun o => (dO G ad o.2 dw ++ [])) rfl rfl dX9_refused_11
set_option maxHeartbeats 4000000 in
set_option maxRecDepth 100000 in
theorem c_X9_good (l : Launch) (G : GG) (ad : Nat → Nat) (sz : Nat) (d_ad : Pic) (dw : Int64) (x1 : Int32) (out : Int32 × Pic) (hf : f_X9_good d_ad x1 = some out) : Met l yX9_good (.code yX9_good cX9_good 2 (some .int) :: BT) ({ frames := 0, cells := 0, slots := 0, locals := 0 }) (va_Pc [.ref (ad 99), .int x1] (PreW G sz (dO G ad d_ad dw ++ []))) (Ans G out.1 (va_A (dO G ad d_ad dw ++ []) sz) (dO G ad out.2 dw ++ [])) 0 0 (va_A (dO G ad d_ad dw ++ []) sz) := by
  refine Met.into (by decide) (Nat.le_of_ble_eq_true rfl) ?_
  intro p e s m below meth c C hsz ls hl hw
  have hl : lv_has ls 2 [(0, .ref (ad 99)), (1, .int x1)] := hl
  clear hsz
  generalize va_A (dO G ad d_ad dw ++ []) sz = A at hw ⊢
  unfold f_X9_good at hf
  refine r_aload0 C hl 0 rfl dX9_good_0 ?_
  refine lv_iconst (v := 0) C.1 C.2.1 dX9_good_1 (by decide) ?_
  obtain ⟨d_ad1, e1, hf⟩ := bx hf
  refine r_put C hw _ (gx_h dO_o) 1 fp_X9_78 rfl rfl (Nat.le_of_ble_eq_true rfl) (dO G ad d_ad1 dw ++ []) (sx_h dO_o (dO_p1 e1)) dX9_good_2 (fun H locs hw => ?_)
  refine r_aload0 C hl 0 rfl dX9_good_5 ?_
  refine lv_iconst (v := (-1)) C.1 C.2.1 dX9_good_6 (by decide) ?_
  obtain ⟨d_ad2, e2, hf⟩ := bx hf
  refine r_put C hw _ (gx_h dO_o) 2 fp_X9_9 rfl rfl (Nat.le_of_ble_eq_true rfl) (dO G ad d_ad2 dw ++ []) (sx_h dO_o (dO_p2 e2)) dX9_good_7 (fun H locs hw => ?_)
  refine r_iload0 C hl 1 rfl dX9_good_10 ?_
  exact fin_i C hw (Option.some.inj hf) (fun o => o.1) (fun o => (dO G ad o.2 dw ++ [])) rfl rfl dX9_good_11
set_option maxHeartbeats 4000000 in
set_option maxRecDepth 100000 in
theorem c_X9_in (l : Launch) (G : GG)  (sz : Nat)  (x0 : Int32) (x1 : Int32) (x2 : Int32) (out : Int32) (hf : f_X9_in x0 x1 x2 = some out) : Met l yX9_in (.code yX9_in cX9_in 3 (some .boolean) :: BT) ({ frames := 0, cells := 0, slots := 0, locals := 0 }) (va_Pc [.int x0, .int x1, .int x2] (PreW G sz [])) (Ans G out (va_A [] sz) []) 0 0 (va_A [] sz) := by
  refine Met.into (by decide) (Nat.le_of_ble_eq_true rfl) ?_
  intro p e s m below meth c C hsz ls hl hw
  have hl : lv_has ls 3 [(0, .int x0), (1, .int x1), (2, .int x2)] := hl
  clear hsz
  generalize va_A [] sz = A at hw ⊢
  unfold f_X9_in at hf
  refine r_iload0 C hl 0 rfl dX9_in_0 ?_
  refine r_iload0 C hl 1 rfl dX9_in_1 ?_
  refine lv_icmp_lt (tgt := 14) C.1 C.2.1 dX9_in_2 (by decide) (fun hc => ?_) (fun hc => ?_)
  · replace hf := ifp hf hc
    refine lv_iconst (v := 0) C.1 C.2.1 dX9_in_14 (by decide) ?_
    exact fin_z C hw (by decide) (Option.some.inj hf) (fun o => o) (fun o => []) rfl rfl dX9_in_15
  · replace hf := ifn hf hc
    refine r_iload0 C hl 0 rfl dX9_in_5 ?_
    refine r_iload0 C hl 2 rfl dX9_in_6 ?_
    refine lv_icmp_gt (tgt := 14) C.1 C.2.1 dX9_in_7 (by decide) (fun hc => ?_) (fun hc => ?_)
    · replace hf := ifp hf hc
      refine lv_iconst (v := 0) C.1 C.2.1 dX9_in_14 (by decide) ?_
      exact fin_z C hw (by decide) (Option.some.inj hf) (fun o => o) (fun o => []) rfl rfl dX9_in_15
    · replace hf := ifn hf hc
      refine lv_iconst (v := 1) C.1 C.2.1 dX9_in_10 (by decide) ?_
      refine lv_goto (tgt := 15) C.1 C.2.1 dX9_in_11 (by decide) ?_
      exact fin_z C hw (by decide) (Option.some.inj hf) (fun o => o) (fun o => []) rfl rfl dX9_in_15
set_option maxHeartbeats 4000000 in
set_option maxRecDepth 100000 in
theorem c_X9_byteAt (l : Launch) (G : GG) (ad : Nat → Nat) (sz : Nat) (d_ad : Pic) (dw : Int64) (x1 : Int32) (out : Int32) (hf : f_X9_byteAt d_ad x1 = some out) : Met l yX9_byteAt (.code yX9_byteAt cX9_byteAt 2 (some .int) :: BT) ({ frames := 0, cells := 0, slots := 0, locals := 0 }) (va_Pc [.ref (ad 99), .int x1] (PreW G sz (dO G ad d_ad dw ++ []))) (Ans G out (va_A (dO G ad d_ad dw ++ []) sz) (dO G ad d_ad dw ++ [])) 0 0 (va_A (dO G ad d_ad dw ++ []) sz) := by
  refine Met.into (by decide) (Nat.le_of_ble_eq_true rfl) ?_
  intro p e s m below meth c C hsz ls hl hw
  have hl : lv_has ls 2 [(0, .ref (ad 99)), (1, .int x1)] := hl
  clear hsz
  generalize va_A (dO G ad d_ad dw ++ []) sz = A at hw ⊢
  unfold f_X9_byteAt at hf
  refine r_iload0 C hl 1 rfl dX9_byteAt_0 ?_
  refine r_aload0 C hl 0 rfl dX9_byteAt_1 ?_
  refine r_get C hw _ (gx_h dO_o) 26 fl_X9_81 rfl dX9_byteAt_2 ?_
  refine lv_icmp_ge (tgt := 21) C.1 C.2.1 dX9_byteAt_5 (by decide) (fun hc => ?_) (fun hc => ?_)
  · replace hf := ifp hf hc
    refine lv_iconst (v := (-1)) C.1 C.2.1 dX9_byteAt_21 (by decide) ?_
    exact fin_i C hw (Option.some.inj hf) (fun o => o) (fun o => (dO G ad d_ad dw ++ [])) rfl rfl dX9_byteAt_22
  · replace hf := ifn hf hc
    refine r_aload0 C hl 0 rfl dX9_byteAt_8 ?_
    refine r_get C hw _ (gx_h dO_o) 24 fl_X9_44 rfl dX9_byteAt_9 ?_
    refine r_iload0 C hl 1 rfl dX9_byteAt_12 ?_
    obtain ⟨v1_, e1, hf⟩ := bx hf
    refine r_bald C hw _ (gx_h dO_g24) e1 dX9_byteAt_13 ?_
    refine lv_sipush (v := 255) C.1 C.2.1 dX9_byteAt_14 (by decide) ?_
    refine lv_iand C.1 C.2.1 dX9_byteAt_17 ?_
    refine lv_goto (tgt := 22) C.1 C.2.1 dX9_byteAt_18 (by decide) ?_
    exact fin_i C hw (Option.some.inj hf) (fun o => o) (fun o => (dO G ad d_ad dw ++ [])) rfl rfl dX9_byteAt_22
set_option maxHeartbeats 4000000 in
set_option maxRecDepth 100000 in
theorem c_X9_nextWord (l : Launch) (G : GG) (ad : Nat → Nat) (sz : Nat) (d_ad : Pic) (dw : Int64)  (out : Pic × Int64) (hf : f_X9_nextWord d_ad dw = some out) : Met l yX9_nextWord (.code yX9_nextWord cX9_nextWord 1 none :: BT) ({ frames := 1, cells := 0, slots := 0, locals := 22 }) (va_Pc [.ref (ad 99)] (PreW G sz (dO G ad d_ad dw ++ []))) (Don G (va_A (dO G ad d_ad dw ++ []) sz) (dO G ad out.1 out.2 ++ [])) 0 0 (va_A (dO G ad d_ad dw ++ []) sz) := by
  refine Met.into (by decide) (Nat.le_of_ble_eq_true rfl) ?_
  intro p e s m below meth c C hsz ls hl hw
  have hl : lv_has ls 1 [(0, .ref (ad 99))] := hl
  clear hsz
  generalize va_A (dO G ad d_ad dw ++ []) sz = A at hw ⊢
  have hB_91 : ∀ (d_ad : Pic) (dw : Int64) (t0 : Int32), b_X9_nextWord_91   d_ad dw t0 = some out → ∀ (H : Heap) (locs : List Loc), Wd G A s H locs (dO G ad d_ad dw ++ []) → ∀ ls : Array Slot, lv_has ls 1 [] → W p l e ({ frames := 1, cells := 0, slots := 0, locals := 22 }) s m [.ref (ad 99)].toArray below meth c H locs 0 0 (MQ below (Don G A (dO G ad out.1 out.2 ++ [])) [.ref (ad 99)].toArray s 0 0 A) (F0 m 91 ls [.int t0, .ref (ad 99)]) := by
    intro d_ad dw t0 hf H locs hw ls hl
    unfold b_X9_nextWord_91 at hf
    obtain ⟨d_ad4, e4, hf⟩ := bx hf
    refine r_put C hw _ (gx_h dO_o) 28 fp_X9_97 rfl rfl (Nat.le_of_ble_eq_true rfl) (dO G ad d_ad4 dw ++ []) (sx_h dO_o (dO_p28 e4)) dX9_nextWord_91 (fun H locs hw => ?_)
    exact fin_v C hw (Option.some.inj hf) (fun o => (dO G ad o.1 o.2 ++ [])) rfl dX9_nextWord_94
  have hB_58 : ∀ (k5 : Pic → Int64 → Option (Pic × Int64)) (hk5 : ∀ (d_ad : Pic) (dw : Int64), k5 d_ad dw = some out → ∀ (H : Heap) (locs : List Loc), Wd G A s H locs (dO G ad d_ad dw ++ []) → ∀ ls : Array Slot, lv_has ls 1 [(0, .ref (ad 99))] → W p l e ({ frames := 1, cells := 0, slots := 0, locals := 22 }) s m [.ref (ad 99)].toArray below meth c H locs 0 0 (MQ below (Don G A (dO G ad out.1 out.2 ++ [])) [.ref (ad 99)].toArray s 0 0 A) (F0 m 5 ls [])), ∀ (d_ad : Pic) (dw : Int64), b_X9_nextWord_58  k5 d_ad dw = some out → ∀ (H : Heap) (locs : List Loc), Wd G A s H locs (dO G ad d_ad dw ++ []) → ∀ ls : Array Slot, lv_has ls 1 [(0, .ref (ad 99))] → W p l e ({ frames := 1, cells := 0, slots := 0, locals := 22 }) s m [.ref (ad 99)].toArray below meth c H locs 0 0 (MQ below (Don G A (dO G ad out.1 out.2 ++ [])) [.ref (ad 99)].toArray s 0 0 A) (F0 m 58 ls []) := by
    intro k5 hk5 d_ad dw hf H locs hw ls hl
    unfold b_X9_nextWord_58 at hf
    refine r_aload0 C hl 0 rfl dX9_nextWord_58 ?_
    refine lv_dup C.1 C.2.1 dX9_nextWord_59 rfl ?_
    refine r_get C hw _ (gx_h dO_o) 27 fl_X9_87 rfl dX9_nextWord_60 ?_
    refine lv_iconst (v := 1) C.1 C.2.1 dX9_nextWord_63 (by decide) ?_
    refine lv_iadd C.1 C.2.1 dX9_nextWord_64 ?_
    obtain ⟨d_ad5, e5, hf⟩ := bx hf
    refine r_put C hw _ (gx_h dO_o) 27 fp_X9_87 rfl rfl (Nat.le_of_ble_eq_true rfl) (dO G ad d_ad5 dw ++ []) (sx_h dO_o (dO_p27 e5)) dX9_nextWord_65 (fun H locs hw => ?_)
    refine lv_goto (tgt := 5) C.1 C.2.1 dX9_nextWord_68 (by decide) ?_
    exact hk5 d_ad5 dw hf _ _ hw _ (lv_sub hl [0] rfl)
  have hB_5 : ∀ (k5 : Pic → Int64 → Option (Pic × Int64)) (hk5 : ∀ (d_ad : Pic) (dw : Int64), k5 d_ad dw = some out → ∀ (H : Heap) (locs : List Loc), Wd G A s H locs (dO G ad d_ad dw ++ []) → ∀ ls : Array Slot, lv_has ls 1 [(0, .ref (ad 99))] → W p l e ({ frames := 1, cells := 0, slots := 0, locals := 22 }) s m [.ref (ad 99)].toArray below meth c H locs 0 0 (MQ below (Don G A (dO G ad out.1 out.2 ++ [])) [.ref (ad 99)].toArray s 0 0 A) (F0 m 5 ls [])), ∀ (d_ad : Pic) (dw : Int64), b_X9_nextWord_5  k5 d_ad dw = some out → ∀ (H : Heap) (locs : List Loc), Wd G A s H locs (dO G ad d_ad dw ++ []) → ∀ ls : Array Slot, lv_has ls 1 [(0, .ref (ad 99))] → W p l e ({ frames := 1, cells := 0, slots := 0, locals := 22 }) s m [.ref (ad 99)].toArray below meth c H locs 0 0 (MQ below (Don G A (dO G ad out.1 out.2 ++ [])) [.ref (ad 99)].toArray s 0 0 A) (F0 m 5 ls []) := by
    intro k5 hk5 d_ad dw hf H locs hw ls hl
    unfold b_X9_nextWord_5 at hf
    refine r_aload0 C hl 0 rfl dX9_nextWord_5 ?_
    refine r_aload0 C hl 0 rfl dX9_nextWord_6 ?_
    refine r_get C hw _ (gx_h dO_o) 27 fl_X9_87 rfl dX9_nextWord_7 ?_
    obtain ⟨u2, e2, hf⟩ := bx hf
    refine r_callVi (ws' := (dO G ad d_ad dw ++ [])) (As := [.int (gS d_ad 27)]) (rest := []) C hw hl.1 kX9_byteAt ml_X9_90 (c_X9_byteAt l G ad _ d_ad dw (gS d_ad 27) u2 e2) (CutX.take dO_f CutX.none) _ (gx_h dO_o) rfl ⟨rfl, rfl⟩ ⟨Nat.le_of_ble_eq_true rfl, Nat.le_of_ble_eq_true rfl⟩ rfl ⟨Nat.zero_le _, Nat.zero_le _⟩ rfl (Nat.le_of_ble_eq_true rfl) dX9_nextWord_10 (fun H locs hw => ?_)
    refine lv_bipush (v := 97) C.1 C.2.1 dX9_nextWord_13 (by decide) ?_
    refine lv_bipush (v := 122) C.1 C.2.1 dX9_nextWord_15 (by decide) ?_
    obtain ⟨u3, e3, hf⟩ := bx hf
    refine r_callSi (ws' := (dO G ad d_ad dw ++ [])) (As := [.int u2, .int 97, .int 122]) (rest := []) C hw hl.1 kX9_in ml_X9_100 (c_X9_in l G _ u2 97 122 u3 e3) CutX.none ⟨rfl, rfl⟩ ⟨Nat.le_of_ble_eq_true rfl, Nat.le_of_ble_eq_true rfl⟩ rfl ⟨Nat.zero_le _, Nat.zero_le _⟩ rfl (Nat.le_of_ble_eq_true rfl) dX9_nextWord_17 (fun H locs hw => ?_)
    refine lv_if_eq (tgt := 71) C.1 C.2.1 dX9_nextWord_20 (by decide) (fun hc => ?_) (fun hc => ?_)
    · replace hf := ifp hf hc
      refine r_aload0 C hl 0 rfl dX9_nextWord_71 ?_
      refine r_aload0 C hl 0 rfl dX9_nextWord_72 ?_
      refine r_get C hw _ (gx_h dO_o) 27 fl_X9_87 rfl dX9_nextWord_73 ?_
      refine r_aload0 C hl 0 rfl dX9_nextWord_76 ?_
      refine r_get C hw _ (gx_h dO_o) 29 fl_X9_94 rfl dX9_nextWord_77 ?_
      refine lv_isub C.1 C.2.1 dX9_nextWord_80 ?_
      refine lv_bipush (v := 6) C.1 C.2.1 dX9_nextWord_81 (by decide) ?_
      refine lv_icmp_le (tgt := 90) C.1 C.2.1 dX9_nextWord_83 (by decide) (fun hc => ?_) (fun hc => ?_)
      · replace hf := ifp hf hc
        refine lv_iconst (v := 2) C.1 C.2.1 dX9_nextWord_90 (by decide) ?_
        exact hB_91  d_ad dw 2 hf _ _ hw _ (lv_sub hl [] rfl)
      · replace hf := ifn hf hc
        refine lv_iconst (v := 0) C.1 C.2.1 dX9_nextWord_86 (by decide) ?_
        refine lv_goto (tgt := 91) C.1 C.2.1 dX9_nextWord_87 (by decide) ?_
        exact hB_91  d_ad dw 0 hf _ _ hw _ (lv_sub hl [] rfl)
    · replace hf := ifn hf hc
      refine r_aload0 C hl 0 rfl dX9_nextWord_23 ?_
      refine r_get C hw _ (gx_h dO_o) 27 fl_X9_87 rfl dX9_nextWord_24 ?_
      refine r_aload0 C hl 0 rfl dX9_nextWord_27 ?_
      refine r_get C hw _ (gx_h dO_o) 29 fl_X9_94 rfl dX9_nextWord_28 ?_
      refine lv_isub C.1 C.2.1 dX9_nextWord_31 ?_
      refine lv_bipush (v := 6) C.1 C.2.1 dX9_nextWord_32 (by decide) ?_
      refine lv_icmp_ge (tgt := 58) C.1 C.2.1 dX9_nextWord_34 (by decide) (fun hc => ?_) (fun hc => ?_)
      · replace hf := ifp hf hc
        exact hB_58 k5 hk5 d_ad dw hf _ _ hw _ (lv_sub hl [0] rfl)
      · replace hf := ifn hf hc
        refine r_aload0 C hl 0 rfl dX9_nextWord_37 ?_
        refine r_aload0 C hl 0 rfl dX9_nextWord_38 ?_
        refine r_get C hw _ (gx_h dO_o) 32 fl_X9_114 rfl dX9_nextWord_39 ?_
        refine lv_bipush (v := 8) C.1 C.2.1 dX9_nextWord_42 (by decide) ?_
        refine lv_lshl C.1 C.2.1 dX9_nextWord_44 rfl ?_
        refine r_aload0 C hl 0 rfl dX9_nextWord_45 ?_
        refine r_aload0 C hl 0 rfl dX9_nextWord_46 ?_
        refine r_get C hw _ (gx_h dO_o) 27 fl_X9_87 rfl dX9_nextWord_47 ?_
        obtain ⟨u6, e6, hf⟩ := bx hf
        refine r_callVi (ws' := (dO G ad d_ad dw ++ [])) (As := [.int (gS d_ad 27)]) (rest := [.long (dw <<< (Int32.toInt64 8 &&& 63)), .ref (ad 99)]) C hw hl.1 kX9_byteAt ml_X9_90 (c_X9_byteAt l G ad _ d_ad dw (gS d_ad 27) u6 e6) (CutX.take dO_f CutX.none) _ (gx_h dO_o) rfl ⟨rfl, rfl⟩ ⟨Nat.le_of_ble_eq_true rfl, Nat.le_of_ble_eq_true rfl⟩ rfl ⟨Nat.zero_le _, Nat.zero_le _⟩ rfl (Nat.le_of_ble_eq_true rfl) dX9_nextWord_50 (fun H locs hw => ?_)
        refine lv_i2l C.1 C.2.1 dX9_nextWord_53 rfl ?_
        refine lv_lor C.1 C.2.1 dX9_nextWord_54 ?_
        obtain ⟨dw7, e7, hf⟩ := bx hf
        refine r_put C hw _ (gx_h dO_o) 32 fp_X9_114 rfl rfl (Nat.le_of_ble_eq_true rfl) (dO G ad d_ad dw7 ++ []) (sx_h dO_o (dO_p32 e7)) dX9_nextWord_55 (fun H locs hw => ?_)
        exact hB_58 k5 hk5 d_ad dw7 hf _ _ hw _ (lv_sub hl [0] rfl)
  have hL_5 : ∀ n : Nat, ∀ (d_ad : Pic) (dw : Int64), L_X9_nextWord_5   n d_ad dw = some out → ∀ (H : Heap) (locs : List Loc), Wd G A s H locs (dO G ad d_ad dw ++ []) → ∀ ls : Array Slot, lv_has ls 1 [(0, .ref (ad 99))] → W p l e ({ frames := 1, cells := 0, slots := 0, locals := 22 }) s m [.ref (ad 99)].toArray below meth c H locs 0 0 (MQ below (Don G A (dO G ad out.1 out.2 ++ [])) [.ref (ad 99)].toArray s 0 0 A) (F0 m 5 ls []) := by
    intro  n
    induction n with
    | zero => intro d_ad dw hf; cases hf
    | succ n ih => exact hB_5 _ ih
  unfold f_X9_nextWord at hf
  refine r_aload0 C hl 0 rfl dX9_nextWord_0 ?_
  refine lv_lconst (v := 0) C.1 C.2.1 dX9_nextWord_1 (by decide) ?_
  obtain ⟨dw1, e1, hf⟩ := bx hf
  refine r_put C hw _ (gx_h dO_o) 32 fp_X9_114 rfl rfl (Nat.le_of_ble_eq_true rfl) (dO G ad d_ad dw1 ++ []) (sx_h dO_o (dO_p32 e1)) dX9_nextWord_2 (fun H locs hw => ?_)
  exact hL_5  FU d_ad dw1 hf _ _ hw _ (lv_sub hl [0] rfl)
set_option maxHeartbeats 4000000 in
set_option maxRecDepth 100000 in
theorem c_X9_nextWhole (l : Launch) (G : GG) (ad : Nat → Nat) (sz : Nat) (d_ad : Pic) (dw : Int64)  (out : Pic) (hf : f_X9_nextWhole d_ad = some out) : Met l yX9_nextWhole (.code yX9_nextWhole cX9_nextWhole 1 none :: BT) ({ frames := 1, cells := 0, slots := 0, locals := 22 }) (va_Pc [.ref (ad 99)] (PreW G sz (dO G ad d_ad dw ++ []))) (Don G (va_A (dO G ad d_ad dw ++ []) sz) (dO G ad out dw ++ [])) 0 0 (va_A (dO G ad d_ad dw ++ []) sz) := by
  refine Met.into (by decide) (Nat.le_of_ble_eq_true rfl) ?_
  intro p e s m below meth c C hsz ls hl hw
  have hl : lv_has ls 1 [(0, .ref (ad 99))] := hl
  clear hsz
  generalize va_A (dO G ad d_ad dw ++ []) sz = A at hw ⊢
  have hB_91 : ∀ (d_ad : Pic) (t0 : Int32), b_X9_nextWhole_91   d_ad t0 = some out → ∀ (H : Heap) (locs : List Loc), Wd G A s H locs (dO G ad d_ad dw ++ []) → ∀ ls : Array Slot, lv_has ls 1 [] → W p l e ({ frames := 1, cells := 0, slots := 0, locals := 22 }) s m [.ref (ad 99)].toArray below meth c H locs 0 0 (MQ below (Don G A (dO G ad out dw ++ [])) [.ref (ad 99)].toArray s 0 0 A) (F0 m 91 ls [.int t0, .ref (ad 99)]) := by
    intro d_ad t0 hf H locs hw ls hl
    unfold b_X9_nextWhole_91 at hf
    obtain ⟨d_ad4, e4, hf⟩ := bx hf
    refine r_put C hw _ (gx_h dO_o) 28 fp_X9_97 rfl rfl (Nat.le_of_ble_eq_true rfl) (dO G ad d_ad4 dw ++ []) (sx_h dO_o (dO_p28 e4)) dX9_nextWhole_91 (fun H locs hw => ?_)
    exact fin_v C hw (Option.some.inj hf) (fun o => (dO G ad o dw ++ [])) rfl dX9_nextWhole_94
  have hB_59 : ∀ (k5 : Pic → Option (Pic)) (hk5 : ∀ (d_ad : Pic), k5 d_ad = some out → ∀ (H : Heap) (locs : List Loc), Wd G A s H locs (dO G ad d_ad dw ++ []) → ∀ ls : Array Slot, lv_has ls 1 [(0, .ref (ad 99))] → W p l e ({ frames := 1, cells := 0, slots := 0, locals := 22 }) s m [.ref (ad 99)].toArray below meth c H locs 0 0 (MQ below (Don G A (dO G ad out dw ++ [])) [.ref (ad 99)].toArray s 0 0 A) (F0 m 5 ls [])), ∀ (d_ad : Pic), b_X9_nextWhole_59  k5 d_ad = some out → ∀ (H : Heap) (locs : List Loc), Wd G A s H locs (dO G ad d_ad dw ++ []) → ∀ ls : Array Slot, lv_has ls 1 [(0, .ref (ad 99))] → W p l e ({ frames := 1, cells := 0, slots := 0, locals := 22 }) s m [.ref (ad 99)].toArray below meth c H locs 0 0 (MQ below (Don G A (dO G ad out dw ++ [])) [.ref (ad 99)].toArray s 0 0 A) (F0 m 59 ls []) := by
    intro k5 hk5 d_ad hf H locs hw ls hl
    unfold b_X9_nextWhole_59 at hf
    refine r_aload0 C hl 0 rfl dX9_nextWhole_59 ?_
    refine lv_dup C.1 C.2.1 dX9_nextWhole_60 rfl ?_
    refine r_get C hw _ (gx_h dO_o) 27 fl_X9_87 rfl dX9_nextWhole_61 ?_
    refine lv_iconst (v := 1) C.1 C.2.1 dX9_nextWhole_64 (by decide) ?_
    refine lv_iadd C.1 C.2.1 dX9_nextWhole_65 ?_
    obtain ⟨d_ad5, e5, hf⟩ := bx hf
    refine r_put C hw _ (gx_h dO_o) 27 fp_X9_87 rfl rfl (Nat.le_of_ble_eq_true rfl) (dO G ad d_ad5 dw ++ []) (sx_h dO_o (dO_p27 e5)) dX9_nextWhole_66 (fun H locs hw => ?_)
    refine lv_goto (tgt := 5) C.1 C.2.1 dX9_nextWhole_69 (by decide) ?_
    exact hk5 d_ad5 hf _ _ hw _ (lv_sub hl [0] rfl)
  have hB_5 : ∀ (k5 : Pic → Option (Pic)) (hk5 : ∀ (d_ad : Pic), k5 d_ad = some out → ∀ (H : Heap) (locs : List Loc), Wd G A s H locs (dO G ad d_ad dw ++ []) → ∀ ls : Array Slot, lv_has ls 1 [(0, .ref (ad 99))] → W p l e ({ frames := 1, cells := 0, slots := 0, locals := 22 }) s m [.ref (ad 99)].toArray below meth c H locs 0 0 (MQ below (Don G A (dO G ad out dw ++ [])) [.ref (ad 99)].toArray s 0 0 A) (F0 m 5 ls [])), ∀ (d_ad : Pic), b_X9_nextWhole_5  k5 d_ad = some out → ∀ (H : Heap) (locs : List Loc), Wd G A s H locs (dO G ad d_ad dw ++ []) → ∀ ls : Array Slot, lv_has ls 1 [(0, .ref (ad 99))] → W p l e ({ frames := 1, cells := 0, slots := 0, locals := 22 }) s m [.ref (ad 99)].toArray below meth c H locs 0 0 (MQ below (Don G A (dO G ad out dw ++ [])) [.ref (ad 99)].toArray s 0 0 A) (F0 m 5 ls []) := by
    intro k5 hk5 d_ad hf H locs hw ls hl
    unfold b_X9_nextWhole_5 at hf
    refine r_aload0 C hl 0 rfl dX9_nextWhole_5 ?_
    refine r_aload0 C hl 0 rfl dX9_nextWhole_6 ?_
    refine r_get C hw _ (gx_h dO_o) 27 fl_X9_87 rfl dX9_nextWhole_7 ?_
    obtain ⟨u2, e2, hf⟩ := bx hf
    refine r_callVi (ws' := (dO G ad d_ad dw ++ [])) (As := [.int (gS d_ad 27)]) (rest := []) C hw hl.1 kX9_byteAt ml_X9_90 (c_X9_byteAt l G ad _ d_ad dw (gS d_ad 27) u2 e2) (CutX.take dO_f CutX.none) _ (gx_h dO_o) rfl ⟨rfl, rfl⟩ ⟨Nat.le_of_ble_eq_true rfl, Nat.le_of_ble_eq_true rfl⟩ rfl ⟨Nat.zero_le _, Nat.zero_le _⟩ rfl (Nat.le_of_ble_eq_true rfl) dX9_nextWhole_10 (fun H locs hw => ?_)
    refine lv_bipush (v := 48) C.1 C.2.1 dX9_nextWhole_13 (by decide) ?_
    refine lv_bipush (v := 57) C.1 C.2.1 dX9_nextWhole_15 (by decide) ?_
    obtain ⟨u3, e3, hf⟩ := bx hf
    refine r_callSi (ws' := (dO G ad d_ad dw ++ [])) (As := [.int u2, .int 48, .int 57]) (rest := []) C hw hl.1 kX9_in ml_X9_100 (c_X9_in l G _ u2 48 57 u3 e3) CutX.none ⟨rfl, rfl⟩ ⟨Nat.le_of_ble_eq_true rfl, Nat.le_of_ble_eq_true rfl⟩ rfl ⟨Nat.zero_le _, Nat.zero_le _⟩ rfl (Nat.le_of_ble_eq_true rfl) dX9_nextWhole_17 (fun H locs hw => ?_)
    refine lv_if_eq (tgt := 72) C.1 C.2.1 dX9_nextWhole_20 (by decide) (fun hc => ?_) (fun hc => ?_)
    · replace hf := ifp hf hc
      refine r_aload0 C hl 0 rfl dX9_nextWhole_72 ?_
      refine r_aload0 C hl 0 rfl dX9_nextWhole_73 ?_
      refine r_get C hw _ (gx_h dO_o) 27 fl_X9_87 rfl dX9_nextWhole_74 ?_
      refine r_aload0 C hl 0 rfl dX9_nextWhole_77 ?_
      refine r_get C hw _ (gx_h dO_o) 29 fl_X9_94 rfl dX9_nextWhole_78 ?_
      refine lv_isub C.1 C.2.1 dX9_nextWhole_81 ?_
      refine lv_iconst (v := 3) C.1 C.2.1 dX9_nextWhole_82 (by decide) ?_
      refine lv_icmp_le (tgt := 90) C.1 C.2.1 dX9_nextWhole_83 (by decide) (fun hc => ?_) (fun hc => ?_)
      · replace hf := ifp hf hc
        refine lv_iconst (v := 3) C.1 C.2.1 dX9_nextWhole_90 (by decide) ?_
        exact hB_91  d_ad 3 hf _ _ hw _ (lv_sub hl [] rfl)
      · replace hf := ifn hf hc
        refine lv_iconst (v := 0) C.1 C.2.1 dX9_nextWhole_86 (by decide) ?_
        refine lv_goto (tgt := 91) C.1 C.2.1 dX9_nextWhole_87 (by decide) ?_
        exact hB_91  d_ad 0 hf _ _ hw _ (lv_sub hl [] rfl)
    · replace hf := ifn hf hc
      refine r_aload0 C hl 0 rfl dX9_nextWhole_23 ?_
      refine r_get C hw _ (gx_h dO_o) 27 fl_X9_87 rfl dX9_nextWhole_24 ?_
      refine r_aload0 C hl 0 rfl dX9_nextWhole_27 ?_
      refine r_get C hw _ (gx_h dO_o) 29 fl_X9_94 rfl dX9_nextWhole_28 ?_
      refine lv_isub C.1 C.2.1 dX9_nextWhole_31 ?_
      refine lv_iconst (v := 3) C.1 C.2.1 dX9_nextWhole_32 (by decide) ?_
      refine lv_icmp_ge (tgt := 59) C.1 C.2.1 dX9_nextWhole_33 (by decide) (fun hc => ?_) (fun hc => ?_)
      · replace hf := ifp hf hc
        exact hB_59 k5 hk5 d_ad hf _ _ hw _ (lv_sub hl [0] rfl)
      · replace hf := ifn hf hc
        refine r_aload0 C hl 0 rfl dX9_nextWhole_36 ?_
        refine lv_bipush (v := 10) C.1 C.2.1 dX9_nextWhole_37 (by decide) ?_
        refine r_aload0 C hl 0 rfl dX9_nextWhole_39 ?_
        refine r_get C hw _ (gx_h dO_o) 30 fl_X9_118 rfl dX9_nextWhole_40 ?_
        refine lv_imul C.1 C.2.1 dX9_nextWhole_43 ?_
        refine r_aload0 C hl 0 rfl dX9_nextWhole_44 ?_
        refine r_aload0 C hl 0 rfl dX9_nextWhole_45 ?_
        refine r_get C hw _ (gx_h dO_o) 27 fl_X9_87 rfl dX9_nextWhole_46 ?_
        obtain ⟨u6, e6, hf⟩ := bx hf
        refine r_callVi (ws' := (dO G ad d_ad dw ++ [])) (As := [.int (gS d_ad 27)]) (rest := [.int (10 * (gS d_ad 30)), .ref (ad 99)]) C hw hl.1 kX9_byteAt ml_X9_90 (c_X9_byteAt l G ad _ d_ad dw (gS d_ad 27) u6 e6) (CutX.take dO_f CutX.none) _ (gx_h dO_o) rfl ⟨rfl, rfl⟩ ⟨Nat.le_of_ble_eq_true rfl, Nat.le_of_ble_eq_true rfl⟩ rfl ⟨Nat.zero_le _, Nat.zero_le _⟩ rfl (Nat.le_of_ble_eq_true rfl) dX9_nextWhole_49 (fun H locs hw => ?_)
        refine lv_iadd C.1 C.2.1 dX9_nextWhole_52 ?_
        refine lv_bipush (v := 48) C.1 C.2.1 dX9_nextWhole_53 (by decide) ?_
        refine lv_isub C.1 C.2.1 dX9_nextWhole_55 ?_
        obtain ⟨d_ad7, e7, hf⟩ := bx hf
        refine r_put C hw _ (gx_h dO_o) 30 fp_X9_118 rfl rfl (Nat.le_of_ble_eq_true rfl) (dO G ad d_ad7 dw ++ []) (sx_h dO_o (dO_p30 e7)) dX9_nextWhole_56 (fun H locs hw => ?_)
        exact hB_59 k5 hk5 d_ad7 hf _ _ hw _ (lv_sub hl [0] rfl)
  have hL_5 : ∀ n : Nat, ∀ (d_ad : Pic), L_X9_nextWhole_5   n d_ad = some out → ∀ (H : Heap) (locs : List Loc), Wd G A s H locs (dO G ad d_ad dw ++ []) → ∀ ls : Array Slot, lv_has ls 1 [(0, .ref (ad 99))] → W p l e ({ frames := 1, cells := 0, slots := 0, locals := 22 }) s m [.ref (ad 99)].toArray below meth c H locs 0 0 (MQ below (Don G A (dO G ad out dw ++ [])) [.ref (ad 99)].toArray s 0 0 A) (F0 m 5 ls []) := by
    intro  n
    induction n with
    | zero => intro d_ad hf; cases hf
    | succ n ih => exact hB_5 _ ih
  unfold f_X9_nextWhole at hf
  refine r_aload0 C hl 0 rfl dX9_nextWhole_0 ?_
  refine lv_iconst (v := 0) C.1 C.2.1 dX9_nextWhole_1 (by decide) ?_
  obtain ⟨d_ad1, e1, hf⟩ := bx hf
  refine r_put C hw _ (gx_h dO_o) 30 fp_X9_118 rfl rfl (Nat.le_of_ble_eq_true rfl) (dO G ad d_ad1 dw ++ []) (sx_h dO_o (dO_p30 e1)) dX9_nextWhole_2 (fun H locs hw => ?_)
  exact hL_5  FU d_ad1 hf _ _ hw _ (lv_sub hl [0] rfl)
set_option maxHeartbeats 4000000 in
set_option maxRecDepth 100000 in
theorem c_X9_nextSign (l : Launch) (G : GG) (ad : Nat → Nat) (sz : Nat) (d_ad : Pic) (dw : Int64) (x1 : Int32) (out : Pic) (hf : f_X9_nextSign d_ad x1 = some out) : Met l yX9_nextSign (.code yX9_nextSign cX9_nextSign 3 none :: BT) ({ frames := 0, cells := 0, slots := 0, locals := 0 }) (va_Pc [.ref (ad 99), .int x1] (PreW G sz (dO G ad d_ad dw ++ []))) (Don G (va_A (dO G ad d_ad dw ++ []) sz) (dO G ad out dw ++ [])) 0 0 (va_A (dO G ad d_ad dw ++ []) sz) := by
  refine Met.into (by decide) (Nat.le_of_ble_eq_true rfl) ?_
  intro p e s m below meth c C hsz ls hl hw
  have hl : lv_has ls 3 [(0, .ref (ad 99)), (1, .int x1)] := hl
  clear hsz
  generalize va_A (dO G ad d_ad dw ++ []) sz = A at hw ⊢
  have hB_28 : ∀ (d_ad : Pic) (v2 : Int32) (t0 : Int32), b_X9_nextSign_28 x1  d_ad v2 t0 = some out → ∀ (H : Heap) (locs : List Loc), Wd G A s H locs (dO G ad d_ad dw ++ []) → ∀ ls : Array Slot, lv_has ls 3 [(0, .ref (ad 99)), (1, .int x1), (2, .int v2)] → W p l e ({ frames := 0, cells := 0, slots := 0, locals := 0 }) s m [.ref (ad 99), .int x1].toArray below meth c H locs 0 0 (MQ below (Don G A (dO G ad out dw ++ [])) [.ref (ad 99), .int x1].toArray s 0 0 A) (F0 m 28 ls [.int t0, .ref (ad 99)]) := by
    intro d_ad v2 t0 hf H locs hw ls hl
    unfold b_X9_nextSign_28 at hf
    obtain ⟨d_ad1, e1, hf⟩ := bx hf
    refine r_put C hw _ (gx_h dO_o) 28 fp_X9_97 rfl rfl (Nat.le_of_ble_eq_true rfl) (dO G ad d_ad1 dw ++ []) (sx_h dO_o (dO_p28 e1)) dX9_nextSign_28 (fun H locs hw => ?_)
    refine r_aload0 C hl 0 rfl dX9_nextSign_31 ?_
    refine r_iload0 C hl 1 rfl dX9_nextSign_32 ?_
    obtain ⟨d_ad2, e2, hf⟩ := bx hf
    refine r_put C hw _ (gx_h dO_o) 30 fp_X9_118 rfl rfl (Nat.le_of_ble_eq_true rfl) (dO G ad d_ad2 dw ++ []) (sx_h dO_o (dO_p30 e2)) dX9_nextSign_33 (fun H locs hw => ?_)
    refine r_iload0 C hl 2 rfl dX9_nextSign_36 ?_
    refine lv_if_eq (tgt := 50) C.1 C.2.1 dX9_nextSign_37 (by decide) (fun hc => ?_) (fun hc => ?_)
    · replace hf := ifp hf hc
      exact fin_v C hw (Option.some.inj hf) (fun o => (dO G ad o dw ++ [])) rfl dX9_nextSign_50
    · replace hf := ifn hf hc
      refine r_aload0 C hl 0 rfl dX9_nextSign_40 ?_
      refine lv_dup C.1 C.2.1 dX9_nextSign_41 rfl ?_
      refine r_get C hw _ (gx_h dO_o) 27 fl_X9_87 rfl dX9_nextSign_42 ?_
      refine lv_iconst (v := 1) C.1 C.2.1 dX9_nextSign_45 (by decide) ?_
      refine lv_iadd C.1 C.2.1 dX9_nextSign_46 ?_
      obtain ⟨d_ad3, e3, hf⟩ := bx hf
      refine r_put C hw _ (gx_h dO_o) 27 fp_X9_87 rfl rfl (Nat.le_of_ble_eq_true rfl) (dO G ad d_ad3 dw ++ []) (sx_h dO_o (dO_p27 e3)) dX9_nextSign_47 (fun H locs hw => ?_)
      exact fin_v C hw (Option.some.inj hf) (fun o => (dO G ad o dw ++ [])) rfl dX9_nextSign_50
  have hB_17 : ∀ (d_ad : Pic) (t0 : Int32), b_X9_nextSign_17 x1  d_ad t0 = some out → ∀ (H : Heap) (locs : List Loc), Wd G A s H locs (dO G ad d_ad dw ++ []) → ∀ ls : Array Slot, lv_has ls 3 [(0, .ref (ad 99)), (1, .int x1)] → W p l e ({ frames := 0, cells := 0, slots := 0, locals := 0 }) s m [.ref (ad 99), .int x1].toArray below meth c H locs 0 0 (MQ below (Don G A (dO G ad out dw ++ [])) [.ref (ad 99), .int x1].toArray s 0 0 A) (F0 m 17 ls [.int t0]) := by
    intro d_ad t0 hf H locs hw ls hl
    unfold b_X9_nextSign_17 at hf
    refine r_istore0 C hl [(2, .int t0), (0, .ref (ad 99)), (1, .int x1)] (by decide) rfl dX9_nextSign_17 (fun ls hl => ?_)
    refine r_aload0 C hl 1 rfl dX9_nextSign_18 ?_
    refine r_iload0 C hl 0 rfl dX9_nextSign_19 ?_
    refine lv_if_eq (tgt := 27) C.1 C.2.1 dX9_nextSign_20 (by decide) (fun hc => ?_) (fun hc => ?_)
    · replace hf := ifp hf hc
      refine lv_iconst (v := 0) C.1 C.2.1 dX9_nextSign_27 (by decide) ?_
      exact hB_28  d_ad t0 0 hf _ _ hw _ (lv_sub hl [1, 2, 0] rfl)
    · replace hf := ifn hf hc
      refine lv_iconst (v := 4) C.1 C.2.1 dX9_nextSign_23 (by decide) ?_
      refine lv_goto (tgt := 28) C.1 C.2.1 dX9_nextSign_24 (by decide) ?_
      exact hB_28  d_ad t0 4 hf _ _ hw _ (lv_sub hl [1, 2, 0] rfl)
  have hB_12 : ∀ (d_ad : Pic), b_X9_nextSign_12 x1  d_ad = some out → ∀ (H : Heap) (locs : List Loc), Wd G A s H locs (dO G ad d_ad dw ++ []) → ∀ ls : Array Slot, lv_has ls 3 [(0, .ref (ad 99)), (1, .int x1)] → W p l e ({ frames := 0, cells := 0, slots := 0, locals := 0 }) s m [.ref (ad 99), .int x1].toArray below meth c H locs 0 0 (MQ below (Don G A (dO G ad out dw ++ [])) [.ref (ad 99), .int x1].toArray s 0 0 A) (F0 m 12 ls []) := by
    intro d_ad hf H locs hw ls hl
    unfold b_X9_nextSign_12 at hf
    refine lv_iconst (v := 1) C.1 C.2.1 dX9_nextSign_12 (by decide) ?_
    refine lv_goto (tgt := 17) C.1 C.2.1 dX9_nextSign_13 (by decide) ?_
    exact hB_17  d_ad 1 hf _ _ hw _ (lv_sub hl [0, 1] rfl)
  unfold f_X9_nextSign at hf
  refine r_iload0 C hl 1 rfl dX9_nextSign_0 ?_
  refine lv_bipush (v := 59) C.1 C.2.1 dX9_nextSign_1 (by decide) ?_
  refine lv_icmp_eq (tgt := 12) C.1 C.2.1 dX9_nextSign_3 (by decide) (fun hc => ?_) (fun hc => ?_)
  · replace hf := ifp hf hc
    exact hB_12  d_ad hf _ _ hw _ (lv_sub hl [0, 1] rfl)
  · replace hf := ifn hf hc
    refine r_iload0 C hl 1 rfl dX9_nextSign_6 ?_
    refine lv_bipush (v := 44) C.1 C.2.1 dX9_nextSign_7 (by decide) ?_
    refine lv_icmp_ne (tgt := 16) C.1 C.2.1 dX9_nextSign_9 (by decide) (fun hc => ?_) (fun hc => ?_)
    · replace hf := ifn hf hc
      refine lv_iconst (v := 0) C.1 C.2.1 dX9_nextSign_16 (by decide) ?_
      exact hB_17  d_ad 0 hf _ _ hw _ (lv_sub hl [0, 1] rfl)
    · replace hf := ifp hf hc
      exact hB_12  d_ad hf _ _ hw _ (lv_sub hl [0, 1] rfl)
set_option maxHeartbeats 4000000 in
set_option maxRecDepth 100000 in
theorem c_X9_flaw (l : Launch) (G : GG) (ad : Nat → Nat) (sz : Nat) (d_ad : Pic) (dw : Int64) (x1 : Int32) (out : Pic) (hf : f_X9_flaw d_ad x1 = some out) : Met l yX9_flaw (.code yX9_flaw cX9_flaw 2 none :: BT) ({ frames := 0, cells := 0, slots := 0, locals := 0 }) (va_Pc [.ref (ad 99), .int x1] (PreW G sz (dO G ad d_ad dw ++ []))) (Don G (va_A (dO G ad d_ad dw ++ []) sz) (dO G ad out dw ++ [])) 0 0 (va_A (dO G ad d_ad dw ++ []) sz) := by
  refine Met.into (by decide) (Nat.le_of_ble_eq_true rfl) ?_
  intro p e s m below meth c C hsz ls hl hw
  have hl : lv_has ls 2 [(0, .ref (ad 99)), (1, .int x1)] := hl
  clear hsz
  generalize va_A (dO G ad d_ad dw ++ []) sz = A at hw ⊢
  have hB_12 : ∀ (d_ad : Pic), b_X9_flaw_12 x1  d_ad = some out → ∀ (H : Heap) (locs : List Loc), Wd G A s H locs (dO G ad d_ad dw ++ []) → ∀ ls : Array Slot, lv_has ls 2 [(0, .ref (ad 99))] → W p l e ({ frames := 0, cells := 0, slots := 0, locals := 0 }) s m [.ref (ad 99), .int x1].toArray below meth c H locs 0 0 (MQ below (Don G A (dO G ad out dw ++ [])) [.ref (ad 99), .int x1].toArray s 0 0 A) (F0 m 12 ls []) := by
    intro d_ad hf H locs hw ls hl
    unfold b_X9_flaw_12 at hf
    refine r_aload0 C hl 0 rfl dX9_flaw_12 ?_
    refine lv_iconst (v := 0) C.1 C.2.1 dX9_flaw_13 (by decide) ?_
    obtain ⟨d_ad1, e1, hf⟩ := bx hf
    refine r_put C hw _ (gx_h dO_o) 28 fp_X9_97 rfl rfl (Nat.le_of_ble_eq_true rfl) (dO G ad d_ad1 dw ++ []) (sx_h dO_o (dO_p28 e1)) dX9_flaw_14 (fun H locs hw => ?_)
    exact fin_v C hw (Option.some.inj hf) (fun o => (dO G ad o dw ++ [])) rfl dX9_flaw_17
  unfold f_X9_flaw at hf
  refine r_aload0 C hl 0 rfl dX9_flaw_0 ?_
  refine r_get C hw _ (gx_h dO_o) 31 fl_X9_84 rfl dX9_flaw_1 ?_
  refine lv_if_ne (tgt := 12) C.1 C.2.1 dX9_flaw_4 (by decide) (fun hc => ?_) (fun hc => ?_)
  · replace hf := ifn hf hc
    exact hB_12  d_ad hf _ _ hw _ (lv_sub hl [0] rfl)
  · replace hf := ifp hf hc
    refine r_aload0 C hl 0 rfl dX9_flaw_7 ?_
    refine r_iload0 C hl 1 rfl dX9_flaw_8 ?_
    obtain ⟨d_ad2, e2, hf⟩ := bx hf
    refine r_put C hw _ (gx_h dO_o) 31 fp_X9_84 rfl rfl (Nat.le_of_ble_eq_true rfl) (dO G ad d_ad2 dw ++ []) (sx_h dO_o (dO_p31 e2)) dX9_flaw_9 (fun H locs hw => ?_)
    exact hB_12  d_ad2 hf _ _ hw _ (lv_sub hl [0] rfl)
set_option maxHeartbeats 4000000 in
set_option maxRecDepth 100000 in
theorem c_X9_isSign (l : Launch) (G : GG) (ad : Nat → Nat) (sz : Nat) (d_ad : Pic) (dw : Int64) (x1 : Int32) (out : Int32) (hf : f_X9_isSign d_ad x1 = some out) : Met l yX9_isSign (.code yX9_isSign cX9_isSign 2 (some .boolean) :: BT) ({ frames := 0, cells := 0, slots := 0, locals := 0 }) (va_Pc [.ref (ad 99), .int x1] (PreW G sz (dO G ad d_ad dw ++ []))) (Ans G out (va_A (dO G ad d_ad dw ++ []) sz) (dO G ad d_ad dw ++ [])) 0 0 (va_A (dO G ad d_ad dw ++ []) sz) := by
  refine Met.into (by decide) (Nat.le_of_ble_eq_true rfl) ?_
  intro p e s m below meth c C hsz ls hl hw
  have hl : lv_has ls 2 [(0, .ref (ad 99)), (1, .int x1)] := hl
  clear hsz
  generalize va_A (dO G ad d_ad dw ++ []) sz = A at hw ⊢
  unfold f_X9_isSign at hf
  refine r_aload0 C hl 0 rfl dX9_isSign_0 ?_
  refine r_get C hw _ (gx_h dO_o) 28 fl_X9_97 rfl dX9_isSign_1 ?_
  refine lv_iconst (v := 4) C.1 C.2.1 dX9_isSign_4 (by decide) ?_
  refine lv_icmp_ne (tgt := 20) C.1 C.2.1 dX9_isSign_5 (by decide) (fun hc => ?_) (fun hc => ?_)
  · replace hf := ifn hf hc
    refine lv_iconst (v := 0) C.1 C.2.1 dX9_isSign_20 (by decide) ?_
    exact fin_z C hw (by decide) (Option.some.inj hf) (fun o => o) (fun o => (dO G ad d_ad dw ++ [])) rfl rfl dX9_isSign_21
  · replace hf := ifp hf hc
    refine r_aload0 C hl 0 rfl dX9_isSign_8 ?_
    refine r_get C hw _ (gx_h dO_o) 30 fl_X9_118 rfl dX9_isSign_9 ?_
    refine r_iload0 C hl 1 rfl dX9_isSign_12 ?_
    refine lv_icmp_ne (tgt := 20) C.1 C.2.1 dX9_isSign_13 (by decide) (fun hc => ?_) (fun hc => ?_)
    · replace hf := ifn hf hc
      refine lv_iconst (v := 0) C.1 C.2.1 dX9_isSign_20 (by decide) ?_
      exact fin_z C hw (by decide) (Option.some.inj hf) (fun o => o) (fun o => (dO G ad d_ad dw ++ [])) rfl rfl dX9_isSign_21
    · replace hf := ifp hf hc
      refine lv_iconst (v := 1) C.1 C.2.1 dX9_isSign_16 (by decide) ?_
      refine lv_goto (tgt := 21) C.1 C.2.1 dX9_isSign_17 (by decide) ?_
      exact fin_z C hw (by decide) (Option.some.inj hf) (fun o => o) (fun o => (dO G ad d_ad dw ++ [])) rfl rfl dX9_isSign_21
set_option maxHeartbeats 4000000 in
set_option maxRecDepth 100000 in
theorem c_X9_isWord (l : Launch) (G : GG) (K : SK) (ad : Nat → Nat) (sz : Nat) (d_ad : Pic) (dw : Int64) (w1 : Nat) (hi_w1 : w1 < 9) (out : Int32) (hf : f_X9_isWord d_ad dw w1 = some out) : Met l yX9_isWord (.code yX9_isWord cX9_isWord 5 (some .boolean) :: BT) ({ frames := 4, cells := 0, slots := 0, locals := 85 }) (va_Pc [.ref (ad 99), .ref (K.1 w1)] (PreT G K sz (dO G ad d_ad dw ++ []))) (Ans G out (va_A (dO G ad d_ad dw ++ []) sz) (dO G ad d_ad dw ++ [])) 0 0 (va_A (dO G ad d_ad dw ++ []) sz) := by
  refine Met.intoT (by decide) (Nat.le_of_ble_eq_true rfl) ?_
  intro p e s m below meth c C hsz hq ls hl hw
  have hl : lv_has ls 5 [(0, .ref (ad 99)), (1, .ref (K.1 w1))] := hl
  clear hsz
  generalize va_A (dO G ad d_ad dw ++ []) sz = A at hw hq ⊢
  have hB_5 : ∀ (k5 : Int64 → Int32 → Option (Int32)) (hk5 : ∀ (v2 : Int64) (v4 : Int32), k5 v2 v4 = some out → ∀ (H : Heap) (locs : List Loc), Wd G A s H locs (dO G ad d_ad dw ++ []) → ∀ ls : Array Slot, lv_has ls 5 [(0, .ref (ad 99)), (1, .ref (K.1 w1)), (2, .long v2), (4, .int v4)] → W p l e ({ frames := 4, cells := 0, slots := 0, locals := 85 }) s m [.ref (ad 99), .ref (K.1 w1)].toArray below meth c H locs 0 0 (MQ below (Ans G out A (dO G ad d_ad dw ++ [])) [.ref (ad 99), .ref (K.1 w1)].toArray s 0 0 A) (F0 m 5 ls [])), ∀ (v2 : Int64) (v4 : Int32), b_X9_isWord_5 d_ad dw w1 k5 v2 v4 = some out → ∀ (H : Heap) (locs : List Loc), Wd G A s H locs (dO G ad d_ad dw ++ []) → ∀ ls : Array Slot, lv_has ls 5 [(0, .ref (ad 99)), (1, .ref (K.1 w1)), (2, .long v2), (4, .int v4)] → W p l e ({ frames := 4, cells := 0, slots := 0, locals := 85 }) s m [.ref (ad 99), .ref (K.1 w1)].toArray below meth c H locs 0 0 (MQ below (Ans G out A (dO G ad d_ad dw ++ [])) [.ref (ad 99), .ref (K.1 w1)].toArray s 0 0 A) (F0 m 5 ls []) := by
    intro k5 hk5 v2 v4 hf H locs hw ls hl
    unfold b_X9_isWord_5 at hf
    refine r_iload C hl 3 rfl dX9_isWord_5 ?_
    refine r_aload0 C hl 1 rfl dX9_isWord_7 ?_
    refine g_callVi (ws' := (dO G ad d_ad dw ++ [])) (As := []) (rest := [.int v4]) C hw hl.1 kJ0_length_8abf5 ml_X9_121 (c_length l G K _ w1 hi_w1) blindT CutX.none (fun hf U hU hW hp => ⟨hp, hq.pass hw.2.2.2.1 hf hU hW⟩) (vk_recv hq.1 hi_w1 hw.2.2.2.1) ⟨rfl, rfl⟩ ⟨Nat.le_of_ble_eq_true rfl, Nat.le_of_ble_eq_true rfl⟩ rfl ⟨Nat.zero_le _, Nat.zero_le _⟩ rfl (Nat.le_of_ble_eq_true rfl) dX9_isWord_8 (fun H locs hw => ?_)
    refine lv_icmp_ge (tgt := 33) C.1 C.2.1 dX9_isWord_11 (by decide) (fun hc => ?_) (fun hc => ?_)
    · replace hf := ifp hf hc
      refine r_aload0 C hl 0 rfl dX9_isWord_33 ?_
      refine r_get C hw _ (gx_h dO_o) 28 fl_X9_97 rfl dX9_isWord_34 ?_
      refine lv_iconst (v := 2) C.1 C.2.1 dX9_isWord_37 (by decide) ?_
      refine lv_icmp_ne (tgt := 54) C.1 C.2.1 dX9_isWord_38 (by decide) (fun hc => ?_) (fun hc => ?_)
      · replace hf := ifn hf hc
        refine lv_iconst (v := 0) C.1 C.2.1 dX9_isWord_54 (by decide) ?_
        exact fin_z C hw (by decide) (Option.some.inj hf) (fun o => o) (fun o => (dO G ad d_ad dw ++ [])) rfl rfl dX9_isWord_55
      · replace hf := ifp hf hc
        refine r_aload0 C hl 0 rfl dX9_isWord_41 ?_
        refine r_get C hw _ (gx_h dO_o) 32 fl_X9_114 rfl dX9_isWord_42 ?_
        refine lv_lload_n C.1 C.2.1 dX9_isWord_45 rfl (lv_at hl 2 rfl) ?_
        refine W.lcmp C.1 C.2.1 dX9_isWord_46 ?_
        refine lv_if_ne (tgt := 54) C.1 C.2.1 dX9_isWord_47 (by decide) (fun hc => ?_) (fun hc => ?_)
        · replace hf := ifn hf hc
          refine lv_iconst (v := 0) C.1 C.2.1 dX9_isWord_54 (by decide) ?_
          exact fin_z C hw (by decide) (Option.some.inj hf) (fun o => o) (fun o => (dO G ad d_ad dw ++ [])) rfl rfl dX9_isWord_55
        · replace hf := ifp hf hc
          refine lv_iconst (v := 1) C.1 C.2.1 dX9_isWord_50 (by decide) ?_
          refine lv_goto (tgt := 55) C.1 C.2.1 dX9_isWord_51 (by decide) ?_
          exact fin_z C hw (by decide) (Option.some.inj hf) (fun o => o) (fun o => (dO G ad d_ad dw ++ [])) rfl rfl dX9_isWord_55
    · replace hf := ifn hf hc
      refine lv_lload_n C.1 C.2.1 dX9_isWord_14 rfl (lv_at hl 2 rfl) ?_
      refine lv_bipush (v := 8) C.1 C.2.1 dX9_isWord_15 (by decide) ?_
      refine lv_lshl C.1 C.2.1 dX9_isWord_17 rfl ?_
      refine r_aload0 C hl 1 rfl dX9_isWord_18 ?_
      refine r_iload C hl 3 rfl dX9_isWord_19 ?_
      obtain ⟨v2_, e2, hf⟩ := bx hf
      refine g_callVi (ws' := (dO G ad d_ad dw ++ [])) (As := [.int v4]) (rest := [.long (v2 <<< (Int32.toInt64 8 &&& 63))]) C hw hl.1 kJ0_charAt_5068e ml_X9_127 (c_charAt l G K _ w1 hi_w1 v4 v2_ e2) blindT CutX.none (fun hf U hU hW hp => ⟨hp, hq.pass hw.2.2.2.1 hf hU hW⟩) (vk_recv hq.1 hi_w1 hw.2.2.2.1) ⟨rfl, rfl⟩ ⟨Nat.le_of_ble_eq_true rfl, Nat.le_of_ble_eq_true rfl⟩ rfl ⟨Nat.zero_le _, Nat.zero_le _⟩ rfl (Nat.le_of_ble_eq_true rfl) dX9_isWord_21 (fun H locs hw => ?_)
      refine lv_i2l C.1 C.2.1 dX9_isWord_24 rfl ?_
      refine lv_lor C.1 C.2.1 dX9_isWord_25 ?_
      refine lv_lstore_n (lv' := [(2, .long ((v2 <<< (Int32.toInt64 8 &&& 63)) ||| (Int32.toInt64 v2_))), (0, .ref (ad 99)), (1, .ref (K.1 w1)), (4, .int v4)]) C.1 C.2.1 dX9_isWord_26 rfl hl (by decide) rfl (fun ls hl => ?_)
      refine r_iinc C hl 3 (v4 + 1) [(4, .int (v4 + 1)), (2, .long ((v2 <<< (Int32.toInt64 8 &&& 63)) ||| (Int32.toInt64 v2_))), (0, .ref (ad 99)), (1, .ref (K.1 w1))] rfl (iinc_e (by decide)) (by decide) rfl dX9_isWord_27 (fun ls hl => ?_)
      refine lv_goto (tgt := 5) C.1 C.2.1 dX9_isWord_30 (by decide) ?_
      exact hk5 ((v2 <<< (Int32.toInt64 8 &&& 63)) ||| (Int32.toInt64 v2_)) (v4 + 1) hf _ _ hw _ (lv_sub hl [2, 3, 1, 0] rfl)
  have hL_5 : ∀ n : Nat, ∀ (v2 : Int64) (v4 : Int32), L_X9_isWord_5 d_ad dw w1  n v2 v4 = some out → ∀ (H : Heap) (locs : List Loc), Wd G A s H locs (dO G ad d_ad dw ++ []) → ∀ ls : Array Slot, lv_has ls 5 [(0, .ref (ad 99)), (1, .ref (K.1 w1)), (2, .long v2), (4, .int v4)] → W p l e ({ frames := 4, cells := 0, slots := 0, locals := 85 }) s m [.ref (ad 99), .ref (K.1 w1)].toArray below meth c H locs 0 0 (MQ below (Ans G out A (dO G ad d_ad dw ++ [])) [.ref (ad 99), .ref (K.1 w1)].toArray s 0 0 A) (F0 m 5 ls []) := by
    intro  n
    induction n with
    | zero => intro v2 v4 hf; cases hf
    | succ n ih => exact hB_5 _ ih
  unfold f_X9_isWord at hf
  refine lv_lconst (v := 0) C.1 C.2.1 dX9_isWord_0 (by decide) ?_
  refine lv_lstore_n (lv' := [(2, .long 0), (0, .ref (ad 99)), (1, .ref (K.1 w1))]) C.1 C.2.1 dX9_isWord_1 rfl hl (by decide) rfl (fun ls hl => ?_)
  refine lv_iconst (v := 0) C.1 C.2.1 dX9_isWord_2 (by decide) ?_
  refine r_istore C hl [(4, .int 0), (2, .long 0), (0, .ref (ad 99)), (1, .ref (K.1 w1))] (by decide) rfl dX9_isWord_3 (fun ls hl => ?_)
  exact hL_5  FU 0 0 hf _ _ hw _ (lv_sub hl [2, 3, 1, 0] rfl)
set_option maxHeartbeats 4000000 in
set_option maxRecDepth 100000 in
theorem c_X9_wholeAt (l : Launch) (G : GG) (ad : Nat → Nat) (sz : Nat) (d_ad : Pic) (dw : Int64) (x1 : Int32) (x2 : Int32) (out : Int32 × Pic) (hf : f_X9_wholeAt d_ad x1 x2 = some out) : Met l yX9_wholeAt (.code yX9_wholeAt cX9_wholeAt 3 (some .int) :: BT) ({ frames := 1, cells := 0, slots := 0, locals := 22 }) (va_Pc [.ref (ad 99), .int x1, .int x2] (PreW G sz (dO G ad d_ad dw ++ []))) (Ans G out.1 (va_A (dO G ad d_ad dw ++ []) sz) (dO G ad out.2 dw ++ [])) 0 0 (va_A (dO G ad d_ad dw ++ []) sz) := by
  refine Met.into (by decide) (Nat.le_of_ble_eq_true rfl) ?_
  intro p e s m below meth c C hsz ls hl hw
  have hl : lv_has ls 3 [(0, .ref (ad 99)), (1, .int x1), (2, .int x2)] := hl
  clear hsz
  generalize va_A (dO G ad d_ad dw ++ []) sz = A at hw ⊢
  have hB_33 : ∀ (d_ad : Pic), b_X9_wholeAt_33 x1 x2  d_ad = some out → ∀ (H : Heap) (locs : List Loc), Wd G A s H locs (dO G ad d_ad dw ++ []) → ∀ ls : Array Slot, lv_has ls 3 [(0, .ref (ad 99)), (1, .int x1)] → W p l e ({ frames := 1, cells := 0, slots := 0, locals := 22 }) s m [.ref (ad 99), .int x1, .int x2].toArray below meth c H locs 0 0 (MQ below (Ans G out.1 A (dO G ad out.2 dw ++ [])) [.ref (ad 99), .int x1, .int x2].toArray s 0 0 A) (F0 m 33 ls []) := by
    intro d_ad hf H locs hw ls hl
    unfold b_X9_wholeAt_33 at hf
    refine r_aload0 C hl 0 rfl dX9_wholeAt_33 ?_
    refine r_get C hw _ (gx_h dO_o) 31 fl_X9_84 rfl dX9_wholeAt_34 ?_
    refine lv_if_le (tgt := 44) C.1 C.2.1 dX9_wholeAt_37 (by decide) (fun hc => ?_) (fun hc => ?_)
    · replace hf := ifp hf hc
      refine r_aload0 C hl 0 rfl dX9_wholeAt_44 ?_
      refine r_get C hw _ (gx_h dO_o) 30 fl_X9_118 rfl dX9_wholeAt_45 ?_
      exact fin_i C hw (Option.some.inj hf) (fun o => o.1) (fun o => (dO G ad o.2 dw ++ [])) rfl rfl dX9_wholeAt_48
    · replace hf := ifn hf hc
      refine r_iload0 C hl 1 rfl dX9_wholeAt_40 ?_
      refine lv_goto (tgt := 48) C.1 C.2.1 dX9_wholeAt_41 (by decide) ?_
      exact fin_i C hw (Option.some.inj hf) (fun o => o.1) (fun o => (dO G ad o.2 dw ++ [])) rfl rfl dX9_wholeAt_48
  unfold f_X9_wholeAt at hf
  refine r_aload0 C hl 0 rfl dX9_wholeAt_0 ?_
  refine r_get C hw _ (gx_h dO_o) 28 fl_X9_97 rfl dX9_wholeAt_1 ?_
  refine lv_iconst (v := 3) C.1 C.2.1 dX9_wholeAt_4 (by decide) ?_
  refine lv_icmp_eq (tgt := 16) C.1 C.2.1 dX9_wholeAt_5 (by decide) (fun hc => ?_) (fun hc => ?_)
  · replace hf := ifp hf hc
    refine r_aload0 C hl 0 rfl dX9_wholeAt_16 ?_
    refine r_get C hw _ (gx_h dO_o) 30 fl_X9_118 rfl dX9_wholeAt_17 ?_
    refine r_iload0 C hl 1 rfl dX9_wholeAt_20 ?_
    refine r_iload0 C hl 2 rfl dX9_wholeAt_21 ?_
    obtain ⟨u1, e1, hf⟩ := bx hf
    refine r_callSi (ws' := (dO G ad d_ad dw ++ [])) (As := [.int (gS d_ad 30), .int x1, .int x2]) (rest := []) C hw hl.1 kX9_in ml_X9_100 (c_X9_in l G _ (gS d_ad 30) x1 x2 u1 e1) CutX.none ⟨rfl, rfl⟩ ⟨Nat.le_of_ble_eq_true rfl, Nat.le_of_ble_eq_true rfl⟩ rfl ⟨Nat.zero_le _, Nat.zero_le _⟩ rfl (Nat.le_of_ble_eq_true rfl) dX9_wholeAt_22 (fun H locs hw => ?_)
    refine lv_if_ne (tgt := 33) C.1 C.2.1 dX9_wholeAt_25 (by decide) (fun hc => ?_) (fun hc => ?_)
    · replace hf := ifn hf hc
      exact hB_33  d_ad hf _ _ hw _ (lv_sub hl [0, 1] rfl)
    · replace hf := ifp hf hc
      refine r_aload0 C hl 0 rfl dX9_wholeAt_28 ?_
      refine lv_iconst (v := 2) C.1 C.2.1 dX9_wholeAt_29 (by decide) ?_
      obtain ⟨u2, e2, hf⟩ := bx hf
      refine r_callVv (ws' := (dO G ad u2 dw ++ [])) (As := [.int 2]) (rest := []) C hw hl.1 kX9_flaw ml_X9_131 (c_X9_flaw l G ad _ d_ad dw 2 u2 e2) (CutX.take dO_f CutX.none) _ (gx_h dO_o) rfl ⟨rfl, rfl⟩ ⟨Nat.le_of_ble_eq_true rfl, Nat.le_of_ble_eq_true rfl⟩ rfl ⟨Nat.zero_le _, Nat.zero_le _⟩ rfl (Nat.le_of_ble_eq_true rfl) dX9_wholeAt_30 (fun H locs hw => ?_)
      exact hB_33  u2 hf _ _ hw _ (lv_sub hl [0, 1] rfl)
  · replace hf := ifn hf hc
    refine r_aload0 C hl 0 rfl dX9_wholeAt_8 ?_
    refine lv_iconst (v := 1) C.1 C.2.1 dX9_wholeAt_9 (by decide) ?_
    obtain ⟨u3, e3, hf⟩ := bx hf
    refine r_callVv (ws' := (dO G ad u3 dw ++ [])) (As := [.int 1]) (rest := []) C hw hl.1 kX9_flaw ml_X9_131 (c_X9_flaw l G ad _ d_ad dw 1 u3 e3) (CutX.take dO_f CutX.none) _ (gx_h dO_o) rfl ⟨rfl, rfl⟩ ⟨Nat.le_of_ble_eq_true rfl, Nat.le_of_ble_eq_true rfl⟩ rfl ⟨Nat.zero_le _, Nat.zero_le _⟩ rfl (Nat.le_of_ble_eq_true rfl) dX9_wholeAt_10 (fun H locs hw => ?_)
    refine lv_goto (tgt := 33) C.1 C.2.1 dX9_wholeAt_13 (by decide) ?_
    exact hB_33  u3 hf _ _ hw _ (lv_sub hl [0, 1] rfl)
set_option maxHeartbeats 4000000 in
set_option maxRecDepth 100000 in
theorem c_X9_feed (l : Launch) (G : GG) (ad : Nat → Nat) (sz : Nat) (d_ad : Pic) (dw : Int64) (x1 : Int32) (x2 : Int32) (x3 : Int32) (x4 : Int32) (x5 : Int32) (out : Int32 × Pic) (hf : f_X9_feed d_ad x1 x2 x3 x4 x5 = some out) : Met l yX9_feed (.code yX9_feed cX9_feed 8 (some .int) :: BT) ({ frames := 0, cells := 0, slots := 0, locals := 0 }) (va_Pc [.ref (ad 99), .int x1, .int x2, .int x3, .int x4, .int x5] (PreW G sz (dO G ad d_ad dw ++ []))) (Ans G out.1 (va_A (dO G ad d_ad dw ++ []) sz) (dO G ad out.2 dw ++ [])) 0 0 (va_A (dO G ad d_ad dw ++ []) sz) := by
  refine Met.into (by decide) (Nat.le_of_ble_eq_true rfl) ?_
  intro p e s m below meth c C hsz ls hl hw
  have hl : lv_has ls 8 [(0, .ref (ad 99)), (1, .int x1), (2, .int x2), (3, .int x3), (4, .int x4), (5, .int x5)] := hl
  clear hsz
  generalize va_A (dO G ad d_ad dw ++ []) sz = A at hw ⊢
  have hB_76 : ∀ (k23 : Pic → Int32 → Option (Int32 × Pic)) (hk23 : ∀ (d_ad : Pic) (v6 : Int32), k23 d_ad v6 = some out → ∀ (H : Heap) (locs : List Loc), Wd G A s H locs (dO G ad d_ad dw ++ []) → ∀ ls : Array Slot, lv_has ls 8 [(0, .ref (ad 99)), (1, .int x1), (2, .int x2), (3, .int x3), (4, .int x4), (5, .int x5), (6, .int v6)] → W p l e ({ frames := 0, cells := 0, slots := 0, locals := 0 }) s m [.ref (ad 99), .int x1, .int x2, .int x3, .int x4, .int x5].toArray below meth c H locs 0 0 (MQ below (Ans G out.1 A (dO G ad out.2 dw ++ [])) [.ref (ad 99), .int x1, .int x2, .int x3, .int x4, .int x5].toArray s 0 0 A) (F0 m 23 ls [])), ∀ (d_ad : Pic) (v6 : Int32) (t0 : Int32), b_X9_feed_76 x1 x2 x3 x4 x5 k23 d_ad v6 t0 = some out → ∀ (H : Heap) (locs : List Loc), Wd G A s H locs (dO G ad d_ad dw ++ []) → ∀ ls : Array Slot, lv_has ls 8 [(0, .ref (ad 99)), (1, .int x1), (2, .int x2), (3, .int x3), (4, .int x4), (5, .int x5), (6, .int v6)] → W p l e ({ frames := 0, cells := 0, slots := 0, locals := 0 }) s m [.ref (ad 99), .int x1, .int x2, .int x3, .int x4, .int x5].toArray below meth c H locs 0 0 (MQ below (Ans G out.1 A (dO G ad out.2 dw ++ [])) [.ref (ad 99), .int x1, .int x2, .int x3, .int x4, .int x5].toArray s 0 0 A) (F0 m 76 ls [.int t0]) := by
    intro k23 hk23 d_ad v6 t0 hf H locs hw ls hl
    unfold b_X9_feed_76 at hf
    refine r_istore C hl [(7, .int t0), (0, .ref (ad 99)), (1, .int x1), (2, .int x2), (3, .int x3), (4, .int x4), (5, .int x5), (6, .int v6)] (by decide) rfl dX9_feed_76 (fun ls hl => ?_)
    refine r_aload0 C hl 1 rfl dX9_feed_78 ?_
    refine r_get C hw _ (gx_h dO_o) 24 fl_X9_44 rfl dX9_feed_79 ?_
    refine r_aload0 C hl 1 rfl dX9_feed_82 ?_
    refine r_get C hw _ (gx_h dO_o) 25 fl_X9_207 rfl dX9_feed_83 ?_
    refine r_iload C hl 0 rfl dX9_feed_86 ?_
    refine lv_bipush (v := 24) C.1 C.2.1 dX9_feed_88 (by decide) ?_
    refine lv_bipush (v := 8) C.1 C.2.1 dX9_feed_90 (by decide) ?_
    refine r_iload C hl 7 rfl dX9_feed_92 ?_
    refine lv_iconst (v := 4) C.1 C.2.1 dX9_feed_94 (by decide) ?_
    obtain ⟨v2_, e2, hf⟩ := bx hf
    refine r_irem C e2 dX9_feed_95 ?_
    refine lv_imul C.1 C.2.1 dX9_feed_96 ?_
    refine lv_isub C.1 C.2.1 dX9_feed_97 ?_
    refine lv_ishr C.1 C.2.1 dX9_feed_98 ?_
    refine lv_i2b C.1 C.2.1 dX9_feed_99 rfl ?_
    obtain ⟨d_ad3, e3, hf⟩ := bx hf
    refine r_bast C hw _ (gx_h dO_g24) e3 (dO G ad d_ad3 dw ++ []) (fun h => (sx_h dO_g24 (dO_s24 h))) dX9_feed_100 (fun H locs hw => ?_)
    refine r_aload0 C hl 1 rfl dX9_feed_101 ?_
    refine lv_dup C.1 C.2.1 dX9_feed_102 rfl ?_
    refine r_get C hw _ (gx_h dO_o) 25 fl_X9_207 rfl dX9_feed_103 ?_
    refine lv_iconst (v := 1) C.1 C.2.1 dX9_feed_106 (by decide) ?_
    refine lv_iadd C.1 C.2.1 dX9_feed_107 ?_
    obtain ⟨d_ad4, e4, hf⟩ := bx hf
    refine r_put C hw _ (gx_h dO_o) 25 fp_X9_207 rfl rfl (Nat.le_of_ble_eq_true rfl) (dO G ad d_ad4 dw ++ []) (sx_h dO_o (dO_p25 e4)) dX9_feed_108 (fun H locs hw => ?_)
    refine r_iinc C hl 7 (v6 + 1) [(6, .int (v6 + 1)), (7, .int t0), (0, .ref (ad 99)), (1, .int x1), (2, .int x2), (3, .int x3), (4, .int x4), (5, .int x5)] rfl (iinc_e (by decide)) (by decide) rfl dX9_feed_111 (fun ls hl => ?_)
    refine lv_goto (tgt := 23) C.1 C.2.1 dX9_feed_114 (by decide) ?_
    exact hk23 d_ad4 (v6 + 1) hf _ _ hw _ (lv_sub hl [2, 3, 4, 5, 6, 7, 0] rfl)
  have hB_23 : ∀ (k23 : Pic → Int32 → Option (Int32 × Pic)) (hk23 : ∀ (d_ad : Pic) (v6 : Int32), k23 d_ad v6 = some out → ∀ (H : Heap) (locs : List Loc), Wd G A s H locs (dO G ad d_ad dw ++ []) → ∀ ls : Array Slot, lv_has ls 8 [(0, .ref (ad 99)), (1, .int x1), (2, .int x2), (3, .int x3), (4, .int x4), (5, .int x5), (6, .int v6)] → W p l e ({ frames := 0, cells := 0, slots := 0, locals := 0 }) s m [.ref (ad 99), .int x1, .int x2, .int x3, .int x4, .int x5].toArray below meth c H locs 0 0 (MQ below (Ans G out.1 A (dO G ad out.2 dw ++ [])) [.ref (ad 99), .int x1, .int x2, .int x3, .int x4, .int x5].toArray s 0 0 A) (F0 m 23 ls [])), ∀ (d_ad : Pic) (v6 : Int32), b_X9_feed_23 x1 x2 x3 x4 x5 k23 d_ad v6 = some out → ∀ (H : Heap) (locs : List Loc), Wd G A s H locs (dO G ad d_ad dw ++ []) → ∀ ls : Array Slot, lv_has ls 8 [(0, .ref (ad 99)), (1, .int x1), (2, .int x2), (3, .int x3), (4, .int x4), (5, .int x5), (6, .int v6)] → W p l e ({ frames := 0, cells := 0, slots := 0, locals := 0 }) s m [.ref (ad 99), .int x1, .int x2, .int x3, .int x4, .int x5].toArray below meth c H locs 0 0 (MQ below (Ans G out.1 A (dO G ad out.2 dw ++ [])) [.ref (ad 99), .int x1, .int x2, .int x3, .int x4, .int x5].toArray s 0 0 A) (F0 m 23 ls []) := by
    intro k23 hk23 d_ad v6 hf H locs hw ls hl
    unfold b_X9_feed_23 at hf
    refine r_iload C hl 6 rfl dX9_feed_23 ?_
    refine lv_bipush (v := 20) C.1 C.2.1 dX9_feed_25 (by decide) ?_
    refine lv_icmp_ge (tgt := 117) C.1 C.2.1 dX9_feed_27 (by decide) (fun hc => ?_) (fun hc => ?_)
    · replace hf := ifp hf hc
      refine r_aload0 C hl 0 rfl dX9_feed_117 ?_
      refine r_get C hw _ (gx_h dO_o) 25 fl_X9_207 rfl dX9_feed_118 ?_
      exact fin_i C hw (Option.some.inj hf) (fun o => o.1) (fun o => (dO G ad o.2 dw ++ [])) rfl rfl dX9_feed_121
    · replace hf := ifn hf hc
      refine r_iload C hl 6 rfl dX9_feed_30 ?_
      refine lv_iconst (v := 4) C.1 C.2.1 dX9_feed_32 (by decide) ?_
      refine lv_icmp_ge (tgt := 40) C.1 C.2.1 dX9_feed_33 (by decide) (fun hc => ?_) (fun hc => ?_)
      · replace hf := ifp hf hc
        refine r_iload C hl 6 rfl dX9_feed_40 ?_
        refine lv_bipush (v := 8) C.1 C.2.1 dX9_feed_42 (by decide) ?_
        refine lv_icmp_ge (tgt := 51) C.1 C.2.1 dX9_feed_44 (by decide) (fun hc => ?_) (fun hc => ?_)
        · replace hf := ifp hf hc
          refine r_iload C hl 6 rfl dX9_feed_51 ?_
          refine lv_bipush (v := 12) C.1 C.2.1 dX9_feed_53 (by decide) ?_
          refine lv_icmp_ge (tgt := 62) C.1 C.2.1 dX9_feed_55 (by decide) (fun hc => ?_) (fun hc => ?_)
          · replace hf := ifp hf hc
            refine r_iload C hl 6 rfl dX9_feed_62 ?_
            refine lv_bipush (v := 16) C.1 C.2.1 dX9_feed_64 (by decide) ?_
            refine lv_icmp_ge (tgt := 74) C.1 C.2.1 dX9_feed_66 (by decide) (fun hc => ?_) (fun hc => ?_)
            · replace hf := ifp hf hc
              refine r_iload C hl 5 rfl dX9_feed_74 ?_
              exact hB_76 k23 hk23 d_ad v6 x5 hf _ _ hw _ (lv_sub hl [0, 1, 2, 3, 4, 5, 6] rfl)
            · replace hf := ifn hf hc
              refine r_iload C hl 4 rfl dX9_feed_69 ?_
              refine lv_goto (tgt := 76) C.1 C.2.1 dX9_feed_71 (by decide) ?_
              exact hB_76 k23 hk23 d_ad v6 x4 hf _ _ hw _ (lv_sub hl [0, 1, 2, 3, 4, 5, 6] rfl)
          · replace hf := ifn hf hc
            refine r_iload0 C hl 3 rfl dX9_feed_58 ?_
            refine lv_goto (tgt := 76) C.1 C.2.1 dX9_feed_59 (by decide) ?_
            exact hB_76 k23 hk23 d_ad v6 x3 hf _ _ hw _ (lv_sub hl [0, 1, 2, 3, 4, 5, 6] rfl)
        · replace hf := ifn hf hc
          refine r_iload0 C hl 2 rfl dX9_feed_47 ?_
          refine lv_goto (tgt := 76) C.1 C.2.1 dX9_feed_48 (by decide) ?_
          exact hB_76 k23 hk23 d_ad v6 x2 hf _ _ hw _ (lv_sub hl [0, 1, 2, 3, 4, 5, 6] rfl)
      · replace hf := ifn hf hc
        refine r_iload0 C hl 1 rfl dX9_feed_36 ?_
        refine lv_goto (tgt := 76) C.1 C.2.1 dX9_feed_37 (by decide) ?_
        exact hB_76 k23 hk23 d_ad v6 x1 hf _ _ hw _ (lv_sub hl [0, 1, 2, 3, 4, 5, 6] rfl)
  have hL_23 : ∀ n : Nat, ∀ (d_ad : Pic) (v6 : Int32), L_X9_feed_23 x1 x2 x3 x4 x5  n d_ad v6 = some out → ∀ (H : Heap) (locs : List Loc), Wd G A s H locs (dO G ad d_ad dw ++ []) → ∀ ls : Array Slot, lv_has ls 8 [(0, .ref (ad 99)), (1, .int x1), (2, .int x2), (3, .int x3), (4, .int x4), (5, .int x5), (6, .int v6)] → W p l e ({ frames := 0, cells := 0, slots := 0, locals := 0 }) s m [.ref (ad 99), .int x1, .int x2, .int x3, .int x4, .int x5].toArray below meth c H locs 0 0 (MQ below (Ans G out.1 A (dO G ad out.2 dw ++ [])) [.ref (ad 99), .int x1, .int x2, .int x3, .int x4, .int x5].toArray s 0 0 A) (F0 m 23 ls []) := by
    intro  n
    induction n with
    | zero => intro d_ad v6 hf; cases hf
    | succ n ih => exact hB_23 _ ih
  unfold f_X9_feed at hf
  refine r_aload0 C hl 0 rfl dX9_feed_0 ?_
  refine lv_iconst (v := 0) C.1 C.2.1 dX9_feed_1 (by decide) ?_
  obtain ⟨d_ad1, e1, hf⟩ := bx hf
  refine r_put C hw _ (gx_h dO_o) 0 fp_X9_75 rfl rfl (Nat.le_of_ble_eq_true rfl) (dO G ad d_ad1 dw ++ []) (sx_h dO_o (dO_p0 e1)) dX9_feed_2 (fun H locs hw => ?_)
  refine r_aload0 C hl 0 rfl dX9_feed_5 ?_
  refine r_get C hw _ (gx_h dO_o) 25 fl_X9_207 rfl dX9_feed_6 ?_
  refine lv_bipush (v := 20) C.1 C.2.1 dX9_feed_9 (by decide) ?_
  refine lv_iadd C.1 C.2.1 dX9_feed_11 ?_
  refine lv_sipush (v := 900) C.1 C.2.1 dX9_feed_12 (by decide) ?_
  refine lv_icmp_le (tgt := 20) C.1 C.2.1 dX9_feed_15 (by decide) (fun hc => ?_) (fun hc => ?_)
  · replace hf := ifp hf hc
    refine lv_iconst (v := 0) C.1 C.2.1 dX9_feed_20 (by decide) ?_
    refine r_istore C hl [(6, .int 0), (0, .ref (ad 99)), (1, .int x1), (2, .int x2), (3, .int x3), (4, .int x4), (5, .int x5)] (by decide) rfl dX9_feed_21 (fun ls hl => ?_)
    exact hL_23  FU d_ad1 0 hf _ _ hw _ (lv_sub hl [1, 2, 3, 4, 5, 6, 0] rfl)
  · replace hf := ifn hf hc
    refine lv_iconst (v := (-1)) C.1 C.2.1 dX9_feed_18 (by decide) ?_
    exact fin_i C hw (Option.some.inj hf) (fun o => o.1) (fun o => (dO G ad o.2 dw ++ [])) rfl rfl dX9_feed_19
set_option maxHeartbeats 4000000 in
set_option maxRecDepth 100000 in
theorem c_X9_clears (l : Launch) (G : GG) (ad : Nat → Nat) (sz : Nat) (d_ad : Pic) (dw : Int64)  (out : Pic) (hf : f_X9_clears d_ad = some out) : Met l yX9_clears (.code yX9_clears cX9_clears 2 none :: BT) ({ frames := 1, cells := 0, slots := 0, locals := 22 }) (va_Pc [.ref (ad 99)] (PreW G sz (dO G ad d_ad dw ++ []))) (Don G (va_A (dO G ad d_ad dw ++ []) sz) (dO G ad out dw ++ [])) 0 0 (va_A (dO G ad d_ad dw ++ []) sz) := by
  refine Met.into (by decide) (Nat.le_of_ble_eq_true rfl) ?_
  intro p e s m below meth c C hsz ls hl hw
  have hl : lv_has ls 2 [(0, .ref (ad 99))] := hl
  clear hsz
  generalize va_A (dO G ad d_ad dw ++ []) sz = A at hw ⊢
  have hB_2 : ∀ (k2 : Pic → Int32 → Option (Pic)) (hk2 : ∀ (d_ad : Pic) (v1 : Int32), k2 d_ad v1 = some out → ∀ (H : Heap) (locs : List Loc), Wd G A s H locs (dO G ad d_ad dw ++ []) → ∀ ls : Array Slot, lv_has ls 2 [(0, .ref (ad 99)), (1, .int v1)] → W p l e ({ frames := 1, cells := 0, slots := 0, locals := 22 }) s m [.ref (ad 99)].toArray below meth c H locs 0 0 (MQ below (Don G A (dO G ad out dw ++ [])) [.ref (ad 99)].toArray s 0 0 A) (F0 m 2 ls [])), ∀ (d_ad : Pic) (v1 : Int32), b_X9_clears_2  k2 d_ad v1 = some out → ∀ (H : Heap) (locs : List Loc), Wd G A s H locs (dO G ad d_ad dw ++ []) → ∀ ls : Array Slot, lv_has ls 2 [(0, .ref (ad 99)), (1, .int v1)] → W p l e ({ frames := 1, cells := 0, slots := 0, locals := 22 }) s m [.ref (ad 99)].toArray below meth c H locs 0 0 (MQ below (Don G A (dO G ad out dw ++ [])) [.ref (ad 99)].toArray s 0 0 A) (F0 m 2 ls []) := by
    intro k2 hk2 d_ad v1 hf H locs hw ls hl
    unfold b_X9_clears_2 at hf
    refine r_iload0 C hl 1 rfl dX9_clears_2 ?_
    refine lv_sipush (v := 1234) C.1 C.2.1 dX9_clears_3 (by decide) ?_
    refine lv_icmp_ge (tgt := 37) C.1 C.2.1 dX9_clears_6 (by decide) (fun hc => ?_) (fun hc => ?_)
    · replace hf := ifp hf hc
      exact fin_v C hw (Option.some.inj hf) (fun o => (dO G ad o dw ++ [])) rfl dX9_clears_37
    · replace hf := ifn hf hc
      refine r_iload0 C hl 1 rfl dX9_clears_9 ?_
      refine lv_if_eq (tgt := 31) C.1 C.2.1 dX9_clears_10 (by decide) (fun hc => ?_) (fun hc => ?_)
      · replace hf := ifp hf hc
        refine r_iinc C hl 1 (v1 + 1) [(1, .int (v1 + 1)), (0, .ref (ad 99))] rfl (iinc_e (by decide)) (by decide) rfl dX9_clears_31 (fun ls hl => ?_)
        refine lv_goto (tgt := 2) C.1 C.2.1 dX9_clears_34 (by decide) ?_
        exact hk2 d_ad (v1 + 1) hf _ _ hw _ (lv_sub hl [1, 0] rfl)
      · replace hf := ifn hf hc
        refine r_iload0 C hl 1 rfl dX9_clears_13 ?_
        refine lv_iconst (v := 5) C.1 C.2.1 dX9_clears_14 (by decide) ?_
        refine lv_sipush (v := 164) C.1 C.2.1 dX9_clears_15 (by decide) ?_
        obtain ⟨u1, e1, hf⟩ := bx hf
        refine r_callSi (ws' := (dO G ad d_ad dw ++ [])) (As := [.int v1, .int 5, .int 164]) (rest := []) C hw hl.1 kX9_in ml_X9_100 (c_X9_in l G _ v1 5 164 u1 e1) CutX.none ⟨rfl, rfl⟩ ⟨Nat.le_of_ble_eq_true rfl, Nat.le_of_ble_eq_true rfl⟩ rfl ⟨Nat.zero_le _, Nat.zero_le _⟩ rfl (Nat.le_of_ble_eq_true rfl) dX9_clears_18 (fun H locs hw => ?_)
        refine lv_if_ne (tgt := 31) C.1 C.2.1 dX9_clears_21 (by decide) (fun hc => ?_) (fun hc => ?_)
        · replace hf := ifn hf hc
          refine r_iinc C hl 1 (v1 + 1) [(1, .int (v1 + 1)), (0, .ref (ad 99))] rfl (iinc_e (by decide)) (by decide) rfl dX9_clears_31 (fun ls hl => ?_)
          refine lv_goto (tgt := 2) C.1 C.2.1 dX9_clears_34 (by decide) ?_
          exact hk2 d_ad (v1 + 1) hf _ _ hw _ (lv_sub hl [1, 0] rfl)
        · replace hf := ifp hf hc
          refine r_aload0 C hl 0 rfl dX9_clears_24 ?_
          refine r_get C hw _ (gx_h dO_o) 20 fl_X9_35 rfl dX9_clears_25 ?_
          refine r_iload0 C hl 1 rfl dX9_clears_28 ?_
          refine lv_iconst (v := 0) C.1 C.2.1 dX9_clears_29 (by decide) ?_
          obtain ⟨d_ad2, e2, hf⟩ := bx hf
          refine r_iast C hw _ (gx_h dO_g20) e2 (dO G ad d_ad2 dw ++ []) (fun h => (sx_h dO_g20 (dO_s20 h))) dX9_clears_30 (fun H locs hw => ?_)
          refine r_iinc C hl 1 (v1 + 1) [(1, .int (v1 + 1)), (0, .ref (ad 99))] rfl (iinc_e (by decide)) (by decide) rfl dX9_clears_31 (fun ls hl => ?_)
          refine lv_goto (tgt := 2) C.1 C.2.1 dX9_clears_34 (by decide) ?_
          exact hk2 d_ad2 (v1 + 1) hf _ _ hw _ (lv_sub hl [1, 0] rfl)
  have hL_2 : ∀ n : Nat, ∀ (d_ad : Pic) (v1 : Int32), L_X9_clears_2   n d_ad v1 = some out → ∀ (H : Heap) (locs : List Loc), Wd G A s H locs (dO G ad d_ad dw ++ []) → ∀ ls : Array Slot, lv_has ls 2 [(0, .ref (ad 99)), (1, .int v1)] → W p l e ({ frames := 1, cells := 0, slots := 0, locals := 22 }) s m [.ref (ad 99)].toArray below meth c H locs 0 0 (MQ below (Don G A (dO G ad out dw ++ [])) [.ref (ad 99)].toArray s 0 0 A) (F0 m 2 ls []) := by
    intro  n
    induction n with
    | zero => intro d_ad v1 hf; cases hf
    | succ n ih => exact hB_2 _ ih
  unfold f_X9_clears at hf
  refine lv_iconst (v := 0) C.1 C.2.1 dX9_clears_0 (by decide) ?_
  refine r_istore0 C hl [(1, .int 0), (0, .ref (ad 99))] (by decide) rfl dX9_clears_1 (fun ls hl => ?_)
  exact hL_2  FU d_ad 0 hf _ _ hw _ (lv_sub hl [1, 0] rfl)
set_option maxHeartbeats 4000000 in
set_option maxRecDepth 100000 in
theorem c_X9_fault (l : Launch) (G : GG) (ad : Nat → Nat) (sz : Nat) (d_ad : Pic) (dw : Int64)  (out : Int32 × Pic) (hf : f_X9_fault d_ad = some out) : Met l yX9_fault (.code yX9_fault cX9_fault 1 (some .int) :: BT) ({ frames := 0, cells := 0, slots := 0, locals := 0 }) (va_Pc [.ref (ad 99)] (PreW G sz (dO G ad d_ad dw ++ []))) (Ans G out.1 (va_A (dO G ad d_ad dw ++ []) sz) (dO G ad out.2 dw ++ [])) 0 0 (va_A (dO G ad d_ad dw ++ []) sz) := by
  refine Met.into (by decide) (Nat.le_of_ble_eq_true rfl) ?_
  intro p e s m below meth c C hsz ls hl hw
  have hl : lv_has ls 1 [(0, .ref (ad 99))] := hl
  clear hsz
  generalize va_A (dO G ad d_ad dw ++ []) sz = A at hw ⊢
  unfold f_X9_fault at hf
  refine r_aload0 C hl 0 rfl dX9_fault_0 ?_
  refine lv_iconst (v := 0) C.1 C.2.1 dX9_fault_1 (by decide) ?_
  obtain ⟨d_ad1, e1, hf⟩ := bx hf
  refine r_put C hw _ (gx_h dO_o) 0 fp_X9_75 rfl rfl (Nat.le_of_ble_eq_true rfl) (dO G ad d_ad1 dw ++ []) (sx_h dO_o (dO_p0 e1)) dX9_fault_2 (fun H locs hw => ?_)
  refine r_aload0 C hl 0 rfl dX9_fault_5 ?_
  refine r_get C hw _ (gx_h dO_o) 31 fl_X9_84 rfl dX9_fault_6 ?_
  exact fin_i C hw (Option.some.inj hf) (fun o => o.1) (fun o => (dO G ad o.2 dw ++ [])) rfl rfl dX9_fault_9
set_option maxHeartbeats 4000000 in
set_option maxRecDepth 100000 in
theorem c_X9_where (l : Launch) (G : GG) (ad : Nat → Nat) (sz : Nat) (d_ad : Pic) (dw : Int64)  (out : Int32 × Pic) (hf : f_X9_where d_ad = some out) : Met l yX9_where (.code yX9_where cX9_where 1 (some .int) :: BT) ({ frames := 0, cells := 0, slots := 0, locals := 0 }) (va_Pc [.ref (ad 99)] (PreW G sz (dO G ad d_ad dw ++ []))) (Ans G out.1 (va_A (dO G ad d_ad dw ++ []) sz) (dO G ad out.2 dw ++ [])) 0 0 (va_A (dO G ad d_ad dw ++ []) sz) := by
  refine Met.into (by decide) (Nat.le_of_ble_eq_true rfl) ?_
  intro p e s m below meth c C hsz ls hl hw
  have hl : lv_has ls 1 [(0, .ref (ad 99))] := hl
  clear hsz
  generalize va_A (dO G ad d_ad dw ++ []) sz = A at hw ⊢
  unfold f_X9_where at hf
  refine r_aload0 C hl 0 rfl dX9_where_0 ?_
  refine lv_iconst (v := 0) C.1 C.2.1 dX9_where_1 (by decide) ?_
  obtain ⟨d_ad1, e1, hf⟩ := bx hf
  refine r_put C hw _ (gx_h dO_o) 0 fp_X9_75 rfl rfl (Nat.le_of_ble_eq_true rfl) (dO G ad d_ad1 dw ++ []) (sx_h dO_o (dO_p0 e1)) dX9_where_2 (fun H locs hw => ?_)
  refine r_aload0 C hl 0 rfl dX9_where_5 ?_
  refine r_get C hw _ (gx_h dO_o) 2 fl_X9_9 rfl dX9_where_6 ?_
  exact fin_i C hw (Option.some.inj hf) (fun o => o.1) (fun o => (dO G ad o.2 dw ++ [])) rfl rfl dX9_where_9
set_option maxHeartbeats 4000000 in
set_option maxRecDepth 100000 in
theorem c_X9_isData (l : Launch) (G : GG) (ad : Nat → Nat) (sz : Nat) (d_ad : Pic) (dw : Int64) (x1 : Int32) (out : Int32) (hf : f_X9_isData d_ad x1 = some out) : Met l yX9_isData (.code yX9_isData cX9_isData 2 (some .boolean) :: BT) ({ frames := 0, cells := 0, slots := 0, locals := 0 }) (va_Pc [.ref (ad 99), .int x1] (PreW G sz (dO G ad d_ad dw ++ []))) (Ans G out (va_A (dO G ad d_ad dw ++ []) sz) (dO G ad d_ad dw ++ [])) 0 0 (va_A (dO G ad d_ad dw ++ []) sz) := by
  refine Met.into (by decide) (Nat.le_of_ble_eq_true rfl) ?_
  intro p e s m below meth c C hsz ls hl hw
  have hl : lv_has ls 2 [(0, .ref (ad 99)), (1, .int x1)] := hl
  clear hsz
  generalize va_A (dO G ad d_ad dw ++ []) sz = A at hw ⊢
  unfold f_X9_isData at hf
  refine r_aload0 C hl 0 rfl dX9_isData_0 ?_
  refine r_get C hw _ (gx_h dO_o) 19 fl_X9_225 rfl dX9_isData_1 ?_
  refine lv_if_eq (tgt := 23) C.1 C.2.1 dX9_isData_4 (by decide) (fun hc => ?_) (fun hc => ?_)
  · replace hf := ifp hf hc
    refine lv_iconst (v := 0) C.1 C.2.1 dX9_isData_23 (by decide) ?_
    exact fin_z C hw (by decide) (Option.some.inj hf) (fun o => o) (fun o => (dO G ad d_ad dw ++ [])) rfl rfl dX9_isData_24
  · replace hf := ifn hf hc
    refine r_iload0 C hl 1 rfl dX9_isData_7 ?_
    refine lv_if_lt (tgt := 23) C.1 C.2.1 dX9_isData_8 (by decide) (fun hc => ?_) (fun hc => ?_)
    · replace hf := ifp hf hc
      refine lv_iconst (v := 0) C.1 C.2.1 dX9_isData_23 (by decide) ?_
      exact fin_z C hw (by decide) (Option.some.inj hf) (fun o => o) (fun o => (dO G ad d_ad dw ++ [])) rfl rfl dX9_isData_24
    · replace hf := ifn hf hc
      refine r_iload0 C hl 1 rfl dX9_isData_11 ?_
      refine r_aload0 C hl 0 rfl dX9_isData_12 ?_
      refine r_get C hw _ (gx_h dO_o) 5 fl_X9_219 rfl dX9_isData_13 ?_
      refine lv_icmp_ge (tgt := 23) C.1 C.2.1 dX9_isData_16 (by decide) (fun hc => ?_) (fun hc => ?_)
      · replace hf := ifp hf hc
        refine lv_iconst (v := 0) C.1 C.2.1 dX9_isData_23 (by decide) ?_
        exact fin_z C hw (by decide) (Option.some.inj hf) (fun o => o) (fun o => (dO G ad d_ad dw ++ [])) rfl rfl dX9_isData_24
      · replace hf := ifn hf hc
        refine lv_iconst (v := 1) C.1 C.2.1 dX9_isData_19 (by decide) ?_
        refine lv_goto (tgt := 24) C.1 C.2.1 dX9_isData_20 (by decide) ?_
        exact fin_z C hw (by decide) (Option.some.inj hf) (fun o => o) (fun o => (dO G ad d_ad dw ++ [])) rfl rfl dX9_isData_24
